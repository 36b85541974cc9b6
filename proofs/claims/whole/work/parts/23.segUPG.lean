/-! segments, printed by wip/whole/gen_seg.py -/
theorem s_G_removeAll_0 {Γ : sk_T} {mc ms : Nat} {I : sk_I} {J : sk_J} {Q : sk_Q}  (h : Q (.inl none) sk_gg (sk_pi I 38 3 0) J) : sk_W Γ m_G_removeAll mc ms 0 [(0, .ref 38)] [] sk_gg I J 0 0 Q := by
  refine sk_aload_n (j := 0) d_G_removeAll_0 rfl rfl ?_
  refine sk_iconst (v := 0) d_G_removeAll_1 (by decide) ?_
  refine r_putI d_G_removeAll_2 fp_G_18 sh_38 ?_
  exact sk_vreturn d_G_removeAll_5 rfl (Nat.zero_le _) (Nat.zero_le _) h
theorem s_P_at_0 {Γ : sk_T} {mc ms : Nat} {I : sk_I} {J : sk_J} {Q : sk_Q} {x1 : Int32} (h : ((I 36 5) = (I 1 0) → sk_W Γ m_P_at mc ms 37 [(0, .ref 36), (1, .int x1)] [] sk_gg I J 0 0 Q) ∧ (¬ (I 36 5) = (I 1 0) → sk_S Γ m_P_gather 0 0 (.ref 36 :: []) sk_gg I J (sk_Kv fun I' J' => sk_W Γ m_P_at mc ms 18 [(0, .ref 36), (1, .int x1)] [] sk_gg I' J' 0 0 Q))) : sk_W Γ m_P_at mc ms 0 [(0, .ref 36), (1, .int x1)] [] sk_gg I J 0 0 Q := by
  refine sk_aload_n (j := 0) d_P_at_0 rfl rfl ?_
  refine q_getI d_P_at_1 fg_P_23 sh_36 ?_
  refine sk_aload_n (j := 0) d_P_at_4 rfl rfl ?_
  refine q_getR d_P_at_5 fg_P_26 sh_36 rr_36_0 ?_
  refine q_getI d_P_at_8 fg_P_34 sh_1 ?_
  refine sk_icmp_eq (tgt := 37) d_P_at_11 (by decide) (fun hc => ?_) (fun hc => ?_)
  · replace h := h.1 hc
    exact h
  · replace h := h.2 hc
    refine sk_aload_n (j := 0) d_P_at_14 rfl rfl ?_
    exact q_callVv (S := []) (as := []) d_P_at_15 lk_P_37 sh_36 ⟨_, rfl⟩ rfl ⟨by decide, by decide⟩ (Nat.le_of_ble_eq_true rfl) rfl (Nat.zero_le _) (Nat.zero_le _) h
theorem s_P_at_18 {Γ : sk_T} {mc ms : Nat} {I : sk_I} {J : sk_J} {Q : sk_Q} {x1 : Int32} (h : sk_S Γ m_P_thinOut 0 0 (.ref 36 :: []) sk_gg I J (sk_Kv fun I' J' => sk_W Γ m_P_at mc ms 22 [(0, .ref 36), (1, .int x1)] [] sk_gg I' J' 0 0 Q)) : sk_W Γ m_P_at mc ms 18 [(0, .ref 36), (1, .int x1)] [] sk_gg I J 0 0 Q := by
  refine sk_aload_n (j := 0) d_P_at_18 rfl rfl ?_
  exact q_callVv (S := []) (as := []) d_P_at_19 lk_P_40 sh_36 ⟨_, rfl⟩ rfl ⟨by decide, by decide⟩ (Nat.le_of_ble_eq_true rfl) rfl (Nat.zero_le _) (Nat.zero_le _) h
theorem s_P_at_22 {Γ : sk_T} {mc ms : Nat} {I : sk_I} {J : sk_J} {Q : sk_Q} {x1 : Int32} (h : sk_S Γ m_P_dropTheLeftOut 0 0 (.ref 36 :: []) sk_gg I J (sk_Kv fun I' J' => sk_W Γ m_P_at mc ms 26 [(0, .ref 36), (1, .int x1)] [] sk_gg I' J' 0 0 Q)) : sk_W Γ m_P_at mc ms 22 [(0, .ref 36), (1, .int x1)] [] sk_gg I J 0 0 Q := by
  refine sk_aload_n (j := 0) d_P_at_22 rfl rfl ?_
  exact q_callVv (S := []) (as := []) d_P_at_23 lk_P_43 sh_36 ⟨_, rfl⟩ rfl ⟨by decide, by decide⟩ (Nat.le_of_ble_eq_true rfl) rfl (Nat.zero_le _) (Nat.zero_le _) h
theorem s_P_at_26 {Γ : sk_T} {mc ms : Nat} {I : sk_I} {J : sk_J} {Q : sk_Q} {x1 : Int32} (h : sk_W Γ m_P_at mc ms 37 [(0, .ref 36), (1, .int x1)] [] sk_gg (sk_pi I 36 5 (I 1 0)) J 0 0 Q) : sk_W Γ m_P_at mc ms 26 [(0, .ref 36), (1, .int x1)] [] sk_gg I J 0 0 Q := by
  refine sk_aload_n (j := 0) d_P_at_26 rfl rfl ?_
  refine sk_aload_n (j := 0) d_P_at_27 rfl rfl ?_
  refine q_getR d_P_at_28 fg_P_26 sh_36 rr_36_0 ?_
  refine q_getI d_P_at_31 fg_P_34 sh_1 ?_
  refine r_putI d_P_at_34 fp_P_23 sh_36 ?_
  exact h
theorem s_P_at_37 {Γ : sk_T} {mc ms : Nat} {I : sk_I} {J : sk_J} {Q : sk_Q} {x1 : Int32} (h : (x1 < 0 → Q (.inl (some (.int (-1)))) sk_gg I J) ∧ (¬ x1 < 0 → ((I 36 3) ≤ x1 → Q (.inl (some (.int (-1)))) sk_gg I J) ∧ (¬ (I 36 3) ≤ x1 → vp_in x1 64 ∧ Q (.inl (some (.int (I 37 x1.toNatClampNeg)))) sk_gg I J))) : sk_W Γ m_P_at mc ms 37 [(0, .ref 36), (1, .int x1)] [] sk_gg I J 0 0 Q := by
  refine sk_iload_n (j := 1) d_P_at_37 rfl rfl ?_
  refine sk_if_lt (tgt := 58) d_P_at_38 (by decide) (fun hc => ?_) (fun hc => ?_)
  · replace h := h.1 hc
    refine sk_iconst (v := (-1)) d_P_at_58 (by decide) ?_
    exact sk_ireturn d_P_at_59 rfl (Nat.zero_le _) (Nat.zero_le _) h
  · replace h := h.2 hc
    refine sk_iload_n (j := 1) d_P_at_41 rfl rfl ?_
    refine sk_aload_n (j := 0) d_P_at_42 rfl rfl ?_
    refine q_getI d_P_at_43 fg_P_15 sh_36 ?_
    refine sk_icmp_ge (tgt := 58) d_P_at_46 (by decide) (fun hc => ?_) (fun hc => ?_)
    · replace h := h.1 hc
      refine sk_iconst (v := (-1)) d_P_at_58 (by decide) ?_
      exact sk_ireturn d_P_at_59 rfl (Nat.zero_le _) (Nat.zero_le _) h
    · replace h := h.2 hc
      refine sk_aload_n (j := 0) d_P_at_49 rfl rfl ?_
      refine q_getR d_P_at_50 fg_P_9 sh_36 rr_36_2 ?_
      refine sk_iload_n (j := 1) d_P_at_53 rfl rfl ?_
      obtain ⟨hb, h⟩ := h
      refine sk_iald d_P_at_54 sh_37 hb ?_
      refine sk_goto (tgt := 59) d_P_at_55 (by decide) ?_
      exact sk_ireturn d_P_at_59 rfl (Nat.zero_le _) (Nat.zero_le _) h
theorem s_P_gather_0 {Γ : sk_T} {mc ms : Nat} {I : sk_I} {J : sk_J} {Q : sk_Q}  (h : sk_W Γ m_P_gather mc ms 12 [(0, .ref 36), (1, .int 0)] [] sk_gg (sk_pi I 36 3 0) (sk_pj J 36 4 0) 0 0 Q) : sk_W Γ m_P_gather mc ms 0 [(0, .ref 36)] [] sk_gg I J 0 0 Q := by
  refine sk_aload_n (j := 0) d_P_gather_0 rfl rfl ?_
  refine sk_iconst (v := 0) d_P_gather_1 (by decide) ?_
  refine r_putI d_P_gather_2 fp_P_15 sh_36 ?_
  refine sk_aload_n (j := 0) d_P_gather_5 rfl rfl ?_
  refine sk_lconst (v := 0) d_P_gather_6 (by decide) ?_
  refine r_putJ d_P_gather_7 fp_P_19 sh_36 ?_
  refine sk_iconst (v := 0) d_P_gather_10 (by decide) ?_
  refine sk_istore_n d_P_gather_11 rfl (by decide) rfl ?_
  refine sk_loc [1, 0] rfl ?_
  exact h
theorem s_P_gather_12 {Γ : sk_T} {mc ms : Nat} {I : sk_I} {J : sk_J} {Q : sk_Q} {x1 : Int32} (h : sk_S Γ m_C_faults 0 0 (.ref 1 :: []) sk_gg I J (sk_Ki fun v' I' J' => sk_W Γ m_P_gather mc ms 20 [(0, .ref 36), (1, .int x1)] [.int v', .int x1] sk_gg I' J' 0 0 Q)) : sk_W Γ m_P_gather mc ms 12 [(0, .ref 36), (1, .int x1)] [] sk_gg I J 0 0 Q := by
  refine sk_iload_n (j := 1) d_P_gather_12 rfl rfl ?_
  refine sk_aload_n (j := 0) d_P_gather_13 rfl rfl ?_
  refine q_getR d_P_gather_14 fg_P_26 sh_36 rr_36_0 ?_
  exact q_callVi (S := [.int x1]) (as := []) d_P_gather_17 lk_P_46 sh_1 ⟨_, rfl⟩ rfl ⟨by decide, by decide⟩ (Nat.le_of_ble_eq_true rfl) rfl (Nat.zero_le _) (Nat.zero_le _) h
theorem s_P_gather_20 {Γ : sk_T} {mc ms : Nat} {I : sk_I} {J : sk_J} {Q : sk_Q} {x1 : Int32} {u0 : Int32} {u1 : Int32} (h : (u1 ≤ u0 → Q (.inl none) sk_gg I J) ∧ (¬ u1 ≤ u0 → sk_S Γ m_R_firstShowing 0 0 (.ref 16 :: [.int x1]) sk_gg I J (sk_Ki fun v' I' J' => sk_W Γ m_P_gather mc ms 31 [(0, .ref 36), (1, .int x1)] [.int v'] sk_gg I' J' 0 0 Q))) : sk_W Γ m_P_gather mc ms 20 [(0, .ref 36), (1, .int x1)] [.int u1, .int u0] sk_gg I J 0 0 Q := by
  refine sk_icmp_ge (tgt := 93) d_P_gather_20 (by decide) (fun hc => ?_) (fun hc => ?_)
  · replace h := h.1 hc
    exact sk_vreturn d_P_gather_93 rfl (Nat.zero_le _) (Nat.zero_le _) h
  · replace h := h.2 hc
    refine sk_aload_n (j := 0) d_P_gather_23 rfl rfl ?_
    refine q_getR d_P_gather_24 fg_P_30 sh_36 rr_36_1 ?_
    refine sk_iload_n (j := 1) d_P_gather_27 rfl rfl ?_
    exact q_callVi (S := []) (as := [.int x1]) d_P_gather_28 lk_P_50 sh_16 ⟨_, rfl⟩ rfl ⟨by decide, by decide⟩ (Nat.le_of_ble_eq_true rfl) rfl (Nat.zero_le _) (Nat.zero_le _) h
theorem s_P_gather_31 {Γ : sk_T} {mc ms : Nat} {I : sk_I} {J : sk_J} {Q : sk_Q} {x1 : Int32} {u0 : Int32} (h : (u0 = (-1) → sk_W Γ m_P_gather mc ms 12 [(0, .ref 36), (1, .int (x1 + 1))] [] sk_gg I J 0 0 Q) ∧ (¬ u0 = (-1) → sk_S Γ m_R_vectorsShowing 0 0 (.ref 16 :: [.int x1]) sk_gg I J (sk_Kl fun v' I' J' => sk_W Γ m_P_gather mc ms 45 [(0, .ref 36), (1, .int x1), (2, .int u0)] [.long v'] sk_gg I' J' 0 0 Q))) : sk_W Γ m_P_gather mc ms 31 [(0, .ref 36), (1, .int x1)] [.int u0] sk_gg I J 0 0 Q := by
  refine sk_istore_n d_P_gather_31 rfl (by decide) rfl ?_
  refine sk_iload_n (j := 0) d_P_gather_32 rfl rfl ?_
  refine sk_iconst (v := (-1)) d_P_gather_33 (by decide) ?_
  refine sk_icmp_eq (tgt := 87) d_P_gather_34 (by decide) (fun hc => ?_) (fun hc => ?_)
  · replace h := h.1 hc
    refine sk_iinc (j := 2) (v := x1 + 1) d_P_gather_87 rfl (by rfl) (by decide) rfl ?_
    refine sk_goto (tgt := 12) d_P_gather_90 (by decide) ?_
    refine sk_loc [2, 0] rfl ?_
    exact h
  · replace h := h.2 hc
    refine sk_aload_n (j := 1) d_P_gather_37 rfl rfl ?_
    refine q_getR d_P_gather_38 fg_P_30 sh_36 rr_36_1 ?_
    refine sk_iload_n (j := 2) d_P_gather_41 rfl rfl ?_
    refine sk_loc [1, 2, 0] rfl ?_
    exact q_callVl (S := []) (as := [.int x1]) d_P_gather_42 lk_P_56 sh_16 ⟨_, rfl⟩ rfl ⟨by decide, by decide⟩ (Nat.le_of_ble_eq_true rfl) rfl (Nat.zero_le _) (Nat.zero_le _) h
theorem s_P_gather_45 {Γ : sk_T} {mc ms : Nat} {I : sk_I} {J : sk_J} {Q : sk_Q} {x1 : Int32} {x2 : Int32} {w0 : Int64} (h : (¬ (lg_cmp (w0 &&& (J 36 4)) 0) = 0 → sk_W Γ m_P_gather mc ms 12 [(0, .ref 36), (1, .int (x1 + 1))] [] sk_gg I J 0 0 Q) ∧ ((lg_cmp (w0 &&& (J 36 4)) 0) = 0 → vp_in (I 36 3) 64 ∧ sk_W Γ m_P_gather mc ms 12 [(0, .ref 36), (1, .int (x1 + 1))] [] sk_gg (sk_pi (sk_pi I 37 (I 36 3).toNatClampNeg x2) 36 3 ((I 36 3) + 1)) (sk_pj J 36 4 ((J 36 4) ||| (sk_shl 1 x2))) 0 0 Q)) : sk_W Γ m_P_gather mc ms 45 [(0, .ref 36), (1, .int x1), (2, .int x2)] [.long w0] sk_gg I J 0 0 Q := by
  refine sk_aload_n (j := 0) d_P_gather_45 rfl rfl ?_
  refine q_getJ d_P_gather_46 fg_P_19 sh_36 ?_
  refine sk_land d_P_gather_49 ?_
  refine sk_lconst (v := 0) d_P_gather_50 (by decide) ?_
  refine sk_lcmp d_P_gather_51 ?_
  refine sk_if_ne (tgt := 87) d_P_gather_52 (by decide) (fun hc => ?_) (fun hc => ?_)
  · replace h := h.1 hc
    refine sk_iinc (j := 1) (v := x1 + 1) d_P_gather_87 rfl (by rfl) (by decide) rfl ?_
    refine sk_goto (tgt := 12) d_P_gather_90 (by decide) ?_
    refine sk_loc [1, 0] rfl ?_
    exact h
  · replace h := h.2 hc
    refine sk_aload_n (j := 0) d_P_gather_55 rfl rfl ?_
    refine q_getR d_P_gather_56 fg_P_9 sh_36 rr_36_2 ?_
    refine sk_aload_n (j := 0) d_P_gather_59 rfl rfl ?_
    refine q_getI d_P_gather_60 fg_P_15 sh_36 ?_
    refine sk_iload_n (j := 2) d_P_gather_63 rfl rfl ?_
    obtain ⟨hb, h⟩ := h
    refine r_iast d_P_gather_64 sh_37 hb ?_
    refine sk_aload_n (j := 0) d_P_gather_65 rfl rfl ?_
    refine sk_dup d_P_gather_66 rfl ?_
    refine q_getI d_P_gather_67 fg_P_15 sh_36 ?_
    refine q_cvi (y := I 36 3) rfl ?_
    refine sk_iconst (v := 1) d_P_gather_70 (by decide) ?_
    refine sk_iadd d_P_gather_71 ?_
    refine r_putI d_P_gather_72 fp_P_15 sh_36 ?_
    refine sk_aload_n (j := 0) d_P_gather_75 rfl rfl ?_
    refine sk_dup d_P_gather_76 rfl ?_
    refine q_getJ d_P_gather_77 fg_P_19 sh_36 ?_
    refine sk_lconst (v := 1) d_P_gather_80 (by decide) ?_
    refine sk_iload_n (j := 2) d_P_gather_81 rfl rfl ?_
    refine r_lshl d_P_gather_82 ?_
    refine sk_lor d_P_gather_83 ?_
    refine r_putJ d_P_gather_84 fp_P_19 sh_36 ?_
    refine sk_iinc (j := 1) (v := x1 + 1) d_P_gather_87 rfl (by rfl) (by decide) rfl ?_
    refine sk_goto (tgt := 12) d_P_gather_90 (by decide) ?_
    refine sk_loc [1, 0] rfl ?_
    exact h
theorem s_P_thinOut_0 {Γ : sk_T} {mc ms : Nat} {I : sk_I} {J : sk_J} {Q : sk_Q}  (h : sk_W Γ m_P_thinOut mc ms 7 [(0, .ref 36), (1, .int ((I 36 3) - 1))] [] sk_gg I J 0 0 Q) : sk_W Γ m_P_thinOut mc ms 0 [(0, .ref 36)] [] sk_gg I J 0 0 Q := by
  refine sk_aload_n (j := 0) d_P_thinOut_0 rfl rfl ?_
  refine q_getI d_P_thinOut_1 fg_P_15 sh_36 ?_
  refine sk_iconst (v := 1) d_P_thinOut_4 (by decide) ?_
  refine sk_isub d_P_thinOut_5 ?_
  refine sk_istore_n d_P_thinOut_6 rfl (by decide) rfl ?_
  refine sk_loc [1, 0] rfl ?_
  exact h
theorem s_P_thinOut_7 {Γ : sk_T} {mc ms : Nat} {I : sk_I} {J : sk_J} {Q : sk_Q} {x1 : Int32} (h : (x1 < 0 → Q (.inl none) sk_gg I J) ∧ (¬ x1 < 0 → vp_in x1 64 ∧ sk_S Γ m_P_showAll 0 0 (.ref 36 :: [.long ((J 36 4) &&& ((sk_shl 1 (I 37 x1.toNatClampNeg)) ^^^ (-1)))]) sk_gg I J (sk_Ki fun v' I' J' => sk_W Γ m_P_thinOut mc ms 34 [(0, .ref 36), (1, .int x1), (2, .long ((J 36 4) &&& ((sk_shl 1 (I 37 x1.toNatClampNeg)) ^^^ (-1))))] [.int v'] sk_gg I' J' 0 0 Q))) : sk_W Γ m_P_thinOut mc ms 7 [(0, .ref 36), (1, .int x1)] [] sk_gg I J 0 0 Q := by
  refine sk_iload_n (j := 1) d_P_thinOut_7 rfl rfl ?_
  refine sk_if_lt (tgt := 48) d_P_thinOut_8 (by decide) (fun hc => ?_) (fun hc => ?_)
  · replace h := h.1 hc
    exact sk_vreturn d_P_thinOut_48 rfl (Nat.zero_le _) (Nat.zero_le _) h
  · replace h := h.2 hc
    refine sk_aload_n (j := 0) d_P_thinOut_11 rfl rfl ?_
    refine q_getJ d_P_thinOut_12 fg_P_19 sh_36 ?_
    refine sk_lconst (v := 1) d_P_thinOut_15 (by decide) ?_
    refine sk_aload_n (j := 0) d_P_thinOut_16 rfl rfl ?_
    refine q_getR d_P_thinOut_17 fg_P_9 sh_36 rr_36_2 ?_
    refine sk_iload_n (j := 1) d_P_thinOut_20 rfl rfl ?_
    obtain ⟨hb, h⟩ := h
    refine sk_iald d_P_thinOut_21 sh_37 hb ?_
    refine r_lshl d_P_thinOut_22 ?_
    refine sk_ldc2 (v := (-1)) d_P_thinOut_23 sw_325 ?_
    refine sk_lxor d_P_thinOut_26 ?_
    refine sk_land d_P_thinOut_27 ?_
    refine sk_lstore_n d_P_thinOut_28 rfl (by decide) rfl ?_
    refine sk_aload_n (j := 1) d_P_thinOut_29 rfl rfl ?_
    refine sk_lload_n (j := 0) d_P_thinOut_30 rfl rfl ?_
    refine sk_loc [1, 2, 0] rfl ?_
    exact q_callVi (S := []) (as := [.long ((J 36 4) &&& ((sk_shl 1 (I 37 x1.toNatClampNeg)) ^^^ (-1)))]) d_P_thinOut_31 lk_P_62 sh_36 ⟨_, rfl⟩ rfl ⟨by decide, by decide⟩ (Nat.le_of_ble_eq_true rfl) rfl (Nat.zero_le _) (Nat.zero_le _) h
theorem s_P_thinOut_34 {Γ : sk_T} {mc ms : Nat} {I : sk_I} {J : sk_J} {Q : sk_Q} {x1 : Int32} {y2 : Int64} {u0 : Int32} (h : (u0 = 0 → sk_W Γ m_P_thinOut mc ms 7 [(0, .ref 36), (1, .int (x1 + (-1)))] [] sk_gg I J 0 0 Q) ∧ (¬ u0 = 0 → sk_W Γ m_P_thinOut mc ms 7 [(0, .ref 36), (1, .int (x1 + (-1)))] [] sk_gg I (sk_pj J 36 4 y2) 0 0 Q)) : sk_W Γ m_P_thinOut mc ms 34 [(0, .ref 36), (1, .int x1), (2, .long y2)] [.int u0] sk_gg I J 0 0 Q := by
  refine sk_if_eq (tgt := 42) d_P_thinOut_34 (by decide) (fun hc => ?_) (fun hc => ?_)
  · replace h := h.1 hc
    refine sk_iinc (j := 1) (v := x1 + (-1)) d_P_thinOut_42 rfl (by rfl) (by decide) rfl ?_
    refine sk_goto (tgt := 7) d_P_thinOut_45 (by decide) ?_
    refine sk_loc [1, 0] rfl ?_
    exact h
  · replace h := h.2 hc
    refine sk_aload_n (j := 0) d_P_thinOut_37 rfl rfl ?_
    refine sk_lload_n (j := 2) d_P_thinOut_38 rfl rfl ?_
    refine r_putJ d_P_thinOut_39 fp_P_19 sh_36 ?_
    refine sk_iinc (j := 1) (v := x1 + (-1)) d_P_thinOut_42 rfl (by rfl) (by decide) rfl ?_
    refine sk_goto (tgt := 7) d_P_thinOut_45 (by decide) ?_
    refine sk_loc [1, 0] rfl ?_
    exact h
theorem s_P_showAll_0 {Γ : sk_T} {mc ms : Nat} {I : sk_I} {J : sk_J} {Q : sk_Q} {y1 : Int64} (h : sk_W Γ m_P_showAll mc ms 2 [(0, .ref 36), (1, .long y1), (3, .int 0)] [] sk_gg I J 0 0 Q) : sk_W Γ m_P_showAll mc ms 0 [(0, .ref 36), (1, .long y1)] [] sk_gg I J 0 0 Q := by
  refine sk_iconst (v := 0) d_P_showAll_0 (by decide) ?_
  refine sk_istore_n d_P_showAll_1 rfl (by decide) rfl ?_
  refine sk_loc [1, 2, 0] rfl ?_
  exact h
theorem s_P_showAll_2 {Γ : sk_T} {mc ms : Nat} {I : sk_I} {J : sk_J} {Q : sk_Q} {y1 : Int64} {x3 : Int32} (h : sk_S Γ m_C_faults 0 0 (.ref 1 :: []) sk_gg I J (sk_Ki fun v' I' J' => sk_W Γ m_P_showAll mc ms 10 [(0, .ref 36), (1, .long y1), (3, .int x3)] [.int v', .int x3] sk_gg I' J' 0 0 Q)) : sk_W Γ m_P_showAll mc ms 2 [(0, .ref 36), (1, .long y1), (3, .int x3)] [] sk_gg I J 0 0 Q := by
  refine sk_iload_n (j := 2) d_P_showAll_2 rfl rfl ?_
  refine sk_aload_n (j := 0) d_P_showAll_3 rfl rfl ?_
  refine q_getR d_P_showAll_4 fg_P_26 sh_36 rr_36_0 ?_
  exact q_callVi (S := [.int x3]) (as := []) d_P_showAll_7 lk_P_46 sh_1 ⟨_, rfl⟩ rfl ⟨by decide, by decide⟩ (Nat.le_of_ble_eq_true rfl) rfl (Nat.zero_le _) (Nat.zero_le _) h
theorem s_P_showAll_10 {Γ : sk_T} {mc ms : Nat} {I : sk_I} {J : sk_J} {Q : sk_Q} {y1 : Int64} {x3 : Int32} {u0 : Int32} {u1 : Int32} (h : (u1 ≤ u0 → Q (.inl (some (.int 1))) sk_gg I J) ∧ (¬ u1 ≤ u0 → sk_S Γ m_R_vectorsShowing 0 0 (.ref 16 :: [.int x3]) sk_gg I J (sk_Kl fun v' I' J' => sk_W Γ m_P_showAll mc ms 21 [(0, .ref 36), (1, .long y1), (3, .int x3)] [.long v'] sk_gg I' J' 0 0 Q))) : sk_W Γ m_P_showAll mc ms 10 [(0, .ref 36), (1, .long y1), (3, .int x3)] [.int u1, .int u0] sk_gg I J 0 0 Q := by
  refine sk_icmp_ge (tgt := 47) d_P_showAll_10 (by decide) (fun hc => ?_) (fun hc => ?_)
  · replace h := h.1 hc
    refine sk_iconst (v := 1) d_P_showAll_47 (by decide) ?_
    exact q_zreturn d_P_showAll_48 rfl (by decide) (Nat.zero_le _) (Nat.zero_le _) h
  · replace h := h.2 hc
    refine sk_aload_n (j := 0) d_P_showAll_13 rfl rfl ?_
    refine q_getR d_P_showAll_14 fg_P_30 sh_36 rr_36_1 ?_
    refine sk_iload_n (j := 2) d_P_showAll_17 rfl rfl ?_
    exact q_callVl (S := []) (as := [.int x3]) d_P_showAll_18 lk_P_56 sh_16 ⟨_, rfl⟩ rfl ⟨by decide, by decide⟩ (Nat.le_of_ble_eq_true rfl) rfl (Nat.zero_le _) (Nat.zero_le _) h
theorem s_P_showAll_21 {Γ : sk_T} {mc ms : Nat} {I : sk_I} {J : sk_J} {Q : sk_Q} {y1 : Int64} {x3 : Int32} {w0 : Int64} (h : ((lg_cmp w0 0) = 0 → sk_W Γ m_P_showAll mc ms 2 [(0, .ref 36), (1, .long y1), (3, .int (x3 + 1))] [] sk_gg I J 0 0 Q) ∧ (¬ (lg_cmp w0 0) = 0 → (¬ (lg_cmp (w0 &&& y1) 0) = 0 → sk_W Γ m_P_showAll mc ms 2 [(0, .ref 36), (1, .long y1), (3, .int (x3 + 1))] [] sk_gg I J 0 0 Q) ∧ ((lg_cmp (w0 &&& y1) 0) = 0 → Q (.inl (some (.int 0))) sk_gg I J))) : sk_W Γ m_P_showAll mc ms 21 [(0, .ref 36), (1, .long y1), (3, .int x3)] [.long w0] sk_gg I J 0 0 Q := by
  refine sk_lstore d_P_showAll_21 (by decide) rfl ?_
  refine sk_lload (j := 0) d_P_showAll_23 rfl ?_
  refine sk_lconst (v := 0) d_P_showAll_25 (by decide) ?_
  refine sk_lcmp d_P_showAll_26 ?_
  refine sk_if_eq (tgt := 41) d_P_showAll_27 (by decide) (fun hc => ?_) (fun hc => ?_)
  · replace h := h.1 hc
    refine sk_iinc (j := 3) (v := x3 + 1) d_P_showAll_41 rfl (by rfl) (by decide) rfl ?_
    refine sk_goto (tgt := 2) d_P_showAll_44 (by decide) ?_
    refine sk_loc [2, 3, 0] rfl ?_
    exact h
  · replace h := h.2 hc
    refine sk_lload (j := 0) d_P_showAll_30 rfl ?_
    refine sk_lload_n (j := 2) d_P_showAll_32 rfl rfl ?_
    refine sk_land d_P_showAll_33 ?_
    refine sk_lconst (v := 0) d_P_showAll_34 (by decide) ?_
    refine sk_lcmp d_P_showAll_35 ?_
    refine sk_if_ne (tgt := 41) d_P_showAll_36 (by decide) (fun hc => ?_) (fun hc => ?_)
    · replace h := h.1 hc
      refine sk_iinc (j := 3) (v := x3 + 1) d_P_showAll_41 rfl (by rfl) (by decide) rfl ?_
      refine sk_goto (tgt := 2) d_P_showAll_44 (by decide) ?_
      refine sk_loc [2, 3, 0] rfl ?_
      exact h
    · replace h := h.2 hc
      refine sk_iconst (v := 0) d_P_showAll_39 (by decide) ?_
      exact q_zreturn d_P_showAll_40 rfl (by decide) (Nat.zero_le _) (Nat.zero_le _) h
theorem s_P_dropTheLeftOut_0 {Γ : sk_T} {mc ms : Nat} {I : sk_I} {J : sk_J} {Q : sk_Q}  (h : sk_W Γ m_P_dropTheLeftOut mc ms 4 [(0, .ref 36), (1, .int 0), (2, .int 0)] [] sk_gg I J 0 0 Q) : sk_W Γ m_P_dropTheLeftOut mc ms 0 [(0, .ref 36)] [] sk_gg I J 0 0 Q := by
  refine sk_iconst (v := 0) d_P_dropTheLeftOut_0 (by decide) ?_
  refine sk_istore_n d_P_dropTheLeftOut_1 rfl (by decide) rfl ?_
  refine sk_iconst (v := 0) d_P_dropTheLeftOut_2 (by decide) ?_
  refine sk_istore_n d_P_dropTheLeftOut_3 rfl (by decide) rfl ?_
  refine sk_loc [2, 1, 0] rfl ?_
  exact h
theorem s_P_dropTheLeftOut_4 {Γ : sk_T} {mc ms : Nat} {I : sk_I} {J : sk_J} {Q : sk_Q} {x1 : Int32} {x2 : Int32} (h : ((I 36 3) ≤ x2 → Q (.inl none) sk_gg (sk_pi I 36 3 x1) J) ∧ (¬ (I 36 3) ≤ x2 → vp_in x2 64 ∧ (¬ (lg_cmp ((sk_ushr (J 36 4) (I 37 x2.toNatClampNeg)) &&& 1) 1) = 0 → sk_W Γ m_P_dropTheLeftOut mc ms 4 [(0, .ref 36), (1, .int x1), (2, .int (x2 + 1))] [] sk_gg I J 0 0 Q) ∧ ((lg_cmp ((sk_ushr (J 36 4) (I 37 x2.toNatClampNeg)) &&& 1) 1) = 0 → vp_in x2 64 ∧ vp_in x1 64 ∧ sk_W Γ m_P_dropTheLeftOut mc ms 4 [(0, .ref 36), (1, .int (x1 + 1)), (2, .int (x2 + 1))] [] sk_gg (sk_pi I 37 x1.toNatClampNeg (I 37 x2.toNatClampNeg)) J 0 0 Q))) : sk_W Γ m_P_dropTheLeftOut mc ms 4 [(0, .ref 36), (1, .int x1), (2, .int x2)] [] sk_gg I J 0 0 Q := by
  refine sk_iload_n (j := 2) d_P_dropTheLeftOut_4 rfl rfl ?_
  refine sk_aload_n (j := 0) d_P_dropTheLeftOut_5 rfl rfl ?_
  refine q_getI d_P_dropTheLeftOut_6 fg_P_15 sh_36 ?_
  refine sk_icmp_ge (tgt := 51) d_P_dropTheLeftOut_9 (by decide) (fun hc => ?_) (fun hc => ?_)
  · replace h := h.1 hc
    refine sk_aload_n (j := 0) d_P_dropTheLeftOut_51 rfl rfl ?_
    refine sk_iload_n (j := 1) d_P_dropTheLeftOut_52 rfl rfl ?_
    refine r_putI d_P_dropTheLeftOut_53 fp_P_15 sh_36 ?_
    exact sk_vreturn d_P_dropTheLeftOut_56 rfl (Nat.zero_le _) (Nat.zero_le _) h
  · replace h := h.2 hc
    refine sk_aload_n (j := 0) d_P_dropTheLeftOut_12 rfl rfl ?_
    refine q_getJ d_P_dropTheLeftOut_13 fg_P_19 sh_36 ?_
    refine sk_aload_n (j := 0) d_P_dropTheLeftOut_16 rfl rfl ?_
    refine q_getR d_P_dropTheLeftOut_17 fg_P_9 sh_36 rr_36_2 ?_
    refine sk_iload_n (j := 2) d_P_dropTheLeftOut_20 rfl rfl ?_
    obtain ⟨hb, h⟩ := h
    refine sk_iald d_P_dropTheLeftOut_21 sh_37 hb ?_
    refine r_lushr d_P_dropTheLeftOut_22 ?_
    refine sk_lconst (v := 1) d_P_dropTheLeftOut_23 (by decide) ?_
    refine sk_land d_P_dropTheLeftOut_24 ?_
    refine sk_lconst (v := 1) d_P_dropTheLeftOut_25 (by decide) ?_
    refine sk_lcmp d_P_dropTheLeftOut_26 ?_
    refine sk_if_ne (tgt := 45) d_P_dropTheLeftOut_27 (by decide) (fun hc => ?_) (fun hc => ?_)
    · replace h := h.1 hc
      refine sk_iinc (j := 2) (v := x2 + 1) d_P_dropTheLeftOut_45 rfl (by rfl) (by decide) rfl ?_
      refine sk_goto (tgt := 4) d_P_dropTheLeftOut_48 (by decide) ?_
      refine sk_loc [1, 2, 0] rfl ?_
      exact h
    · replace h := h.2 hc
      refine sk_aload_n (j := 0) d_P_dropTheLeftOut_30 rfl rfl ?_
      refine q_getR d_P_dropTheLeftOut_31 fg_P_9 sh_36 rr_36_2 ?_
      refine sk_iload_n (j := 1) d_P_dropTheLeftOut_34 rfl rfl ?_
      refine sk_aload_n (j := 0) d_P_dropTheLeftOut_35 rfl rfl ?_
      refine q_getR d_P_dropTheLeftOut_36 fg_P_9 sh_36 rr_36_2 ?_
      refine sk_iload_n (j := 2) d_P_dropTheLeftOut_39 rfl rfl ?_
      obtain ⟨hb, h⟩ := h
      refine sk_iald d_P_dropTheLeftOut_40 sh_37 hb ?_
      obtain ⟨hb, h⟩ := h
      refine r_iast d_P_dropTheLeftOut_41 sh_37 hb ?_
      refine sk_iinc (j := 1) (v := x1 + 1) d_P_dropTheLeftOut_42 rfl (by rfl) (by decide) rfl ?_
      refine sk_iinc (j := 2) (v := x2 + 1) d_P_dropTheLeftOut_45 rfl (by rfl) (by decide) rfl ?_
      refine sk_goto (tgt := 4) d_P_dropTheLeftOut_48 (by decide) ?_
      refine sk_loc [2, 1, 0] rfl ?_
      exact h
theorem s_G_isExplainedBy_0 {Γ : sk_T} {mc ms : Nat} {I : sk_I} {J : sk_J} {Q : sk_Q} {x1 : Int32} (h : sk_W Γ m_G_isExplainedBy mc ms 2 [(0, .ref 38), (1, .int x1), (2, .int 0)] [] sk_gg I J 0 0 Q) : sk_W Γ m_G_isExplainedBy mc ms 0 [(0, .ref 38), (1, .int x1)] [] sk_gg I J 0 0 Q := by
  refine sk_iconst (v := 0) d_G_isExplainedBy_0 (by decide) ?_
  refine sk_istore_n d_G_isExplainedBy_1 rfl (by decide) rfl ?_
  refine sk_loc [1, 2, 0] rfl ?_
  exact h
theorem s_G_isExplainedBy_2 {Γ : sk_T} {mc ms : Nat} {I : sk_I} {J : sk_J} {Q : sk_Q} {x1 : Int32} {x2 : Int32} (h : ((I 38 3) ≤ x2 → Q (.inl (some (.int 1))) sk_gg I J) ∧ (¬ (I 38 3) ≤ x2 → vp_in x2 16 ∧ sk_S Γ m_R_to 0 0 (.ref 16 :: [.int (I 39 x2.toNatClampNeg), .int x1]) sk_gg I J (sk_Ki fun v' I' J' => sk_W Γ m_G_isExplainedBy mc ms 24 [(0, .ref 38), (1, .int x1), (2, .int x2)] [.int v'] sk_gg I' J' 0 0 Q))) : sk_W Γ m_G_isExplainedBy mc ms 2 [(0, .ref 38), (1, .int x1), (2, .int x2)] [] sk_gg I J 0 0 Q := by
  refine sk_iload_n (j := 2) d_G_isExplainedBy_2 rfl rfl ?_
  refine sk_aload_n (j := 0) d_G_isExplainedBy_3 rfl rfl ?_
  refine q_getI d_G_isExplainedBy_4 fg_G_18 sh_38 ?_
  refine sk_icmp_ge (tgt := 41) d_G_isExplainedBy_7 (by decide) (fun hc => ?_) (fun hc => ?_)
  · replace h := h.1 hc
    refine sk_iconst (v := 1) d_G_isExplainedBy_41 (by decide) ?_
    exact q_zreturn d_G_isExplainedBy_42 rfl (by decide) (Nat.zero_le _) (Nat.zero_le _) h
  · replace h := h.2 hc
    refine sk_aload_n (j := 0) d_G_isExplainedBy_10 rfl rfl ?_
    refine q_getR d_G_isExplainedBy_11 fg_G_22 sh_38 rr_38_0 ?_
    refine sk_aload_n (j := 0) d_G_isExplainedBy_14 rfl rfl ?_
    refine q_getR d_G_isExplainedBy_15 fg_G_9 sh_38 rr_38_1 ?_
    refine sk_iload_n (j := 2) d_G_isExplainedBy_18 rfl rfl ?_
    obtain ⟨hb, h⟩ := h
    refine sk_iald d_G_isExplainedBy_19 sh_39 hb ?_
    refine sk_iload_n (j := 1) d_G_isExplainedBy_20 rfl rfl ?_
    exact q_callVi (S := []) (as := [.int (I 39 x2.toNatClampNeg), .int x1]) d_G_isExplainedBy_21 lk_G_26 sh_16 ⟨_, rfl⟩ rfl ⟨by decide, by decide⟩ (Nat.le_of_ble_eq_true rfl) rfl (Nat.zero_le _) (Nat.zero_le _) h
theorem s_G_isExplainedBy_24 {Γ : sk_T} {mc ms : Nat} {I : sk_I} {J : sk_J} {Q : sk_Q} {x1 : Int32} {x2 : Int32} {u0 : Int32} (h : vp_in x2 16 ∧ (u0 = (I 40 x2.toNatClampNeg) → sk_W Γ m_G_isExplainedBy mc ms 2 [(0, .ref 38), (1, .int x1), (2, .int (x2 + 1))] [] sk_gg I J 0 0 Q) ∧ (¬ u0 = (I 40 x2.toNatClampNeg) → Q (.inl (some (.int 0))) sk_gg I J)) : sk_W Γ m_G_isExplainedBy mc ms 24 [(0, .ref 38), (1, .int x1), (2, .int x2)] [.int u0] sk_gg I J 0 0 Q := by
  refine sk_aload_n (j := 0) d_G_isExplainedBy_24 rfl rfl ?_
  refine q_getR d_G_isExplainedBy_25 fg_G_15 sh_38 rr_38_2 ?_
  refine sk_iload_n (j := 2) d_G_isExplainedBy_28 rfl rfl ?_
  obtain ⟨hb, h⟩ := h
  refine sk_iald d_G_isExplainedBy_29 sh_40 hb ?_
  refine sk_icmp_eq (tgt := 35) d_G_isExplainedBy_30 (by decide) (fun hc => ?_) (fun hc => ?_)
  · replace h := h.1 hc
    refine sk_iinc (j := 2) (v := x2 + 1) d_G_isExplainedBy_35 rfl (by rfl) (by decide) rfl ?_
    refine sk_goto (tgt := 2) d_G_isExplainedBy_38 (by decide) ?_
    refine sk_loc [1, 2, 0] rfl ?_
    exact h
  · replace h := h.2 hc
    refine sk_iconst (v := 0) d_G_isExplainedBy_33 (by decide) ?_
    exact q_zreturn d_G_isExplainedBy_34 rfl (by decide) (Nat.zero_le _) (Nat.zero_le _) h
theorem s_U_widen_0 {Γ : sk_T} {mc ms : Nat} {I : sk_I} {J : sk_J} {Q : sk_Q} {x1 : Int32} {x2 : Int32} (h : sk_W Γ m_U_widen mc ms 8 [(0, .ref 25), (2, .int x2), (3, .int 0), (4, .int x1), (5, .int 0)] [] sk_gg I J 0 0 Q) : sk_W Γ m_U_widen mc ms 0 [(0, .ref 25), (1, .int x1), (2, .int x2)] [] sk_gg I J 0 0 Q := by
  refine sk_iconst (v := 0) d_U_widen_0 (by decide) ?_
  refine sk_istore_n d_U_widen_1 rfl (by decide) rfl ?_
  refine sk_iload_n (j := 2) d_U_widen_2 rfl rfl ?_
  refine sk_istore d_U_widen_3 (by decide) rfl ?_
  refine sk_iconst (v := 0) d_U_widen_5 (by decide) ?_
  refine sk_istore d_U_widen_6 (by decide) rfl ?_
  refine sk_loc [3, 5, 2, 1, 0] rfl ?_
  exact h
theorem s_U_widen_8 {Γ : sk_T} {mc ms : Nat} {I : sk_I} {J : sk_J} {Q : sk_Q} {x2 : Int32} {x3 : Int32} {x4 : Int32} {x5 : Int32} (h : ((I 1 2) ≤ x5 → Q (.inl (some (.int ((64 * x3) + x4)))) sk_gg I J) ∧ (¬ (I 1 2) ≤ x5 → sk_S Γ m_U_shows 0 0 (.ref 25 :: [.int (x3 ||| (1 <<< (x5 &&& 31))), .int (x4 &&& ((1 <<< (x5 &&& 31)) ^^^ (-1))), .int x2]) sk_gg I J (sk_Ki fun v' I' J' => sk_W Γ m_U_widen mc ms 42 [(0, .ref 25), (2, .int x2), (3, .int x3), (4, .int x4), (5, .int x5), (6, .int (1 <<< (x5 &&& 31)))] [.int v'] sk_gg I' J' 0 0 Q))) : sk_W Γ m_U_widen mc ms 8 [(0, .ref 25), (2, .int x2), (3, .int x3), (4, .int x4), (5, .int x5)] [] sk_gg I J 0 0 Q := by
  refine sk_iload (j := 4) d_U_widen_8 rfl ?_
  refine sk_aload_n (j := 0) d_U_widen_10 rfl rfl ?_
  refine q_getR d_U_widen_11 fg_U_9 sh_25 rr_25_0 ?_
  refine q_getI d_U_widen_14 fg_U_27 sh_1 ?_
  refine sk_icmp_ge (tgt := 65) d_U_widen_17 (by decide) (fun hc => ?_) (fun hc => ?_)
  · replace h := h.1 hc
    refine sk_bipush (v := 64) d_U_widen_65 (by decide) ?_
    refine sk_iload_n (j := 2) d_U_widen_67 rfl rfl ?_
    refine sk_imul d_U_widen_68 ?_
    refine sk_iload (j := 3) d_U_widen_69 rfl ?_
    refine sk_iadd d_U_widen_71 ?_
    exact sk_ireturn d_U_widen_72 rfl (Nat.zero_le _) (Nat.zero_le _) h
  · replace h := h.2 hc
    refine sk_iconst (v := 1) d_U_widen_20 (by decide) ?_
    refine sk_iload (j := 4) d_U_widen_21 rfl ?_
    refine sk_ishl d_U_widen_23 ?_
    refine sk_istore d_U_widen_24 (by decide) rfl ?_
    refine sk_aload_n (j := 1) d_U_widen_26 rfl rfl ?_
    refine sk_iload_n (j := 3) d_U_widen_27 rfl rfl ?_
    refine sk_iload (j := 0) d_U_widen_28 rfl ?_
    refine sk_ior d_U_widen_30 ?_
    refine sk_iload (j := 4) d_U_widen_31 rfl ?_
    refine sk_iload (j := 0) d_U_widen_33 rfl ?_
    refine sk_iconst (v := (-1)) d_U_widen_35 (by decide) ?_
    refine sk_ixor d_U_widen_36 ?_
    refine sk_iand d_U_widen_37 ?_
    refine sk_iload_n (j := 2) d_U_widen_38 rfl rfl ?_
    refine sk_loc [1, 2, 3, 4, 5, 0] rfl ?_
    exact q_callVi (S := []) (as := [.int (x3 ||| (1 <<< (x5 &&& 31))), .int (x4 &&& ((1 <<< (x5 &&& 31)) ^^^ (-1))), .int x2]) d_U_widen_39 lk_U_33 sh_25 ⟨_, rfl⟩ rfl ⟨by decide, by decide⟩ (Nat.le_of_ble_eq_true rfl) rfl (Nat.zero_le _) (Nat.zero_le _) h
theorem s_U_widen_42 {Γ : sk_T} {mc ms : Nat} {I : sk_I} {J : sk_J} {Q : sk_Q} {x2 : Int32} {x3 : Int32} {x4 : Int32} {x5 : Int32} {x6 : Int32} {u0 : Int32} (h : (u0 = 0 → sk_W Γ m_U_widen mc ms 8 [(0, .ref 25), (2, .int x2), (3, .int x3), (4, .int x4), (5, .int (x5 + 1))] [] sk_gg I J 0 0 Q) ∧ (¬ u0 = 0 → sk_W Γ m_U_widen mc ms 8 [(0, .ref 25), (2, .int x2), (3, .int (x3 ||| x6)), (4, .int (x4 &&& (x6 ^^^ (-1)))), (5, .int (x5 + 1))] [] sk_gg I J 0 0 Q)) : sk_W Γ m_U_widen mc ms 42 [(0, .ref 25), (2, .int x2), (3, .int x3), (4, .int x4), (5, .int x5), (6, .int x6)] [.int u0] sk_gg I J 0 0 Q := by
  refine sk_if_eq (tgt := 59) d_U_widen_42 (by decide) (fun hc => ?_) (fun hc => ?_)
  · replace h := h.1 hc
    refine sk_iinc (j := 4) (v := x5 + 1) d_U_widen_59 rfl (by rfl) (by decide) rfl ?_
    refine sk_goto (tgt := 8) d_U_widen_62 (by decide) ?_
    refine sk_loc [1, 2, 3, 4, 0] rfl ?_
    exact h
  · replace h := h.2 hc
    refine sk_iload_n (j := 2) d_U_widen_45 rfl rfl ?_
    refine sk_iload (j := 5) d_U_widen_46 rfl ?_
    refine sk_ior d_U_widen_48 ?_
    refine sk_istore_n d_U_widen_49 rfl (by decide) rfl ?_
    refine sk_iload (j := 3) d_U_widen_50 rfl ?_
    refine sk_iload (j := 5) d_U_widen_52 rfl ?_
    refine sk_iconst (v := (-1)) d_U_widen_54 (by decide) ?_
    refine sk_ixor d_U_widen_55 ?_
    refine sk_iand d_U_widen_56 ?_
    refine sk_istore d_U_widen_57 (by decide) rfl ?_
    refine sk_iinc (j := 4) (v := x5 + 1) d_U_widen_59 rfl (by rfl) (by decide) rfl ?_
    refine sk_goto (tgt := 8) d_U_widen_62 (by decide) ?_
    refine sk_loc [3, 4, 2, 1, 0] rfl ?_
    exact h
theorem s_U_shows_0 {Γ : sk_T} {mc ms : Nat} {I : sk_I} {J : sk_J} {Q : sk_Q} {x1 : Int32} {x2 : Int32} {x3 : Int32} (h : sk_S Γ m_S_settleCube 0 0 (.ref 26 :: [.int x1, .int x2, .int (-1)]) sk_gg I J (sk_Kv fun I' J' => sk_W Γ m_U_shows mc ms 10 [(0, .ref 25), (1, .int x1), (2, .int x2), (3, .int x3)] [] sk_gg I' J' 0 0 Q)) : sk_W Γ m_U_shows mc ms 0 [(0, .ref 25), (1, .int x1), (2, .int x2), (3, .int x3)] [] sk_gg I J 0 0 Q := by
  refine sk_aload_n (j := 0) d_U_shows_0 rfl rfl ?_
  refine q_getR d_U_shows_1 fg_U_20 sh_25 rr_25_1 ?_
  refine sk_iload_n (j := 1) d_U_shows_4 rfl rfl ?_
  refine sk_iload_n (j := 2) d_U_shows_5 rfl rfl ?_
  refine sk_iconst (v := (-1)) d_U_shows_6 (by decide) ?_
  exact q_callVv (S := []) (as := [.int x1, .int x2, .int (-1)]) d_U_shows_7 lk_U_37 sh_26 ⟨_, rfl⟩ rfl ⟨by decide, by decide⟩ (Nat.le_of_ble_eq_true rfl) rfl (Nat.zero_le _) (Nat.zero_le _) h
theorem s_U_shows_10 {Γ : sk_T} {mc ms : Nat} {I : sk_I} {J : sk_J} {Q : sk_Q} {x1 : Int32} {x2 : Int32} {x3 : Int32} (h : sk_S Γ m_S_settleCube 0 0 (.ref 31 :: [.int x1, .int x2, .int x3]) sk_gg I J (sk_Kv fun I' J' => sk_W Γ m_U_shows mc ms 20 [(0, .ref 25)] [] sk_gg I' J' 0 0 Q)) : sk_W Γ m_U_shows mc ms 10 [(0, .ref 25), (1, .int x1), (2, .int x2), (3, .int x3)] [] sk_gg I J 0 0 Q := by
  refine sk_aload_n (j := 0) d_U_shows_10 rfl rfl ?_
  refine q_getR d_U_shows_11 fg_U_24 sh_25 rr_25_2 ?_
  refine sk_iload_n (j := 1) d_U_shows_14 rfl rfl ?_
  refine sk_iload_n (j := 2) d_U_shows_15 rfl rfl ?_
  refine sk_iload_n (j := 3) d_U_shows_16 rfl rfl ?_
  refine sk_loc [0] rfl ?_
  exact q_callVv (S := []) (as := [.int x1, .int x2, .int x3]) d_U_shows_17 lk_U_37 sh_31 ⟨_, rfl⟩ rfl ⟨by decide, by decide⟩ (Nat.le_of_ble_eq_true rfl) rfl (Nat.zero_le _) (Nat.zero_le _) h
theorem s_U_shows_20 {Γ : sk_T} {mc ms : Nat} {I : sk_I} {J : sk_J} {Q : sk_Q}  (h : sk_S Γ m_S_isContraryTo 0 0 (.ref 26 :: [.ref 31]) sk_gg I J (sk_Ki fun v' I' J' => sk_W Γ m_U_shows mc ms 31 [] [.int v'] sk_gg I' J' 0 0 Q)) : sk_W Γ m_U_shows mc ms 20 [(0, .ref 25)] [] sk_gg I J 0 0 Q := by
  refine sk_aload_n (j := 0) d_U_shows_20 rfl rfl ?_
  refine q_getR d_U_shows_21 fg_U_20 sh_25 rr_25_1 ?_
  refine sk_aload_n (j := 0) d_U_shows_24 rfl rfl ?_
  refine q_getR d_U_shows_25 fg_U_24 sh_25 rr_25_2 ?_
  refine sk_loc [] rfl ?_
  exact q_callVi (S := []) (as := [.ref 31]) d_U_shows_28 lk_U_41 sh_26 ⟨_, rfl⟩ rfl ⟨by decide, by decide⟩ (Nat.le_of_ble_eq_true rfl) rfl (Nat.zero_le _) (Nat.zero_le _) h
theorem s_U_shows_31 {Γ : sk_T} {mc ms : Nat} {I : sk_I} {J : sk_J} {Q : sk_Q} {u0 : Int32} (h : (u0 = 0 ∨ u0 = 1) ∧ Q (.inl (some (.int u0))) sk_gg I J) : sk_W Γ m_U_shows mc ms 31 [] [.int u0] sk_gg I J 0 0 Q := by
  exact q_zreturn d_U_shows_31 rfl h.1 (Nat.zero_le _) (Nat.zero_le _) h.2
theorem s_G_add_0 {Γ : sk_T} {mc ms : Nat} {I : sk_I} {J : sk_J} {Q : sk_Q} {x1 : Int32} {x2 : Int32} (h : vp_in (I 38 3) 16 ∧ vp_in (I 38 3) 16 ∧ Q (.inl (some (.int ((I 38 3) + 1)))) sk_gg (sk_pi (sk_pi (sk_pi I 39 (I 38 3).toNatClampNeg x1) 40 (I 38 3).toNatClampNeg x2) 38 3 ((I 38 3) + 1)) J) : sk_W Γ m_G_add mc ms 0 [(0, .ref 38), (1, .int x1), (2, .int x2)] [] sk_gg I J 0 0 Q := by
  refine sk_aload_n (j := 0) d_G_add_0 rfl rfl ?_
  refine q_getR d_G_add_1 fg_G_9 sh_38 rr_38_1 ?_
  refine sk_aload_n (j := 0) d_G_add_4 rfl rfl ?_
  refine q_getI d_G_add_5 fg_G_18 sh_38 ?_
  refine sk_iload_n (j := 1) d_G_add_8 rfl rfl ?_
  obtain ⟨hb, h⟩ := h
  refine r_iast d_G_add_9 sh_39 hb ?_
  refine sk_aload_n (j := 0) d_G_add_10 rfl rfl ?_
  refine q_getR d_G_add_11 fg_G_15 sh_38 rr_38_2 ?_
  refine sk_aload_n (j := 0) d_G_add_14 rfl rfl ?_
  refine q_getI d_G_add_15 fg_G_18 sh_38 ?_
  refine q_cvi (y := I 38 3) rfl ?_
  refine sk_iload_n (j := 2) d_G_add_18 rfl rfl ?_
  obtain ⟨hb, h⟩ := h
  refine r_iast d_G_add_19 sh_40 hb ?_
  refine sk_aload_n (j := 0) d_G_add_20 rfl rfl ?_
  refine sk_dup d_G_add_21 rfl ?_
  refine q_getI d_G_add_22 fg_G_18 sh_38 ?_
  refine q_cvi (y := I 38 3) rfl ?_
  refine sk_iconst (v := 1) d_G_add_25 (by decide) ?_
  refine sk_iadd d_G_add_26 ?_
  refine r_putI d_G_add_27 fp_G_18 sh_38 ?_
  refine sk_aload_n (j := 0) d_G_add_30 rfl rfl ?_
  refine q_getI d_G_add_31 fg_G_18 sh_38 ?_
  refine q_cvi (y := (I 38 3) + 1) rfl ?_
  exact sk_ireturn d_G_add_34 rfl (Nat.zero_le _) (Nat.zero_le _) h
