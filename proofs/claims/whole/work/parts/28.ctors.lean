/-! the constructors as they run: printed by wip/whole/gen_ctor.py -/
def sk_r0 : sk_R := fun _ _ => none
theorem sk_jz (q j : Nat) : sk_set sk_j0 q (vp_updL (sk_j0 q) j 0) = sk_j0 := by
  funext a b
  unfold sk_set vp_updL sk_j0
  split
  · show (if b = j then (0 : Int64) else 0) = 0
    split <;> rfl
  · rfl
def sk_i1 : sk_I := sk_pi sk_i0 1 0 1
def sk_i2 : sk_I := sk_pi sk_i1 1 1 0
def sk_i3 : sk_I := sk_pi sk_i2 1 2 0
def sk_i4 : sk_I := sk_pi sk_i3 1 3 0
def sk_i5 : sk_I := sk_pi sk_i4 1 4 0
def sk_i6 : sk_I := sk_pi sk_i5 1 5 0
def sk_r7 : sk_R := sk_set sk_r0 1 (sk_updR (sk_r0 1) 6 (some 2))
def sk_r8 : sk_R := sk_set sk_r7 1 (sk_updR (sk_r7 1) 7 (some 3))
def sk_r9 : sk_R := sk_set sk_r8 1 (sk_updR (sk_r8 1) 8 (some 4))
def sk_r10 : sk_R := sk_set sk_r9 1 (sk_updR (sk_r9 1) 9 (some 5))
def sk_r11 : sk_R := sk_set sk_r10 1 (sk_updR (sk_r10 1) 10 (some 6))
def sk_r12 : sk_R := sk_set sk_r11 1 (sk_updR (sk_r11 1) 11 (some 7))
def sk_r13 : sk_R := sk_set sk_r12 1 (sk_updR (sk_r12 1) 12 (some 8))
def sk_r14 : sk_R := sk_set sk_r13 1 (sk_updR (sk_r13 1) 13 (some 9))
def sk_r15 : sk_R := sk_set sk_r14 1 (sk_updR (sk_r14 1) 14 (some 10))
def sk_r16 : sk_R := sk_set sk_r15 0 (sk_updR (sk_r15 0) 0 (some 1))
def sk_r17 : sk_R := sk_set sk_r16 11 (sk_updR (sk_r16 11) 1 (some 12))
def sk_r18 : sk_R := sk_set sk_r17 11 (sk_updR (sk_r17 11) 2 (some 13))
def sk_r19 : sk_R := sk_set sk_r18 11 (sk_updR (sk_r18 11) 3 (some 14))
def sk_r20 : sk_R := sk_set sk_r19 11 (sk_updR (sk_r19 11) 4 (some 15))
def sk_i21 : sk_I := sk_pi sk_i6 11 5 (-1)
def sk_r22 : sk_R := sk_set sk_r20 11 (sk_updR (sk_r20 11) 0 (some 1))
def sk_r23 : sk_R := sk_set sk_r22 0 (sk_updR (sk_r22 0) 1 (some 11))
def sk_r24 : sk_R := sk_set sk_r23 16 (sk_updR (sk_r23 16) 2 (some 17))
def sk_r25 : sk_R := sk_set sk_r24 16 (sk_updR (sk_r24 16) 3 (some 18))
def sk_r26 : sk_R := sk_set sk_r25 16 (sk_updR (sk_r25 16) 4 (some 19))
def sk_r27 : sk_R := sk_set sk_r26 16 (sk_updR (sk_r26 16) 0 (some 1))
def sk_r28 : sk_R := sk_set sk_r27 20 (sk_updR (sk_r27 20) 1 (some 21))
def sk_r29 : sk_R := sk_set sk_r28 20 (sk_updR (sk_r28 20) 2 (some 22))
def sk_r30 : sk_R := sk_set sk_r29 20 (sk_updR (sk_r29 20) 3 (some 23))
def sk_r31 : sk_R := sk_set sk_r30 20 (sk_updR (sk_r30 20) 4 (some 24))
def sk_i32 : sk_I := sk_pi sk_i21 20 5 (-1)
def sk_r33 : sk_R := sk_set sk_r31 20 (sk_updR (sk_r31 20) 0 (some 1))
def sk_r34 : sk_R := sk_set sk_r33 16 (sk_updR (sk_r33 16) 1 (some 20))
def sk_r35 : sk_R := sk_set sk_r34 0 (sk_updR (sk_r34 0) 2 (some 16))
def sk_r36 : sk_R := sk_set sk_r35 25 (sk_updR (sk_r35 25) 0 (some 1))
def sk_r37 : sk_R := sk_set sk_r36 26 (sk_updR (sk_r36 26) 1 (some 27))
def sk_r38 : sk_R := sk_set sk_r37 26 (sk_updR (sk_r37 26) 2 (some 28))
def sk_r39 : sk_R := sk_set sk_r38 26 (sk_updR (sk_r38 26) 3 (some 29))
def sk_r40 : sk_R := sk_set sk_r39 26 (sk_updR (sk_r39 26) 4 (some 30))
def sk_i41 : sk_I := sk_pi sk_i32 26 5 (-1)
def sk_r42 : sk_R := sk_set sk_r40 26 (sk_updR (sk_r40 26) 0 (some 1))
def sk_r43 : sk_R := sk_set sk_r42 25 (sk_updR (sk_r42 25) 1 (some 26))
def sk_r44 : sk_R := sk_set sk_r43 31 (sk_updR (sk_r43 31) 1 (some 32))
def sk_r45 : sk_R := sk_set sk_r44 31 (sk_updR (sk_r44 31) 2 (some 33))
def sk_r46 : sk_R := sk_set sk_r45 31 (sk_updR (sk_r45 31) 3 (some 34))
def sk_r47 : sk_R := sk_set sk_r46 31 (sk_updR (sk_r46 31) 4 (some 35))
def sk_i48 : sk_I := sk_pi sk_i41 31 5 (-1)
def sk_r49 : sk_R := sk_set sk_r47 31 (sk_updR (sk_r47 31) 0 (some 1))
def sk_r50 : sk_R := sk_set sk_r49 25 (sk_updR (sk_r49 25) 2 (some 31))
def sk_r51 : sk_R := sk_set sk_r50 0 (sk_updR (sk_r50 0) 3 (some 25))
def sk_r52 : sk_R := sk_set sk_r51 36 (sk_updR (sk_r51 36) 2 (some 37))
def sk_i53 : sk_I := sk_pi sk_i48 36 3 0
def sk_i54 : sk_I := sk_pi sk_i53 36 5 0
def sk_r55 : sk_R := sk_set sk_r52 36 (sk_updR (sk_r52 36) 0 (some 1))
def sk_r56 : sk_R := sk_set sk_r55 36 (sk_updR (sk_r55 36) 1 (some 16))
def sk_r57 : sk_R := sk_set sk_r56 0 (sk_updR (sk_r56 0) 4 (some 36))
def sk_r58 : sk_R := sk_set sk_r57 38 (sk_updR (sk_r57 38) 1 (some 39))
def sk_r59 : sk_R := sk_set sk_r58 38 (sk_updR (sk_r58 38) 2 (some 40))
def sk_i60 : sk_I := sk_pi sk_i54 38 3 0
def sk_r61 : sk_R := sk_set sk_r59 38 (sk_updR (sk_r59 38) 0 (some 16))
def sk_r62 : sk_R := sk_set sk_r61 0 (sk_updR (sk_r61 0) 5 (some 38))
def sk_r63 : sk_R := sk_set sk_r62 41 (sk_updR (sk_r62 41) 2 (some 42))
def sk_r64 : sk_R := sk_set sk_r63 41 (sk_updR (sk_r63 41) 3 (some 43))
def sk_r65 : sk_R := sk_set sk_r64 41 (sk_updR (sk_r64 41) 4 (some 44))
def sk_r66 : sk_R := sk_set sk_r65 41 (sk_updR (sk_r65 41) 5 (some 45))
def sk_r67 : sk_R := sk_set sk_r66 41 (sk_updR (sk_r66 41) 7 (some 46))
def sk_r68 : sk_R := sk_set sk_r67 41 (sk_updR (sk_r67 41) 8 (some 47))
def sk_r69 : sk_R := sk_set sk_r68 41 (sk_updR (sk_r68 41) 9 (some 48))
def sk_r70 : sk_R := sk_set sk_r69 41 (sk_updR (sk_r69 41) 11 (some 49))
def sk_r71 : sk_R := sk_set sk_r70 41 (sk_updR (sk_r70 41) 13 (some 50))
def sk_r72 : sk_R := sk_set sk_r71 41 (sk_updR (sk_r71 41) 15 (some 51))
def sk_r73 : sk_R := sk_set sk_r72 41 (sk_updR (sk_r72 41) 16 (some 52))
def sk_r74 : sk_R := sk_set sk_r73 41 (sk_updR (sk_r73 41) 17 (some 53))
def sk_r75 : sk_R := sk_set sk_r74 41 (sk_updR (sk_r74 41) 18 (some 54))
def sk_r76 : sk_R := sk_set sk_r75 41 (sk_updR (sk_r75 41) 20 (some 55))
def sk_r77 : sk_R := sk_set sk_r76 41 (sk_updR (sk_r76 41) 21 (some 56))
def sk_r78 : sk_R := sk_set sk_r77 41 (sk_updR (sk_r77 41) 24 (some 57))
def sk_r79 : sk_R := sk_set sk_r78 41 (sk_updR (sk_r78 41) 25 (some 58))
def sk_r80 : sk_R := sk_set sk_r79 41 (sk_updR (sk_r79 41) 27 (some 59))
def sk_r81 : sk_R := sk_set sk_r80 41 (sk_updR (sk_r80 41) 28 (some 60))
set_option maxRecDepth 100000 in
theorem k_C_init_1 {Γ : sk_T} : sk_S Γ m_C_init 9 305 [.ref 1] (true, [(0, 0, 6), (0, 1, 15)], sk_r0) sk_i0 sk_j0 (fun r g' I' J' => r = .inl none ∧ g' = (true, [(0, 0, 6), (0, 1, 15), (1, 26, 0), (1, 26, 0), (2, 26, 0), (1, 27, 0), (1, 78, 0), (1, 78, 0), (1, 12, 0), (1, 26, 0), (1, 6, 0)], sk_r15) ∧ I' = sk_i6 ∧ J' = sk_j0) := by
  refine sk_spec (by decide) rfl (by exact Nat.le_of_ble_eq_true rfl) ?_
  show sk_W Γ m_C_init 9 305 0 [(0, .ref 1)] [] (true, [(0, 0, 6), (0, 1, 15)], sk_r0) sk_i0 sk_j0 0 0 _
  refine sk_aload_n (j := 0) d_C_init_0 rfl rfl ?_
  refine sk_objInit d_C_init_1 sw_28 sw_21 sw_22 (by decide) (by decide) (Nat.le_of_ble_eq_true rfl) ?_
  refine sk_aload_n (j := 0) d_C_init_4 rfl rfl ?_
  refine sk_iconst (v := 1) d_C_init_5 (by decide) ?_
  refine q_putI d_C_init_6 fp_C_9 rfl (Or.inl rfl) ?_
  refine sk_aload_n (j := 0) d_C_init_9 rfl rfl ?_
  refine sk_iconst (v := 0) d_C_init_10 (by decide) ?_
  refine q_putI d_C_init_11 fp_C_15 rfl (Or.inl rfl) ?_
  refine sk_aload_n (j := 0) d_C_init_14 rfl rfl ?_
  refine sk_iconst (v := 0) d_C_init_15 (by decide) ?_
  refine q_putI d_C_init_16 fp_C_18 rfl (Or.inl rfl) ?_
  refine sk_aload_n (j := 0) d_C_init_19 rfl rfl ?_
  refine sk_iconst (v := 0) d_C_init_20 (by decide) ?_
  refine q_putI d_C_init_21 fp_C_21 rfl (Or.inl rfl) ?_
  refine sk_aload_n (j := 0) d_C_init_24 rfl rfl ?_
  refine sk_iconst (v := 0) d_C_init_25 (by decide) ?_
  refine q_putI d_C_init_26 fp_C_24 rfl (Or.inl rfl) ?_
  refine sk_aload_n (j := 0) d_C_init_29 rfl rfl ?_
  refine sk_iconst (v := 0) d_C_init_30 (by decide) ?_
  refine q_putI d_C_init_31 fp_C_27 rfl (Or.inl rfl) ?_
  refine sk_aload_n (j := 0) d_C_init_34 rfl rfl ?_
  refine sk_bipush (v := 26) d_C_init_35 (by decide) ?_
  refine sk_newa (t := 1) (N := 26) d_C_init_37 sw_94 (Or.inl ⟨rfl, rfl⟩) (by decide) (by decide) (by decide) rfl (by decide) (fun j => rfl) (fun j => rfl) (by decide) ?_
  refine q_putR d_C_init_39 fp_C_30 rfl (Or.inr rfl) (fun _ => rfl) (fun _ => rfl) ?_
  refine sk_aload_n (j := 0) d_C_init_42 rfl rfl ?_
  refine sk_bipush (v := 26) d_C_init_43 (by decide) ?_
  refine sk_newa (t := 1) (N := 26) d_C_init_45 sw_94 (Or.inl ⟨rfl, rfl⟩) (by decide) (by decide) (by decide) rfl (by decide) (fun j => rfl) (fun j => rfl) (by decide) ?_
  refine q_putR d_C_init_47 fp_C_34 rfl (Or.inr rfl) (fun _ => rfl) (fun _ => rfl) ?_
  refine sk_aload_n (j := 0) d_C_init_50 rfl rfl ?_
  refine sk_bipush (v := 26) d_C_init_51 (by decide) ?_
  refine sk_newa (t := 2) (N := 26) d_C_init_53 sw_95 (Or.inr (Or.inl ⟨rfl, rfl⟩)) (by decide) (by decide) (by decide) rfl (by decide) (fun j => rfl) (fun j => rfl) (by decide) ?_
  refine q_putR d_C_init_55 fp_C_37 rfl (Or.inr rfl) (fun _ => rfl) (fun _ => rfl) ?_
  refine sk_aload_n (j := 0) d_C_init_58 rfl rfl ?_
  refine sk_bipush (v := 27) d_C_init_59 (by decide) ?_
  refine sk_newa (t := 1) (N := 27) d_C_init_61 sw_94 (Or.inl ⟨rfl, rfl⟩) (by decide) (by decide) (by decide) rfl (by decide) (fun j => rfl) (fun j => rfl) (by decide) ?_
  refine q_putR d_C_init_63 fp_C_41 rfl (Or.inr rfl) (fun _ => rfl) (fun _ => rfl) ?_
  refine sk_aload_n (j := 0) d_C_init_66 rfl rfl ?_
  refine sk_bipush (v := 78) d_C_init_67 (by decide) ?_
  refine sk_newa (t := 1) (N := 78) d_C_init_69 sw_94 (Or.inl ⟨rfl, rfl⟩) (by decide) (by decide) (by decide) rfl (by decide) (fun j => rfl) (fun j => rfl) (by decide) ?_
  refine q_putR d_C_init_71 fp_C_44 rfl (Or.inr rfl) (fun _ => rfl) (fun _ => rfl) ?_
  refine sk_aload_n (j := 0) d_C_init_74 rfl rfl ?_
  refine sk_bipush (v := 78) d_C_init_75 (by decide) ?_
  refine sk_newa (t := 1) (N := 78) d_C_init_77 sw_94 (Or.inl ⟨rfl, rfl⟩) (by decide) (by decide) (by decide) rfl (by decide) (fun j => rfl) (fun j => rfl) (by decide) ?_
  refine q_putR d_C_init_79 fp_C_47 rfl (Or.inr rfl) (fun _ => rfl) (fun _ => rfl) ?_
  refine sk_aload_n (j := 0) d_C_init_82 rfl rfl ?_
  refine sk_bipush (v := 12) d_C_init_83 (by decide) ?_
  refine sk_newa (t := 1) (N := 12) d_C_init_85 sw_94 (Or.inl ⟨rfl, rfl⟩) (by decide) (by decide) (by decide) rfl (by decide) (fun j => rfl) (fun j => rfl) (by decide) ?_
  refine q_putR d_C_init_87 fp_C_50 rfl (Or.inr rfl) (fun _ => rfl) (fun _ => rfl) ?_
  refine sk_aload_n (j := 0) d_C_init_90 rfl rfl ?_
  refine sk_bipush (v := 26) d_C_init_91 (by decide) ?_
  refine sk_newa (t := 1) (N := 26) d_C_init_93 sw_94 (Or.inl ⟨rfl, rfl⟩) (by decide) (by decide) (by decide) rfl (by decide) (fun j => rfl) (fun j => rfl) (by decide) ?_
  refine q_putR d_C_init_95 fp_C_53 rfl (Or.inr rfl) (fun _ => rfl) (fun _ => rfl) ?_
  refine sk_aload_n (j := 0) d_C_init_98 rfl rfl ?_
  refine sk_bipush (v := 6) d_C_init_99 (by decide) ?_
  refine sk_newa (t := 1) (N := 6) d_C_init_101 sw_94 (Or.inl ⟨rfl, rfl⟩) (by decide) (by decide) (by decide) rfl (by decide) (fun j => rfl) (fun j => rfl) (by decide) ?_
  refine q_putR d_C_init_103 fp_C_56 rfl (Or.inr rfl) (fun _ => rfl) (fun _ => rfl) ?_
  exact sk_vreturn d_C_init_106 rfl (by decide) (by decide) ⟨rfl, rfl, rfl, rfl⟩
set_option maxRecDepth 100000 in
theorem k_S_init_11 {Γ : sk_T} : sk_S Γ m_S_init 4 64 [.ref 11, .ref 1] (true, [(0, 0, 6), (0, 1, 15), (1, 26, 0), (1, 26, 0), (2, 26, 0), (1, 27, 0), (1, 78, 0), (1, 78, 0), (1, 12, 0), (1, 26, 0), (1, 6, 0), (0, 2, 7)], sk_r16) sk_i6 sk_j0 (fun r g' I' J' => r = .inl none ∧ g' = (true, [(0, 0, 6), (0, 1, 15), (1, 26, 0), (1, 26, 0), (2, 26, 0), (1, 27, 0), (1, 78, 0), (1, 78, 0), (1, 12, 0), (1, 26, 0), (1, 6, 0), (0, 2, 7), (3, 6, 0), (3, 6, 0), (3, 26, 0), (3, 26, 0)], sk_r22) ∧ I' = sk_i21 ∧ J' = sk_j0) := by
  refine sk_spec (by decide) rfl (by exact Nat.le_of_ble_eq_true rfl) ?_
  show sk_W Γ m_S_init 4 64 0 [(0, .ref 11), (1, .ref 1)] [] (true, [(0, 0, 6), (0, 1, 15), (1, 26, 0), (1, 26, 0), (2, 26, 0), (1, 27, 0), (1, 78, 0), (1, 78, 0), (1, 12, 0), (1, 26, 0), (1, 6, 0), (0, 2, 7)], sk_r16) sk_i6 sk_j0 0 0 _
  refine sk_aload_n (j := 0) d_S_init_0 rfl rfl ?_
  refine sk_objInit d_S_init_1 sw_101 sw_21 sw_22 (by decide) (by decide) (Nat.le_of_ble_eq_true rfl) ?_
  refine sk_aload_n (j := 0) d_S_init_4 rfl rfl ?_
  refine sk_bipush (v := 6) d_S_init_5 (by decide) ?_
  refine sk_newa (t := 3) (N := 6) d_S_init_7 sw_124 (Or.inr (Or.inr ⟨rfl, rfl⟩)) (by decide) (by decide) (by decide) rfl (by decide) (fun j => rfl) (fun j => rfl) (by decide) ?_
  refine q_putR d_S_init_9 fp_S_9 rfl (Or.inr rfl) (fun _ => rfl) (fun _ => rfl) ?_
  refine sk_aload_n (j := 0) d_S_init_12 rfl rfl ?_
  refine sk_bipush (v := 6) d_S_init_13 (by decide) ?_
  refine sk_newa (t := 3) (N := 6) d_S_init_15 sw_124 (Or.inr (Or.inr ⟨rfl, rfl⟩)) (by decide) (by decide) (by decide) rfl (by decide) (fun j => rfl) (fun j => rfl) (by decide) ?_
  refine q_putR d_S_init_17 fp_S_15 rfl (Or.inr rfl) (fun _ => rfl) (fun _ => rfl) ?_
  refine sk_aload_n (j := 0) d_S_init_20 rfl rfl ?_
  refine sk_bipush (v := 26) d_S_init_21 (by decide) ?_
  refine sk_newa (t := 3) (N := 26) d_S_init_23 sw_124 (Or.inr (Or.inr ⟨rfl, rfl⟩)) (by decide) (by decide) (by decide) rfl (by decide) (fun j => rfl) (fun j => rfl) (by decide) ?_
  refine q_putR d_S_init_25 fp_S_18 rfl (Or.inr rfl) (fun _ => rfl) (fun _ => rfl) ?_
  refine sk_aload_n (j := 0) d_S_init_28 rfl rfl ?_
  refine sk_bipush (v := 26) d_S_init_29 (by decide) ?_
  refine sk_newa (t := 3) (N := 26) d_S_init_31 sw_124 (Or.inr (Or.inr ⟨rfl, rfl⟩)) (by decide) (by decide) (by decide) rfl (by decide) (fun j => rfl) (fun j => rfl) (by decide) ?_
  refine q_putR d_S_init_33 fp_S_21 rfl (Or.inr rfl) (fun _ => rfl) (fun _ => rfl) ?_
  refine sk_aload_n (j := 0) d_S_init_36 rfl rfl ?_
  refine sk_iconst (v := (-1)) d_S_init_37 (by decide) ?_
  refine q_putI d_S_init_38 fp_S_24 rfl (Or.inl rfl) ?_
  refine sk_aload_n (j := 0) d_S_init_41 rfl rfl ?_
  refine sk_lconst (v := 0) d_S_init_42 (by decide) ?_
  refine q_putJ d_S_init_43 fp_S_28 rfl (Or.inl rfl) ?_
  rw [sk_jz 11 6]
  refine sk_aload_n (j := 0) d_S_init_46 rfl rfl ?_
  refine sk_aload_n (j := 1) d_S_init_47 rfl rfl ?_
  refine q_putR d_S_init_48 fp_S_32 rfl (Or.inr rfl) (fun _ => rfl) (fun _ => rfl) ?_
  exact sk_vreturn d_S_init_51 rfl (by decide) (by decide) ⟨rfl, rfl, rfl, rfl⟩
set_option maxRecDepth 100000 in
theorem k_S_init_20 {Γ : sk_T} : sk_S Γ m_S_init 4 64 [.ref 20, .ref 1] (true, [(0, 0, 6), (0, 1, 15), (1, 26, 0), (1, 26, 0), (2, 26, 0), (1, 27, 0), (1, 78, 0), (1, 78, 0), (1, 12, 0), (1, 26, 0), (1, 6, 0), (0, 2, 7), (3, 6, 0), (3, 6, 0), (3, 26, 0), (3, 26, 0), (0, 3, 5), (3, 2508, 0), (3, 209, 0), (1, 209, 0), (0, 2, 7)], sk_r27) sk_i21 sk_j0 (fun r g' I' J' => r = .inl none ∧ g' = (true, [(0, 0, 6), (0, 1, 15), (1, 26, 0), (1, 26, 0), (2, 26, 0), (1, 27, 0), (1, 78, 0), (1, 78, 0), (1, 12, 0), (1, 26, 0), (1, 6, 0), (0, 2, 7), (3, 6, 0), (3, 6, 0), (3, 26, 0), (3, 26, 0), (0, 3, 5), (3, 2508, 0), (3, 209, 0), (1, 209, 0), (0, 2, 7), (3, 6, 0), (3, 6, 0), (3, 26, 0), (3, 26, 0)], sk_r33) ∧ I' = sk_i32 ∧ J' = sk_j0) := by
  refine sk_spec (by decide) rfl (by exact Nat.le_of_ble_eq_true rfl) ?_
  show sk_W Γ m_S_init 4 64 0 [(0, .ref 20), (1, .ref 1)] [] (true, [(0, 0, 6), (0, 1, 15), (1, 26, 0), (1, 26, 0), (2, 26, 0), (1, 27, 0), (1, 78, 0), (1, 78, 0), (1, 12, 0), (1, 26, 0), (1, 6, 0), (0, 2, 7), (3, 6, 0), (3, 6, 0), (3, 26, 0), (3, 26, 0), (0, 3, 5), (3, 2508, 0), (3, 209, 0), (1, 209, 0), (0, 2, 7)], sk_r27) sk_i21 sk_j0 0 0 _
  refine sk_aload_n (j := 0) d_S_init_0 rfl rfl ?_
  refine sk_objInit d_S_init_1 sw_101 sw_21 sw_22 (by decide) (by decide) (Nat.le_of_ble_eq_true rfl) ?_
  refine sk_aload_n (j := 0) d_S_init_4 rfl rfl ?_
  refine sk_bipush (v := 6) d_S_init_5 (by decide) ?_
  refine sk_newa (t := 3) (N := 6) d_S_init_7 sw_124 (Or.inr (Or.inr ⟨rfl, rfl⟩)) (by decide) (by decide) (by decide) rfl (by decide) (fun j => rfl) (fun j => rfl) (by decide) ?_
  refine q_putR d_S_init_9 fp_S_9 rfl (Or.inr rfl) (fun _ => rfl) (fun _ => rfl) ?_
  refine sk_aload_n (j := 0) d_S_init_12 rfl rfl ?_
  refine sk_bipush (v := 6) d_S_init_13 (by decide) ?_
  refine sk_newa (t := 3) (N := 6) d_S_init_15 sw_124 (Or.inr (Or.inr ⟨rfl, rfl⟩)) (by decide) (by decide) (by decide) rfl (by decide) (fun j => rfl) (fun j => rfl) (by decide) ?_
  refine q_putR d_S_init_17 fp_S_15 rfl (Or.inr rfl) (fun _ => rfl) (fun _ => rfl) ?_
  refine sk_aload_n (j := 0) d_S_init_20 rfl rfl ?_
  refine sk_bipush (v := 26) d_S_init_21 (by decide) ?_
  refine sk_newa (t := 3) (N := 26) d_S_init_23 sw_124 (Or.inr (Or.inr ⟨rfl, rfl⟩)) (by decide) (by decide) (by decide) rfl (by decide) (fun j => rfl) (fun j => rfl) (by decide) ?_
  refine q_putR d_S_init_25 fp_S_18 rfl (Or.inr rfl) (fun _ => rfl) (fun _ => rfl) ?_
  refine sk_aload_n (j := 0) d_S_init_28 rfl rfl ?_
  refine sk_bipush (v := 26) d_S_init_29 (by decide) ?_
  refine sk_newa (t := 3) (N := 26) d_S_init_31 sw_124 (Or.inr (Or.inr ⟨rfl, rfl⟩)) (by decide) (by decide) (by decide) rfl (by decide) (fun j => rfl) (fun j => rfl) (by decide) ?_
  refine q_putR d_S_init_33 fp_S_21 rfl (Or.inr rfl) (fun _ => rfl) (fun _ => rfl) ?_
  refine sk_aload_n (j := 0) d_S_init_36 rfl rfl ?_
  refine sk_iconst (v := (-1)) d_S_init_37 (by decide) ?_
  refine q_putI d_S_init_38 fp_S_24 rfl (Or.inl rfl) ?_
  refine sk_aload_n (j := 0) d_S_init_41 rfl rfl ?_
  refine sk_lconst (v := 0) d_S_init_42 (by decide) ?_
  refine q_putJ d_S_init_43 fp_S_28 rfl (Or.inl rfl) ?_
  rw [sk_jz 20 6]
  refine sk_aload_n (j := 0) d_S_init_46 rfl rfl ?_
  refine sk_aload_n (j := 1) d_S_init_47 rfl rfl ?_
  refine q_putR d_S_init_48 fp_S_32 rfl (Or.inr rfl) (fun _ => rfl) (fun _ => rfl) ?_
  exact sk_vreturn d_S_init_51 rfl (by decide) (by decide) ⟨rfl, rfl, rfl, rfl⟩
set_option maxRecDepth 100000 in
theorem k_R_init_16 {Γ : sk_T} : sk_S Γ m_R_init 8 2997 [.ref 16, .ref 1] (true, [(0, 0, 6), (0, 1, 15), (1, 26, 0), (1, 26, 0), (2, 26, 0), (1, 27, 0), (1, 78, 0), (1, 78, 0), (1, 12, 0), (1, 26, 0), (1, 6, 0), (0, 2, 7), (3, 6, 0), (3, 6, 0), (3, 26, 0), (3, 26, 0), (0, 3, 5)], sk_r23) sk_i21 sk_j0 (fun r g' I' J' => r = .inl none ∧ g' = (true, [(0, 0, 6), (0, 1, 15), (1, 26, 0), (1, 26, 0), (2, 26, 0), (1, 27, 0), (1, 78, 0), (1, 78, 0), (1, 12, 0), (1, 26, 0), (1, 6, 0), (0, 2, 7), (3, 6, 0), (3, 6, 0), (3, 26, 0), (3, 26, 0), (0, 3, 5), (3, 2508, 0), (3, 209, 0), (1, 209, 0), (0, 2, 7), (3, 6, 0), (3, 6, 0), (3, 26, 0), (3, 26, 0)], sk_r34) ∧ I' = sk_i32 ∧ J' = sk_j0) := by
  refine sk_spec (by decide) rfl (by exact Nat.le_of_ble_eq_true rfl) ?_
  show sk_W Γ m_R_init 8 2997 0 [(0, .ref 16), (1, .ref 1)] [] (true, [(0, 0, 6), (0, 1, 15), (1, 26, 0), (1, 26, 0), (2, 26, 0), (1, 27, 0), (1, 78, 0), (1, 78, 0), (1, 12, 0), (1, 26, 0), (1, 6, 0), (0, 2, 7), (3, 6, 0), (3, 6, 0), (3, 26, 0), (3, 26, 0), (0, 3, 5)], sk_r23) sk_i21 sk_j0 0 0 _
  refine sk_aload_n (j := 0) d_R_init_0 rfl rfl ?_
  refine sk_objInit d_R_init_1 sw_130 sw_21 sw_22 (by decide) (by decide) (Nat.le_of_ble_eq_true rfl) ?_
  refine sk_aload_n (j := 0) d_R_init_4 rfl rfl ?_
  refine sk_sipush (v := 2508) d_R_init_5 (by decide) ?_
  refine sk_newa (t := 3) (N := 2508) d_R_init_8 sw_124 (Or.inr (Or.inr ⟨rfl, rfl⟩)) (by decide) (by decide) (by decide) rfl (by decide) (fun j => rfl) (fun j => rfl) (by decide) ?_
  refine q_putR d_R_init_10 fp_R_9 rfl (Or.inr rfl) (fun _ => rfl) (fun _ => rfl) ?_
  refine sk_aload_n (j := 0) d_R_init_13 rfl rfl ?_
  refine sk_sipush (v := 209) d_R_init_14 (by decide) ?_
  refine sk_newa (t := 3) (N := 209) d_R_init_17 sw_124 (Or.inr (Or.inr ⟨rfl, rfl⟩)) (by decide) (by decide) (by decide) rfl (by decide) (fun j => rfl) (fun j => rfl) (by decide) ?_
  refine q_putR d_R_init_19 fp_R_15 rfl (Or.inr rfl) (fun _ => rfl) (fun _ => rfl) ?_
  refine sk_aload_n (j := 0) d_R_init_22 rfl rfl ?_
  refine sk_sipush (v := 209) d_R_init_23 (by decide) ?_
  refine sk_newa (t := 1) (N := 209) d_R_init_26 sw_94 (Or.inl ⟨rfl, rfl⟩) (by decide) (by decide) (by decide) rfl (by decide) (fun j => rfl) (fun j => rfl) (by decide) ?_
  refine q_putR d_R_init_28 fp_R_18 rfl (Or.inr rfl) (fun _ => rfl) (fun _ => rfl) ?_
  refine sk_aload_n (j := 0) d_R_init_31 rfl rfl ?_
  refine sk_aload_n (j := 1) d_R_init_32 rfl rfl ?_
  refine q_putR d_R_init_33 fp_R_22 rfl (Or.inr rfl) (fun _ => rfl) (fun _ => rfl) ?_
  refine sk_aload_n (j := 0) d_R_init_36 rfl rfl ?_
  refine q_new d_R_init_37 nw_R_26 rfl (by decide) (fun j => rfl) (fun j => rfl) (fun j => rfl) (by decide) ?_
  refine sk_dup d_R_init_40 rfl ?_
  refine sk_aload_n (j := 1) d_R_init_41 rfl rfl ?_
  refine q_callI (S := [.ref 20, .ref 16]) (as := [.ref 1]) d_R_init_42 lk_R_28 rfl ⟨by decide, by decide⟩ (by decide) (Nat.le_of_ble_eq_true rfl) rfl k_S_init_20 (fun r g' I' J' h9 => ?_) (fun E g' I' J' h9 => by cases h9.1)
  obtain ⟨h9, rfl, rfl, rfl⟩ := h9
  cases h9
  refine q_putR d_R_init_45 fp_R_31 rfl (Or.inr rfl) (fun _ => rfl) (fun _ => rfl) ?_
  exact sk_vreturn d_R_init_48 rfl (by decide) (by decide) ⟨rfl, rfl, rfl, rfl⟩
set_option maxRecDepth 100000 in
theorem k_S_init_26 {Γ : sk_T} : sk_S Γ m_S_init 4 64 [.ref 26, .ref 1] (true, [(0, 0, 6), (0, 1, 15), (1, 26, 0), (1, 26, 0), (2, 26, 0), (1, 27, 0), (1, 78, 0), (1, 78, 0), (1, 12, 0), (1, 26, 0), (1, 6, 0), (0, 2, 7), (3, 6, 0), (3, 6, 0), (3, 26, 0), (3, 26, 0), (0, 3, 5), (3, 2508, 0), (3, 209, 0), (1, 209, 0), (0, 2, 7), (3, 6, 0), (3, 6, 0), (3, 26, 0), (3, 26, 0), (0, 4, 3), (0, 2, 7)], sk_r36) sk_i32 sk_j0 (fun r g' I' J' => r = .inl none ∧ g' = (true, [(0, 0, 6), (0, 1, 15), (1, 26, 0), (1, 26, 0), (2, 26, 0), (1, 27, 0), (1, 78, 0), (1, 78, 0), (1, 12, 0), (1, 26, 0), (1, 6, 0), (0, 2, 7), (3, 6, 0), (3, 6, 0), (3, 26, 0), (3, 26, 0), (0, 3, 5), (3, 2508, 0), (3, 209, 0), (1, 209, 0), (0, 2, 7), (3, 6, 0), (3, 6, 0), (3, 26, 0), (3, 26, 0), (0, 4, 3), (0, 2, 7), (3, 6, 0), (3, 6, 0), (3, 26, 0), (3, 26, 0)], sk_r42) ∧ I' = sk_i41 ∧ J' = sk_j0) := by
  refine sk_spec (by decide) rfl (by exact Nat.le_of_ble_eq_true rfl) ?_
  show sk_W Γ m_S_init 4 64 0 [(0, .ref 26), (1, .ref 1)] [] (true, [(0, 0, 6), (0, 1, 15), (1, 26, 0), (1, 26, 0), (2, 26, 0), (1, 27, 0), (1, 78, 0), (1, 78, 0), (1, 12, 0), (1, 26, 0), (1, 6, 0), (0, 2, 7), (3, 6, 0), (3, 6, 0), (3, 26, 0), (3, 26, 0), (0, 3, 5), (3, 2508, 0), (3, 209, 0), (1, 209, 0), (0, 2, 7), (3, 6, 0), (3, 6, 0), (3, 26, 0), (3, 26, 0), (0, 4, 3), (0, 2, 7)], sk_r36) sk_i32 sk_j0 0 0 _
  refine sk_aload_n (j := 0) d_S_init_0 rfl rfl ?_
  refine sk_objInit d_S_init_1 sw_101 sw_21 sw_22 (by decide) (by decide) (Nat.le_of_ble_eq_true rfl) ?_
  refine sk_aload_n (j := 0) d_S_init_4 rfl rfl ?_
  refine sk_bipush (v := 6) d_S_init_5 (by decide) ?_
  refine sk_newa (t := 3) (N := 6) d_S_init_7 sw_124 (Or.inr (Or.inr ⟨rfl, rfl⟩)) (by decide) (by decide) (by decide) rfl (by decide) (fun j => rfl) (fun j => rfl) (by decide) ?_
  refine q_putR d_S_init_9 fp_S_9 rfl (Or.inr rfl) (fun _ => rfl) (fun _ => rfl) ?_
  refine sk_aload_n (j := 0) d_S_init_12 rfl rfl ?_
  refine sk_bipush (v := 6) d_S_init_13 (by decide) ?_
  refine sk_newa (t := 3) (N := 6) d_S_init_15 sw_124 (Or.inr (Or.inr ⟨rfl, rfl⟩)) (by decide) (by decide) (by decide) rfl (by decide) (fun j => rfl) (fun j => rfl) (by decide) ?_
  refine q_putR d_S_init_17 fp_S_15 rfl (Or.inr rfl) (fun _ => rfl) (fun _ => rfl) ?_
  refine sk_aload_n (j := 0) d_S_init_20 rfl rfl ?_
  refine sk_bipush (v := 26) d_S_init_21 (by decide) ?_
  refine sk_newa (t := 3) (N := 26) d_S_init_23 sw_124 (Or.inr (Or.inr ⟨rfl, rfl⟩)) (by decide) (by decide) (by decide) rfl (by decide) (fun j => rfl) (fun j => rfl) (by decide) ?_
  refine q_putR d_S_init_25 fp_S_18 rfl (Or.inr rfl) (fun _ => rfl) (fun _ => rfl) ?_
  refine sk_aload_n (j := 0) d_S_init_28 rfl rfl ?_
  refine sk_bipush (v := 26) d_S_init_29 (by decide) ?_
  refine sk_newa (t := 3) (N := 26) d_S_init_31 sw_124 (Or.inr (Or.inr ⟨rfl, rfl⟩)) (by decide) (by decide) (by decide) rfl (by decide) (fun j => rfl) (fun j => rfl) (by decide) ?_
  refine q_putR d_S_init_33 fp_S_21 rfl (Or.inr rfl) (fun _ => rfl) (fun _ => rfl) ?_
  refine sk_aload_n (j := 0) d_S_init_36 rfl rfl ?_
  refine sk_iconst (v := (-1)) d_S_init_37 (by decide) ?_
  refine q_putI d_S_init_38 fp_S_24 rfl (Or.inl rfl) ?_
  refine sk_aload_n (j := 0) d_S_init_41 rfl rfl ?_
  refine sk_lconst (v := 0) d_S_init_42 (by decide) ?_
  refine q_putJ d_S_init_43 fp_S_28 rfl (Or.inl rfl) ?_
  rw [sk_jz 26 6]
  refine sk_aload_n (j := 0) d_S_init_46 rfl rfl ?_
  refine sk_aload_n (j := 1) d_S_init_47 rfl rfl ?_
  refine q_putR d_S_init_48 fp_S_32 rfl (Or.inr rfl) (fun _ => rfl) (fun _ => rfl) ?_
  exact sk_vreturn d_S_init_51 rfl (by decide) (by decide) ⟨rfl, rfl, rfl, rfl⟩
set_option maxRecDepth 100000 in
theorem k_S_init_31 {Γ : sk_T} : sk_S Γ m_S_init 4 64 [.ref 31, .ref 1] (true, [(0, 0, 6), (0, 1, 15), (1, 26, 0), (1, 26, 0), (2, 26, 0), (1, 27, 0), (1, 78, 0), (1, 78, 0), (1, 12, 0), (1, 26, 0), (1, 6, 0), (0, 2, 7), (3, 6, 0), (3, 6, 0), (3, 26, 0), (3, 26, 0), (0, 3, 5), (3, 2508, 0), (3, 209, 0), (1, 209, 0), (0, 2, 7), (3, 6, 0), (3, 6, 0), (3, 26, 0), (3, 26, 0), (0, 4, 3), (0, 2, 7), (3, 6, 0), (3, 6, 0), (3, 26, 0), (3, 26, 0), (0, 2, 7)], sk_r43) sk_i41 sk_j0 (fun r g' I' J' => r = .inl none ∧ g' = (true, [(0, 0, 6), (0, 1, 15), (1, 26, 0), (1, 26, 0), (2, 26, 0), (1, 27, 0), (1, 78, 0), (1, 78, 0), (1, 12, 0), (1, 26, 0), (1, 6, 0), (0, 2, 7), (3, 6, 0), (3, 6, 0), (3, 26, 0), (3, 26, 0), (0, 3, 5), (3, 2508, 0), (3, 209, 0), (1, 209, 0), (0, 2, 7), (3, 6, 0), (3, 6, 0), (3, 26, 0), (3, 26, 0), (0, 4, 3), (0, 2, 7), (3, 6, 0), (3, 6, 0), (3, 26, 0), (3, 26, 0), (0, 2, 7), (3, 6, 0), (3, 6, 0), (3, 26, 0), (3, 26, 0)], sk_r49) ∧ I' = sk_i48 ∧ J' = sk_j0) := by
  refine sk_spec (by decide) rfl (by exact Nat.le_of_ble_eq_true rfl) ?_
  show sk_W Γ m_S_init 4 64 0 [(0, .ref 31), (1, .ref 1)] [] (true, [(0, 0, 6), (0, 1, 15), (1, 26, 0), (1, 26, 0), (2, 26, 0), (1, 27, 0), (1, 78, 0), (1, 78, 0), (1, 12, 0), (1, 26, 0), (1, 6, 0), (0, 2, 7), (3, 6, 0), (3, 6, 0), (3, 26, 0), (3, 26, 0), (0, 3, 5), (3, 2508, 0), (3, 209, 0), (1, 209, 0), (0, 2, 7), (3, 6, 0), (3, 6, 0), (3, 26, 0), (3, 26, 0), (0, 4, 3), (0, 2, 7), (3, 6, 0), (3, 6, 0), (3, 26, 0), (3, 26, 0), (0, 2, 7)], sk_r43) sk_i41 sk_j0 0 0 _
  refine sk_aload_n (j := 0) d_S_init_0 rfl rfl ?_
  refine sk_objInit d_S_init_1 sw_101 sw_21 sw_22 (by decide) (by decide) (Nat.le_of_ble_eq_true rfl) ?_
  refine sk_aload_n (j := 0) d_S_init_4 rfl rfl ?_
  refine sk_bipush (v := 6) d_S_init_5 (by decide) ?_
  refine sk_newa (t := 3) (N := 6) d_S_init_7 sw_124 (Or.inr (Or.inr ⟨rfl, rfl⟩)) (by decide) (by decide) (by decide) rfl (by decide) (fun j => rfl) (fun j => rfl) (by decide) ?_
  refine q_putR d_S_init_9 fp_S_9 rfl (Or.inr rfl) (fun _ => rfl) (fun _ => rfl) ?_
  refine sk_aload_n (j := 0) d_S_init_12 rfl rfl ?_
  refine sk_bipush (v := 6) d_S_init_13 (by decide) ?_
  refine sk_newa (t := 3) (N := 6) d_S_init_15 sw_124 (Or.inr (Or.inr ⟨rfl, rfl⟩)) (by decide) (by decide) (by decide) rfl (by decide) (fun j => rfl) (fun j => rfl) (by decide) ?_
  refine q_putR d_S_init_17 fp_S_15 rfl (Or.inr rfl) (fun _ => rfl) (fun _ => rfl) ?_
  refine sk_aload_n (j := 0) d_S_init_20 rfl rfl ?_
  refine sk_bipush (v := 26) d_S_init_21 (by decide) ?_
  refine sk_newa (t := 3) (N := 26) d_S_init_23 sw_124 (Or.inr (Or.inr ⟨rfl, rfl⟩)) (by decide) (by decide) (by decide) rfl (by decide) (fun j => rfl) (fun j => rfl) (by decide) ?_
  refine q_putR d_S_init_25 fp_S_18 rfl (Or.inr rfl) (fun _ => rfl) (fun _ => rfl) ?_
  refine sk_aload_n (j := 0) d_S_init_28 rfl rfl ?_
  refine sk_bipush (v := 26) d_S_init_29 (by decide) ?_
  refine sk_newa (t := 3) (N := 26) d_S_init_31 sw_124 (Or.inr (Or.inr ⟨rfl, rfl⟩)) (by decide) (by decide) (by decide) rfl (by decide) (fun j => rfl) (fun j => rfl) (by decide) ?_
  refine q_putR d_S_init_33 fp_S_21 rfl (Or.inr rfl) (fun _ => rfl) (fun _ => rfl) ?_
  refine sk_aload_n (j := 0) d_S_init_36 rfl rfl ?_
  refine sk_iconst (v := (-1)) d_S_init_37 (by decide) ?_
  refine q_putI d_S_init_38 fp_S_24 rfl (Or.inl rfl) ?_
  refine sk_aload_n (j := 0) d_S_init_41 rfl rfl ?_
  refine sk_lconst (v := 0) d_S_init_42 (by decide) ?_
  refine q_putJ d_S_init_43 fp_S_28 rfl (Or.inl rfl) ?_
  rw [sk_jz 31 6]
  refine sk_aload_n (j := 0) d_S_init_46 rfl rfl ?_
  refine sk_aload_n (j := 1) d_S_init_47 rfl rfl ?_
  refine q_putR d_S_init_48 fp_S_32 rfl (Or.inr rfl) (fun _ => rfl) (fun _ => rfl) ?_
  exact sk_vreturn d_S_init_51 rfl (by decide) (by decide) ⟨rfl, rfl, rfl, rfl⟩
set_option maxRecDepth 100000 in
theorem k_U_init_25 {Γ : sk_T} : sk_S Γ m_U_init 10 142 [.ref 25, .ref 1] (true, [(0, 0, 6), (0, 1, 15), (1, 26, 0), (1, 26, 0), (2, 26, 0), (1, 27, 0), (1, 78, 0), (1, 78, 0), (1, 12, 0), (1, 26, 0), (1, 6, 0), (0, 2, 7), (3, 6, 0), (3, 6, 0), (3, 26, 0), (3, 26, 0), (0, 3, 5), (3, 2508, 0), (3, 209, 0), (1, 209, 0), (0, 2, 7), (3, 6, 0), (3, 6, 0), (3, 26, 0), (3, 26, 0), (0, 4, 3)], sk_r35) sk_i32 sk_j0 (fun r g' I' J' => r = .inl none ∧ g' = (true, [(0, 0, 6), (0, 1, 15), (1, 26, 0), (1, 26, 0), (2, 26, 0), (1, 27, 0), (1, 78, 0), (1, 78, 0), (1, 12, 0), (1, 26, 0), (1, 6, 0), (0, 2, 7), (3, 6, 0), (3, 6, 0), (3, 26, 0), (3, 26, 0), (0, 3, 5), (3, 2508, 0), (3, 209, 0), (1, 209, 0), (0, 2, 7), (3, 6, 0), (3, 6, 0), (3, 26, 0), (3, 26, 0), (0, 4, 3), (0, 2, 7), (3, 6, 0), (3, 6, 0), (3, 26, 0), (3, 26, 0), (0, 2, 7), (3, 6, 0), (3, 6, 0), (3, 26, 0), (3, 26, 0)], sk_r50) ∧ I' = sk_i48 ∧ J' = sk_j0) := by
  refine sk_spec (by decide) rfl (by exact Nat.le_of_ble_eq_true rfl) ?_
  show sk_W Γ m_U_init 10 142 0 [(0, .ref 25), (1, .ref 1)] [] (true, [(0, 0, 6), (0, 1, 15), (1, 26, 0), (1, 26, 0), (2, 26, 0), (1, 27, 0), (1, 78, 0), (1, 78, 0), (1, 12, 0), (1, 26, 0), (1, 6, 0), (0, 2, 7), (3, 6, 0), (3, 6, 0), (3, 26, 0), (3, 26, 0), (0, 3, 5), (3, 2508, 0), (3, 209, 0), (1, 209, 0), (0, 2, 7), (3, 6, 0), (3, 6, 0), (3, 26, 0), (3, 26, 0), (0, 4, 3)], sk_r35) sk_i32 sk_j0 0 0 _
  refine sk_aload_n (j := 0) d_U_init_0 rfl rfl ?_
  refine sk_objInit d_U_init_1 sw_154 sw_21 sw_22 (by decide) (by decide) (Nat.le_of_ble_eq_true rfl) ?_
  refine sk_aload_n (j := 0) d_U_init_4 rfl rfl ?_
  refine sk_aload_n (j := 1) d_U_init_5 rfl rfl ?_
  refine q_putR d_U_init_6 fp_U_9 rfl (Or.inr rfl) (fun _ => rfl) (fun _ => rfl) ?_
  refine sk_aload_n (j := 0) d_U_init_9 rfl rfl ?_
  refine q_new d_U_init_10 nw_U_15 rfl (by decide) (fun j => rfl) (fun j => rfl) (fun j => rfl) (by decide) ?_
  refine sk_dup d_U_init_13 rfl ?_
  refine sk_aload_n (j := 1) d_U_init_14 rfl rfl ?_
  refine q_callI (S := [.ref 26, .ref 25]) (as := [.ref 1]) d_U_init_15 lk_U_17 rfl ⟨by decide, by decide⟩ (by decide) (Nat.le_of_ble_eq_true rfl) rfl k_S_init_26 (fun r g' I' J' h9 => ?_) (fun E g' I' J' h9 => by cases h9.1)
  obtain ⟨h9, rfl, rfl, rfl⟩ := h9
  cases h9
  refine q_putR d_U_init_18 fp_U_20 rfl (Or.inr rfl) (fun _ => rfl) (fun _ => rfl) ?_
  refine sk_aload_n (j := 0) d_U_init_21 rfl rfl ?_
  refine q_new d_U_init_22 nw_U_15 rfl (by decide) (fun j => rfl) (fun j => rfl) (fun j => rfl) (by decide) ?_
  refine sk_dup d_U_init_25 rfl ?_
  refine sk_aload_n (j := 1) d_U_init_26 rfl rfl ?_
  refine q_callI (S := [.ref 31, .ref 25]) (as := [.ref 1]) d_U_init_27 lk_U_17 rfl ⟨by decide, by decide⟩ (by decide) (Nat.le_of_ble_eq_true rfl) rfl k_S_init_31 (fun r g' I' J' h9 => ?_) (fun E g' I' J' h9 => by cases h9.1)
  obtain ⟨h9, rfl, rfl, rfl⟩ := h9
  cases h9
  refine q_putR d_U_init_30 fp_U_24 rfl (Or.inr rfl) (fun _ => rfl) (fun _ => rfl) ?_
  exact sk_vreturn d_U_init_33 rfl (by decide) (by decide) ⟨rfl, rfl, rfl, rfl⟩
set_option maxRecDepth 100000 in
theorem k_P_init_36 {Γ : sk_T} : sk_S Γ m_P_init 1 64 [.ref 36, .ref 1, .ref 16] (true, [(0, 0, 6), (0, 1, 15), (1, 26, 0), (1, 26, 0), (2, 26, 0), (1, 27, 0), (1, 78, 0), (1, 78, 0), (1, 12, 0), (1, 26, 0), (1, 6, 0), (0, 2, 7), (3, 6, 0), (3, 6, 0), (3, 26, 0), (3, 26, 0), (0, 3, 5), (3, 2508, 0), (3, 209, 0), (1, 209, 0), (0, 2, 7), (3, 6, 0), (3, 6, 0), (3, 26, 0), (3, 26, 0), (0, 4, 3), (0, 2, 7), (3, 6, 0), (3, 6, 0), (3, 26, 0), (3, 26, 0), (0, 2, 7), (3, 6, 0), (3, 6, 0), (3, 26, 0), (3, 26, 0), (0, 5, 6)], sk_r51) sk_i48 sk_j0 (fun r g' I' J' => r = .inl none ∧ g' = (true, [(0, 0, 6), (0, 1, 15), (1, 26, 0), (1, 26, 0), (2, 26, 0), (1, 27, 0), (1, 78, 0), (1, 78, 0), (1, 12, 0), (1, 26, 0), (1, 6, 0), (0, 2, 7), (3, 6, 0), (3, 6, 0), (3, 26, 0), (3, 26, 0), (0, 3, 5), (3, 2508, 0), (3, 209, 0), (1, 209, 0), (0, 2, 7), (3, 6, 0), (3, 6, 0), (3, 26, 0), (3, 26, 0), (0, 4, 3), (0, 2, 7), (3, 6, 0), (3, 6, 0), (3, 26, 0), (3, 26, 0), (0, 2, 7), (3, 6, 0), (3, 6, 0), (3, 26, 0), (3, 26, 0), (0, 5, 6), (1, 64, 0)], sk_r56) ∧ I' = sk_i54 ∧ J' = sk_j0) := by
  refine sk_spec (by decide) rfl (by exact Nat.le_of_ble_eq_true rfl) ?_
  show sk_W Γ m_P_init 1 64 0 [(0, .ref 36), (1, .ref 1), (2, .ref 16)] [] (true, [(0, 0, 6), (0, 1, 15), (1, 26, 0), (1, 26, 0), (2, 26, 0), (1, 27, 0), (1, 78, 0), (1, 78, 0), (1, 12, 0), (1, 26, 0), (1, 6, 0), (0, 2, 7), (3, 6, 0), (3, 6, 0), (3, 26, 0), (3, 26, 0), (0, 3, 5), (3, 2508, 0), (3, 209, 0), (1, 209, 0), (0, 2, 7), (3, 6, 0), (3, 6, 0), (3, 26, 0), (3, 26, 0), (0, 4, 3), (0, 2, 7), (3, 6, 0), (3, 6, 0), (3, 26, 0), (3, 26, 0), (0, 2, 7), (3, 6, 0), (3, 6, 0), (3, 26, 0), (3, 26, 0), (0, 5, 6)], sk_r51) sk_i48 sk_j0 0 0 _
  refine sk_aload_n (j := 0) d_P_init_0 rfl rfl ?_
  refine sk_objInit d_P_init_1 sw_172 sw_21 sw_22 (by decide) (by decide) (Nat.le_of_ble_eq_true rfl) ?_
  refine sk_aload_n (j := 0) d_P_init_4 rfl rfl ?_
  refine sk_bipush (v := 64) d_P_init_5 (by decide) ?_
  refine sk_newa (t := 1) (N := 64) d_P_init_7 sw_94 (Or.inl ⟨rfl, rfl⟩) (by decide) (by decide) (by decide) rfl (by decide) (fun j => rfl) (fun j => rfl) (by decide) ?_
  refine q_putR d_P_init_9 fp_P_9 rfl (Or.inr rfl) (fun _ => rfl) (fun _ => rfl) ?_
  refine sk_aload_n (j := 0) d_P_init_12 rfl rfl ?_
  refine sk_iconst (v := 0) d_P_init_13 (by decide) ?_
  refine q_putI d_P_init_14 fp_P_15 rfl (Or.inl rfl) ?_
  refine sk_aload_n (j := 0) d_P_init_17 rfl rfl ?_
  refine sk_lconst (v := 0) d_P_init_18 (by decide) ?_
  refine q_putJ d_P_init_19 fp_P_19 rfl (Or.inl rfl) ?_
  rw [sk_jz 36 4]
  refine sk_aload_n (j := 0) d_P_init_22 rfl rfl ?_
  refine sk_iconst (v := 0) d_P_init_23 (by decide) ?_
  refine q_putI d_P_init_24 fp_P_23 rfl (Or.inl rfl) ?_
  refine sk_aload_n (j := 0) d_P_init_27 rfl rfl ?_
  refine sk_aload_n (j := 1) d_P_init_28 rfl rfl ?_
  refine q_putR d_P_init_29 fp_P_26 rfl (Or.inr rfl) (fun _ => rfl) (fun _ => rfl) ?_
  refine sk_aload_n (j := 0) d_P_init_32 rfl rfl ?_
  refine sk_aload_n (j := 2) d_P_init_33 rfl rfl ?_
  refine q_putR d_P_init_34 fp_P_30 rfl (Or.inr rfl) (fun _ => rfl) (fun _ => rfl) ?_
  exact sk_vreturn d_P_init_37 rfl (by decide) (by decide) ⟨rfl, rfl, rfl, rfl⟩
set_option maxRecDepth 100000 in
theorem k_G_init_38 {Γ : sk_T} : sk_S Γ m_G_init 2 32 [.ref 38, .ref 16] (true, [(0, 0, 6), (0, 1, 15), (1, 26, 0), (1, 26, 0), (2, 26, 0), (1, 27, 0), (1, 78, 0), (1, 78, 0), (1, 12, 0), (1, 26, 0), (1, 6, 0), (0, 2, 7), (3, 6, 0), (3, 6, 0), (3, 26, 0), (3, 26, 0), (0, 3, 5), (3, 2508, 0), (3, 209, 0), (1, 209, 0), (0, 2, 7), (3, 6, 0), (3, 6, 0), (3, 26, 0), (3, 26, 0), (0, 4, 3), (0, 2, 7), (3, 6, 0), (3, 6, 0), (3, 26, 0), (3, 26, 0), (0, 2, 7), (3, 6, 0), (3, 6, 0), (3, 26, 0), (3, 26, 0), (0, 5, 6), (1, 64, 0), (0, 6, 4)], sk_r57) sk_i54 sk_j0 (fun r g' I' J' => r = .inl none ∧ g' = (true, [(0, 0, 6), (0, 1, 15), (1, 26, 0), (1, 26, 0), (2, 26, 0), (1, 27, 0), (1, 78, 0), (1, 78, 0), (1, 12, 0), (1, 26, 0), (1, 6, 0), (0, 2, 7), (3, 6, 0), (3, 6, 0), (3, 26, 0), (3, 26, 0), (0, 3, 5), (3, 2508, 0), (3, 209, 0), (1, 209, 0), (0, 2, 7), (3, 6, 0), (3, 6, 0), (3, 26, 0), (3, 26, 0), (0, 4, 3), (0, 2, 7), (3, 6, 0), (3, 6, 0), (3, 26, 0), (3, 26, 0), (0, 2, 7), (3, 6, 0), (3, 6, 0), (3, 26, 0), (3, 26, 0), (0, 5, 6), (1, 64, 0), (0, 6, 4), (1, 16, 0), (1, 16, 0)], sk_r61) ∧ I' = sk_i60 ∧ J' = sk_j0) := by
  refine sk_spec (by decide) rfl (by exact Nat.le_of_ble_eq_true rfl) ?_
  show sk_W Γ m_G_init 2 32 0 [(0, .ref 38), (1, .ref 16)] [] (true, [(0, 0, 6), (0, 1, 15), (1, 26, 0), (1, 26, 0), (2, 26, 0), (1, 27, 0), (1, 78, 0), (1, 78, 0), (1, 12, 0), (1, 26, 0), (1, 6, 0), (0, 2, 7), (3, 6, 0), (3, 6, 0), (3, 26, 0), (3, 26, 0), (0, 3, 5), (3, 2508, 0), (3, 209, 0), (1, 209, 0), (0, 2, 7), (3, 6, 0), (3, 6, 0), (3, 26, 0), (3, 26, 0), (0, 4, 3), (0, 2, 7), (3, 6, 0), (3, 6, 0), (3, 26, 0), (3, 26, 0), (0, 2, 7), (3, 6, 0), (3, 6, 0), (3, 26, 0), (3, 26, 0), (0, 5, 6), (1, 64, 0), (0, 6, 4)], sk_r57) sk_i54 sk_j0 0 0 _
  refine sk_aload_n (j := 0) d_G_init_0 rfl rfl ?_
  refine sk_objInit d_G_init_1 sw_197 sw_21 sw_22 (by decide) (by decide) (Nat.le_of_ble_eq_true rfl) ?_
  refine sk_aload_n (j := 0) d_G_init_4 rfl rfl ?_
  refine sk_bipush (v := 16) d_G_init_5 (by decide) ?_
  refine sk_newa (t := 1) (N := 16) d_G_init_7 sw_94 (Or.inl ⟨rfl, rfl⟩) (by decide) (by decide) (by decide) rfl (by decide) (fun j => rfl) (fun j => rfl) (by decide) ?_
  refine q_putR d_G_init_9 fp_G_9 rfl (Or.inr rfl) (fun _ => rfl) (fun _ => rfl) ?_
  refine sk_aload_n (j := 0) d_G_init_12 rfl rfl ?_
  refine sk_bipush (v := 16) d_G_init_13 (by decide) ?_
  refine sk_newa (t := 1) (N := 16) d_G_init_15 sw_94 (Or.inl ⟨rfl, rfl⟩) (by decide) (by decide) (by decide) rfl (by decide) (fun j => rfl) (fun j => rfl) (by decide) ?_
  refine q_putR d_G_init_17 fp_G_15 rfl (Or.inr rfl) (fun _ => rfl) (fun _ => rfl) ?_
  refine sk_aload_n (j := 0) d_G_init_20 rfl rfl ?_
  refine sk_iconst (v := 0) d_G_init_21 (by decide) ?_
  refine q_putI d_G_init_22 fp_G_18 rfl (Or.inl rfl) ?_
  refine sk_aload_n (j := 0) d_G_init_25 rfl rfl ?_
  refine sk_aload_n (j := 1) d_G_init_26 rfl rfl ?_
  refine q_putR d_G_init_27 fp_G_22 rfl (Or.inr rfl) (fun _ => rfl) (fun _ => rfl) ?_
  exact sk_vreturn d_G_init_30 rfl (by decide) (by decide) ⟨rfl, rfl, rfl, rfl⟩
set_option maxRecDepth 100000 in
theorem k_X_init_0 {Γ : sk_T} : sk_S Γ m_X_init 40 3644 [.ref 0] (true, [(0, 0, 6)], sk_r0) sk_i0 sk_j0 (fun r g' I' J' => r = .inl none ∧ g' = (true, [(0, 0, 6), (0, 1, 15), (1, 26, 0), (1, 26, 0), (2, 26, 0), (1, 27, 0), (1, 78, 0), (1, 78, 0), (1, 12, 0), (1, 26, 0), (1, 6, 0), (0, 2, 7), (3, 6, 0), (3, 6, 0), (3, 26, 0), (3, 26, 0), (0, 3, 5), (3, 2508, 0), (3, 209, 0), (1, 209, 0), (0, 2, 7), (3, 6, 0), (3, 6, 0), (3, 26, 0), (3, 26, 0), (0, 4, 3), (0, 2, 7), (3, 6, 0), (3, 6, 0), (3, 26, 0), (3, 26, 0), (0, 2, 7), (3, 6, 0), (3, 6, 0), (3, 26, 0), (3, 26, 0), (0, 5, 6), (1, 64, 0), (0, 6, 4), (1, 16, 0), (1, 16, 0)], sk_r62) ∧ I' = sk_i60 ∧ J' = sk_j0) := by
  refine sk_spec (by decide) rfl (by exact Nat.le_of_ble_eq_true rfl) ?_
  show sk_W Γ m_X_init 40 3644 0 [(0, .ref 0)] [] (true, [(0, 0, 6)], sk_r0) sk_i0 sk_j0 0 0 _
  refine sk_aload_n (j := 0) d_X_init_0 rfl rfl ?_
  refine sk_objInit d_X_init_1 sw_20 sw_21 sw_22 (by decide) (by decide) (Nat.le_of_ble_eq_true rfl) ?_
  refine sk_aload_n (j := 0) d_X_init_4 rfl rfl ?_
  refine q_new d_X_init_5 nw_X_9 rfl (by decide) (fun j => rfl) (fun j => rfl) (fun j => rfl) (by decide) ?_
  refine sk_dup d_X_init_8 rfl ?_
  refine q_callI (S := [.ref 1, .ref 0]) (as := []) d_X_init_9 lk_X_11 rfl ⟨by decide, by decide⟩ (by decide) (Nat.le_of_ble_eq_true rfl) rfl k_C_init_1 (fun r g' I' J' h9 => ?_) (fun E g' I' J' h9 => by cases h9.1)
  obtain ⟨h9, rfl, rfl, rfl⟩ := h9
  cases h9
  refine q_putR d_X_init_12 fp_X_12 rfl (Or.inr rfl) (fun _ => rfl) (fun _ => rfl) ?_
  refine sk_aload_n (j := 0) d_X_init_15 rfl rfl ?_
  refine q_new d_X_init_16 nw_X_16 rfl (by decide) (fun j => rfl) (fun j => rfl) (fun j => rfl) (by decide) ?_
  refine sk_dup d_X_init_19 rfl ?_
  refine sk_aload_n (j := 0) d_X_init_20 rfl rfl ?_
  refine q_getR (r := 1) d_X_init_21 fg_X_12 rfl rfl ?_
  refine q_callI (S := [.ref 11, .ref 0]) (as := [.ref 1]) d_X_init_24 lk_X_18 rfl ⟨by decide, by decide⟩ (by decide) (Nat.le_of_ble_eq_true rfl) rfl k_S_init_11 (fun r g' I' J' h9 => ?_) (fun E g' I' J' h9 => by cases h9.1)
  obtain ⟨h9, rfl, rfl, rfl⟩ := h9
  cases h9
  refine q_putR d_X_init_27 fp_X_21 rfl (Or.inr rfl) (fun _ => rfl) (fun _ => rfl) ?_
  refine sk_aload_n (j := 0) d_X_init_30 rfl rfl ?_
  refine q_new d_X_init_31 nw_X_25 rfl (by decide) (fun j => rfl) (fun j => rfl) (fun j => rfl) (by decide) ?_
  refine sk_dup d_X_init_34 rfl ?_
  refine sk_aload_n (j := 0) d_X_init_35 rfl rfl ?_
  refine q_getR (r := 1) d_X_init_36 fg_X_12 rfl rfl ?_
  refine q_callI (S := [.ref 16, .ref 0]) (as := [.ref 1]) d_X_init_39 lk_X_27 rfl ⟨by decide, by decide⟩ (by decide) (Nat.le_of_ble_eq_true rfl) rfl k_R_init_16 (fun r g' I' J' h9 => ?_) (fun E g' I' J' h9 => by cases h9.1)
  obtain ⟨h9, rfl, rfl, rfl⟩ := h9
  cases h9
  refine q_putR d_X_init_42 fp_X_28 rfl (Or.inr rfl) (fun _ => rfl) (fun _ => rfl) ?_
  refine sk_aload_n (j := 0) d_X_init_45 rfl rfl ?_
  refine q_new d_X_init_46 nw_X_32 rfl (by decide) (fun j => rfl) (fun j => rfl) (fun j => rfl) (by decide) ?_
  refine sk_dup d_X_init_49 rfl ?_
  refine sk_aload_n (j := 0) d_X_init_50 rfl rfl ?_
  refine q_getR (r := 1) d_X_init_51 fg_X_12 rfl rfl ?_
  refine q_callI (S := [.ref 25, .ref 0]) (as := [.ref 1]) d_X_init_54 lk_X_34 rfl ⟨by decide, by decide⟩ (by decide) (Nat.le_of_ble_eq_true rfl) rfl k_U_init_25 (fun r g' I' J' h9 => ?_) (fun E g' I' J' h9 => by cases h9.1)
  obtain ⟨h9, rfl, rfl, rfl⟩ := h9
  cases h9
  refine q_putR d_X_init_57 fp_X_35 rfl (Or.inr rfl) (fun _ => rfl) (fun _ => rfl) ?_
  refine sk_aload_n (j := 0) d_X_init_60 rfl rfl ?_
  refine q_new d_X_init_61 nw_X_39 rfl (by decide) (fun j => rfl) (fun j => rfl) (fun j => rfl) (by decide) ?_
  refine sk_dup d_X_init_64 rfl ?_
  refine sk_aload_n (j := 0) d_X_init_65 rfl rfl ?_
  refine q_getR (r := 1) d_X_init_66 fg_X_12 rfl rfl ?_
  refine sk_aload_n (j := 0) d_X_init_69 rfl rfl ?_
  refine q_getR (r := 16) d_X_init_70 fg_X_28 rfl rfl ?_
  refine q_callI (S := [.ref 36, .ref 0]) (as := [.ref 1, .ref 16]) d_X_init_73 lk_X_41 rfl ⟨by decide, by decide⟩ (by decide) (Nat.le_of_ble_eq_true rfl) rfl k_P_init_36 (fun r g' I' J' h9 => ?_) (fun E g' I' J' h9 => by cases h9.1)
  obtain ⟨h9, rfl, rfl, rfl⟩ := h9
  cases h9
  refine q_putR d_X_init_76 fp_X_44 rfl (Or.inr rfl) (fun _ => rfl) (fun _ => rfl) ?_
  refine sk_aload_n (j := 0) d_X_init_79 rfl rfl ?_
  refine q_new d_X_init_80 nw_X_48 rfl (by decide) (fun j => rfl) (fun j => rfl) (fun j => rfl) (by decide) ?_
  refine sk_dup d_X_init_83 rfl ?_
  refine sk_aload_n (j := 0) d_X_init_84 rfl rfl ?_
  refine q_getR (r := 16) d_X_init_85 fg_X_28 rfl rfl ?_
  refine q_callI (S := [.ref 38, .ref 0]) (as := [.ref 16]) d_X_init_88 lk_X_50 rfl ⟨by decide, by decide⟩ (by decide) (Nat.le_of_ble_eq_true rfl) rfl k_G_init_38 (fun r g' I' J' h9 => ?_) (fun E g' I' J' h9 => by cases h9.1)
  obtain ⟨h9, rfl, rfl, rfl⟩ := h9
  cases h9
  refine q_putR d_X_init_91 fp_X_53 rfl (Or.inr rfl) (fun _ => rfl) (fun _ => rfl) ?_
  exact sk_vreturn d_X_init_94 rfl (by decide) (by decide) ⟨rfl, rfl, rfl, rfl⟩
set_option maxRecDepth 100000 in
theorem k_M_init_41 {Γ : sk_T} : sk_S Γ m_M_init 19 13974 [.ref 41] (true, [(0, 0, 6), (0, 1, 15), (1, 26, 0), (1, 26, 0), (2, 26, 0), (1, 27, 0), (1, 78, 0), (1, 78, 0), (1, 12, 0), (1, 26, 0), (1, 6, 0), (0, 2, 7), (3, 6, 0), (3, 6, 0), (3, 26, 0), (3, 26, 0), (0, 3, 5), (3, 2508, 0), (3, 209, 0), (1, 209, 0), (0, 2, 7), (3, 6, 0), (3, 6, 0), (3, 26, 0), (3, 26, 0), (0, 4, 3), (0, 2, 7), (3, 6, 0), (3, 6, 0), (3, 26, 0), (3, 26, 0), (0, 2, 7), (3, 6, 0), (3, 6, 0), (3, 26, 0), (3, 26, 0), (0, 5, 6), (1, 64, 0), (0, 6, 4), (1, 16, 0), (1, 16, 0), (0, 7, 29)], sk_r62) sk_i60 sk_j0 (fun r g' I' J' => r = .inl none ∧ g' = (true, [(0, 0, 6), (0, 1, 15), (1, 26, 0), (1, 26, 0), (2, 26, 0), (1, 27, 0), (1, 78, 0), (1, 78, 0), (1, 12, 0), (1, 26, 0), (1, 6, 0), (0, 2, 7), (3, 6, 0), (3, 6, 0), (3, 26, 0), (3, 26, 0), (0, 3, 5), (3, 2508, 0), (3, 209, 0), (1, 209, 0), (0, 2, 7), (3, 6, 0), (3, 6, 0), (3, 26, 0), (3, 26, 0), (0, 4, 3), (0, 2, 7), (3, 6, 0), (3, 6, 0), (3, 26, 0), (3, 26, 0), (0, 2, 7), (3, 6, 0), (3, 6, 0), (3, 26, 0), (3, 26, 0), (0, 5, 6), (1, 64, 0), (0, 6, 4), (1, 16, 0), (1, 16, 0), (0, 7, 29), (1, 26, 0), (1, 26, 0), (1, 78, 0), (1, 26, 0), (1, 6, 0), (2, 6, 0), (1, 6, 0), (1, 6, 0), (1, 12, 0), (1, 104, 0), (1, 104, 0), (1, 26, 0), (1, 12, 0), (1, 13312, 0), (1, 64, 0), (1, 64, 0), (2, 64, 0), (1, 16, 0), (1, 16, 0)], sk_r81) ∧ I' = sk_i60 ∧ J' = sk_j0) := by
  refine sk_spec (by decide) rfl (by exact Nat.le_of_ble_eq_true rfl) ?_
  show sk_W Γ m_M_init 19 13974 0 [(0, .ref 41)] [] (true, [(0, 0, 6), (0, 1, 15), (1, 26, 0), (1, 26, 0), (2, 26, 0), (1, 27, 0), (1, 78, 0), (1, 78, 0), (1, 12, 0), (1, 26, 0), (1, 6, 0), (0, 2, 7), (3, 6, 0), (3, 6, 0), (3, 26, 0), (3, 26, 0), (0, 3, 5), (3, 2508, 0), (3, 209, 0), (1, 209, 0), (0, 2, 7), (3, 6, 0), (3, 6, 0), (3, 26, 0), (3, 26, 0), (0, 4, 3), (0, 2, 7), (3, 6, 0), (3, 6, 0), (3, 26, 0), (3, 26, 0), (0, 2, 7), (3, 6, 0), (3, 6, 0), (3, 26, 0), (3, 26, 0), (0, 5, 6), (1, 64, 0), (0, 6, 4), (1, 16, 0), (1, 16, 0), (0, 7, 29)], sk_r62) sk_i60 sk_j0 0 0 _
  refine sk_aload_n (j := 0) d_M_init_0 rfl rfl ?_
  refine sk_objInit d_M_init_1 sw_683 sw_21 sw_22 (by decide) (by decide) (Nat.le_of_ble_eq_true rfl) ?_
  refine sk_aload_n (j := 0) d_M_init_4 rfl rfl ?_
  refine sk_bipush (v := 26) d_M_init_5 (by decide) ?_
  refine sk_newa (t := 1) (N := 26) d_M_init_7 sw_94 (Or.inl ⟨rfl, rfl⟩) (by decide) (by decide) (by decide) rfl (by decide) (fun j => rfl) (fun j => rfl) (by decide) ?_
  refine q_putR d_M_init_9 fp_M_7 rfl (Or.inr rfl) (fun _ => rfl) (fun _ => rfl) ?_
  refine sk_aload_n (j := 0) d_M_init_12 rfl rfl ?_
  refine sk_bipush (v := 26) d_M_init_13 (by decide) ?_
  refine sk_newa (t := 1) (N := 26) d_M_init_15 sw_94 (Or.inl ⟨rfl, rfl⟩) (by decide) (by decide) (by decide) rfl (by decide) (fun j => rfl) (fun j => rfl) (by decide) ?_
  refine q_putR d_M_init_17 fp_M_13 rfl (Or.inr rfl) (fun _ => rfl) (fun _ => rfl) ?_
  refine sk_aload_n (j := 0) d_M_init_20 rfl rfl ?_
  refine sk_bipush (v := 78) d_M_init_21 (by decide) ?_
  refine sk_newa (t := 1) (N := 78) d_M_init_23 sw_94 (Or.inl ⟨rfl, rfl⟩) (by decide) (by decide) (by decide) rfl (by decide) (fun j => rfl) (fun j => rfl) (by decide) ?_
  refine q_putR d_M_init_25 fp_M_16 rfl (Or.inr rfl) (fun _ => rfl) (fun _ => rfl) ?_
  refine sk_aload_n (j := 0) d_M_init_28 rfl rfl ?_
  refine sk_bipush (v := 26) d_M_init_29 (by decide) ?_
  refine sk_newa (t := 1) (N := 26) d_M_init_31 sw_94 (Or.inl ⟨rfl, rfl⟩) (by decide) (by decide) (by decide) rfl (by decide) (fun j => rfl) (fun j => rfl) (by decide) ?_
  refine q_putR d_M_init_33 fp_M_19 rfl (Or.inr rfl) (fun _ => rfl) (fun _ => rfl) ?_
  refine sk_aload_n (j := 0) d_M_init_36 rfl rfl ?_
  refine sk_bipush (v := 6) d_M_init_37 (by decide) ?_
  refine sk_newa (t := 1) (N := 6) d_M_init_39 sw_94 (Or.inl ⟨rfl, rfl⟩) (by decide) (by decide) (by decide) rfl (by decide) (fun j => rfl) (fun j => rfl) (by decide) ?_
  refine q_putR d_M_init_41 fp_M_22 rfl (Or.inr rfl) (fun _ => rfl) (fun _ => rfl) ?_
  refine sk_aload_n (j := 0) d_M_init_44 rfl rfl ?_
  refine sk_bipush (v := 6) d_M_init_45 (by decide) ?_
  refine sk_newa (t := 2) (N := 6) d_M_init_47 sw_95 (Or.inr (Or.inl ⟨rfl, rfl⟩)) (by decide) (by decide) (by decide) rfl (by decide) (fun j => rfl) (fun j => rfl) (by decide) ?_
  refine q_putR d_M_init_49 fp_M_25 rfl (Or.inr rfl) (fun _ => rfl) (fun _ => rfl) ?_
  refine sk_aload_n (j := 0) d_M_init_52 rfl rfl ?_
  refine sk_bipush (v := 6) d_M_init_53 (by decide) ?_
  refine sk_newa (t := 1) (N := 6) d_M_init_55 sw_94 (Or.inl ⟨rfl, rfl⟩) (by decide) (by decide) (by decide) rfl (by decide) (fun j => rfl) (fun j => rfl) (by decide) ?_
  refine q_putR d_M_init_57 fp_M_29 rfl (Or.inr rfl) (fun _ => rfl) (fun _ => rfl) ?_
  refine sk_aload_n (j := 0) d_M_init_60 rfl rfl ?_
  refine sk_bipush (v := 6) d_M_init_61 (by decide) ?_
  refine sk_newa (t := 1) (N := 6) d_M_init_63 sw_94 (Or.inl ⟨rfl, rfl⟩) (by decide) (by decide) (by decide) rfl (by decide) (fun j => rfl) (fun j => rfl) (by decide) ?_
  refine q_putR d_M_init_65 fp_M_32 rfl (Or.inr rfl) (fun _ => rfl) (fun _ => rfl) ?_
  refine sk_aload_n (j := 0) d_M_init_68 rfl rfl ?_
  refine sk_bipush (v := 12) d_M_init_69 (by decide) ?_
  refine sk_newa (t := 1) (N := 12) d_M_init_71 sw_94 (Or.inl ⟨rfl, rfl⟩) (by decide) (by decide) (by decide) rfl (by decide) (fun j => rfl) (fun j => rfl) (by decide) ?_
  refine q_putR d_M_init_73 fp_M_35 rfl (Or.inr rfl) (fun _ => rfl) (fun _ => rfl) ?_
  refine sk_aload_n (j := 0) d_M_init_76 rfl rfl ?_
  refine sk_bipush (v := 104) d_M_init_77 (by decide) ?_
  refine sk_newa (t := 1) (N := 104) d_M_init_79 sw_94 (Or.inl ⟨rfl, rfl⟩) (by decide) (by decide) (by decide) rfl (by decide) (fun j => rfl) (fun j => rfl) (by decide) ?_
  refine q_putR d_M_init_81 fp_M_38 rfl (Or.inr rfl) (fun _ => rfl) (fun _ => rfl) ?_
  refine sk_aload_n (j := 0) d_M_init_84 rfl rfl ?_
  refine sk_bipush (v := 104) d_M_init_85 (by decide) ?_
  refine sk_newa (t := 1) (N := 104) d_M_init_87 sw_94 (Or.inl ⟨rfl, rfl⟩) (by decide) (by decide) (by decide) rfl (by decide) (fun j => rfl) (fun j => rfl) (by decide) ?_
  refine q_putR d_M_init_89 fp_M_41 rfl (Or.inr rfl) (fun _ => rfl) (fun _ => rfl) ?_
  refine sk_aload_n (j := 0) d_M_init_92 rfl rfl ?_
  refine sk_bipush (v := 26) d_M_init_93 (by decide) ?_
  refine sk_newa (t := 1) (N := 26) d_M_init_95 sw_94 (Or.inl ⟨rfl, rfl⟩) (by decide) (by decide) (by decide) rfl (by decide) (fun j => rfl) (fun j => rfl) (by decide) ?_
  refine q_putR d_M_init_97 fp_M_44 rfl (Or.inr rfl) (fun _ => rfl) (fun _ => rfl) ?_
  refine sk_aload_n (j := 0) d_M_init_100 rfl rfl ?_
  refine sk_bipush (v := 12) d_M_init_101 (by decide) ?_
  refine sk_newa (t := 1) (N := 12) d_M_init_103 sw_94 (Or.inl ⟨rfl, rfl⟩) (by decide) (by decide) (by decide) rfl (by decide) (fun j => rfl) (fun j => rfl) (by decide) ?_
  refine q_putR d_M_init_105 fp_M_47 rfl (Or.inr rfl) (fun _ => rfl) (fun _ => rfl) ?_
  refine sk_aload_n (j := 0) d_M_init_108 rfl rfl ?_
  refine sk_sipush (v := 13312) d_M_init_109 (by decide) ?_
  refine sk_newa (t := 1) (N := 13312) d_M_init_112 sw_94 (Or.inl ⟨rfl, rfl⟩) (by decide) (by decide) (by decide) rfl (by decide) (fun j => rfl) (fun j => rfl) (by decide) ?_
  refine q_putR d_M_init_114 fp_M_50 rfl (Or.inr rfl) (fun _ => rfl) (fun _ => rfl) ?_
  refine sk_aload_n (j := 0) d_M_init_117 rfl rfl ?_
  refine sk_bipush (v := 64) d_M_init_118 (by decide) ?_
  refine sk_newa (t := 1) (N := 64) d_M_init_120 sw_94 (Or.inl ⟨rfl, rfl⟩) (by decide) (by decide) (by decide) rfl (by decide) (fun j => rfl) (fun j => rfl) (by decide) ?_
  refine q_putR d_M_init_122 fp_M_53 rfl (Or.inr rfl) (fun _ => rfl) (fun _ => rfl) ?_
  refine sk_aload_n (j := 0) d_M_init_125 rfl rfl ?_
  refine sk_bipush (v := 64) d_M_init_126 (by decide) ?_
  refine sk_newa (t := 1) (N := 64) d_M_init_128 sw_94 (Or.inl ⟨rfl, rfl⟩) (by decide) (by decide) (by decide) rfl (by decide) (fun j => rfl) (fun j => rfl) (by decide) ?_
  refine q_putR d_M_init_130 fp_M_56 rfl (Or.inr rfl) (fun _ => rfl) (fun _ => rfl) ?_
  refine sk_aload_n (j := 0) d_M_init_133 rfl rfl ?_
  refine sk_bipush (v := 64) d_M_init_134 (by decide) ?_
  refine sk_newa (t := 2) (N := 64) d_M_init_136 sw_95 (Or.inr (Or.inl ⟨rfl, rfl⟩)) (by decide) (by decide) (by decide) rfl (by decide) (fun j => rfl) (fun j => rfl) (by decide) ?_
  refine q_putR d_M_init_138 fp_M_59 rfl (Or.inr rfl) (fun _ => rfl) (fun _ => rfl) ?_
  refine sk_aload_n (j := 0) d_M_init_141 rfl rfl ?_
  refine sk_bipush (v := 16) d_M_init_142 (by decide) ?_
  refine sk_newa (t := 1) (N := 16) d_M_init_144 sw_94 (Or.inl ⟨rfl, rfl⟩) (by decide) (by decide) (by decide) rfl (by decide) (fun j => rfl) (fun j => rfl) (by decide) ?_
  refine q_putR d_M_init_146 fp_M_62 rfl (Or.inr rfl) (fun _ => rfl) (fun _ => rfl) ?_
  refine sk_aload_n (j := 0) d_M_init_149 rfl rfl ?_
  refine sk_bipush (v := 16) d_M_init_150 (by decide) ?_
  refine sk_newa (t := 1) (N := 16) d_M_init_152 sw_94 (Or.inl ⟨rfl, rfl⟩) (by decide) (by decide) (by decide) rfl (by decide) (fun j => rfl) (fun j => rfl) (by decide) ?_
  refine q_putR d_M_init_154 fp_M_65 rfl (Or.inr rfl) (fun _ => rfl) (fun _ => rfl) ?_
  exact sk_vreturn d_M_init_157 rfl (by decide) (by decide) ⟨rfl, rfl, rfl, rfl⟩
/-- the graph as the table has it -/
theorem sk_toGG {Γ : sk_T} {M : sk_M} {mc ms pc : Nat} {L : List (Nat × Value)} {S : List Value} {R : sk_R} {I : sk_I} {J : sk_J} {kc kn : Nat} {Q : sk_Q} (hR : ∀ q, q < 62 → ∀ j, j < 29 → R q j = sk_RR q j) (h : sk_W Γ M mc ms pc L S sk_gg I J kc kn Q) : sk_W Γ M mc ms pc L S (true, sk_SH, R) I J kc kn Q := by
  intro p e s m args below meth c H locs ls hC hH hS hl
  refine h p e s m args below meth c H locs ls hC ?_ hS hl
  obtain ⟨h1, h2, h3, h4⟩ := hH
  refine ⟨?_, h2, (fun h => by cases h), h4⟩
  have e : sk_ws Γ (true, sk_SH, R) I J = sk_ws Γ sk_gg I J := by
    apply List.ext_getElem?
    intro q
    show (sk_SH.mapIdx _)[q]? = (sk_SH.mapIdx _)[q]?
    rw [List.getElem?_mapIdx, List.getElem?_mapIdx]
    cases hx : sk_SH[q]? with
    | none => rfl
    | some sp =>
      have hq : q < 62 := (List.getElem?_eq_some_iff.mp hx).1
      have hsp : sp.1 = 0 → sp.2.2 ≤ 29 := by
        have hall : ∀ z ∈ sk_SH, z.1 = 0 → z.2.2 ≤ 29 := by decide
        exact hall sp (List.mem_of_getElem? hx)
      obtain ⟨t, a, b⟩ := sp
      simp only [Option.map_some]
      match t, hsp with
      | 0, hsp =>
        have hb : b ≤ 29 := hsp rfl
        have : (List.range b).map (fun j => sk_fv Γ (sk_kd a j) R I J q j) = (List.range b).map (fun j => sk_fv Γ (sk_kd a j) sk_RR I J q j) := by
          apply List.map_congr_left
          intro j hj
          have hj' := List.mem_range.mp hj
          simp only [sk_fv, hR q hq j (by omega)]
        show some (sk_ad Γ q, Sum.inr (a, (List.range b).map (fun j => sk_fv Γ (sk_kd a j) R I J q j))) = some (sk_ad Γ q, Sum.inr (a, (List.range b).map (fun j => sk_fv Γ (sk_kd a j) sk_RR I J q j)))
        rw [this]
      | 1, _ => rfl
      | 2, _ => rfl
      | (n + 3), _ => rfl
  rw [← e]
  exact h1
abbrev sk_I1 : sk_I := sk_i60
theorem sk_RRok : ∀ q, q < 62 → ∀ j, j < 29 → sk_r81 q j = sk_RR q j := by decide +kernel
set_option maxRecDepth 100000 in
/-- the law up to its loop -/
theorem sk_law_head {Γ : sk_T} {Q : sk_Q} (h : sk_W Γ m_law 1101 25936 20 [(0, .ref sk_scr), (1, .ref 0), (2, .ref 41), (3, .ref 61)] [] sk_gg sk_I1 sk_j0 62 17654 Q) : sk_W Γ m_law 1101 25936 0 [(0, .ref sk_scr)] [] sk_g0 sk_i0 sk_j0 0 0 Q := by
  refine q_new d_law_0 nw_L_8 rfl (by decide) (fun j => rfl) (fun j => rfl) (fun j => rfl) (by decide) ?_
  refine sk_dup d_law_3 rfl ?_
  refine q_callI (S := [.ref 0]) (as := []) d_law_4 lk_L_64 rfl ⟨by decide, by decide⟩ (by decide) (Nat.le_of_ble_eq_true rfl) rfl k_X_init_0 (fun r g' I' J' h9 => ?_) (fun E g' I' J' h9 => by cases h9.1)
  obtain ⟨h9, rfl, rfl, rfl⟩ := h9
  cases h9
  refine sk_astore_n d_law_7 rfl (by decide) rfl ?_
  refine q_new d_law_8 nw_L_65 rfl (by decide) (fun j => rfl) (fun j => rfl) (fun j => rfl) (by decide) ?_
  refine sk_dup d_law_11 rfl ?_
  refine q_callI (S := [.ref 41]) (as := []) d_law_12 lk_L_67 rfl ⟨by decide, by decide⟩ (by decide) (Nat.le_of_ble_eq_true rfl) rfl k_M_init_41 (fun r g' I' J' h9 => ?_) (fun E g' I' J' h9 => by cases h9.1)
  obtain ⟨h9, rfl, rfl, rfl⟩ := h9
  cases h9
  refine sk_astore_n d_law_15 rfl (by decide) rfl ?_
  refine sk_iconst (v := 1) d_law_16 (by decide) ?_
  refine sk_newa (t := 3) (N := 1) d_law_17 sw_124 (Or.inr (Or.inr ⟨rfl, rfl⟩)) (by decide) (by decide) (by decide) rfl (by decide) (fun j => rfl) (fun j => rfl) (by decide) ?_
  refine sk_astore_n d_law_19 rfl (by decide) rfl ?_
  refine sk_loc [3, 2, 1, 0] rfl ?_
  exact sk_toGG sk_RRok h
