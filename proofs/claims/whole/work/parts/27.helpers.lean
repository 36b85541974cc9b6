/-! the law's helpers: printed by wip/whole/gen_law.py -/
theorem t_L_source_ok {Γ : sk_T} {I : sk_I} {J : sk_J} {x1 : Int32} {K : Int32 → sk_I → sk_J → Prop} (h : sk_S Γ m_X_source 0 0 (.ref 0 :: [.int x1]) sk_gg I J (sk_Ki fun v' I' J' => K 0 I' (sk_pj J' 61 0 v'.toInt64))) : sk_S Γ m_L_source 0 0 [.ref 0, .int x1, .ref 61] sk_gg I J (sk_Ki K) := by
  refine sk_spec (by decide) rfl (by exact Nat.le_of_ble_eq_true rfl) ?_
  show sk_W Γ m_L_source 0 0 0 [(0, .ref 0), (1, .int x1), (2, .ref 61)] [] sk_gg I J 0 0 (sk_Ki K)
  refine sk_aload_n (j := 2) d_L_source_0 rfl rfl ?_
  refine sk_iconst (v := 0) d_L_source_1 (by decide) ?_
  refine sk_aload_n (j := 0) d_L_source_2 rfl rfl ?_
  refine sk_iload_n (j := 1) d_L_source_3 rfl rfl ?_
  refine q_callVi (S := [.int 0, .ref 61]) (as := [.int x1]) d_L_source_4 lk_L_7 sh_0 ⟨_, rfl⟩ rfl ⟨by decide, by decide⟩ (Nat.le_of_ble_eq_true rfl) rfl (Nat.le_refl _) (Nat.le_refl _) (sk_Smono h (fun r g I' J' hq => ?_))
  · obtain ⟨v', rfl, rfl, hq⟩ := hq
    refine ⟨v', rfl, rfl, ?_⟩
    refine sk_i2l d_L_source_7 ?_
    refine r_last d_L_source_8 sh_61 (by unfold vp_in; decide) ?_
    refine sk_goto (tgt := 15) d_L_source_9 (by decide) ?_
    refine sk_iconst (v := 0) d_L_source_15 (by decide) ?_
    exact sk_ireturn d_L_source_16 rfl (Nat.le_refl _) (Nat.le_refl _) ⟨_, rfl, rfl, hq⟩
theorem t_L_source_bad {Γ : sk_T} {I : sk_I} {J : sk_J} {x1 : Int32} {K : Int32 → sk_I → sk_J → Prop} (h : sk_S Γ m_X_source 1 6 (.ref 0 :: [.int x1]) sk_gg I J (sk_Kx fun E I' J' => (E = "java/lang/IllegalStateException" ∧ K 1 I' J'))) : sk_S Γ m_L_source 1 6 [.ref 0, .int x1, .ref 61] sk_gg I J (sk_Ki K) := by
  refine sk_spec (by decide) rfl (by exact Nat.le_of_ble_eq_true rfl) ?_
  show sk_W Γ m_L_source 1 6 0 [(0, .ref 0), (1, .int x1), (2, .ref 61)] [] sk_gg I J 0 0 (sk_Ki K)
  refine sk_aload_n (j := 2) d_L_source_0 rfl rfl ?_
  refine sk_iconst (v := 0) d_L_source_1 (by decide) ?_
  refine sk_aload_n (j := 0) d_L_source_2 rfl rfl ?_
  refine sk_iload_n (j := 1) d_L_source_3 rfl rfl ?_
  refine q_callVx (S := [.int 0, .ref 61]) (as := [.int x1]) d_L_source_4 lk_L_7 sh_0 ⟨_, rfl⟩ rfl ⟨by decide, by decide⟩ (Nat.le_of_ble_eq_true rfl) rfl ⟨Nat.le_refl _, Nat.le_refl _⟩ (sk_Smono h (fun r g I' J' hq => ?_))
  · obtain ⟨E, rfl, rfl, hq⟩ := hq
    refine ⟨E, rfl, rfl, ?_⟩
    obtain ⟨rfl, hq⟩ := hq
    · refine sk_xcatch (name := "java/lang/IllegalStateException") (i := 3) [] (0, 9, 12, 13) [] 1 rfl (fun z hz => by cases hz) (by decide) (by decide) sw_358 (by decide +kernel) (Or.inl ⟨3, d_L_source_12, rfl, rfl⟩) (by decide) rfl ?_
      refine sk_iconst (v := 1) d_L_source_13 (by decide) ?_
      exact sk_ireturn d_L_source_14 rfl (Nat.le_refl _) (Nat.le_refl _) ⟨_, rfl, rfl, hq⟩
theorem t_L_gate_ok {Γ : sk_T} {I : sk_I} {J : sk_J} {x1 x2 x3 x4 : Int32} {K : Int32 → sk_I → sk_J → Prop} (h : sk_S Γ m_X_gate 0 0 (.ref 0 :: [.int x1, .int x2, .int x3, .int x4]) sk_gg I J (sk_Ki fun v' I' J' => K 0 I' (sk_pj J' 61 0 v'.toInt64))) : sk_S Γ m_L_gate 0 0 [.ref 0, .int x1, .int x2, .int x3, .int x4, .ref 61] sk_gg I J (sk_Ki K) := by
  refine sk_spec (by decide) rfl (by exact Nat.le_of_ble_eq_true rfl) ?_
  show sk_W Γ m_L_gate 0 0 0 [(0, .ref 0), (1, .int x1), (2, .int x2), (3, .int x3), (4, .int x4), (5, .ref 61)] [] sk_gg I J 0 0 (sk_Ki K)
  refine sk_aload (j := 5) d_L_gate_0 rfl ?_
  refine sk_iconst (v := 0) d_L_gate_2 (by decide) ?_
  refine sk_aload_n (j := 0) d_L_gate_3 rfl rfl ?_
  refine sk_iload_n (j := 1) d_L_gate_4 rfl rfl ?_
  refine sk_iload_n (j := 2) d_L_gate_5 rfl rfl ?_
  refine sk_iload_n (j := 3) d_L_gate_6 rfl rfl ?_
  refine sk_iload (j := 4) d_L_gate_7 rfl ?_
  refine q_callVi (S := [.int 0, .ref 61]) (as := [.int x1, .int x2, .int x3, .int x4]) d_L_gate_9 lk_L_15 sh_0 ⟨_, rfl⟩ rfl ⟨by decide, by decide⟩ (Nat.le_of_ble_eq_true rfl) rfl (Nat.le_refl _) (Nat.le_refl _) (sk_Smono h (fun r g I' J' hq => ?_))
  · obtain ⟨v', rfl, rfl, hq⟩ := hq
    refine ⟨v', rfl, rfl, ?_⟩
    refine sk_i2l d_L_gate_12 ?_
    refine r_last d_L_gate_13 sh_61 (by unfold vp_in; decide) ?_
    refine sk_goto (tgt := 29) d_L_gate_14 (by decide) ?_
    refine sk_iconst (v := 0) d_L_gate_29 (by decide) ?_
    exact sk_ireturn d_L_gate_30 rfl (Nat.le_refl _) (Nat.le_refl _) ⟨_, rfl, rfl, hq⟩
theorem t_L_gate_bad {Γ : sk_T} {I : sk_I} {J : sk_J} {x1 x2 x3 x4 : Int32} {K : Int32 → sk_I → sk_J → Prop} (h : sk_S Γ m_X_gate 1 6 (.ref 0 :: [.int x1, .int x2, .int x3, .int x4]) sk_gg I J (sk_Kx fun E I' J' => (E = "java/lang/IllegalArgumentException" ∧ K 1 I' J') ∨ (E = "java/lang/IndexOutOfBoundsException" ∧ K 2 I' J') ∨ (E = "java/lang/IllegalStateException" ∧ K 3 I' J'))) : sk_S Γ m_L_gate 1 6 [.ref 0, .int x1, .int x2, .int x3, .int x4, .ref 61] sk_gg I J (sk_Ki K) := by
  refine sk_spec (by decide) rfl (by exact Nat.le_of_ble_eq_true rfl) ?_
  show sk_W Γ m_L_gate 1 6 0 [(0, .ref 0), (1, .int x1), (2, .int x2), (3, .int x3), (4, .int x4), (5, .ref 61)] [] sk_gg I J 0 0 (sk_Ki K)
  refine sk_aload (j := 5) d_L_gate_0 rfl ?_
  refine sk_iconst (v := 0) d_L_gate_2 (by decide) ?_
  refine sk_aload_n (j := 0) d_L_gate_3 rfl rfl ?_
  refine sk_iload_n (j := 1) d_L_gate_4 rfl rfl ?_
  refine sk_iload_n (j := 2) d_L_gate_5 rfl rfl ?_
  refine sk_iload_n (j := 3) d_L_gate_6 rfl rfl ?_
  refine sk_iload (j := 4) d_L_gate_7 rfl ?_
  refine q_callVx (S := [.int 0, .ref 61]) (as := [.int x1, .int x2, .int x3, .int x4]) d_L_gate_9 lk_L_15 sh_0 ⟨_, rfl⟩ rfl ⟨by decide, by decide⟩ (Nat.le_of_ble_eq_true rfl) rfl ⟨Nat.le_refl _, Nat.le_refl _⟩ (sk_Smono h (fun r g I' J' hq => ?_))
  · obtain ⟨E, rfl, rfl, hq⟩ := hq
    refine ⟨E, rfl, rfl, ?_⟩
    rcases hq with ⟨rfl, hq⟩ | ⟨rfl, hq⟩ | ⟨rfl, hq⟩
    · refine sk_xcatch (name := "java/lang/IllegalArgumentException") (i := 6) [] (0, 14, 17, 19) [(0, 14, 21, 21), (0, 14, 25, 13)] 2 rfl (fun z hz => by cases hz) (by decide) (by decide) sw_442 (by decide +kernel) (Or.inr ⟨d_L_gate_17, rfl⟩) (by decide) rfl ?_
      refine sk_iconst (v := 1) d_L_gate_19 (by decide) ?_
      exact sk_ireturn d_L_gate_20 rfl (Nat.le_refl _) (Nat.le_refl _) ⟨_, rfl, rfl, hq⟩
    · refine sk_xcatch (name := "java/lang/IndexOutOfBoundsException") (i := 6) [(0, 14, 17, 19)] (0, 14, 21, 21) [(0, 14, 25, 13)] 2 rfl (fun z hz => by
        rcases List.mem_cons.mp hz with rfl | hz
        · exact ⟨by decide, "java/lang/IllegalArgumentException", sw_442, by decide +kernel⟩
        · cases hz) (by decide) (by decide) sw_443 (by decide +kernel) (Or.inr ⟨d_L_gate_21, rfl⟩) (by decide) rfl ?_
      refine sk_iconst (v := 2) d_L_gate_23 (by decide) ?_
      exact sk_ireturn d_L_gate_24 rfl (Nat.le_refl _) (Nat.le_refl _) ⟨_, rfl, rfl, hq⟩
    · refine sk_xcatch (name := "java/lang/IllegalStateException") (i := 6) [(0, 14, 17, 19), (0, 14, 21, 21)] (0, 14, 25, 13) [] 2 rfl (fun z hz => by
        rcases List.mem_cons.mp hz with rfl | hz
        · exact ⟨by decide, "java/lang/IllegalArgumentException", sw_442, by decide +kernel⟩
        rcases List.mem_cons.mp hz with rfl | hz
        · exact ⟨by decide, "java/lang/IndexOutOfBoundsException", sw_443, by decide +kernel⟩
        · cases hz) (by decide) (by decide) sw_358 (by decide +kernel) (Or.inr ⟨d_L_gate_25, rfl⟩) (by decide) rfl ?_
      refine sk_iconst (v := 3) d_L_gate_27 (by decide) ?_
      exact sk_ireturn d_L_gate_28 rfl (Nat.le_refl _) (Nat.le_refl _) ⟨_, rfl, rfl, hq⟩
theorem t_L_output_ok {Γ : sk_T} {I : sk_I} {J : sk_J} {x1 : Int32} {K : Int32 → sk_I → sk_J → Prop} (h : sk_S Γ m_X_output 0 0 (.ref 0 :: [.int x1]) sk_gg I J (sk_Ki fun v' I' J' => K 0 I' (sk_pj J' 61 0 v'.toInt64))) : sk_S Γ m_L_output 0 0 [.ref 0, .int x1, .ref 61] sk_gg I J (sk_Ki K) := by
  refine sk_spec (by decide) rfl (by exact Nat.le_of_ble_eq_true rfl) ?_
  show sk_W Γ m_L_output 0 0 0 [(0, .ref 0), (1, .int x1), (2, .ref 61)] [] sk_gg I J 0 0 (sk_Ki K)
  refine sk_aload_n (j := 2) d_L_output_0 rfl rfl ?_
  refine sk_iconst (v := 0) d_L_output_1 (by decide) ?_
  refine sk_aload_n (j := 0) d_L_output_2 rfl rfl ?_
  refine sk_iload_n (j := 1) d_L_output_3 rfl rfl ?_
  refine q_callVi (S := [.int 0, .ref 61]) (as := [.int x1]) d_L_output_4 lk_L_23 sh_0 ⟨_, rfl⟩ rfl ⟨by decide, by decide⟩ (Nat.le_of_ble_eq_true rfl) rfl (Nat.le_refl _) (Nat.le_refl _) (sk_Smono h (fun r g I' J' hq => ?_))
  · obtain ⟨v', rfl, rfl, hq⟩ := hq
    refine ⟨v', rfl, rfl, ?_⟩
    refine sk_i2l d_L_output_7 ?_
    refine r_last d_L_output_8 sh_61 (by unfold vp_in; decide) ?_
    refine sk_goto (tgt := 18) d_L_output_9 (by decide) ?_
    refine sk_iconst (v := 0) d_L_output_18 (by decide) ?_
    exact sk_ireturn d_L_output_19 rfl (Nat.le_refl _) (Nat.le_refl _) ⟨_, rfl, rfl, hq⟩
theorem t_L_output_bad {Γ : sk_T} {I : sk_I} {J : sk_J} {x1 : Int32} {K : Int32 → sk_I → sk_J → Prop} (h : sk_S Γ m_X_output 1 6 (.ref 0 :: [.int x1]) sk_gg I J (sk_Kx fun E I' J' => (E = "java/lang/IndexOutOfBoundsException" ∧ K 1 I' J') ∨ (E = "java/lang/IllegalStateException" ∧ K 2 I' J'))) : sk_S Γ m_L_output 1 6 [.ref 0, .int x1, .ref 61] sk_gg I J (sk_Ki K) := by
  refine sk_spec (by decide) rfl (by exact Nat.le_of_ble_eq_true rfl) ?_
  show sk_W Γ m_L_output 1 6 0 [(0, .ref 0), (1, .int x1), (2, .ref 61)] [] sk_gg I J 0 0 (sk_Ki K)
  refine sk_aload_n (j := 2) d_L_output_0 rfl rfl ?_
  refine sk_iconst (v := 0) d_L_output_1 (by decide) ?_
  refine sk_aload_n (j := 0) d_L_output_2 rfl rfl ?_
  refine sk_iload_n (j := 1) d_L_output_3 rfl rfl ?_
  refine q_callVx (S := [.int 0, .ref 61]) (as := [.int x1]) d_L_output_4 lk_L_23 sh_0 ⟨_, rfl⟩ rfl ⟨by decide, by decide⟩ (Nat.le_of_ble_eq_true rfl) rfl ⟨Nat.le_refl _, Nat.le_refl _⟩ (sk_Smono h (fun r g I' J' hq => ?_))
  · obtain ⟨E, rfl, rfl, hq⟩ := hq
    refine ⟨E, rfl, rfl, ?_⟩
    rcases hq with ⟨rfl, hq⟩ | ⟨rfl, hq⟩
    · refine sk_xcatch (name := "java/lang/IndexOutOfBoundsException") (i := 3) [] (0, 9, 12, 21) [(0, 9, 15, 13)] 1 rfl (fun z hz => by cases hz) (by decide) (by decide) sw_443 (by decide +kernel) (Or.inl ⟨3, d_L_output_12, rfl, rfl⟩) (by decide) rfl ?_
      refine sk_iconst (v := 1) d_L_output_13 (by decide) ?_
      exact sk_ireturn d_L_output_14 rfl (Nat.le_refl _) (Nat.le_refl _) ⟨_, rfl, rfl, hq⟩
    · refine sk_xcatch (name := "java/lang/IllegalStateException") (i := 3) [(0, 9, 12, 21)] (0, 9, 15, 13) [] 1 rfl (fun z hz => by
        rcases List.mem_cons.mp hz with rfl | hz
        · exact ⟨by decide, "java/lang/IndexOutOfBoundsException", sw_443, by decide +kernel⟩
        · cases hz) (by decide) (by decide) sw_358 (by decide +kernel) (Or.inl ⟨3, d_L_output_15, rfl, rfl⟩) (by decide) rfl ?_
      refine sk_iconst (v := 2) d_L_output_16 (by decide) ?_
      exact sk_ireturn d_L_output_17 rfl (Nat.le_refl _) (Nat.le_refl _) ⟨_, rfl, rfl, hq⟩
theorem t_L_data_ok {Γ : sk_T} {I : sk_I} {J : sk_J} {x1 x2 : Int32} {K : Int32 → sk_I → sk_J → Prop} (h : sk_S Γ m_X_data 0 0 (.ref 0 :: [.int x1, .int x2]) sk_gg I J (sk_Kv fun I' J' => K 0 I' J')) : sk_S Γ m_L_data 0 0 [.ref 0, .int x1, .int x2] sk_gg I J (sk_Ki K) := by
  refine sk_spec (by decide) rfl (by exact Nat.le_of_ble_eq_true rfl) ?_
  show sk_W Γ m_L_data 0 0 0 [(0, .ref 0), (1, .int x1), (2, .int x2)] [] sk_gg I J 0 0 (sk_Ki K)
  refine sk_aload_n (j := 0) d_L_data_0 rfl rfl ?_
  refine sk_iload_n (j := 1) d_L_data_1 rfl rfl ?_
  refine sk_iload_n (j := 2) d_L_data_2 rfl rfl ?_
  refine q_callVv (S := []) (as := [.int x1, .int x2]) d_L_data_3 lk_L_27 sh_0 ⟨_, rfl⟩ rfl ⟨by decide, by decide⟩ (Nat.le_of_ble_eq_true rfl) rfl (Nat.le_refl _) (Nat.le_refl _) (sk_Smono h (fun r g I' J' hq => ?_))
  · obtain ⟨rfl, rfl, hq⟩ := hq
    refine ⟨rfl, rfl, ?_⟩
    refine sk_goto (tgt := 15) d_L_data_6 (by decide) ?_
    refine sk_iconst (v := 0) d_L_data_15 (by decide) ?_
    exact sk_ireturn d_L_data_16 rfl (Nat.le_refl _) (Nat.le_refl _) ⟨_, rfl, rfl, hq⟩
theorem t_L_data_bad {Γ : sk_T} {I : sk_I} {J : sk_J} {x1 x2 : Int32} {K : Int32 → sk_I → sk_J → Prop} (h : sk_S Γ m_X_data 1 6 (.ref 0 :: [.int x1, .int x2]) sk_gg I J (sk_Kx fun E I' J' => (E = "java/lang/IndexOutOfBoundsException" ∧ K 1 I' J') ∨ (E = "java/lang/IllegalArgumentException" ∧ K 2 I' J'))) : sk_S Γ m_L_data 1 6 [.ref 0, .int x1, .int x2] sk_gg I J (sk_Ki K) := by
  refine sk_spec (by decide) rfl (by exact Nat.le_of_ble_eq_true rfl) ?_
  show sk_W Γ m_L_data 1 6 0 [(0, .ref 0), (1, .int x1), (2, .int x2)] [] sk_gg I J 0 0 (sk_Ki K)
  refine sk_aload_n (j := 0) d_L_data_0 rfl rfl ?_
  refine sk_iload_n (j := 1) d_L_data_1 rfl rfl ?_
  refine sk_iload_n (j := 2) d_L_data_2 rfl rfl ?_
  refine q_callVx (S := []) (as := [.int x1, .int x2]) d_L_data_3 lk_L_27 sh_0 ⟨_, rfl⟩ rfl ⟨by decide, by decide⟩ (Nat.le_of_ble_eq_true rfl) rfl ⟨Nat.le_refl _, Nat.le_refl _⟩ (sk_Smono h (fun r g I' J' hq => ?_))
  · obtain ⟨E, rfl, rfl, hq⟩ := hq
    refine ⟨E, rfl, rfl, ?_⟩
    rcases hq with ⟨rfl, hq⟩ | ⟨rfl, hq⟩
    · refine sk_xcatch (name := "java/lang/IndexOutOfBoundsException") (i := 3) [] (0, 6, 9, 21) [(0, 6, 12, 19)] 1 rfl (fun z hz => by cases hz) (by decide) (by decide) sw_443 (by decide +kernel) (Or.inl ⟨3, d_L_data_9, rfl, rfl⟩) (by decide) rfl ?_
      refine sk_iconst (v := 1) d_L_data_10 (by decide) ?_
      exact sk_ireturn d_L_data_11 rfl (Nat.le_refl _) (Nat.le_refl _) ⟨_, rfl, rfl, hq⟩
    · refine sk_xcatch (name := "java/lang/IllegalArgumentException") (i := 3) [(0, 6, 9, 21)] (0, 6, 12, 19) [] 1 rfl (fun z hz => by
        rcases List.mem_cons.mp hz with rfl | hz
        · exact ⟨by decide, "java/lang/IndexOutOfBoundsException", sw_443, by decide +kernel⟩
        · cases hz) (by decide) (by decide) sw_442 (by decide +kernel) (Or.inl ⟨3, d_L_data_12, rfl, rfl⟩) (by decide) rfl ?_
      refine sk_iconst (v := 2) d_L_data_13 (by decide) ?_
      exact sk_ireturn d_L_data_14 rfl (Nat.le_refl _) (Nat.le_refl _) ⟨_, rfl, rfl, hq⟩
theorem t_L_count_ok {Γ : sk_T} {I : sk_I} {J : sk_J} {x1 : Int32} {K : Int32 → sk_I → sk_J → Prop} (h : sk_S Γ m_X_count 0 0 (.ref 0 :: [.int x1]) sk_gg I J (sk_Ki fun v' I' J' => K 0 I' (sk_pj J' 61 0 v'.toInt64))) : sk_S Γ m_L_count 0 0 [.ref 0, .int x1, .ref 61] sk_gg I J (sk_Ki K) := by
  refine sk_spec (by decide) rfl (by exact Nat.le_of_ble_eq_true rfl) ?_
  show sk_W Γ m_L_count 0 0 0 [(0, .ref 0), (1, .int x1), (2, .ref 61)] [] sk_gg I J 0 0 (sk_Ki K)
  refine sk_aload_n (j := 2) d_L_count_0 rfl rfl ?_
  refine sk_iconst (v := 0) d_L_count_1 (by decide) ?_
  refine sk_aload_n (j := 0) d_L_count_2 rfl rfl ?_
  refine sk_iload_n (j := 1) d_L_count_3 rfl rfl ?_
  refine q_callVi (S := [.int 0, .ref 61]) (as := [.int x1]) d_L_count_4 lk_L_31 sh_0 ⟨_, rfl⟩ rfl ⟨by decide, by decide⟩ (Nat.le_of_ble_eq_true rfl) rfl (Nat.le_refl _) (Nat.le_refl _) (sk_Smono h (fun r g I' J' hq => ?_))
  · obtain ⟨v', rfl, rfl, hq⟩ := hq
    refine ⟨v', rfl, rfl, ?_⟩
    refine sk_i2l d_L_count_7 ?_
    refine r_last d_L_count_8 sh_61 (by unfold vp_in; decide) ?_
    refine sk_goto (tgt := 15) d_L_count_9 (by decide) ?_
    refine sk_iconst (v := 0) d_L_count_15 (by decide) ?_
    exact sk_ireturn d_L_count_16 rfl (Nat.le_refl _) (Nat.le_refl _) ⟨_, rfl, rfl, hq⟩
theorem t_L_count_bad {Γ : sk_T} {I : sk_I} {J : sk_J} {x1 : Int32} {K : Int32 → sk_I → sk_J → Prop} (h : sk_S Γ m_X_count 1 6 (.ref 0 :: [.int x1]) sk_gg I J (sk_Kx fun E I' J' => (E = "java/lang/IllegalArgumentException" ∧ K 1 I' J'))) : sk_S Γ m_L_count 1 6 [.ref 0, .int x1, .ref 61] sk_gg I J (sk_Ki K) := by
  refine sk_spec (by decide) rfl (by exact Nat.le_of_ble_eq_true rfl) ?_
  show sk_W Γ m_L_count 1 6 0 [(0, .ref 0), (1, .int x1), (2, .ref 61)] [] sk_gg I J 0 0 (sk_Ki K)
  refine sk_aload_n (j := 2) d_L_count_0 rfl rfl ?_
  refine sk_iconst (v := 0) d_L_count_1 (by decide) ?_
  refine sk_aload_n (j := 0) d_L_count_2 rfl rfl ?_
  refine sk_iload_n (j := 1) d_L_count_3 rfl rfl ?_
  refine q_callVx (S := [.int 0, .ref 61]) (as := [.int x1]) d_L_count_4 lk_L_31 sh_0 ⟨_, rfl⟩ rfl ⟨by decide, by decide⟩ (Nat.le_of_ble_eq_true rfl) rfl ⟨Nat.le_refl _, Nat.le_refl _⟩ (sk_Smono h (fun r g I' J' hq => ?_))
  · obtain ⟨E, rfl, rfl, hq⟩ := hq
    refine ⟨E, rfl, rfl, ?_⟩
    obtain ⟨rfl, hq⟩ := hq
    · refine sk_xcatch (name := "java/lang/IllegalArgumentException") (i := 3) [] (0, 9, 12, 19) [] 1 rfl (fun z hz => by cases hz) (by decide) (by decide) sw_442 (by decide +kernel) (Or.inl ⟨3, d_L_count_12, rfl, rfl⟩) (by decide) rfl ?_
      refine sk_iconst (v := 1) d_L_count_13 (by decide) ?_
      exact sk_ireturn d_L_count_14 rfl (Nat.le_refl _) (Nat.le_refl _) ⟨_, rfl, rfl, hq⟩
theorem t_L_value_ok {Γ : sk_T} {I : sk_I} {J : sk_J} {x1 x2 x3 : Int32} {K : Int32 → sk_I → sk_J → Prop} (h : sk_S Γ m_X_value 0 0 (.ref 0 :: [.int x1, .int x2, .int x3]) sk_gg I J (sk_Ki fun v' I' J' => K 0 I' (sk_pj J' 61 0 v'.toInt64))) : sk_S Γ m_L_value 0 0 [.ref 0, .int x1, .int x2, .int x3, .ref 61] sk_gg I J (sk_Ki K) := by
  refine sk_spec (by decide) rfl (by exact Nat.le_of_ble_eq_true rfl) ?_
  show sk_W Γ m_L_value 0 0 0 [(0, .ref 0), (1, .int x1), (2, .int x2), (3, .int x3), (4, .ref 61)] [] sk_gg I J 0 0 (sk_Ki K)
  refine sk_aload (j := 4) d_L_value_0 rfl ?_
  refine sk_iconst (v := 0) d_L_value_2 (by decide) ?_
  refine sk_aload_n (j := 0) d_L_value_3 rfl rfl ?_
  refine sk_iload_n (j := 1) d_L_value_4 rfl rfl ?_
  refine sk_iload_n (j := 2) d_L_value_5 rfl rfl ?_
  refine sk_iload_n (j := 3) d_L_value_6 rfl rfl ?_
  refine q_callVi (S := [.int 0, .ref 61]) (as := [.int x1, .int x2, .int x3]) d_L_value_7 lk_L_34 sh_0 ⟨_, rfl⟩ rfl ⟨by decide, by decide⟩ (Nat.le_of_ble_eq_true rfl) rfl (Nat.le_refl _) (Nat.le_refl _) (sk_Smono h (fun r g I' J' hq => ?_))
  · obtain ⟨v', rfl, rfl, hq⟩ := hq
    refine ⟨v', rfl, rfl, ?_⟩
    refine sk_i2l d_L_value_10 ?_
    refine r_last d_L_value_11 sh_61 (by unfold vp_in; decide) ?_
    refine sk_goto (tgt := 19) d_L_value_12 (by decide) ?_
    refine sk_iconst (v := 0) d_L_value_19 (by decide) ?_
    exact sk_ireturn d_L_value_20 rfl (Nat.le_refl _) (Nat.le_refl _) ⟨_, rfl, rfl, hq⟩
theorem t_L_value_bad {Γ : sk_T} {I : sk_I} {J : sk_J} {x1 x2 x3 : Int32} {K : Int32 → sk_I → sk_J → Prop} (h : sk_S Γ m_X_value 1 6 (.ref 0 :: [.int x1, .int x2, .int x3]) sk_gg I J (sk_Kx fun E I' J' => (E = "java/lang/IndexOutOfBoundsException" ∧ K 1 I' J'))) : sk_S Γ m_L_value 1 6 [.ref 0, .int x1, .int x2, .int x3, .ref 61] sk_gg I J (sk_Ki K) := by
  refine sk_spec (by decide) rfl (by exact Nat.le_of_ble_eq_true rfl) ?_
  show sk_W Γ m_L_value 1 6 0 [(0, .ref 0), (1, .int x1), (2, .int x2), (3, .int x3), (4, .ref 61)] [] sk_gg I J 0 0 (sk_Ki K)
  refine sk_aload (j := 4) d_L_value_0 rfl ?_
  refine sk_iconst (v := 0) d_L_value_2 (by decide) ?_
  refine sk_aload_n (j := 0) d_L_value_3 rfl rfl ?_
  refine sk_iload_n (j := 1) d_L_value_4 rfl rfl ?_
  refine sk_iload_n (j := 2) d_L_value_5 rfl rfl ?_
  refine sk_iload_n (j := 3) d_L_value_6 rfl rfl ?_
  refine q_callVx (S := [.int 0, .ref 61]) (as := [.int x1, .int x2, .int x3]) d_L_value_7 lk_L_34 sh_0 ⟨_, rfl⟩ rfl ⟨by decide, by decide⟩ (Nat.le_of_ble_eq_true rfl) rfl ⟨Nat.le_refl _, Nat.le_refl _⟩ (sk_Smono h (fun r g I' J' hq => ?_))
  · obtain ⟨E, rfl, rfl, hq⟩ := hq
    refine ⟨E, rfl, rfl, ?_⟩
    obtain ⟨rfl, hq⟩ := hq
    · refine sk_xcatch (name := "java/lang/IndexOutOfBoundsException") (i := 5) [] (0, 12, 15, 21) [] 2 rfl (fun z hz => by cases hz) (by decide) (by decide) sw_443 (by decide +kernel) (Or.inr ⟨d_L_value_15, rfl⟩) (by decide) rfl ?_
      refine sk_iconst (v := 1) d_L_value_17 (by decide) ?_
      exact sk_ireturn d_L_value_18 rfl (Nat.le_refl _) (Nat.le_refl _) ⟨_, rfl, rfl, hq⟩
theorem t_L_response_ok {Γ : sk_T} {I : sk_I} {J : sk_J} {x1 x2 : Int32} {K : Int32 → sk_I → sk_J → Prop} (h : sk_S Γ m_X_response 0 0 (.ref 0 :: [.int x1, .int x2]) sk_gg I J (sk_Ki fun v' I' J' => K 0 I' (sk_pj J' 61 0 v'.toInt64))) : sk_S Γ m_L_response 0 0 [.ref 0, .int x1, .int x2, .ref 61] sk_gg I J (sk_Ki K) := by
  refine sk_spec (by decide) rfl (by exact Nat.le_of_ble_eq_true rfl) ?_
  show sk_W Γ m_L_response 0 0 0 [(0, .ref 0), (1, .int x1), (2, .int x2), (3, .ref 61)] [] sk_gg I J 0 0 (sk_Ki K)
  refine sk_aload_n (j := 3) d_L_response_0 rfl rfl ?_
  refine sk_iconst (v := 0) d_L_response_1 (by decide) ?_
  refine sk_aload_n (j := 0) d_L_response_2 rfl rfl ?_
  refine sk_iload_n (j := 1) d_L_response_3 rfl rfl ?_
  refine sk_iload_n (j := 2) d_L_response_4 rfl rfl ?_
  refine q_callVi (S := [.int 0, .ref 61]) (as := [.int x1, .int x2]) d_L_response_5 lk_L_38 sh_0 ⟨_, rfl⟩ rfl ⟨by decide, by decide⟩ (Nat.le_of_ble_eq_true rfl) rfl (Nat.le_refl _) (Nat.le_refl _) (sk_Smono h (fun r g I' J' hq => ?_))
  · obtain ⟨v', rfl, rfl, hq⟩ := hq
    refine ⟨v', rfl, rfl, ?_⟩
    refine sk_i2l d_L_response_8 ?_
    refine r_last d_L_response_9 sh_61 (by unfold vp_in; decide) ?_
    refine sk_goto (tgt := 17) d_L_response_10 (by decide) ?_
    refine sk_iconst (v := 0) d_L_response_17 (by decide) ?_
    exact sk_ireturn d_L_response_18 rfl (Nat.le_refl _) (Nat.le_refl _) ⟨_, rfl, rfl, hq⟩
theorem t_L_response_bad {Γ : sk_T} {I : sk_I} {J : sk_J} {x1 x2 : Int32} {K : Int32 → sk_I → sk_J → Prop} (h : sk_S Γ m_X_response 1 6 (.ref 0 :: [.int x1, .int x2]) sk_gg I J (sk_Kx fun E I' J' => (E = "java/lang/IndexOutOfBoundsException" ∧ K 1 I' J'))) : sk_S Γ m_L_response 1 6 [.ref 0, .int x1, .int x2, .ref 61] sk_gg I J (sk_Ki K) := by
  refine sk_spec (by decide) rfl (by exact Nat.le_of_ble_eq_true rfl) ?_
  show sk_W Γ m_L_response 1 6 0 [(0, .ref 0), (1, .int x1), (2, .int x2), (3, .ref 61)] [] sk_gg I J 0 0 (sk_Ki K)
  refine sk_aload_n (j := 3) d_L_response_0 rfl rfl ?_
  refine sk_iconst (v := 0) d_L_response_1 (by decide) ?_
  refine sk_aload_n (j := 0) d_L_response_2 rfl rfl ?_
  refine sk_iload_n (j := 1) d_L_response_3 rfl rfl ?_
  refine sk_iload_n (j := 2) d_L_response_4 rfl rfl ?_
  refine q_callVx (S := [.int 0, .ref 61]) (as := [.int x1, .int x2]) d_L_response_5 lk_L_38 sh_0 ⟨_, rfl⟩ rfl ⟨by decide, by decide⟩ (Nat.le_of_ble_eq_true rfl) rfl ⟨Nat.le_refl _, Nat.le_refl _⟩ (sk_Smono h (fun r g I' J' hq => ?_))
  · obtain ⟨E, rfl, rfl, hq⟩ := hq
    refine ⟨E, rfl, rfl, ?_⟩
    obtain ⟨rfl, hq⟩ := hq
    · refine sk_xcatch (name := "java/lang/IndexOutOfBoundsException") (i := 4) [] (0, 10, 13, 21) [] 2 rfl (fun z hz => by cases hz) (by decide) (by decide) sw_443 (by decide +kernel) (Or.inr ⟨d_L_response_13, rfl⟩) (by decide) rfl ?_
      refine sk_iconst (v := 1) d_L_response_15 (by decide) ?_
      exact sk_ireturn d_L_response_16 rfl (Nat.le_refl _) (Nat.le_refl _) ⟨_, rfl, rfl, hq⟩
theorem t_L_faultAt_ok {Γ : sk_T} {I : sk_I} {J : sk_J} {x1 x2 : Int32} {K : Int32 → sk_I → sk_J → Prop} (h : sk_S Γ m_X_faultAt 0 0 (.ref 0 :: [.int x1, .int x2]) sk_gg I J (sk_Ki fun v' I' J' => K 0 I' (sk_pj J' 61 0 v'.toInt64))) : sk_S Γ m_L_faultAt 0 0 [.ref 0, .int x1, .int x2, .ref 61] sk_gg I J (sk_Ki K) := by
  refine sk_spec (by decide) rfl (by exact Nat.le_of_ble_eq_true rfl) ?_
  show sk_W Γ m_L_faultAt 0 0 0 [(0, .ref 0), (1, .int x1), (2, .int x2), (3, .ref 61)] [] sk_gg I J 0 0 (sk_Ki K)
  refine sk_aload_n (j := 3) d_L_faultAt_0 rfl rfl ?_
  refine sk_iconst (v := 0) d_L_faultAt_1 (by decide) ?_
  refine sk_aload_n (j := 0) d_L_faultAt_2 rfl rfl ?_
  refine sk_iload_n (j := 1) d_L_faultAt_3 rfl rfl ?_
  refine sk_iload_n (j := 2) d_L_faultAt_4 rfl rfl ?_
  refine q_callVi (S := [.int 0, .ref 61]) (as := [.int x1, .int x2]) d_L_faultAt_5 lk_L_42 sh_0 ⟨_, rfl⟩ rfl ⟨by decide, by decide⟩ (Nat.le_of_ble_eq_true rfl) rfl (Nat.le_refl _) (Nat.le_refl _) (sk_Smono h (fun r g I' J' hq => ?_))
  · obtain ⟨v', rfl, rfl, hq⟩ := hq
    refine ⟨v', rfl, rfl, ?_⟩
    refine sk_i2l d_L_faultAt_8 ?_
    refine r_last d_L_faultAt_9 sh_61 (by unfold vp_in; decide) ?_
    refine sk_goto (tgt := 21) d_L_faultAt_10 (by decide) ?_
    refine sk_iconst (v := 0) d_L_faultAt_21 (by decide) ?_
    exact sk_ireturn d_L_faultAt_22 rfl (Nat.le_refl _) (Nat.le_refl _) ⟨_, rfl, rfl, hq⟩
theorem t_L_faultAt_bad {Γ : sk_T} {I : sk_I} {J : sk_J} {x1 x2 : Int32} {K : Int32 → sk_I → sk_J → Prop} (h : sk_S Γ m_X_faultAt 1 6 (.ref 0 :: [.int x1, .int x2]) sk_gg I J (sk_Kx fun E I' J' => (E = "java/lang/IndexOutOfBoundsException" ∧ K 1 I' J') ∨ (E = "java/lang/IllegalArgumentException" ∧ K 2 I' J'))) : sk_S Γ m_L_faultAt 1 6 [.ref 0, .int x1, .int x2, .ref 61] sk_gg I J (sk_Ki K) := by
  refine sk_spec (by decide) rfl (by exact Nat.le_of_ble_eq_true rfl) ?_
  show sk_W Γ m_L_faultAt 1 6 0 [(0, .ref 0), (1, .int x1), (2, .int x2), (3, .ref 61)] [] sk_gg I J 0 0 (sk_Ki K)
  refine sk_aload_n (j := 3) d_L_faultAt_0 rfl rfl ?_
  refine sk_iconst (v := 0) d_L_faultAt_1 (by decide) ?_
  refine sk_aload_n (j := 0) d_L_faultAt_2 rfl rfl ?_
  refine sk_iload_n (j := 1) d_L_faultAt_3 rfl rfl ?_
  refine sk_iload_n (j := 2) d_L_faultAt_4 rfl rfl ?_
  refine q_callVx (S := [.int 0, .ref 61]) (as := [.int x1, .int x2]) d_L_faultAt_5 lk_L_42 sh_0 ⟨_, rfl⟩ rfl ⟨by decide, by decide⟩ (Nat.le_of_ble_eq_true rfl) rfl ⟨Nat.le_refl _, Nat.le_refl _⟩ (sk_Smono h (fun r g I' J' hq => ?_))
  · obtain ⟨E, rfl, rfl, hq⟩ := hq
    refine ⟨E, rfl, rfl, ?_⟩
    rcases hq with ⟨rfl, hq⟩ | ⟨rfl, hq⟩
    · refine sk_xcatch (name := "java/lang/IndexOutOfBoundsException") (i := 4) [] (0, 10, 13, 21) [(0, 10, 17, 19)] 2 rfl (fun z hz => by cases hz) (by decide) (by decide) sw_443 (by decide +kernel) (Or.inr ⟨d_L_faultAt_13, rfl⟩) (by decide) rfl ?_
      refine sk_iconst (v := 1) d_L_faultAt_15 (by decide) ?_
      exact sk_ireturn d_L_faultAt_16 rfl (Nat.le_refl _) (Nat.le_refl _) ⟨_, rfl, rfl, hq⟩
    · refine sk_xcatch (name := "java/lang/IllegalArgumentException") (i := 4) [(0, 10, 13, 21)] (0, 10, 17, 19) [] 2 rfl (fun z hz => by
        rcases List.mem_cons.mp hz with rfl | hz
        · exact ⟨by decide, "java/lang/IndexOutOfBoundsException", sw_443, by decide +kernel⟩
        · cases hz) (by decide) (by decide) sw_442 (by decide +kernel) (Or.inr ⟨d_L_faultAt_17, rfl⟩) (by decide) rfl ?_
      refine sk_iconst (v := 2) d_L_faultAt_19 (by decide) ?_
      exact sk_ireturn d_L_faultAt_20 rfl (Nat.le_refl _) (Nat.le_refl _) ⟨_, rfl, rfl, hq⟩
theorem t_L_least_ok {Γ : sk_T} {I : sk_I} {J : sk_J} {x1 : Int32} {K : Int32 → sk_I → sk_J → Prop} (h : sk_S Γ m_X_least 0 0 (.ref 0 :: [.int x1]) sk_gg I J (sk_Ki fun v' I' J' => K 0 I' (sk_pj J' 61 0 v'.toInt64))) : sk_S Γ m_L_least 0 0 [.ref 0, .int x1, .ref 61] sk_gg I J (sk_Ki K) := by
  refine sk_spec (by decide) rfl (by exact Nat.le_of_ble_eq_true rfl) ?_
  show sk_W Γ m_L_least 0 0 0 [(0, .ref 0), (1, .int x1), (2, .ref 61)] [] sk_gg I J 0 0 (sk_Ki K)
  refine sk_aload_n (j := 2) d_L_least_0 rfl rfl ?_
  refine sk_iconst (v := 0) d_L_least_1 (by decide) ?_
  refine sk_aload_n (j := 0) d_L_least_2 rfl rfl ?_
  refine sk_iload_n (j := 1) d_L_least_3 rfl rfl ?_
  refine q_callVi (S := [.int 0, .ref 61]) (as := [.int x1]) d_L_least_4 lk_L_45 sh_0 ⟨_, rfl⟩ rfl ⟨by decide, by decide⟩ (Nat.le_of_ble_eq_true rfl) rfl (Nat.le_refl _) (Nat.le_refl _) (sk_Smono h (fun r g I' J' hq => ?_))
  · obtain ⟨v', rfl, rfl, hq⟩ := hq
    refine ⟨v', rfl, rfl, ?_⟩
    refine sk_i2l d_L_least_7 ?_
    refine r_last d_L_least_8 sh_61 (by unfold vp_in; decide) ?_
    refine sk_goto (tgt := 15) d_L_least_9 (by decide) ?_
    refine sk_iconst (v := 0) d_L_least_15 (by decide) ?_
    exact sk_ireturn d_L_least_16 rfl (Nat.le_refl _) (Nat.le_refl _) ⟨_, rfl, rfl, hq⟩
theorem t_L_least_bad {Γ : sk_T} {I : sk_I} {J : sk_J} {x1 : Int32} {K : Int32 → sk_I → sk_J → Prop} (h : sk_S Γ m_X_least 1 6 (.ref 0 :: [.int x1]) sk_gg I J (sk_Kx fun E I' J' => (E = "java/lang/IndexOutOfBoundsException" ∧ K 1 I' J'))) : sk_S Γ m_L_least 1 6 [.ref 0, .int x1, .ref 61] sk_gg I J (sk_Ki K) := by
  refine sk_spec (by decide) rfl (by exact Nat.le_of_ble_eq_true rfl) ?_
  show sk_W Γ m_L_least 1 6 0 [(0, .ref 0), (1, .int x1), (2, .ref 61)] [] sk_gg I J 0 0 (sk_Ki K)
  refine sk_aload_n (j := 2) d_L_least_0 rfl rfl ?_
  refine sk_iconst (v := 0) d_L_least_1 (by decide) ?_
  refine sk_aload_n (j := 0) d_L_least_2 rfl rfl ?_
  refine sk_iload_n (j := 1) d_L_least_3 rfl rfl ?_
  refine q_callVx (S := [.int 0, .ref 61]) (as := [.int x1]) d_L_least_4 lk_L_45 sh_0 ⟨_, rfl⟩ rfl ⟨by decide, by decide⟩ (Nat.le_of_ble_eq_true rfl) rfl ⟨Nat.le_refl _, Nat.le_refl _⟩ (sk_Smono h (fun r g I' J' hq => ?_))
  · obtain ⟨E, rfl, rfl, hq⟩ := hq
    refine ⟨E, rfl, rfl, ?_⟩
    obtain ⟨rfl, hq⟩ := hq
    · refine sk_xcatch (name := "java/lang/IndexOutOfBoundsException") (i := 3) [] (0, 9, 12, 21) [] 1 rfl (fun z hz => by cases hz) (by decide) (by decide) sw_443 (by decide +kernel) (Or.inl ⟨3, d_L_least_12, rfl, rfl⟩) (by decide) rfl ?_
      refine sk_iconst (v := 1) d_L_least_13 (by decide) ?_
      exact sk_ireturn d_L_least_14 rfl (Nat.le_refl _) (Nat.le_refl _) ⟨_, rfl, rfl, hq⟩
theorem t_L_showing_ok {Γ : sk_T} {I : sk_I} {J : sk_J} {x1 : Int32} {K : Int32 → sk_I → sk_J → Prop} (h : sk_S Γ m_X_showing 0 0 (.ref 0 :: [.int x1]) sk_gg I J (sk_Kl fun v' I' J' => K 0 I' (sk_pj J' 61 0 v'))) : sk_S Γ m_L_showing 0 0 [.ref 0, .int x1, .ref 61] sk_gg I J (sk_Ki K) := by
  refine sk_spec (by decide) rfl (by exact Nat.le_of_ble_eq_true rfl) ?_
  show sk_W Γ m_L_showing 0 0 0 [(0, .ref 0), (1, .int x1), (2, .ref 61)] [] sk_gg I J 0 0 (sk_Ki K)
  refine sk_aload_n (j := 2) d_L_showing_0 rfl rfl ?_
  refine sk_iconst (v := 0) d_L_showing_1 (by decide) ?_
  refine sk_aload_n (j := 0) d_L_showing_2 rfl rfl ?_
  refine sk_iload_n (j := 1) d_L_showing_3 rfl rfl ?_
  refine q_callVl (S := [.int 0, .ref 61]) (as := [.int x1]) d_L_showing_4 lk_L_48 sh_0 ⟨_, rfl⟩ rfl ⟨by decide, by decide⟩ (Nat.le_of_ble_eq_true rfl) rfl (Nat.le_refl _) (Nat.le_refl _) (sk_Smono h (fun r g I' J' hq => ?_))
  · obtain ⟨v', rfl, rfl, hq⟩ := hq
    refine ⟨v', rfl, rfl, ?_⟩
    refine r_last d_L_showing_7 sh_61 (by unfold vp_in; decide) ?_
    refine sk_goto (tgt := 14) d_L_showing_8 (by decide) ?_
    refine sk_iconst (v := 0) d_L_showing_14 (by decide) ?_
    exact sk_ireturn d_L_showing_15 rfl (Nat.le_refl _) (Nat.le_refl _) ⟨_, rfl, rfl, hq⟩
theorem t_L_showing_bad {Γ : sk_T} {I : sk_I} {J : sk_J} {x1 : Int32} {K : Int32 → sk_I → sk_J → Prop} (h : sk_S Γ m_X_showing 1 6 (.ref 0 :: [.int x1]) sk_gg I J (sk_Kx fun E I' J' => (E = "java/lang/IndexOutOfBoundsException" ∧ K 1 I' J'))) : sk_S Γ m_L_showing 1 6 [.ref 0, .int x1, .ref 61] sk_gg I J (sk_Ki K) := by
  refine sk_spec (by decide) rfl (by exact Nat.le_of_ble_eq_true rfl) ?_
  show sk_W Γ m_L_showing 1 6 0 [(0, .ref 0), (1, .int x1), (2, .ref 61)] [] sk_gg I J 0 0 (sk_Ki K)
  refine sk_aload_n (j := 2) d_L_showing_0 rfl rfl ?_
  refine sk_iconst (v := 0) d_L_showing_1 (by decide) ?_
  refine sk_aload_n (j := 0) d_L_showing_2 rfl rfl ?_
  refine sk_iload_n (j := 1) d_L_showing_3 rfl rfl ?_
  refine q_callVx (S := [.int 0, .ref 61]) (as := [.int x1]) d_L_showing_4 lk_L_48 sh_0 ⟨_, rfl⟩ rfl ⟨by decide, by decide⟩ (Nat.le_of_ble_eq_true rfl) rfl ⟨Nat.le_refl _, Nat.le_refl _⟩ (sk_Smono h (fun r g I' J' hq => ?_))
  · obtain ⟨E, rfl, rfl, hq⟩ := hq
    refine ⟨E, rfl, rfl, ?_⟩
    obtain ⟨rfl, hq⟩ := hq
    · refine sk_xcatch (name := "java/lang/IndexOutOfBoundsException") (i := 3) [] (0, 8, 11, 21) [] 1 rfl (fun z hz => by cases hz) (by decide) (by decide) sw_443 (by decide +kernel) (Or.inl ⟨3, d_L_showing_11, rfl, rfl⟩) (by decide) rfl ?_
      refine sk_iconst (v := 1) d_L_showing_12 (by decide) ?_
      exact sk_ireturn d_L_showing_13 rfl (Nat.le_refl _) (Nat.le_refl _) ⟨_, rfl, rfl, hq⟩
theorem t_L_alike_ok {Γ : sk_T} {I : sk_I} {J : sk_J} {x1 : Int32} {K : Int32 → sk_I → sk_J → Prop} (h : sk_S Γ m_X_alike 0 0 (.ref 0 :: [.int x1]) sk_gg I J (sk_Ki fun v' I' J' => K 0 I' (sk_pj J' 61 0 v'.toInt64))) : sk_S Γ m_L_alike 0 0 [.ref 0, .int x1, .ref 61] sk_gg I J (sk_Ki K) := by
  refine sk_spec (by decide) rfl (by exact Nat.le_of_ble_eq_true rfl) ?_
  show sk_W Γ m_L_alike 0 0 0 [(0, .ref 0), (1, .int x1), (2, .ref 61)] [] sk_gg I J 0 0 (sk_Ki K)
  refine sk_aload_n (j := 2) d_L_alike_0 rfl rfl ?_
  refine sk_iconst (v := 0) d_L_alike_1 (by decide) ?_
  refine sk_aload_n (j := 0) d_L_alike_2 rfl rfl ?_
  refine sk_iload_n (j := 1) d_L_alike_3 rfl rfl ?_
  refine q_callVi (S := [.int 0, .ref 61]) (as := [.int x1]) d_L_alike_4 lk_L_52 sh_0 ⟨_, rfl⟩ rfl ⟨by decide, by decide⟩ (Nat.le_of_ble_eq_true rfl) rfl (Nat.le_refl _) (Nat.le_refl _) (sk_Smono h (fun r g I' J' hq => ?_))
  · obtain ⟨v', rfl, rfl, hq⟩ := hq
    refine ⟨v', rfl, rfl, ?_⟩
    refine sk_i2l d_L_alike_7 ?_
    refine r_last d_L_alike_8 sh_61 (by unfold vp_in; decide) ?_
    refine sk_goto (tgt := 15) d_L_alike_9 (by decide) ?_
    refine sk_iconst (v := 0) d_L_alike_15 (by decide) ?_
    exact sk_ireturn d_L_alike_16 rfl (Nat.le_refl _) (Nat.le_refl _) ⟨_, rfl, rfl, hq⟩
theorem t_L_alike_bad {Γ : sk_T} {I : sk_I} {J : sk_J} {x1 : Int32} {K : Int32 → sk_I → sk_J → Prop} (h : sk_S Γ m_X_alike 1 6 (.ref 0 :: [.int x1]) sk_gg I J (sk_Kx fun E I' J' => (E = "java/lang/IndexOutOfBoundsException" ∧ K 1 I' J'))) : sk_S Γ m_L_alike 1 6 [.ref 0, .int x1, .ref 61] sk_gg I J (sk_Ki K) := by
  refine sk_spec (by decide) rfl (by exact Nat.le_of_ble_eq_true rfl) ?_
  show sk_W Γ m_L_alike 1 6 0 [(0, .ref 0), (1, .int x1), (2, .ref 61)] [] sk_gg I J 0 0 (sk_Ki K)
  refine sk_aload_n (j := 2) d_L_alike_0 rfl rfl ?_
  refine sk_iconst (v := 0) d_L_alike_1 (by decide) ?_
  refine sk_aload_n (j := 0) d_L_alike_2 rfl rfl ?_
  refine sk_iload_n (j := 1) d_L_alike_3 rfl rfl ?_
  refine q_callVx (S := [.int 0, .ref 61]) (as := [.int x1]) d_L_alike_4 lk_L_52 sh_0 ⟨_, rfl⟩ rfl ⟨by decide, by decide⟩ (Nat.le_of_ble_eq_true rfl) rfl ⟨Nat.le_refl _, Nat.le_refl _⟩ (sk_Smono h (fun r g I' J' hq => ?_))
  · obtain ⟨E, rfl, rfl, hq⟩ := hq
    refine ⟨E, rfl, rfl, ?_⟩
    obtain ⟨rfl, hq⟩ := hq
    · refine sk_xcatch (name := "java/lang/IndexOutOfBoundsException") (i := 3) [] (0, 9, 12, 21) [] 1 rfl (fun z hz => by cases hz) (by decide) (by decide) sw_443 (by decide +kernel) (Or.inl ⟨3, d_L_alike_12, rfl, rfl⟩) (by decide) rfl ?_
      refine sk_iconst (v := 1) d_L_alike_13 (by decide) ?_
      exact sk_ireturn d_L_alike_14 rfl (Nat.le_refl _) (Nat.le_refl _) ⟨_, rfl, rfl, hq⟩
theorem t_L_ternary_ok {Γ : sk_T} {I : sk_I} {J : sk_J} {x1 x2 x3 x4 : Int32} {K : Int32 → sk_I → sk_J → Prop} (h : sk_S Γ m_X_ternary 0 0 (.ref 0 :: [.int x1, .int x2, .int x3, .int x4]) sk_gg I J (sk_Ki fun v' I' J' => K 0 I' (sk_pj J' 61 0 v'.toInt64))) : sk_S Γ m_L_ternary 0 0 [.ref 0, .int x1, .int x2, .int x3, .int x4, .ref 61] sk_gg I J (sk_Ki K) := by
  refine sk_spec (by decide) rfl (by exact Nat.le_of_ble_eq_true rfl) ?_
  show sk_W Γ m_L_ternary 0 0 0 [(0, .ref 0), (1, .int x1), (2, .int x2), (3, .int x3), (4, .int x4), (5, .ref 61)] [] sk_gg I J 0 0 (sk_Ki K)
  refine sk_aload (j := 5) d_L_ternary_0 rfl ?_
  refine sk_iconst (v := 0) d_L_ternary_2 (by decide) ?_
  refine sk_aload_n (j := 0) d_L_ternary_3 rfl rfl ?_
  refine sk_iload_n (j := 1) d_L_ternary_4 rfl rfl ?_
  refine sk_iload_n (j := 2) d_L_ternary_5 rfl rfl ?_
  refine sk_iload_n (j := 3) d_L_ternary_6 rfl rfl ?_
  refine sk_iload (j := 4) d_L_ternary_7 rfl ?_
  refine q_callVi (S := [.int 0, .ref 61]) (as := [.int x1, .int x2, .int x3, .int x4]) d_L_ternary_9 lk_L_55 sh_0 ⟨_, rfl⟩ rfl ⟨by decide, by decide⟩ (Nat.le_of_ble_eq_true rfl) rfl (Nat.le_refl _) (Nat.le_refl _) (sk_Smono h (fun r g I' J' hq => ?_))
  · obtain ⟨v', rfl, rfl, hq⟩ := hq
    refine ⟨v', rfl, rfl, ?_⟩
    refine sk_i2l d_L_ternary_12 ?_
    refine r_last d_L_ternary_13 sh_61 (by unfold vp_in; decide) ?_
    refine sk_goto (tgt := 25) d_L_ternary_14 (by decide) ?_
    refine sk_iconst (v := 0) d_L_ternary_25 (by decide) ?_
    exact sk_ireturn d_L_ternary_26 rfl (Nat.le_refl _) (Nat.le_refl _) ⟨_, rfl, rfl, hq⟩
theorem t_L_ternary_bad {Γ : sk_T} {I : sk_I} {J : sk_J} {x1 x2 x3 x4 : Int32} {K : Int32 → sk_I → sk_J → Prop} (h : sk_S Γ m_X_ternary 1 6 (.ref 0 :: [.int x1, .int x2, .int x3, .int x4]) sk_gg I J (sk_Kx fun E I' J' => (E = "java/lang/IndexOutOfBoundsException" ∧ K 1 I' J') ∨ (E = "java/lang/IllegalArgumentException" ∧ K 2 I' J'))) : sk_S Γ m_L_ternary 1 6 [.ref 0, .int x1, .int x2, .int x3, .int x4, .ref 61] sk_gg I J (sk_Ki K) := by
  refine sk_spec (by decide) rfl (by exact Nat.le_of_ble_eq_true rfl) ?_
  show sk_W Γ m_L_ternary 1 6 0 [(0, .ref 0), (1, .int x1), (2, .int x2), (3, .int x3), (4, .int x4), (5, .ref 61)] [] sk_gg I J 0 0 (sk_Ki K)
  refine sk_aload (j := 5) d_L_ternary_0 rfl ?_
  refine sk_iconst (v := 0) d_L_ternary_2 (by decide) ?_
  refine sk_aload_n (j := 0) d_L_ternary_3 rfl rfl ?_
  refine sk_iload_n (j := 1) d_L_ternary_4 rfl rfl ?_
  refine sk_iload_n (j := 2) d_L_ternary_5 rfl rfl ?_
  refine sk_iload_n (j := 3) d_L_ternary_6 rfl rfl ?_
  refine sk_iload (j := 4) d_L_ternary_7 rfl ?_
  refine q_callVx (S := [.int 0, .ref 61]) (as := [.int x1, .int x2, .int x3, .int x4]) d_L_ternary_9 lk_L_55 sh_0 ⟨_, rfl⟩ rfl ⟨by decide, by decide⟩ (Nat.le_of_ble_eq_true rfl) rfl ⟨Nat.le_refl _, Nat.le_refl _⟩ (sk_Smono h (fun r g I' J' hq => ?_))
  · obtain ⟨E, rfl, rfl, hq⟩ := hq
    refine ⟨E, rfl, rfl, ?_⟩
    rcases hq with ⟨rfl, hq⟩ | ⟨rfl, hq⟩
    · refine sk_xcatch (name := "java/lang/IndexOutOfBoundsException") (i := 6) [] (0, 14, 17, 21) [(0, 14, 21, 19)] 2 rfl (fun z hz => by cases hz) (by decide) (by decide) sw_443 (by decide +kernel) (Or.inr ⟨d_L_ternary_17, rfl⟩) (by decide) rfl ?_
      refine sk_iconst (v := 1) d_L_ternary_19 (by decide) ?_
      exact sk_ireturn d_L_ternary_20 rfl (Nat.le_refl _) (Nat.le_refl _) ⟨_, rfl, rfl, hq⟩
    · refine sk_xcatch (name := "java/lang/IllegalArgumentException") (i := 6) [(0, 14, 17, 21)] (0, 14, 21, 19) [] 2 rfl (fun z hz => by
        rcases List.mem_cons.mp hz with rfl | hz
        · exact ⟨by decide, "java/lang/IndexOutOfBoundsException", sw_443, by decide +kernel⟩
        · cases hz) (by decide) (by decide) sw_442 (by decide +kernel) (Or.inr ⟨d_L_ternary_21, rfl⟩) (by decide) rfl ?_
      refine sk_iconst (v := 2) d_L_ternary_23 (by decide) ?_
      exact sk_ireturn d_L_ternary_24 rfl (Nat.le_refl _) (Nat.le_refl _) ⟨_, rfl, rfl, hq⟩
theorem t_L_cube_ok {Γ : sk_T} {I : sk_I} {J : sk_J} {x1 : Int32} {K : Int32 → sk_I → sk_J → Prop} (h : sk_S Γ m_X_cube 0 0 (.ref 0 :: [.int x1]) sk_gg I J (sk_Ki fun v' I' J' => K 0 I' (sk_pj J' 61 0 v'.toInt64))) : sk_S Γ m_L_cube 0 0 [.ref 0, .int x1, .ref 61] sk_gg I J (sk_Ki K) := by
  refine sk_spec (by decide) rfl (by exact Nat.le_of_ble_eq_true rfl) ?_
  show sk_W Γ m_L_cube 0 0 0 [(0, .ref 0), (1, .int x1), (2, .ref 61)] [] sk_gg I J 0 0 (sk_Ki K)
  refine sk_aload_n (j := 2) d_L_cube_0 rfl rfl ?_
  refine sk_iconst (v := 0) d_L_cube_1 (by decide) ?_
  refine sk_aload_n (j := 0) d_L_cube_2 rfl rfl ?_
  refine sk_iload_n (j := 1) d_L_cube_3 rfl rfl ?_
  refine q_callVi (S := [.int 0, .ref 61]) (as := [.int x1]) d_L_cube_4 lk_L_58 sh_0 ⟨_, rfl⟩ rfl ⟨by decide, by decide⟩ (Nat.le_of_ble_eq_true rfl) rfl (Nat.le_refl _) (Nat.le_refl _) (sk_Smono h (fun r g I' J' hq => ?_))
  · obtain ⟨v', rfl, rfl, hq⟩ := hq
    refine ⟨v', rfl, rfl, ?_⟩
    refine sk_i2l d_L_cube_7 ?_
    refine r_last d_L_cube_8 sh_61 (by unfold vp_in; decide) ?_
    refine sk_goto (tgt := 15) d_L_cube_9 (by decide) ?_
    refine sk_iconst (v := 0) d_L_cube_15 (by decide) ?_
    exact sk_ireturn d_L_cube_16 rfl (Nat.le_refl _) (Nat.le_refl _) ⟨_, rfl, rfl, hq⟩
theorem t_L_cube_bad {Γ : sk_T} {I : sk_I} {J : sk_J} {x1 : Int32} {K : Int32 → sk_I → sk_J → Prop} (h : sk_S Γ m_X_cube 1 6 (.ref 0 :: [.int x1]) sk_gg I J (sk_Kx fun E I' J' => (E = "java/lang/IndexOutOfBoundsException" ∧ K 1 I' J'))) : sk_S Γ m_L_cube 1 6 [.ref 0, .int x1, .ref 61] sk_gg I J (sk_Ki K) := by
  refine sk_spec (by decide) rfl (by exact Nat.le_of_ble_eq_true rfl) ?_
  show sk_W Γ m_L_cube 1 6 0 [(0, .ref 0), (1, .int x1), (2, .ref 61)] [] sk_gg I J 0 0 (sk_Ki K)
  refine sk_aload_n (j := 2) d_L_cube_0 rfl rfl ?_
  refine sk_iconst (v := 0) d_L_cube_1 (by decide) ?_
  refine sk_aload_n (j := 0) d_L_cube_2 rfl rfl ?_
  refine sk_iload_n (j := 1) d_L_cube_3 rfl rfl ?_
  refine q_callVx (S := [.int 0, .ref 61]) (as := [.int x1]) d_L_cube_4 lk_L_58 sh_0 ⟨_, rfl⟩ rfl ⟨by decide, by decide⟩ (Nat.le_of_ble_eq_true rfl) rfl ⟨Nat.le_refl _, Nat.le_refl _⟩ (sk_Smono h (fun r g I' J' hq => ?_))
  · obtain ⟨E, rfl, rfl, hq⟩ := hq
    refine ⟨E, rfl, rfl, ?_⟩
    obtain ⟨rfl, hq⟩ := hq
    · refine sk_xcatch (name := "java/lang/IndexOutOfBoundsException") (i := 3) [] (0, 9, 12, 21) [] 1 rfl (fun z hz => by cases hz) (by decide) (by decide) sw_443 (by decide +kernel) (Or.inl ⟨3, d_L_cube_12, rfl, rfl⟩) (by decide) rfl ?_
      refine sk_iconst (v := 1) d_L_cube_13 (by decide) ?_
      exact sk_ireturn d_L_cube_14 rfl (Nat.le_refl _) (Nat.le_refl _) ⟨_, rfl, rfl, hq⟩
theorem t_L_log_ok {Γ : sk_T} {I : sk_I} {J : sk_J} {x1 x2 : Int32} {K : Int32 → sk_I → sk_J → Prop} (h : sk_S Γ m_X_log 0 0 (.ref 0 :: [.int x1, .int x2]) sk_gg I J (sk_Ki fun v' I' J' => K 0 I' (sk_pj J' 61 0 v'.toInt64))) : sk_S Γ m_L_log 0 0 [.ref 0, .int x1, .int x2, .ref 61] sk_gg I J (sk_Ki K) := by
  refine sk_spec (by decide) rfl (by exact Nat.le_of_ble_eq_true rfl) ?_
  show sk_W Γ m_L_log 0 0 0 [(0, .ref 0), (1, .int x1), (2, .int x2), (3, .ref 61)] [] sk_gg I J 0 0 (sk_Ki K)
  refine sk_aload_n (j := 3) d_L_log_0 rfl rfl ?_
  refine sk_iconst (v := 0) d_L_log_1 (by decide) ?_
  refine sk_aload_n (j := 0) d_L_log_2 rfl rfl ?_
  refine sk_iload_n (j := 1) d_L_log_3 rfl rfl ?_
  refine sk_iload_n (j := 2) d_L_log_4 rfl rfl ?_
  refine q_callVi (S := [.int 0, .ref 61]) (as := [.int x1, .int x2]) d_L_log_5 lk_L_61 sh_0 ⟨_, rfl⟩ rfl ⟨by decide, by decide⟩ (Nat.le_of_ble_eq_true rfl) rfl (Nat.le_refl _) (Nat.le_refl _) (sk_Smono h (fun r g I' J' hq => ?_))
  · obtain ⟨v', rfl, rfl, hq⟩ := hq
    refine ⟨v', rfl, rfl, ?_⟩
    refine sk_i2l d_L_log_8 ?_
    refine r_last d_L_log_9 sh_61 (by unfold vp_in; decide) ?_
    refine sk_goto (tgt := 25) d_L_log_10 (by decide) ?_
    refine sk_iconst (v := 0) d_L_log_25 (by decide) ?_
    exact sk_ireturn d_L_log_26 rfl (Nat.le_refl _) (Nat.le_refl _) ⟨_, rfl, rfl, hq⟩
theorem t_L_log_bad {Γ : sk_T} {I : sk_I} {J : sk_J} {x1 x2 : Int32} {K : Int32 → sk_I → sk_J → Prop} (h : sk_S Γ m_X_log 1 6 (.ref 0 :: [.int x1, .int x2]) sk_gg I J (sk_Kx fun E I' J' => (E = "java/lang/IndexOutOfBoundsException" ∧ K 1 I' J') ∨ (E = "java/lang/IllegalArgumentException" ∧ K 2 I' J') ∨ (E = "java/lang/IllegalStateException" ∧ K 3 I' J'))) : sk_S Γ m_L_log 1 6 [.ref 0, .int x1, .int x2, .ref 61] sk_gg I J (sk_Ki K) := by
  refine sk_spec (by decide) rfl (by exact Nat.le_of_ble_eq_true rfl) ?_
  show sk_W Γ m_L_log 1 6 0 [(0, .ref 0), (1, .int x1), (2, .int x2), (3, .ref 61)] [] sk_gg I J 0 0 (sk_Ki K)
  refine sk_aload_n (j := 3) d_L_log_0 rfl rfl ?_
  refine sk_iconst (v := 0) d_L_log_1 (by decide) ?_
  refine sk_aload_n (j := 0) d_L_log_2 rfl rfl ?_
  refine sk_iload_n (j := 1) d_L_log_3 rfl rfl ?_
  refine sk_iload_n (j := 2) d_L_log_4 rfl rfl ?_
  refine q_callVx (S := [.int 0, .ref 61]) (as := [.int x1, .int x2]) d_L_log_5 lk_L_61 sh_0 ⟨_, rfl⟩ rfl ⟨by decide, by decide⟩ (Nat.le_of_ble_eq_true rfl) rfl ⟨Nat.le_refl _, Nat.le_refl _⟩ (sk_Smono h (fun r g I' J' hq => ?_))
  · obtain ⟨E, rfl, rfl, hq⟩ := hq
    refine ⟨E, rfl, rfl, ?_⟩
    rcases hq with ⟨rfl, hq⟩ | ⟨rfl, hq⟩ | ⟨rfl, hq⟩
    · refine sk_xcatch (name := "java/lang/IndexOutOfBoundsException") (i := 4) [] (0, 10, 13, 21) [(0, 10, 17, 19), (0, 10, 21, 13)] 2 rfl (fun z hz => by cases hz) (by decide) (by decide) sw_443 (by decide +kernel) (Or.inr ⟨d_L_log_13, rfl⟩) (by decide) rfl ?_
      refine sk_iconst (v := 1) d_L_log_15 (by decide) ?_
      exact sk_ireturn d_L_log_16 rfl (Nat.le_refl _) (Nat.le_refl _) ⟨_, rfl, rfl, hq⟩
    · refine sk_xcatch (name := "java/lang/IllegalArgumentException") (i := 4) [(0, 10, 13, 21)] (0, 10, 17, 19) [(0, 10, 21, 13)] 2 rfl (fun z hz => by
        rcases List.mem_cons.mp hz with rfl | hz
        · exact ⟨by decide, "java/lang/IndexOutOfBoundsException", sw_443, by decide +kernel⟩
        · cases hz) (by decide) (by decide) sw_442 (by decide +kernel) (Or.inr ⟨d_L_log_17, rfl⟩) (by decide) rfl ?_
      refine sk_iconst (v := 2) d_L_log_19 (by decide) ?_
      exact sk_ireturn d_L_log_20 rfl (Nat.le_refl _) (Nat.le_refl _) ⟨_, rfl, rfl, hq⟩
    · refine sk_xcatch (name := "java/lang/IllegalStateException") (i := 4) [(0, 10, 13, 21), (0, 10, 17, 19)] (0, 10, 21, 13) [] 2 rfl (fun z hz => by
        rcases List.mem_cons.mp hz with rfl | hz
        · exact ⟨by decide, "java/lang/IndexOutOfBoundsException", sw_443, by decide +kernel⟩
        rcases List.mem_cons.mp hz with rfl | hz
        · exact ⟨by decide, "java/lang/IllegalArgumentException", sw_442, by decide +kernel⟩
        · cases hz) (by decide) (by decide) sw_358 (by decide +kernel) (Or.inr ⟨d_L_log_21, rfl⟩) (by decide) rfl ?_
      refine sk_iconst (v := 3) d_L_log_23 (by decide) ?_
      exact sk_ireturn d_L_log_24 rfl (Nat.le_refl _) (Nat.le_refl _) ⟨_, rfl, rfl, hq⟩
