/-! segments, printed by wip/whole/gen_seg.py -/
theorem s_M_thrown_0 {Γ : sk_T} {mc ms : Nat} {I : sk_I} {J : sk_J} {Q : sk_Q}  (h : Q (.inl (some (.int (I 41 0)))) sk_gg I J) : sk_W Γ m_M_thrown mc ms 0 [(0, .ref 41)] [] sk_gg I J 0 0 Q := by
  refine sk_aload_n (j := 0) d_M_thrown_0 rfl rfl ?_
  refine q_getI d_M_thrown_1 fg_M_68 sh_41 ?_
  exact sk_ireturn d_M_thrown_4 rfl (Nat.zero_le _) (Nat.zero_le _) h
theorem s_M_clear_0 {Γ : sk_T} {mc ms : Nat} {I : sk_I} {J : sk_J} {Q : sk_Q}  (h : sk_S Γ m_M_built 0 0 (.ref 41 :: []) sk_gg (sk_pi (sk_pi (sk_pi (sk_pi I 41 0 0) 41 1 0) 41 6 0) 41 10 0) J (sk_Kv fun I' J' => sk_W Γ m_M_clear mc ms 24 [] [] sk_gg I' J' 0 0 Q)) : sk_W Γ m_M_clear mc ms 0 [(0, .ref 41)] [] sk_gg I J 0 0 Q := by
  refine sk_aload_n (j := 0) d_M_clear_0 rfl rfl ?_
  refine sk_iconst (v := 0) d_M_clear_1 (by decide) ?_
  refine r_putI d_M_clear_2 fp_M_68 sh_41 ?_
  refine sk_aload_n (j := 0) d_M_clear_5 rfl rfl ?_
  refine sk_iconst (v := 0) d_M_clear_6 (by decide) ?_
  refine r_putI d_M_clear_7 fp_M_72 sh_41 ?_
  refine sk_aload_n (j := 0) d_M_clear_10 rfl rfl ?_
  refine sk_iconst (v := 0) d_M_clear_11 (by decide) ?_
  refine r_putI d_M_clear_12 fp_M_75 sh_41 ?_
  refine sk_aload_n (j := 0) d_M_clear_15 rfl rfl ?_
  refine sk_iconst (v := 0) d_M_clear_16 (by decide) ?_
  refine r_putI d_M_clear_17 fp_M_94 sh_41 ?_
  refine sk_aload_n (j := 0) d_M_clear_20 rfl rfl ?_
  refine sk_loc [] rfl ?_
  exact q_callVv (S := []) (as := []) d_M_clear_21 lk_M_97 sh_41 ⟨_, rfl⟩ rfl ⟨by decide, by decide⟩ (Nat.le_of_ble_eq_true rfl) rfl (Nat.zero_le _) (Nat.zero_le _) h
theorem s_M_clear_24 {Γ : sk_T} {mc ms : Nat} {I : sk_I} {J : sk_J} {Q : sk_Q}  (h : Q (.inl none) sk_gg I J) : sk_W Γ m_M_clear mc ms 24 [] [] sk_gg I J 0 0 Q := by
  exact sk_vreturn d_M_clear_24 rfl (Nat.zero_le _) (Nat.zero_le _) h
theorem s_M_built_0 {Γ : sk_T} {mc ms : Nat} {I : sk_I} {J : sk_J} {Q : sk_Q}  (h : sk_W Γ m_M_built mc ms 22 [(0, .ref 41), (1, .int 0)] [] sk_gg (sk_pi (sk_pi (sk_pi (sk_pi I 41 19 0) 41 22 0) 41 26 0) 41 12 0) J 0 0 Q) : sk_W Γ m_M_built mc ms 0 [(0, .ref 41)] [] sk_gg I J 0 0 Q := by
  refine sk_aload_n (j := 0) d_M_built_0 rfl rfl ?_
  refine sk_iconst (v := 0) d_M_built_1 (by decide) ?_
  refine r_putZ d_M_built_2 fp_M_81 sh_41 (by decide) ?_
  refine sk_aload_n (j := 0) d_M_built_5 rfl rfl ?_
  refine sk_iconst (v := 0) d_M_built_6 (by decide) ?_
  refine r_putZ d_M_built_7 fp_M_85 sh_41 (by decide) ?_
  refine sk_aload_n (j := 0) d_M_built_10 rfl rfl ?_
  refine sk_iconst (v := 0) d_M_built_11 (by decide) ?_
  refine r_putI d_M_built_12 fp_M_88 sh_41 ?_
  refine sk_aload_n (j := 0) d_M_built_15 rfl rfl ?_
  refine sk_iconst (v := 0) d_M_built_16 (by decide) ?_
  refine r_putI d_M_built_17 fp_M_91 sh_41 ?_
  refine sk_iconst (v := 0) d_M_built_20 (by decide) ?_
  refine sk_istore_n d_M_built_21 rfl (by decide) rfl ?_
  refine sk_loc [1, 0] rfl ?_
  exact h
theorem s_M_built_22 {Γ : sk_T} {mc ms : Nat} {I : sk_I} {J : sk_J} {Q : sk_Q} {x1 : Int32} (h : ((I 41 10) ≤ x1 → sk_W Γ m_M_built mc ms 63 [(0, .ref 41), (1, .int 0)] [] sk_gg I J 0 0 Q) ∧ (¬ (I 41 10) ≤ x1 → vp_in x1 6 ∧ vp_in (I 41 12) 12 ∧ sk_W Γ m_M_built mc ms 22 [(0, .ref 41), (1, .int (x1 + 1))] [] sk_gg (sk_pi (sk_pi I 50 (I 41 12).toNatClampNeg (I 49 x1.toNatClampNeg)) 41 12 ((I 41 12) + 1)) J 0 0 Q)) : sk_W Γ m_M_built mc ms 22 [(0, .ref 41), (1, .int x1)] [] sk_gg I J 0 0 Q := by
  refine sk_iload_n (j := 1) d_M_built_22 rfl rfl ?_
  refine sk_aload_n (j := 0) d_M_built_23 rfl rfl ?_
  refine q_getI d_M_built_24 fg_M_94 sh_41 ?_
  refine sk_icmp_ge (tgt := 61) d_M_built_27 (by decide) (fun hc => ?_) (fun hc => ?_)
  · replace h := h.1 hc
    refine sk_iconst (v := 0) d_M_built_61 (by decide) ?_
    refine sk_istore_n d_M_built_62 rfl (by decide) rfl ?_
    refine sk_loc [1, 0] rfl ?_
    exact h
  · replace h := h.2 hc
    refine sk_aload_n (j := 0) d_M_built_30 rfl rfl ?_
    refine q_getR d_M_built_31 fg_M_35 sh_41 rr_41_13 ?_
    refine sk_aload_n (j := 0) d_M_built_34 rfl rfl ?_
    refine q_getI d_M_built_35 fg_M_91 sh_41 ?_
    refine sk_aload_n (j := 0) d_M_built_38 rfl rfl ?_
    refine q_getR d_M_built_39 fg_M_32 sh_41 rr_41_11 ?_
    refine sk_iload_n (j := 1) d_M_built_42 rfl rfl ?_
    obtain ⟨hb, h⟩ := h
    refine sk_iald d_M_built_43 sh_49 hb ?_
    obtain ⟨hb, h⟩ := h
    refine r_iast d_M_built_44 sh_50 hb ?_
    refine sk_aload_n (j := 0) d_M_built_45 rfl rfl ?_
    refine sk_dup d_M_built_46 rfl ?_
    refine q_getI d_M_built_47 fg_M_91 sh_41 ?_
    refine q_cvi (y := I 41 12) rfl ?_
    refine sk_iconst (v := 1) d_M_built_50 (by decide) ?_
    refine sk_iadd d_M_built_51 ?_
    refine r_putI d_M_built_52 fp_M_91 sh_41 ?_
    refine sk_iinc (j := 1) (v := x1 + 1) d_M_built_55 rfl (by rfl) (by decide) rfl ?_
    refine sk_goto (tgt := 22) d_M_built_58 (by decide) ?_
    refine sk_loc [1, 0] rfl ?_
    exact h
theorem s_M_built_63 {Γ : sk_T} {mc ms : Nat} {I : sk_I} {J : sk_J} {Q : sk_Q} {x1 : Int32} (h : ((I 41 6) ≤ x1 → sk_W Γ m_M_built mc ms 127 [(0, .ref 41), (1, .int 0)] [] sk_gg (sk_pi I 41 14 0) J 0 0 Q) ∧ (¬ (I 41 6) ≤ x1 → vp_in x1 6 ∧ ((I 47 x1.toNatClampNeg) = 0 → sk_W Γ m_M_built mc ms 63 [(0, .ref 41), (1, .int (x1 + 1))] [] sk_gg I J 0 0 Q) ∧ (¬ (I 47 x1.toNatClampNeg) = 0 → vp_in x1 6 ∧ ((I 48 x1.toNatClampNeg) < 0 → sk_W Γ m_M_built mc ms 63 [(0, .ref 41), (1, .int (x1 + 1))] [] sk_gg I J 0 0 Q) ∧ (¬ (I 48 x1.toNatClampNeg) < 0 → vp_in x1 6 ∧ vp_in (I 41 12) 12 ∧ sk_W Γ m_M_built mc ms 63 [(0, .ref 41), (1, .int (x1 + 1))] [] sk_gg (sk_pi (sk_pi I 50 (I 41 12).toNatClampNeg (I 48 x1.toNatClampNeg)) 41 12 ((I 41 12) + 1)) J 0 0 Q)))) : sk_W Γ m_M_built mc ms 63 [(0, .ref 41), (1, .int x1)] [] sk_gg I J 0 0 Q := by
  refine sk_iload_n (j := 1) d_M_built_63 rfl rfl ?_
  refine sk_aload_n (j := 0) d_M_built_64 rfl rfl ?_
  refine q_getI d_M_built_65 fg_M_75 sh_41 ?_
  refine sk_icmp_ge (tgt := 120) d_M_built_68 (by decide) (fun hc => ?_) (fun hc => ?_)
  · replace h := h.1 hc
    refine sk_aload_n (j := 0) d_M_built_120 rfl rfl ?_
    refine sk_iconst (v := 0) d_M_built_121 (by decide) ?_
    refine r_putI d_M_built_122 fp_M_78 sh_41 ?_
    refine sk_iconst (v := 0) d_M_built_125 (by decide) ?_
    refine sk_istore_n d_M_built_126 rfl (by decide) rfl ?_
    refine sk_loc [1, 0] rfl ?_
    exact h
  · replace h := h.2 hc
    refine sk_aload_n (j := 0) d_M_built_71 rfl rfl ?_
    refine q_getR d_M_built_72 fg_M_25 sh_41 rr_41_8 ?_
    refine sk_iload_n (j := 1) d_M_built_75 rfl rfl ?_
    obtain ⟨hb, h⟩ := h
    refine sk_zald d_M_built_76 sh_47 hb ?_
    refine sk_if_eq (tgt := 114) d_M_built_77 (by decide) (fun hc => ?_) (fun hc => ?_)
    · replace h := h.1 hc
      refine sk_iinc (j := 1) (v := x1 + 1) d_M_built_114 rfl (by rfl) (by decide) rfl ?_
      refine sk_goto (tgt := 63) d_M_built_117 (by decide) ?_
      refine sk_loc [1, 0] rfl ?_
      exact h
    · replace h := h.2 hc
      refine sk_aload_n (j := 0) d_M_built_80 rfl rfl ?_
      refine q_getR d_M_built_81 fg_M_29 sh_41 rr_41_9 ?_
      refine sk_iload_n (j := 1) d_M_built_84 rfl rfl ?_
      obtain ⟨hb, h⟩ := h
      refine sk_iald d_M_built_85 sh_48 hb ?_
      refine sk_if_lt (tgt := 114) d_M_built_86 (by decide) (fun hc => ?_) (fun hc => ?_)
      · replace h := h.1 hc
        refine sk_iinc (j := 1) (v := x1 + 1) d_M_built_114 rfl (by rfl) (by decide) rfl ?_
        refine sk_goto (tgt := 63) d_M_built_117 (by decide) ?_
        refine sk_loc [1, 0] rfl ?_
        exact h
      · replace h := h.2 hc
        refine sk_aload_n (j := 0) d_M_built_89 rfl rfl ?_
        refine q_getR d_M_built_90 fg_M_35 sh_41 rr_41_13 ?_
        refine sk_aload_n (j := 0) d_M_built_93 rfl rfl ?_
        refine q_getI d_M_built_94 fg_M_91 sh_41 ?_
        refine sk_aload_n (j := 0) d_M_built_97 rfl rfl ?_
        refine q_getR d_M_built_98 fg_M_29 sh_41 rr_41_9 ?_
        refine sk_iload_n (j := 1) d_M_built_101 rfl rfl ?_
        obtain ⟨hb, h⟩ := h
        refine sk_iald d_M_built_102 sh_48 hb ?_
        obtain ⟨hb, h⟩ := h
        refine r_iast d_M_built_103 sh_50 hb ?_
        refine sk_aload_n (j := 0) d_M_built_104 rfl rfl ?_
        refine sk_dup d_M_built_105 rfl ?_
        refine q_getI d_M_built_106 fg_M_91 sh_41 ?_
        refine q_cvi (y := I 41 12) rfl ?_
        refine sk_iconst (v := 1) d_M_built_109 (by decide) ?_
        refine sk_iadd d_M_built_110 ?_
        refine r_putI d_M_built_111 fp_M_91 sh_41 ?_
        refine sk_iinc (j := 1) (v := x1 + 1) d_M_built_114 rfl (by rfl) (by decide) rfl ?_
        refine sk_goto (tgt := 63) d_M_built_117 (by decide) ?_
        refine sk_loc [1, 0] rfl ?_
        exact h
theorem s_M_built_127 {Γ : sk_T} {mc ms : Nat} {I : sk_I} {J : sk_J} {Q : sk_Q} {x1 : Int32} (h : ((I 41 1) ≤ x1 → sk_W Γ m_M_built mc ms 173 [(0, .ref 41), (1, .int 0)] [] sk_gg I J 0 0 Q) ∧ (¬ (I 41 1) ≤ x1 → vp_in (I 41 14) 104 ∧ vp_in (I 41 14) 104 ∧ sk_W Γ m_M_built mc ms 127 [(0, .ref 41), (1, .int (x1 + 1))] [] sk_gg (sk_pi (sk_pi (sk_pi I 51 (I 41 14).toNatClampNeg x1) 52 (I 41 14).toNatClampNeg (-1)) 41 14 ((I 41 14) + 1)) J 0 0 Q)) : sk_W Γ m_M_built mc ms 127 [(0, .ref 41), (1, .int x1)] [] sk_gg I J 0 0 Q := by
  refine sk_iload_n (j := 1) d_M_built_127 rfl rfl ?_
  refine sk_aload_n (j := 0) d_M_built_128 rfl rfl ?_
  refine q_getI d_M_built_129 fg_M_72 sh_41 ?_
  refine sk_icmp_ge (tgt := 171) d_M_built_132 (by decide) (fun hc => ?_) (fun hc => ?_)
  · replace h := h.1 hc
    refine sk_iconst (v := 0) d_M_built_171 (by decide) ?_
    refine sk_istore_n d_M_built_172 rfl (by decide) rfl ?_
    refine sk_loc [1, 0] rfl ?_
    exact h
  · replace h := h.2 hc
    refine sk_aload_n (j := 0) d_M_built_135 rfl rfl ?_
    refine q_getR d_M_built_136 fg_M_38 sh_41 rr_41_15 ?_
    refine sk_aload_n (j := 0) d_M_built_139 rfl rfl ?_
    refine q_getI d_M_built_140 fg_M_78 sh_41 ?_
    refine sk_iload_n (j := 1) d_M_built_143 rfl rfl ?_
    obtain ⟨hb, h⟩ := h
    refine r_iast d_M_built_144 sh_51 hb ?_
    refine sk_aload_n (j := 0) d_M_built_145 rfl rfl ?_
    refine q_getR d_M_built_146 fg_M_41 sh_41 rr_41_16 ?_
    refine sk_aload_n (j := 0) d_M_built_149 rfl rfl ?_
    refine q_getI d_M_built_150 fg_M_78 sh_41 ?_
    refine q_cvi (y := I 41 14) rfl ?_
    refine sk_iconst (v := (-1)) d_M_built_153 (by decide) ?_
    obtain ⟨hb, h⟩ := h
    refine r_iast d_M_built_154 sh_52 hb ?_
    refine sk_aload_n (j := 0) d_M_built_155 rfl rfl ?_
    refine sk_dup d_M_built_156 rfl ?_
    refine q_getI d_M_built_157 fg_M_78 sh_41 ?_
    refine q_cvi (y := I 41 14) rfl ?_
    refine sk_iconst (v := 1) d_M_built_160 (by decide) ?_
    refine sk_iadd d_M_built_161 ?_
    refine r_putI d_M_built_162 fp_M_78 sh_41 ?_
    refine sk_iinc (j := 1) (v := x1 + 1) d_M_built_165 rfl (by rfl) (by decide) rfl ?_
    refine sk_goto (tgt := 127) d_M_built_168 (by decide) ?_
    refine sk_loc [1, 0] rfl ?_
    exact h
theorem s_M_built_173 {Γ : sk_T} {mc ms : Nat} {I : sk_I} {J : sk_J} {Q : sk_Q} {x1 : Int32} (h : ((I 41 1) ≤ x1 → Q (.inl none) sk_gg I J) ∧ (¬ (I 41 1) ≤ x1 → sk_W Γ m_M_built mc ms 183 [(0, .ref 41), (1, .int x1), (2, .int 0)] [] sk_gg I J 0 0 Q)) : sk_W Γ m_M_built mc ms 173 [(0, .ref 41), (1, .int x1)] [] sk_gg I J 0 0 Q := by
  refine sk_iload_n (j := 1) d_M_built_173 rfl rfl ?_
  refine sk_aload_n (j := 0) d_M_built_174 rfl rfl ?_
  refine q_getI d_M_built_175 fg_M_72 sh_41 ?_
  refine sk_icmp_ge (tgt := 235) d_M_built_178 (by decide) (fun hc => ?_) (fun hc => ?_)
  · replace h := h.1 hc
    exact sk_vreturn d_M_built_235 rfl (Nat.zero_le _) (Nat.zero_le _) h
  · replace h := h.2 hc
    refine sk_iconst (v := 0) d_M_built_181 (by decide) ?_
    refine sk_istore_n d_M_built_182 rfl (by decide) rfl ?_
    refine sk_loc [1, 2, 0] rfl ?_
    exact h
theorem s_M_built_183 {Γ : sk_T} {mc ms : Nat} {I : sk_I} {J : sk_J} {Q : sk_Q} {x1 : Int32} {x2 : Int32} (h : vp_in x1 26 ∧ ((I 45 x1.toNatClampNeg) ≤ x2 → sk_W Γ m_M_built mc ms 173 [(0, .ref 41), (1, .int (x1 + 1))] [] sk_gg I J 0 0 Q) ∧ (¬ (I 45 x1.toNatClampNeg) ≤ x2 → vp_in (I 41 14) 104 ∧ vp_in (I 41 14) 104 ∧ sk_W Γ m_M_built mc ms 183 [(0, .ref 41), (1, .int x1), (2, .int (x2 + 1))] [] sk_gg (sk_pi (sk_pi (sk_pi I 51 (I 41 14).toNatClampNeg x1) 52 (I 41 14).toNatClampNeg x2) 41 14 ((I 41 14) + 1)) J 0 0 Q)) : sk_W Γ m_M_built mc ms 183 [(0, .ref 41), (1, .int x1), (2, .int x2)] [] sk_gg I J 0 0 Q := by
  refine sk_iload_n (j := 2) d_M_built_183 rfl rfl ?_
  refine sk_aload_n (j := 0) d_M_built_184 rfl rfl ?_
  refine q_getR d_M_built_185 fg_M_19 sh_41 rr_41_5 ?_
  refine sk_iload_n (j := 1) d_M_built_188 rfl rfl ?_
  obtain ⟨hb, h⟩ := h
  refine sk_iald d_M_built_189 sh_45 hb ?_
  refine sk_icmp_ge (tgt := 229) d_M_built_190 (by decide) (fun hc => ?_) (fun hc => ?_)
  · replace h := h.1 hc
    refine sk_iinc (j := 1) (v := x1 + 1) d_M_built_229 rfl (by rfl) (by decide) rfl ?_
    refine sk_goto (tgt := 173) d_M_built_232 (by decide) ?_
    refine sk_loc [1, 0] rfl ?_
    exact h
  · replace h := h.2 hc
    refine sk_aload_n (j := 0) d_M_built_193 rfl rfl ?_
    refine q_getR d_M_built_194 fg_M_38 sh_41 rr_41_15 ?_
    refine sk_aload_n (j := 0) d_M_built_197 rfl rfl ?_
    refine q_getI d_M_built_198 fg_M_78 sh_41 ?_
    refine sk_iload_n (j := 1) d_M_built_201 rfl rfl ?_
    obtain ⟨hb, h⟩ := h
    refine r_iast d_M_built_202 sh_51 hb ?_
    refine sk_aload_n (j := 0) d_M_built_203 rfl rfl ?_
    refine q_getR d_M_built_204 fg_M_41 sh_41 rr_41_16 ?_
    refine sk_aload_n (j := 0) d_M_built_207 rfl rfl ?_
    refine q_getI d_M_built_208 fg_M_78 sh_41 ?_
    refine q_cvi (y := I 41 14) rfl ?_
    refine sk_iload_n (j := 2) d_M_built_211 rfl rfl ?_
    obtain ⟨hb, h⟩ := h
    refine r_iast d_M_built_212 sh_52 hb ?_
    refine sk_aload_n (j := 0) d_M_built_213 rfl rfl ?_
    refine sk_dup d_M_built_214 rfl ?_
    refine q_getI d_M_built_215 fg_M_78 sh_41 ?_
    refine q_cvi (y := I 41 14) rfl ?_
    refine sk_iconst (v := 1) d_M_built_218 (by decide) ?_
    refine sk_iadd d_M_built_219 ?_
    refine r_putI d_M_built_220 fp_M_78 sh_41 ?_
    refine sk_iinc (j := 2) (v := x2 + 1) d_M_built_223 rfl (by rfl) (by decide) rfl ?_
    refine sk_goto (tgt := 183) d_M_built_226 (by decide) ?_
    refine sk_loc [1, 2, 0] rfl ?_
    exact h
theorem s_M_source_0 {Γ : sk_T} {mc ms : Nat} {I : sk_I} {J : sk_J} {Q : sk_Q} {x1 : Int32} (h : ((I 41 6) = 6 → sk_W Γ m_M_source mc ms 24 [(0, .ref 41), (1, .int x1)] [.int 1, .ref 41] sk_gg I J 0 0 Q) ∧ (¬ (I 41 6) = 6 → (¬ (I 41 1) = 26 → sk_W Γ m_M_source mc ms 24 [(0, .ref 41), (1, .int x1)] [.int 0, .ref 41] sk_gg I J 0 0 Q) ∧ ((I 41 1) = 26 → sk_W Γ m_M_source mc ms 24 [(0, .ref 41), (1, .int x1)] [.int 1, .ref 41] sk_gg I J 0 0 Q))) : sk_W Γ m_M_source mc ms 0 [(0, .ref 41), (1, .int x1)] [] sk_gg I J 0 0 Q := by
  refine sk_aload_n (j := 0) d_M_source_0 rfl rfl ?_
  refine sk_aload_n (j := 0) d_M_source_1 rfl rfl ?_
  refine q_getI d_M_source_2 fg_M_75 sh_41 ?_
  refine sk_bipush (v := 6) d_M_source_5 (by decide) ?_
  refine sk_icmp_eq (tgt := 19) d_M_source_7 (by decide) (fun hc => ?_) (fun hc => ?_)
  · replace h := h.1 hc
    refine sk_iconst (v := 1) d_M_source_19 (by decide) ?_
    refine sk_goto (tgt := 24) d_M_source_20 (by decide) ?_
    exact h
  · replace h := h.2 hc
    refine sk_aload_n (j := 0) d_M_source_10 rfl rfl ?_
    refine q_getI d_M_source_11 fg_M_72 sh_41 ?_
    refine sk_bipush (v := 26) d_M_source_14 (by decide) ?_
    refine sk_icmp_ne (tgt := 23) d_M_source_16 (by decide) (fun hc => ?_) (fun hc => ?_)
    · replace h := h.1 hc
      refine sk_iconst (v := 0) d_M_source_23 (by decide) ?_
      exact h
    · replace h := h.2 hc
      refine sk_iconst (v := 1) d_M_source_19 (by decide) ?_
      refine sk_goto (tgt := 24) d_M_source_20 (by decide) ?_
      exact h
theorem s_M_source_24 {Γ : sk_T} {mc ms : Nat} {I : sk_I} {J : sk_J} {Q : sk_Q} {x1 : Int32} {u1 : Int32} (h : (u1 ≤ 0 → vp_in (I 41 1) 26 ∧ vp_in (I 41 1) 26 ∧ vp_in (I 41 6) 6 ∧ vp_in (I 41 6) 6 ∧ (x1 = 0 ∨ x1 = 1) ∧ vp_in (I 41 6) 6 ∧ sk_S Γ m_M_built 0 0 (.ref 41 :: []) sk_gg (sk_pi (sk_pi (sk_pi (sk_pi (sk_pi (sk_pi (sk_pi (sk_pi I 41 0 u1) 42 (I 41 1).toNatClampNeg (I 41 6)) 45 (I 41 1).toNatClampNeg 0) 46 (I 41 6).toNatClampNeg (I 41 1)) 47 (I 41 6).toNatClampNeg x1) 48 (I 41 6).toNatClampNeg (-1)) 41 6 ((I 41 6) + 1)) 41 1 ((I 41 1) + 1)) J (sk_Kv fun I' J' => sk_W Γ m_M_source mc ms 116 [(0, .ref 41)] [] sk_gg I' J' 0 0 Q)) ∧ (¬ u1 ≤ 0 → Q (.inl (some (.int 0))) sk_gg (sk_pi I 41 0 u1) J)) : sk_W Γ m_M_source mc ms 24 [(0, .ref 41), (1, .int x1)] [.int u1, .ref 41] sk_gg I J 0 0 Q := by
  refine r_putI d_M_source_24 fp_M_68 sh_41 ?_
  refine sk_aload_n (j := 0) d_M_source_27 rfl rfl ?_
  refine q_getI d_M_source_28 fg_M_68 sh_41 ?_
  refine q_cvi (y := u1) rfl ?_
  refine sk_if_le (tgt := 36) d_M_source_31 (by decide) (fun hc => ?_) (fun hc => ?_)
  · replace h := h.1 hc
    refine sk_aload_n (j := 0) d_M_source_36 rfl rfl ?_
    refine q_getR d_M_source_37 fg_M_7 sh_41 rr_41_2 ?_
    refine sk_aload_n (j := 0) d_M_source_40 rfl rfl ?_
    refine q_getI d_M_source_41 fg_M_72 sh_41 ?_
    refine q_cvi (y := I 41 1) rfl ?_
    refine sk_aload_n (j := 0) d_M_source_44 rfl rfl ?_
    refine q_getI d_M_source_45 fg_M_75 sh_41 ?_
    refine q_cvi (y := I 41 6) rfl ?_
    obtain ⟨hb, h⟩ := h
    refine r_iast d_M_source_48 sh_42 hb ?_
    refine sk_aload_n (j := 0) d_M_source_49 rfl rfl ?_
    refine q_getR d_M_source_50 fg_M_19 sh_41 rr_41_5 ?_
    refine sk_aload_n (j := 0) d_M_source_53 rfl rfl ?_
    refine q_getI d_M_source_54 fg_M_72 sh_41 ?_
    refine q_cvi (y := I 41 1) rfl ?_
    refine sk_iconst (v := 0) d_M_source_57 (by decide) ?_
    obtain ⟨hb, h⟩ := h
    refine r_iast d_M_source_58 sh_45 hb ?_
    refine sk_aload_n (j := 0) d_M_source_59 rfl rfl ?_
    refine q_getR d_M_source_60 fg_M_22 sh_41 rr_41_7 ?_
    refine sk_aload_n (j := 0) d_M_source_63 rfl rfl ?_
    refine q_getI d_M_source_64 fg_M_75 sh_41 ?_
    refine q_cvi (y := I 41 6) rfl ?_
    refine sk_aload_n (j := 0) d_M_source_67 rfl rfl ?_
    refine q_getI d_M_source_68 fg_M_72 sh_41 ?_
    refine q_cvi (y := I 41 1) rfl ?_
    obtain ⟨hb, h⟩ := h
    refine r_iast d_M_source_71 sh_46 hb ?_
    refine sk_aload_n (j := 0) d_M_source_72 rfl rfl ?_
    refine q_getR d_M_source_73 fg_M_25 sh_41 rr_41_8 ?_
    refine sk_aload_n (j := 0) d_M_source_76 rfl rfl ?_
    refine q_getI d_M_source_77 fg_M_75 sh_41 ?_
    refine q_cvi (y := I 41 6) rfl ?_
    refine sk_iload_n (j := 1) d_M_source_80 rfl rfl ?_
    obtain ⟨hb, hz, h⟩ := h
    refine r_zast d_M_source_81 sh_47 hb hz ?_
    refine sk_aload_n (j := 0) d_M_source_82 rfl rfl ?_
    refine q_getR d_M_source_83 fg_M_29 sh_41 rr_41_9 ?_
    refine sk_aload_n (j := 0) d_M_source_86 rfl rfl ?_
    refine q_getI d_M_source_87 fg_M_75 sh_41 ?_
    refine q_cvi (y := I 41 6) rfl ?_
    refine sk_iconst (v := (-1)) d_M_source_90 (by decide) ?_
    obtain ⟨hb, h⟩ := h
    refine r_iast d_M_source_91 sh_48 hb ?_
    refine sk_aload_n (j := 0) d_M_source_92 rfl rfl ?_
    refine sk_dup d_M_source_93 rfl ?_
    refine q_getI d_M_source_94 fg_M_75 sh_41 ?_
    refine q_cvi (y := I 41 6) rfl ?_
    refine sk_iconst (v := 1) d_M_source_97 (by decide) ?_
    refine sk_iadd d_M_source_98 ?_
    refine r_putI d_M_source_99 fp_M_75 sh_41 ?_
    refine sk_aload_n (j := 0) d_M_source_102 rfl rfl ?_
    refine sk_dup d_M_source_103 rfl ?_
    refine q_getI d_M_source_104 fg_M_72 sh_41 ?_
    refine q_cvi (y := I 41 1) rfl ?_
    refine sk_iconst (v := 1) d_M_source_107 (by decide) ?_
    refine sk_iadd d_M_source_108 ?_
    refine r_putI d_M_source_109 fp_M_72 sh_41 ?_
    refine sk_aload_n (j := 0) d_M_source_112 rfl rfl ?_
    refine sk_loc [0] rfl ?_
    exact q_callVv (S := []) (as := []) d_M_source_113 lk_M_97 sh_41 ⟨_, rfl⟩ rfl ⟨by decide, by decide⟩ (Nat.le_of_ble_eq_true rfl) rfl (Nat.zero_le _) (Nat.zero_le _) h
  · replace h := h.2 hc
    refine sk_iconst (v := 0) d_M_source_34 (by decide) ?_
    exact sk_ireturn d_M_source_35 rfl (Nat.zero_le _) (Nat.zero_le _) h
theorem s_M_source_116 {Γ : sk_T} {mc ms : Nat} {I : sk_I} {J : sk_J} {Q : sk_Q}  (h : Q (.inl (some (.int ((I 41 1) - 1)))) sk_gg I J) : sk_W Γ m_M_source mc ms 116 [(0, .ref 41)] [] sk_gg I J 0 0 Q := by
  refine sk_aload_n (j := 0) d_M_source_116 rfl rfl ?_
  refine q_getI d_M_source_117 fg_M_72 sh_41 ?_
  refine sk_iconst (v := 1) d_M_source_120 (by decide) ?_
  refine sk_isub d_M_source_121 ?_
  exact sk_ireturn d_M_source_122 rfl (Nat.zero_le _) (Nat.zero_le _) h
theorem s_M_gate_0 {Γ : sk_T} {mc ms : Nat} {I : sk_I} {J : sk_J} {Q : sk_Q} {x1 : Int32} {x2 : Int32} {x3 : Int32} {x4 : Int32} (h : (x1 < 0 → sk_S Γ m_M_noLine 0 0 (.ref 41 :: [.int x2]) sk_gg I J (sk_Ki fun v' I' J' => sk_W Γ m_M_gate mc ms 37 [(0, .ref 41), (1, .int x1), (2, .int x2), (3, .int x3), (4, .int x4), (5, .int 1)] [.int v'] sk_gg I' J' 0 0 Q)) ∧ (¬ x1 < 0 → (5 < x1 → sk_S Γ m_M_noLine 0 0 (.ref 41 :: [.int x2]) sk_gg I J (sk_Ki fun v' I' J' => sk_W Γ m_M_gate mc ms 37 [(0, .ref 41), (1, .int x1), (2, .int x2), (3, .int x3), (4, .int x4), (5, .int 1)] [.int v'] sk_gg I' J' 0 0 Q)) ∧ (¬ 5 < x1 → (x2 = (-1) → sk_S Γ m_M_noLine 0 0 (.ref 41 :: [.int x2]) sk_gg I J (sk_Ki fun v' I' J' => sk_W Γ m_M_gate mc ms 37 [(0, .ref 41), (1, .int x1), (2, .int x2), (3, .int x3), (4, .int x4), (5, .int 1)] [.int v'] sk_gg I' J' 0 0 Q)) ∧ (¬ x2 = (-1) → (¬ x3 = (-1) → sk_S Γ m_M_noLine 0 0 (.ref 41 :: [.int x2]) sk_gg I J (sk_Ki fun v' I' J' => sk_W Γ m_M_gate mc ms 37 [(0, .ref 41), (1, .int x1), (2, .int x2), (3, .int x3), (4, .int x4), (5, .int 0)] [.int v'] sk_gg I' J' 0 0 Q)) ∧ (x3 = (-1) → (x4 = (-1) → sk_S Γ m_M_noLine 0 0 (.ref 41 :: [.int x2]) sk_gg I J (sk_Ki fun v' I' J' => sk_W Γ m_M_gate mc ms 37 [(0, .ref 41), (1, .int x1), (2, .int x2), (3, .int x3), (4, .int x4), (5, .int 0)] [.int v'] sk_gg I' J' 0 0 Q)) ∧ (¬ x4 = (-1) → sk_S Γ m_M_noLine 0 0 (.ref 41 :: [.int x2]) sk_gg I J (sk_Ki fun v' I' J' => sk_W Γ m_M_gate mc ms 37 [(0, .ref 41), (1, .int x1), (2, .int x2), (3, .int x3), (4, .int x4), (5, .int 1)] [.int v'] sk_gg I' J' 0 0 Q))))))) : sk_W Γ m_M_gate mc ms 0 [(0, .ref 41), (1, .int x1), (2, .int x2), (3, .int x3), (4, .int x4)] [] sk_gg I J 0 0 Q := by
  refine sk_iload_n (j := 1) d_M_gate_0 rfl rfl ?_
  refine sk_if_lt (tgt := 25) d_M_gate_1 (by decide) (fun hc => ?_) (fun hc => ?_)
  · replace h := h.1 hc
    refine sk_iconst (v := 1) d_M_gate_25 (by decide) ?_
    refine sk_goto (tgt := 30) d_M_gate_26 (by decide) ?_
    refine sk_istore d_M_gate_30 (by decide) rfl ?_
    refine sk_aload_n (j := 1) d_M_gate_32 rfl rfl ?_
    refine sk_iload_n (j := 3) d_M_gate_33 rfl rfl ?_
    refine sk_loc [1, 2, 3, 4, 5, 0] rfl ?_
    exact q_callVi (S := []) (as := [.int x2]) d_M_gate_34 lk_M_100 sh_41 ⟨_, rfl⟩ rfl ⟨by decide, by decide⟩ (Nat.le_of_ble_eq_true rfl) rfl (Nat.zero_le _) (Nat.zero_le _) h
  · replace h := h.2 hc
    refine sk_iload_n (j := 1) d_M_gate_4 rfl rfl ?_
    refine sk_iconst (v := 5) d_M_gate_5 (by decide) ?_
    refine sk_icmp_gt (tgt := 25) d_M_gate_6 (by decide) (fun hc => ?_) (fun hc => ?_)
    · replace h := h.1 hc
      refine sk_iconst (v := 1) d_M_gate_25 (by decide) ?_
      refine sk_goto (tgt := 30) d_M_gate_26 (by decide) ?_
      refine sk_istore d_M_gate_30 (by decide) rfl ?_
      refine sk_aload_n (j := 1) d_M_gate_32 rfl rfl ?_
      refine sk_iload_n (j := 3) d_M_gate_33 rfl rfl ?_
      refine sk_loc [1, 2, 3, 4, 5, 0] rfl ?_
      exact q_callVi (S := []) (as := [.int x2]) d_M_gate_34 lk_M_100 sh_41 ⟨_, rfl⟩ rfl ⟨by decide, by decide⟩ (Nat.le_of_ble_eq_true rfl) rfl (Nat.zero_le _) (Nat.zero_le _) h
    · replace h := h.2 hc
      refine sk_iload_n (j := 2) d_M_gate_9 rfl rfl ?_
      refine sk_iconst (v := (-1)) d_M_gate_10 (by decide) ?_
      refine sk_icmp_eq (tgt := 25) d_M_gate_11 (by decide) (fun hc => ?_) (fun hc => ?_)
      · replace h := h.1 hc
        refine sk_iconst (v := 1) d_M_gate_25 (by decide) ?_
        refine sk_goto (tgt := 30) d_M_gate_26 (by decide) ?_
        refine sk_istore d_M_gate_30 (by decide) rfl ?_
        refine sk_aload_n (j := 1) d_M_gate_32 rfl rfl ?_
        refine sk_iload_n (j := 3) d_M_gate_33 rfl rfl ?_
        refine sk_loc [1, 2, 3, 4, 5, 0] rfl ?_
        exact q_callVi (S := []) (as := [.int x2]) d_M_gate_34 lk_M_100 sh_41 ⟨_, rfl⟩ rfl ⟨by decide, by decide⟩ (Nat.le_of_ble_eq_true rfl) rfl (Nat.zero_le _) (Nat.zero_le _) h
      · replace h := h.2 hc
        refine sk_iload_n (j := 3) d_M_gate_14 rfl rfl ?_
        refine sk_iconst (v := (-1)) d_M_gate_15 (by decide) ?_
        refine sk_icmp_ne (tgt := 29) d_M_gate_16 (by decide) (fun hc => ?_) (fun hc => ?_)
        · replace h := h.1 hc
          refine sk_iconst (v := 0) d_M_gate_29 (by decide) ?_
          refine sk_istore d_M_gate_30 (by decide) rfl ?_
          refine sk_aload_n (j := 1) d_M_gate_32 rfl rfl ?_
          refine sk_iload_n (j := 3) d_M_gate_33 rfl rfl ?_
          refine sk_loc [1, 2, 3, 4, 5, 0] rfl ?_
          exact q_callVi (S := []) (as := [.int x2]) d_M_gate_34 lk_M_100 sh_41 ⟨_, rfl⟩ rfl ⟨by decide, by decide⟩ (Nat.le_of_ble_eq_true rfl) rfl (Nat.zero_le _) (Nat.zero_le _) h
        · replace h := h.2 hc
          refine sk_iload (j := 4) d_M_gate_19 rfl ?_
          refine sk_iconst (v := (-1)) d_M_gate_21 (by decide) ?_
          refine sk_icmp_eq (tgt := 29) d_M_gate_22 (by decide) (fun hc => ?_) (fun hc => ?_)
          · replace h := h.1 hc
            refine sk_iconst (v := 0) d_M_gate_29 (by decide) ?_
            refine sk_istore d_M_gate_30 (by decide) rfl ?_
            refine sk_aload_n (j := 1) d_M_gate_32 rfl rfl ?_
            refine sk_iload_n (j := 3) d_M_gate_33 rfl rfl ?_
            refine sk_loc [1, 2, 3, 4, 5, 0] rfl ?_
            exact q_callVi (S := []) (as := [.int x2]) d_M_gate_34 lk_M_100 sh_41 ⟨_, rfl⟩ rfl ⟨by decide, by decide⟩ (Nat.le_of_ble_eq_true rfl) rfl (Nat.zero_le _) (Nat.zero_le _) h
          · replace h := h.2 hc
            refine sk_iconst (v := 1) d_M_gate_25 (by decide) ?_
            refine sk_goto (tgt := 30) d_M_gate_26 (by decide) ?_
            refine sk_istore d_M_gate_30 (by decide) rfl ?_
            refine sk_aload_n (j := 1) d_M_gate_32 rfl rfl ?_
            refine sk_iload_n (j := 3) d_M_gate_33 rfl rfl ?_
            refine sk_loc [1, 2, 3, 4, 5, 0] rfl ?_
            exact q_callVi (S := []) (as := [.int x2]) d_M_gate_34 lk_M_100 sh_41 ⟨_, rfl⟩ rfl ⟨by decide, by decide⟩ (Nat.le_of_ble_eq_true rfl) rfl (Nat.zero_le _) (Nat.zero_le _) h
theorem s_M_gate_37 {Γ : sk_T} {mc ms : Nat} {I : sk_I} {J : sk_J} {Q : sk_Q} {x1 : Int32} {x2 : Int32} {x3 : Int32} {x4 : Int32} {x5 : Int32} {u0 : Int32} (h : (¬ u0 = 0 → sk_W Γ m_M_gate mc ms 73 [(0, .ref 41), (1, .int x1), (2, .int x2), (3, .int x3), (4, .int x4), (5, .int x5)] [.int 1] sk_gg I J 0 0 Q) ∧ (u0 = 0 → (x3 = (-1) → (x4 = (-1) → sk_W Γ m_M_gate mc ms 73 [(0, .ref 41), (1, .int x1), (2, .int x2), (3, .int x3), (4, .int x4), (5, .int x5)] [.int 0] sk_gg I J 0 0 Q) ∧ (¬ x4 = (-1) → sk_S Γ m_M_noLine 0 0 (.ref 41 :: [.int x4]) sk_gg I J (sk_Ki fun v' I' J' => sk_W Γ m_M_gate mc ms 65 [(0, .ref 41), (1, .int x1), (2, .int x2), (3, .int x3), (4, .int x4), (5, .int x5)] [.int v'] sk_gg I' J' 0 0 Q))) ∧ (¬ x3 = (-1) → sk_S Γ m_M_noLine 0 0 (.ref 41 :: [.int x3]) sk_gg I J (sk_Ki fun v' I' J' => sk_W Γ m_M_gate mc ms 50 [(0, .ref 41), (1, .int x1), (2, .int x2), (3, .int x3), (4, .int x4), (5, .int x5)] [.int v'] sk_gg I' J' 0 0 Q)))) : sk_W Γ m_M_gate mc ms 37 [(0, .ref 41), (1, .int x1), (2, .int x2), (3, .int x3), (4, .int x4), (5, .int x5)] [.int u0] sk_gg I J 0 0 Q := by
  refine sk_if_ne (tgt := 68) d_M_gate_37 (by decide) (fun hc => ?_) (fun hc => ?_)
  · replace h := h.1 hc
    refine sk_iconst (v := 1) d_M_gate_68 (by decide) ?_
    refine sk_goto (tgt := 73) d_M_gate_69 (by decide) ?_
    exact h
  · replace h := h.2 hc
    refine sk_iload_n (j := 3) d_M_gate_40 rfl rfl ?_
    refine sk_iconst (v := (-1)) d_M_gate_41 (by decide) ?_
    refine sk_icmp_eq (tgt := 53) d_M_gate_42 (by decide) (fun hc => ?_) (fun hc => ?_)
    · replace h := h.1 hc
      refine sk_iload (j := 4) d_M_gate_53 rfl ?_
      refine sk_iconst (v := (-1)) d_M_gate_55 (by decide) ?_
      refine sk_icmp_eq (tgt := 72) d_M_gate_56 (by decide) (fun hc => ?_) (fun hc => ?_)
      · replace h := h.1 hc
        refine sk_iconst (v := 0) d_M_gate_72 (by decide) ?_
        exact h
      · replace h := h.2 hc
        refine sk_aload_n (j := 0) d_M_gate_59 rfl rfl ?_
        refine sk_iload (j := 4) d_M_gate_60 rfl ?_
        exact q_callVi (S := []) (as := [.int x4]) d_M_gate_62 lk_M_100 sh_41 ⟨_, rfl⟩ rfl ⟨by decide, by decide⟩ (Nat.le_of_ble_eq_true rfl) rfl (Nat.zero_le _) (Nat.zero_le _) h
    · replace h := h.2 hc
      refine sk_aload_n (j := 0) d_M_gate_45 rfl rfl ?_
      refine sk_iload_n (j := 3) d_M_gate_46 rfl rfl ?_
      exact q_callVi (S := []) (as := [.int x3]) d_M_gate_47 lk_M_100 sh_41 ⟨_, rfl⟩ rfl ⟨by decide, by decide⟩ (Nat.le_of_ble_eq_true rfl) rfl (Nat.zero_le _) (Nat.zero_le _) h
theorem s_M_gate_50 {Γ : sk_T} {mc ms : Nat} {I : sk_I} {J : sk_J} {Q : sk_Q} {x1 : Int32} {x2 : Int32} {x3 : Int32} {x4 : Int32} {x5 : Int32} {u0 : Int32} (h : (¬ u0 = 0 → sk_W Γ m_M_gate mc ms 73 [(0, .ref 41), (1, .int x1), (2, .int x2), (3, .int x3), (4, .int x4), (5, .int x5)] [.int 1] sk_gg I J 0 0 Q) ∧ (u0 = 0 → (x4 = (-1) → sk_W Γ m_M_gate mc ms 73 [(0, .ref 41), (1, .int x1), (2, .int x2), (3, .int x3), (4, .int x4), (5, .int x5)] [.int 0] sk_gg I J 0 0 Q) ∧ (¬ x4 = (-1) → sk_S Γ m_M_noLine 0 0 (.ref 41 :: [.int x4]) sk_gg I J (sk_Ki fun v' I' J' => sk_W Γ m_M_gate mc ms 65 [(0, .ref 41), (1, .int x1), (2, .int x2), (3, .int x3), (4, .int x4), (5, .int x5)] [.int v'] sk_gg I' J' 0 0 Q)))) : sk_W Γ m_M_gate mc ms 50 [(0, .ref 41), (1, .int x1), (2, .int x2), (3, .int x3), (4, .int x4), (5, .int x5)] [.int u0] sk_gg I J 0 0 Q := by
  refine sk_if_ne (tgt := 68) d_M_gate_50 (by decide) (fun hc => ?_) (fun hc => ?_)
  · replace h := h.1 hc
    refine sk_iconst (v := 1) d_M_gate_68 (by decide) ?_
    refine sk_goto (tgt := 73) d_M_gate_69 (by decide) ?_
    exact h
  · replace h := h.2 hc
    refine sk_iload (j := 4) d_M_gate_53 rfl ?_
    refine sk_iconst (v := (-1)) d_M_gate_55 (by decide) ?_
    refine sk_icmp_eq (tgt := 72) d_M_gate_56 (by decide) (fun hc => ?_) (fun hc => ?_)
    · replace h := h.1 hc
      refine sk_iconst (v := 0) d_M_gate_72 (by decide) ?_
      exact h
    · replace h := h.2 hc
      refine sk_aload_n (j := 0) d_M_gate_59 rfl rfl ?_
      refine sk_iload (j := 4) d_M_gate_60 rfl ?_
      exact q_callVi (S := []) (as := [.int x4]) d_M_gate_62 lk_M_100 sh_41 ⟨_, rfl⟩ rfl ⟨by decide, by decide⟩ (Nat.le_of_ble_eq_true rfl) rfl (Nat.zero_le _) (Nat.zero_le _) h
theorem s_M_gate_65 {Γ : sk_T} {mc ms : Nat} {I : sk_I} {J : sk_J} {Q : sk_Q} {x1 : Int32} {x2 : Int32} {x3 : Int32} {x4 : Int32} {x5 : Int32} {u0 : Int32} (h : (u0 = 0 → sk_W Γ m_M_gate mc ms 73 [(0, .ref 41), (1, .int x1), (2, .int x2), (3, .int x3), (4, .int x4), (5, .int x5)] [.int 0] sk_gg I J 0 0 Q) ∧ (¬ u0 = 0 → sk_W Γ m_M_gate mc ms 73 [(0, .ref 41), (1, .int x1), (2, .int x2), (3, .int x3), (4, .int x4), (5, .int x5)] [.int 1] sk_gg I J 0 0 Q)) : sk_W Γ m_M_gate mc ms 65 [(0, .ref 41), (1, .int x1), (2, .int x2), (3, .int x3), (4, .int x4), (5, .int x5)] [.int u0] sk_gg I J 0 0 Q := by
  refine sk_if_eq (tgt := 72) d_M_gate_65 (by decide) (fun hc => ?_) (fun hc => ?_)
  · replace h := h.1 hc
    refine sk_iconst (v := 0) d_M_gate_72 (by decide) ?_
    exact h
  · replace h := h.2 hc
    refine sk_iconst (v := 1) d_M_gate_68 (by decide) ?_
    refine sk_goto (tgt := 73) d_M_gate_69 (by decide) ?_
    exact h
theorem s_M_gate_73 {Γ : sk_T} {mc ms : Nat} {I : sk_I} {J : sk_J} {Q : sk_Q} {x1 : Int32} {x2 : Int32} {x3 : Int32} {x4 : Int32} {x5 : Int32} {u0 : Int32} (h : (x5 = 0 → (u0 = 0 → (¬ (I 41 1) = 26 → sk_W Γ m_M_gate mc ms 108 [(0, .ref 41), (1, .int x1), (2, .int x2), (3, .int x3), (4, .int x4)] [.int 0, .ref 41] sk_gg I J 0 0 Q) ∧ ((I 41 1) = 26 → sk_W Γ m_M_gate mc ms 108 [(0, .ref 41), (1, .int x1), (2, .int x2), (3, .int x3), (4, .int x4)] [.int 3, .ref 41] sk_gg I J 0 0 Q)) ∧ (¬ u0 = 0 → sk_W Γ m_M_gate mc ms 108 [(0, .ref 41), (1, .int x1), (2, .int x2), (3, .int x3), (4, .int x4)] [.int 2, .ref 41] sk_gg I J 0 0 Q)) ∧ (¬ x5 = 0 → sk_W Γ m_M_gate mc ms 108 [(0, .ref 41), (1, .int x1), (2, .int x2), (3, .int x3), (4, .int x4)] [.int 1, .ref 41] sk_gg I J 0 0 Q)) : sk_W Γ m_M_gate mc ms 73 [(0, .ref 41), (1, .int x1), (2, .int x2), (3, .int x3), (4, .int x4), (5, .int x5)] [.int u0] sk_gg I J 0 0 Q := by
  refine sk_istore d_M_gate_73 (by decide) rfl ?_
  refine sk_aload_n (j := 1) d_M_gate_75 rfl rfl ?_
  refine sk_iload (j := 6) d_M_gate_76 rfl ?_
  refine sk_if_eq (tgt := 85) d_M_gate_78 (by decide) (fun hc => ?_) (fun hc => ?_)
  · replace h := h.1 hc
    refine sk_iload (j := 0) d_M_gate_85 rfl ?_
    refine sk_if_eq (tgt := 94) d_M_gate_87 (by decide) (fun hc => ?_) (fun hc => ?_)
    · replace h := h.1 hc
      refine sk_aload_n (j := 1) d_M_gate_94 rfl rfl ?_
      refine q_getI d_M_gate_95 fg_M_72 sh_41 ?_
      refine sk_bipush (v := 26) d_M_gate_98 (by decide) ?_
      refine sk_icmp_ne (tgt := 107) d_M_gate_100 (by decide) (fun hc => ?_) (fun hc => ?_)
      · replace h := h.1 hc
        refine sk_iconst (v := 0) d_M_gate_107 (by decide) ?_
        refine sk_loc [1, 2, 3, 4, 5] rfl ?_
        exact h
      · replace h := h.2 hc
        refine sk_iconst (v := 3) d_M_gate_103 (by decide) ?_
        refine sk_goto (tgt := 108) d_M_gate_104 (by decide) ?_
        refine sk_loc [1, 2, 3, 4, 5] rfl ?_
        exact h
    · replace h := h.2 hc
      refine sk_iconst (v := 2) d_M_gate_90 (by decide) ?_
      refine sk_goto (tgt := 108) d_M_gate_91 (by decide) ?_
      refine sk_loc [1, 2, 3, 4, 5] rfl ?_
      exact h
  · replace h := h.2 hc
    refine sk_iconst (v := 1) d_M_gate_81 (by decide) ?_
    refine sk_goto (tgt := 108) d_M_gate_82 (by decide) ?_
    refine sk_loc [1, 2, 3, 4, 5] rfl ?_
    exact h
theorem s_M_gate_108 {Γ : sk_T} {mc ms : Nat} {I : sk_I} {J : sk_J} {Q : sk_Q} {x1 : Int32} {x2 : Int32} {x3 : Int32} {x4 : Int32} {u1 : Int32} (h : (u1 ≤ 0 → vp_in (I 41 1) 26 ∧ vp_in (I 41 1) 26 ∧ vp_in (3 * (I 41 1)) 78 ∧ vp_in ((3 * (I 41 1)) + 1) 78 ∧ vp_in ((3 * (I 41 1)) + 2) 78 ∧ (¬ x3 = (-1) → (¬ x4 = (-1) → vp_in (I 41 1) 26 ∧ sk_S Γ m_M_built 0 0 (.ref 41 :: []) sk_gg (sk_pi (sk_pi (sk_pi (sk_pi (sk_pi (sk_pi (sk_pi (sk_pi I 41 0 u1) 42 (I 41 1).toNatClampNeg (-1)) 43 (I 41 1).toNatClampNeg x1) 44 (3 * (I 41 1)).toNatClampNeg x2) 44 ((3 * (I 41 1)) + 1).toNatClampNeg x3) 44 ((3 * (I 41 1)) + 2).toNatClampNeg x4) 45 (I 41 1).toNatClampNeg 3) 41 1 ((I 41 1) + 1)) J (sk_Kv fun I' J' => sk_W Γ m_M_gate mc ms 224 [(0, .ref 41)] [] sk_gg I' J' 0 0 Q)) ∧ (x4 = (-1) → vp_in (I 41 1) 26 ∧ sk_S Γ m_M_built 0 0 (.ref 41 :: []) sk_gg (sk_pi (sk_pi (sk_pi (sk_pi (sk_pi (sk_pi (sk_pi (sk_pi I 41 0 u1) 42 (I 41 1).toNatClampNeg (-1)) 43 (I 41 1).toNatClampNeg x1) 44 (3 * (I 41 1)).toNatClampNeg x2) 44 ((3 * (I 41 1)) + 1).toNatClampNeg x3) 44 ((3 * (I 41 1)) + 2).toNatClampNeg x4) 45 (I 41 1).toNatClampNeg 2) 41 1 ((I 41 1) + 1)) J (sk_Kv fun I' J' => sk_W Γ m_M_gate mc ms 224 [(0, .ref 41)] [] sk_gg I' J' 0 0 Q))) ∧ (x3 = (-1) → vp_in (I 41 1) 26 ∧ sk_S Γ m_M_built 0 0 (.ref 41 :: []) sk_gg (sk_pi (sk_pi (sk_pi (sk_pi (sk_pi (sk_pi (sk_pi (sk_pi I 41 0 u1) 42 (I 41 1).toNatClampNeg (-1)) 43 (I 41 1).toNatClampNeg x1) 44 (3 * (I 41 1)).toNatClampNeg x2) 44 ((3 * (I 41 1)) + 1).toNatClampNeg x3) 44 ((3 * (I 41 1)) + 2).toNatClampNeg x4) 45 (I 41 1).toNatClampNeg 1) 41 1 ((I 41 1) + 1)) J (sk_Kv fun I' J' => sk_W Γ m_M_gate mc ms 224 [(0, .ref 41)] [] sk_gg I' J' 0 0 Q))) ∧ (¬ u1 ≤ 0 → Q (.inl (some (.int 0))) sk_gg (sk_pi I 41 0 u1) J)) : sk_W Γ m_M_gate mc ms 108 [(0, .ref 41), (1, .int x1), (2, .int x2), (3, .int x3), (4, .int x4)] [.int u1, .ref 41] sk_gg I J 0 0 Q := by
  refine r_putI d_M_gate_108 fp_M_68 sh_41 ?_
  refine sk_aload_n (j := 0) d_M_gate_111 rfl rfl ?_
  refine q_getI d_M_gate_112 fg_M_68 sh_41 ?_
  refine q_cvi (y := u1) rfl ?_
  refine sk_if_le (tgt := 120) d_M_gate_115 (by decide) (fun hc => ?_) (fun hc => ?_)
  · replace h := h.1 hc
    refine sk_aload_n (j := 0) d_M_gate_120 rfl rfl ?_
    refine q_getR d_M_gate_121 fg_M_7 sh_41 rr_41_2 ?_
    refine sk_aload_n (j := 0) d_M_gate_124 rfl rfl ?_
    refine q_getI d_M_gate_125 fg_M_72 sh_41 ?_
    refine q_cvi (y := I 41 1) rfl ?_
    refine sk_iconst (v := (-1)) d_M_gate_128 (by decide) ?_
    obtain ⟨hb, h⟩ := h
    refine r_iast d_M_gate_129 sh_42 hb ?_
    refine sk_aload_n (j := 0) d_M_gate_130 rfl rfl ?_
    refine q_getR d_M_gate_131 fg_M_13 sh_41 rr_41_3 ?_
    refine sk_aload_n (j := 0) d_M_gate_134 rfl rfl ?_
    refine q_getI d_M_gate_135 fg_M_72 sh_41 ?_
    refine q_cvi (y := I 41 1) rfl ?_
    refine sk_iload_n (j := 1) d_M_gate_138 rfl rfl ?_
    obtain ⟨hb, h⟩ := h
    refine r_iast d_M_gate_139 sh_43 hb ?_
    refine sk_aload_n (j := 0) d_M_gate_140 rfl rfl ?_
    refine q_getR d_M_gate_141 fg_M_16 sh_41 rr_41_4 ?_
    refine sk_iconst (v := 3) d_M_gate_144 (by decide) ?_
    refine sk_aload_n (j := 0) d_M_gate_145 rfl rfl ?_
    refine q_getI d_M_gate_146 fg_M_72 sh_41 ?_
    refine q_cvi (y := I 41 1) rfl ?_
    refine sk_imul d_M_gate_149 ?_
    refine sk_iload_n (j := 2) d_M_gate_150 rfl rfl ?_
    obtain ⟨hb, h⟩ := h
    refine r_iast d_M_gate_151 sh_44 hb ?_
    refine sk_aload_n (j := 0) d_M_gate_152 rfl rfl ?_
    refine q_getR d_M_gate_153 fg_M_16 sh_41 rr_41_4 ?_
    refine sk_iconst (v := 3) d_M_gate_156 (by decide) ?_
    refine sk_aload_n (j := 0) d_M_gate_157 rfl rfl ?_
    refine q_getI d_M_gate_158 fg_M_72 sh_41 ?_
    refine q_cvi (y := I 41 1) rfl ?_
    refine sk_imul d_M_gate_161 ?_
    refine sk_iconst (v := 1) d_M_gate_162 (by decide) ?_
    refine sk_iadd d_M_gate_163 ?_
    refine sk_iload_n (j := 3) d_M_gate_164 rfl rfl ?_
    obtain ⟨hb, h⟩ := h
    refine r_iast d_M_gate_165 sh_44 hb ?_
    refine sk_aload_n (j := 0) d_M_gate_166 rfl rfl ?_
    refine q_getR d_M_gate_167 fg_M_16 sh_41 rr_41_4 ?_
    refine sk_iconst (v := 3) d_M_gate_170 (by decide) ?_
    refine sk_aload_n (j := 0) d_M_gate_171 rfl rfl ?_
    refine q_getI d_M_gate_172 fg_M_72 sh_41 ?_
    refine q_cvi (y := I 41 1) rfl ?_
    refine sk_imul d_M_gate_175 ?_
    refine sk_iconst (v := 2) d_M_gate_176 (by decide) ?_
    refine sk_iadd d_M_gate_177 ?_
    refine sk_iload (j := 4) d_M_gate_178 rfl ?_
    obtain ⟨hb, h⟩ := h
    refine r_iast d_M_gate_180 sh_44 hb ?_
    refine sk_aload_n (j := 0) d_M_gate_181 rfl rfl ?_
    refine q_getR d_M_gate_182 fg_M_19 sh_41 rr_41_5 ?_
    refine sk_aload_n (j := 0) d_M_gate_185 rfl rfl ?_
    refine q_getI d_M_gate_186 fg_M_72 sh_41 ?_
    refine q_cvi (y := I 41 1) rfl ?_
    refine sk_iload_n (j := 3) d_M_gate_189 rfl rfl ?_
    refine sk_iconst (v := (-1)) d_M_gate_190 (by decide) ?_
    refine sk_icmp_ne (tgt := 198) d_M_gate_191 (by decide) (fun hc => ?_) (fun hc => ?_)
    · replace h := h.1 hc
      refine sk_iload (j := 4) d_M_gate_198 rfl ?_
      refine sk_iconst (v := (-1)) d_M_gate_200 (by decide) ?_
      refine sk_icmp_ne (tgt := 208) d_M_gate_201 (by decide) (fun hc => ?_) (fun hc => ?_)
      · replace h := h.1 hc
        refine sk_iconst (v := 3) d_M_gate_208 (by decide) ?_
        obtain ⟨hb, h⟩ := h
        refine r_iast d_M_gate_209 sh_45 hb ?_
        refine sk_aload_n (j := 0) d_M_gate_210 rfl rfl ?_
        refine sk_dup d_M_gate_211 rfl ?_
        refine q_getI d_M_gate_212 fg_M_72 sh_41 ?_
        refine q_cvi (y := I 41 1) rfl ?_
        refine sk_iconst (v := 1) d_M_gate_215 (by decide) ?_
        refine sk_iadd d_M_gate_216 ?_
        refine r_putI d_M_gate_217 fp_M_72 sh_41 ?_
        refine sk_aload_n (j := 0) d_M_gate_220 rfl rfl ?_
        refine sk_loc [0] rfl ?_
        exact q_callVv (S := []) (as := []) d_M_gate_221 lk_M_97 sh_41 ⟨_, rfl⟩ rfl ⟨by decide, by decide⟩ (Nat.le_of_ble_eq_true rfl) rfl (Nat.zero_le _) (Nat.zero_le _) h
      · replace h := h.2 hc
        refine sk_iconst (v := 2) d_M_gate_204 (by decide) ?_
        refine sk_goto (tgt := 209) d_M_gate_205 (by decide) ?_
        obtain ⟨hb, h⟩ := h
        refine r_iast d_M_gate_209 sh_45 hb ?_
        refine sk_aload_n (j := 0) d_M_gate_210 rfl rfl ?_
        refine sk_dup d_M_gate_211 rfl ?_
        refine q_getI d_M_gate_212 fg_M_72 sh_41 ?_
        refine q_cvi (y := I 41 1) rfl ?_
        refine sk_iconst (v := 1) d_M_gate_215 (by decide) ?_
        refine sk_iadd d_M_gate_216 ?_
        refine r_putI d_M_gate_217 fp_M_72 sh_41 ?_
        refine sk_aload_n (j := 0) d_M_gate_220 rfl rfl ?_
        refine sk_loc [0] rfl ?_
        exact q_callVv (S := []) (as := []) d_M_gate_221 lk_M_97 sh_41 ⟨_, rfl⟩ rfl ⟨by decide, by decide⟩ (Nat.le_of_ble_eq_true rfl) rfl (Nat.zero_le _) (Nat.zero_le _) h
    · replace h := h.2 hc
      refine sk_iconst (v := 1) d_M_gate_194 (by decide) ?_
      refine sk_goto (tgt := 209) d_M_gate_195 (by decide) ?_
      obtain ⟨hb, h⟩ := h
      refine r_iast d_M_gate_209 sh_45 hb ?_
      refine sk_aload_n (j := 0) d_M_gate_210 rfl rfl ?_
      refine sk_dup d_M_gate_211 rfl ?_
      refine q_getI d_M_gate_212 fg_M_72 sh_41 ?_
      refine q_cvi (y := I 41 1) rfl ?_
      refine sk_iconst (v := 1) d_M_gate_215 (by decide) ?_
      refine sk_iadd d_M_gate_216 ?_
      refine r_putI d_M_gate_217 fp_M_72 sh_41 ?_
      refine sk_aload_n (j := 0) d_M_gate_220 rfl rfl ?_
      refine sk_loc [0] rfl ?_
      exact q_callVv (S := []) (as := []) d_M_gate_221 lk_M_97 sh_41 ⟨_, rfl⟩ rfl ⟨by decide, by decide⟩ (Nat.le_of_ble_eq_true rfl) rfl (Nat.zero_le _) (Nat.zero_le _) h
  · replace h := h.2 hc
    refine sk_iconst (v := 0) d_M_gate_118 (by decide) ?_
    exact sk_ireturn d_M_gate_119 rfl (Nat.zero_le _) (Nat.zero_le _) h
theorem s_M_gate_224 {Γ : sk_T} {mc ms : Nat} {I : sk_I} {J : sk_J} {Q : sk_Q}  (h : Q (.inl (some (.int ((I 41 1) - 1)))) sk_gg I J) : sk_W Γ m_M_gate mc ms 224 [(0, .ref 41)] [] sk_gg I J 0 0 Q := by
  refine sk_aload_n (j := 0) d_M_gate_224 rfl rfl ?_
  refine q_getI d_M_gate_225 fg_M_72 sh_41 ?_
  refine sk_iconst (v := 1) d_M_gate_228 (by decide) ?_
  refine sk_isub d_M_gate_229 ?_
  exact sk_ireturn d_M_gate_230 rfl (Nat.zero_le _) (Nat.zero_le _) h
theorem s_M_noLine_0 {Γ : sk_T} {mc ms : Nat} {I : sk_I} {J : sk_J} {Q : sk_Q} {x1 : Int32} (h : (x1 < 0 → Q (.inl (some (.int 1))) sk_gg I J) ∧ (¬ x1 < 0 → (x1 < (I 41 1) → Q (.inl (some (.int 0))) sk_gg I J) ∧ (¬ x1 < (I 41 1) → Q (.inl (some (.int 1))) sk_gg I J))) : sk_W Γ m_M_noLine mc ms 0 [(0, .ref 41), (1, .int x1)] [] sk_gg I J 0 0 Q := by
  refine sk_iload_n (j := 1) d_M_noLine_0 rfl rfl ?_
  refine sk_if_lt (tgt := 12) d_M_noLine_1 (by decide) (fun hc => ?_) (fun hc => ?_)
  · replace h := h.1 hc
    refine sk_iconst (v := 1) d_M_noLine_12 (by decide) ?_
    refine sk_goto (tgt := 17) d_M_noLine_13 (by decide) ?_
    exact q_zreturn d_M_noLine_17 rfl (by decide) (Nat.zero_le _) (Nat.zero_le _) h
  · replace h := h.2 hc
    refine sk_iload_n (j := 1) d_M_noLine_4 rfl rfl ?_
    refine sk_aload_n (j := 0) d_M_noLine_5 rfl rfl ?_
    refine q_getI d_M_noLine_6 fg_M_72 sh_41 ?_
    refine sk_icmp_lt (tgt := 16) d_M_noLine_9 (by decide) (fun hc => ?_) (fun hc => ?_)
    · replace h := h.1 hc
      refine sk_iconst (v := 0) d_M_noLine_16 (by decide) ?_
      exact q_zreturn d_M_noLine_17 rfl (by decide) (Nat.zero_le _) (Nat.zero_le _) h
    · replace h := h.2 hc
      refine sk_iconst (v := 1) d_M_noLine_12 (by decide) ?_
      refine sk_goto (tgt := 17) d_M_noLine_13 (by decide) ?_
      exact q_zreturn d_M_noLine_17 rfl (by decide) (Nat.zero_le _) (Nat.zero_le _) h
theorem s_M_output_0 {Γ : sk_T} {mc ms : Nat} {I : sk_I} {J : sk_J} {Q : sk_Q} {x1 : Int32} (h : sk_W Γ m_M_output mc ms 4 [(0, .ref 41), (1, .int x1), (2, .int 0), (3, .int 0)] [] sk_gg I J 0 0 Q) : sk_W Γ m_M_output mc ms 0 [(0, .ref 41), (1, .int x1)] [] sk_gg I J 0 0 Q := by
  refine sk_iconst (v := 0) d_M_output_0 (by decide) ?_
  refine sk_istore_n d_M_output_1 rfl (by decide) rfl ?_
  refine sk_iconst (v := 0) d_M_output_2 (by decide) ?_
  refine sk_istore_n d_M_output_3 rfl (by decide) rfl ?_
  refine sk_loc [2, 3, 1, 0] rfl ?_
  exact h
theorem s_M_output_4 {Γ : sk_T} {mc ms : Nat} {I : sk_I} {J : sk_J} {Q : sk_Q} {x1 : Int32} {x2 : Int32} {x3 : Int32} (h : ((I 41 10) ≤ x3 → sk_S Γ m_M_noLine 0 0 (.ref 41 :: [.int x1]) sk_gg I J (sk_Ki fun v' I' J' => sk_W Γ m_M_output mc ms 44 [(0, .ref 41), (1, .int x1), (2, .int x2)] [.int v', .ref 41] sk_gg I' J' 0 0 Q)) ∧ (¬ (I 41 10) ≤ x3 → (¬ x2 = 0 → sk_W Γ m_M_output mc ms 4 [(0, .ref 41), (1, .int x1), (2, .int 1), (3, .int (x3 + 1))] [] sk_gg I J 0 0 Q) ∧ (x2 = 0 → vp_in x3 6 ∧ (¬ (I 49 x3.toNatClampNeg) = x1 → sk_W Γ m_M_output mc ms 4 [(0, .ref 41), (1, .int x1), (2, .int 0), (3, .int (x3 + 1))] [] sk_gg I J 0 0 Q) ∧ ((I 49 x3.toNatClampNeg) = x1 → sk_W Γ m_M_output mc ms 4 [(0, .ref 41), (1, .int x1), (2, .int 1), (3, .int (x3 + 1))] [] sk_gg I J 0 0 Q)))) : sk_W Γ m_M_output mc ms 4 [(0, .ref 41), (1, .int x1), (2, .int x2), (3, .int x3)] [] sk_gg I J 0 0 Q := by
  refine sk_iload_n (j := 3) d_M_output_4 rfl rfl ?_
  refine sk_aload_n (j := 0) d_M_output_5 rfl rfl ?_
  refine q_getI d_M_output_6 fg_M_94 sh_41 ?_
  refine sk_icmp_ge (tgt := 38) d_M_output_9 (by decide) (fun hc => ?_) (fun hc => ?_)
  · replace h := h.1 hc
    refine sk_aload_n (j := 0) d_M_output_38 rfl rfl ?_
    refine sk_aload_n (j := 0) d_M_output_39 rfl rfl ?_
    refine sk_iload_n (j := 1) d_M_output_40 rfl rfl ?_
    refine sk_loc [0, 1, 2] rfl ?_
    exact q_callVi (S := [.ref 41]) (as := [.int x1]) d_M_output_41 lk_M_100 sh_41 ⟨_, rfl⟩ rfl ⟨by decide, by decide⟩ (Nat.le_of_ble_eq_true rfl) rfl (Nat.zero_le _) (Nat.zero_le _) h
  · replace h := h.2 hc
    refine sk_iload_n (j := 2) d_M_output_12 rfl rfl ?_
    refine sk_if_ne (tgt := 26) d_M_output_13 (by decide) (fun hc => ?_) (fun hc => ?_)
    · replace h := h.1 hc
      refine sk_iconst (v := 1) d_M_output_26 (by decide) ?_
      refine sk_goto (tgt := 31) d_M_output_27 (by decide) ?_
      refine sk_istore_n d_M_output_31 rfl (by decide) rfl ?_
      refine sk_iinc (j := 3) (v := x3 + 1) d_M_output_32 rfl (by rfl) (by decide) rfl ?_
      refine sk_goto (tgt := 4) d_M_output_35 (by decide) ?_
      refine sk_loc [2, 3, 1, 0] rfl ?_
      exact h
    · replace h := h.2 hc
      refine sk_aload_n (j := 0) d_M_output_16 rfl rfl ?_
      refine q_getR d_M_output_17 fg_M_32 sh_41 rr_41_11 ?_
      refine sk_iload_n (j := 3) d_M_output_20 rfl rfl ?_
      obtain ⟨hb, h⟩ := h
      refine sk_iald d_M_output_21 sh_49 hb ?_
      refine sk_iload_n (j := 1) d_M_output_22 rfl rfl ?_
      refine sk_icmp_ne (tgt := 30) d_M_output_23 (by decide) (fun hc => ?_) (fun hc => ?_)
      · replace h := h.1 hc
        refine sk_iconst (v := 0) d_M_output_30 (by decide) ?_
        refine sk_istore_n d_M_output_31 rfl (by decide) rfl ?_
        refine sk_iinc (j := 3) (v := x3 + 1) d_M_output_32 rfl (by rfl) (by decide) rfl ?_
        refine sk_goto (tgt := 4) d_M_output_35 (by decide) ?_
        refine sk_loc [2, 3, 1, 0] rfl ?_
        exact h
      · replace h := h.2 hc
        refine sk_iconst (v := 1) d_M_output_26 (by decide) ?_
        refine sk_goto (tgt := 31) d_M_output_27 (by decide) ?_
        refine sk_istore_n d_M_output_31 rfl (by decide) rfl ?_
        refine sk_iinc (j := 3) (v := x3 + 1) d_M_output_32 rfl (by rfl) (by decide) rfl ?_
        refine sk_goto (tgt := 4) d_M_output_35 (by decide) ?_
        refine sk_loc [2, 3, 1, 0] rfl ?_
        exact h
theorem s_M_output_44 {Γ : sk_T} {mc ms : Nat} {I : sk_I} {J : sk_J} {Q : sk_Q} {x1 : Int32} {x2 : Int32} {u1 : Int32} (h : (u1 = 0 → (¬ x2 = 0 → sk_W Γ m_M_output mc ms 69 [(0, .ref 41), (1, .int x1)] [.int 2, .ref 41] sk_gg I J 0 0 Q) ∧ (x2 = 0 → (¬ (I 41 10) = 6 → sk_W Γ m_M_output mc ms 69 [(0, .ref 41), (1, .int x1)] [.int 0, .ref 41] sk_gg I J 0 0 Q) ∧ ((I 41 10) = 6 → sk_W Γ m_M_output mc ms 69 [(0, .ref 41), (1, .int x1)] [.int 2, .ref 41] sk_gg I J 0 0 Q))) ∧ (¬ u1 = 0 → sk_W Γ m_M_output mc ms 69 [(0, .ref 41), (1, .int x1)] [.int 1, .ref 41] sk_gg I J 0 0 Q)) : sk_W Γ m_M_output mc ms 44 [(0, .ref 41), (1, .int x1), (2, .int x2)] [.int u1, .ref 41] sk_gg I J 0 0 Q := by
  refine sk_if_eq (tgt := 51) d_M_output_44 (by decide) (fun hc => ?_) (fun hc => ?_)
  · replace h := h.1 hc
    refine sk_iload_n (j := 2) d_M_output_51 rfl rfl ?_
    refine sk_if_ne (tgt := 64) d_M_output_52 (by decide) (fun hc => ?_) (fun hc => ?_)
    · replace h := h.1 hc
      refine sk_iconst (v := 2) d_M_output_64 (by decide) ?_
      refine sk_goto (tgt := 69) d_M_output_65 (by decide) ?_
      refine sk_loc [0, 1] rfl ?_
      exact h
    · replace h := h.2 hc
      refine sk_aload_n (j := 0) d_M_output_55 rfl rfl ?_
      refine q_getI d_M_output_56 fg_M_94 sh_41 ?_
      refine sk_bipush (v := 6) d_M_output_59 (by decide) ?_
      refine sk_icmp_ne (tgt := 68) d_M_output_61 (by decide) (fun hc => ?_) (fun hc => ?_)
      · replace h := h.1 hc
        refine sk_iconst (v := 0) d_M_output_68 (by decide) ?_
        refine sk_loc [0, 1] rfl ?_
        exact h
      · replace h := h.2 hc
        refine sk_iconst (v := 2) d_M_output_64 (by decide) ?_
        refine sk_goto (tgt := 69) d_M_output_65 (by decide) ?_
        refine sk_loc [0, 1] rfl ?_
        exact h
  · replace h := h.2 hc
    refine sk_iconst (v := 1) d_M_output_47 (by decide) ?_
    refine sk_goto (tgt := 69) d_M_output_48 (by decide) ?_
    refine sk_loc [0, 1] rfl ?_
    exact h
theorem s_M_output_69 {Γ : sk_T} {mc ms : Nat} {I : sk_I} {J : sk_J} {Q : sk_Q} {x1 : Int32} {u1 : Int32} (h : (u1 ≤ 0 → vp_in (I 41 10) 6 ∧ sk_S Γ m_M_built 0 0 (.ref 41 :: []) sk_gg (sk_pi (sk_pi (sk_pi I 41 0 u1) 49 (I 41 10).toNatClampNeg x1) 41 10 ((I 41 10) + 1)) J (sk_Kv fun I' J' => sk_W Γ m_M_output mc ms 105 [(0, .ref 41)] [] sk_gg I' J' 0 0 Q)) ∧ (¬ u1 ≤ 0 → Q (.inl (some (.int 0))) sk_gg (sk_pi I 41 0 u1) J)) : sk_W Γ m_M_output mc ms 69 [(0, .ref 41), (1, .int x1)] [.int u1, .ref 41] sk_gg I J 0 0 Q := by
  refine r_putI d_M_output_69 fp_M_68 sh_41 ?_
  refine sk_aload_n (j := 0) d_M_output_72 rfl rfl ?_
  refine q_getI d_M_output_73 fg_M_68 sh_41 ?_
  refine q_cvi (y := u1) rfl ?_
  refine sk_if_le (tgt := 81) d_M_output_76 (by decide) (fun hc => ?_) (fun hc => ?_)
  · replace h := h.1 hc
    refine sk_aload_n (j := 0) d_M_output_81 rfl rfl ?_
    refine q_getR d_M_output_82 fg_M_32 sh_41 rr_41_11 ?_
    refine sk_aload_n (j := 0) d_M_output_85 rfl rfl ?_
    refine q_getI d_M_output_86 fg_M_94 sh_41 ?_
    refine q_cvi (y := I 41 10) rfl ?_
    refine sk_iload_n (j := 1) d_M_output_89 rfl rfl ?_
    obtain ⟨hb, h⟩ := h
    refine r_iast d_M_output_90 sh_49 hb ?_
    refine sk_aload_n (j := 0) d_M_output_91 rfl rfl ?_
    refine sk_dup d_M_output_92 rfl ?_
    refine q_getI d_M_output_93 fg_M_94 sh_41 ?_
    refine q_cvi (y := I 41 10) rfl ?_
    refine sk_iconst (v := 1) d_M_output_96 (by decide) ?_
    refine sk_iadd d_M_output_97 ?_
    refine r_putI d_M_output_98 fp_M_94 sh_41 ?_
    refine sk_aload_n (j := 0) d_M_output_101 rfl rfl ?_
    refine sk_loc [0] rfl ?_
    exact q_callVv (S := []) (as := []) d_M_output_102 lk_M_97 sh_41 ⟨_, rfl⟩ rfl ⟨by decide, by decide⟩ (Nat.le_of_ble_eq_true rfl) rfl (Nat.zero_le _) (Nat.zero_le _) h
  · replace h := h.2 hc
    refine sk_iconst (v := 0) d_M_output_79 (by decide) ?_
    exact sk_ireturn d_M_output_80 rfl (Nat.zero_le _) (Nat.zero_le _) h
theorem s_M_output_105 {Γ : sk_T} {mc ms : Nat} {I : sk_I} {J : sk_J} {Q : sk_Q}  (h : Q (.inl (some (.int (I 41 10)))) sk_gg I J) : sk_W Γ m_M_output mc ms 105 [(0, .ref 41)] [] sk_gg I J 0 0 Q := by
  refine sk_aload_n (j := 0) d_M_output_105 rfl rfl ?_
  refine q_getI d_M_output_106 fg_M_94 sh_41 ?_
  exact sk_ireturn d_M_output_109 rfl (Nat.zero_le _) (Nat.zero_le _) h
theorem s_M_data_0 {Γ : sk_T} {mc ms : Nat} {I : sk_I} {J : sk_J} {Q : sk_Q} {x1 : Int32} {x2 : Int32} (h : sk_S Γ m_M_noLine 0 0 (.ref 41 :: [.int x1]) sk_gg I J (sk_Ki fun v' I' J' => sk_W Γ m_M_data mc ms 6 [(0, .ref 41), (1, .int x1), (2, .int x2)] [.int v', .ref 41] sk_gg I' J' 0 0 Q)) : sk_W Γ m_M_data mc ms 0 [(0, .ref 41), (1, .int x1), (2, .int x2)] [] sk_gg I J 0 0 Q := by
  refine sk_aload_n (j := 0) d_M_data_0 rfl rfl ?_
  refine sk_aload_n (j := 0) d_M_data_1 rfl rfl ?_
  refine sk_iload_n (j := 1) d_M_data_2 rfl rfl ?_
  exact q_callVi (S := [.ref 41]) (as := [.int x1]) d_M_data_3 lk_M_100 sh_41 ⟨_, rfl⟩ rfl ⟨by decide, by decide⟩ (Nat.le_of_ble_eq_true rfl) rfl (Nat.zero_le _) (Nat.zero_le _) h
theorem s_M_data_6 {Γ : sk_T} {mc ms : Nat} {I : sk_I} {J : sk_J} {Q : sk_Q} {x1 : Int32} {x2 : Int32} {u1 : Int32} (h : (¬ u1 = 0 → sk_W Γ m_M_data mc ms 22 [(0, .ref 41), (1, .int x1), (2, .int x2)] [.int 1, .ref 41] sk_gg I J 0 0 Q) ∧ (u1 = 0 → sk_S Γ m_M_noLine 0 0 (.ref 41 :: [.int x2]) sk_gg I J (sk_Ki fun v' I' J' => sk_W Γ m_M_data mc ms 14 [(0, .ref 41), (1, .int x1), (2, .int x2)] [.int v', .ref 41] sk_gg I' J' 0 0 Q))) : sk_W Γ m_M_data mc ms 6 [(0, .ref 41), (1, .int x1), (2, .int x2)] [.int u1, .ref 41] sk_gg I J 0 0 Q := by
  refine sk_if_ne (tgt := 17) d_M_data_6 (by decide) (fun hc => ?_) (fun hc => ?_)
  · replace h := h.1 hc
    refine sk_iconst (v := 1) d_M_data_17 (by decide) ?_
    refine sk_goto (tgt := 22) d_M_data_18 (by decide) ?_
    exact h
  · replace h := h.2 hc
    refine sk_aload_n (j := 0) d_M_data_9 rfl rfl ?_
    refine sk_iload_n (j := 2) d_M_data_10 rfl rfl ?_
    exact q_callVi (S := [.ref 41]) (as := [.int x2]) d_M_data_11 lk_M_100 sh_41 ⟨_, rfl⟩ rfl ⟨by decide, by decide⟩ (Nat.le_of_ble_eq_true rfl) rfl (Nat.zero_le _) (Nat.zero_le _) h
theorem s_M_data_14 {Γ : sk_T} {mc ms : Nat} {I : sk_I} {J : sk_J} {Q : sk_Q} {x1 : Int32} {x2 : Int32} {u1 : Int32} (h : (u1 = 0 → sk_W Γ m_M_data mc ms 22 [(0, .ref 41), (1, .int x1), (2, .int x2)] [.int 0, .ref 41] sk_gg I J 0 0 Q) ∧ (¬ u1 = 0 → sk_W Γ m_M_data mc ms 22 [(0, .ref 41), (1, .int x1), (2, .int x2)] [.int 1, .ref 41] sk_gg I J 0 0 Q)) : sk_W Γ m_M_data mc ms 14 [(0, .ref 41), (1, .int x1), (2, .int x2)] [.int u1, .ref 41] sk_gg I J 0 0 Q := by
  refine sk_if_eq (tgt := 21) d_M_data_14 (by decide) (fun hc => ?_) (fun hc => ?_)
  · replace h := h.1 hc
    refine sk_iconst (v := 0) d_M_data_21 (by decide) ?_
    exact h
  · replace h := h.2 hc
    refine sk_iconst (v := 1) d_M_data_17 (by decide) ?_
    refine sk_goto (tgt := 22) d_M_data_18 (by decide) ?_
    exact h
theorem s_M_data_22 {Γ : sk_T} {mc ms : Nat} {I : sk_I} {J : sk_J} {Q : sk_Q} {x1 : Int32} {x2 : Int32} {u1 : Int32} (h : (u1 ≤ 0 → vp_in x1 26 ∧ ((I 42 x1.toNatClampNeg) < 0 → sk_W Γ m_M_data mc ms 62 [(0, .ref 41), (2, .int x2), (3, .int (I 42 x1.toNatClampNeg))] [.ref 41] sk_gg (sk_pi I 41 0 u1) J 0 0 Q) ∧ (¬ (I 42 x1.toNatClampNeg) < 0 → ((I 42 x1.toNatClampNeg) ≤ 0 → sk_W Γ m_M_data mc ms 58 [(0, .ref 41), (2, .int x2), (3, .int (I 42 x1.toNatClampNeg))] [.int 0, .ref 47, .ref 41] sk_gg (sk_pi I 41 0 u1) J 0 0 Q) ∧ (¬ (I 42 x1.toNatClampNeg) ≤ 0 → sk_W Γ m_M_data mc ms 58 [(0, .ref 41), (2, .int x2), (3, .int (I 42 x1.toNatClampNeg))] [.int (I 42 x1.toNatClampNeg), .ref 47, .ref 41] sk_gg (sk_pi I 41 0 u1) J 0 0 Q))) ∧ (¬ u1 ≤ 0 → Q (.inl none) sk_gg (sk_pi I 41 0 u1) J)) : sk_W Γ m_M_data mc ms 22 [(0, .ref 41), (1, .int x1), (2, .int x2)] [.int u1, .ref 41] sk_gg I J 0 0 Q := by
  refine r_putI d_M_data_22 fp_M_68 sh_41 ?_
  refine sk_aload_n (j := 0) d_M_data_25 rfl rfl ?_
  refine q_getI d_M_data_26 fg_M_68 sh_41 ?_
  refine q_cvi (y := u1) rfl ?_
  refine sk_if_le (tgt := 33) d_M_data_29 (by decide) (fun hc => ?_) (fun hc => ?_)
  · replace h := h.1 hc
    refine sk_aload_n (j := 0) d_M_data_33 rfl rfl ?_
    refine q_getR d_M_data_34 fg_M_7 sh_41 rr_41_2 ?_
    refine sk_iload_n (j := 1) d_M_data_37 rfl rfl ?_
    obtain ⟨hb, h⟩ := h
    refine sk_iald d_M_data_38 sh_42 hb ?_
    refine q_cvi (y := I 42 x1.toNatClampNeg) rfl ?_
    refine sk_istore_n d_M_data_39 rfl (by decide) rfl ?_
    refine sk_aload_n (j := 1) d_M_data_40 rfl rfl ?_
    refine sk_iload_n (j := 0) d_M_data_41 rfl rfl ?_
    refine sk_if_lt (tgt := 62) d_M_data_42 (by decide) (fun hc => ?_) (fun hc => ?_)
    · replace h := h.1 hc
      refine sk_loc [1, 3, 0] rfl ?_
      exact h
    · replace h := h.2 hc
      refine sk_aload_n (j := 1) d_M_data_45 rfl rfl ?_
      refine q_getR d_M_data_46 fg_M_25 sh_41 rr_41_8 ?_
      refine sk_iload_n (j := 0) d_M_data_49 rfl rfl ?_
      refine sk_if_le (tgt := 57) d_M_data_50 (by decide) (fun hc => ?_) (fun hc => ?_)
      · replace h := h.1 hc
        refine sk_iconst (v := 0) d_M_data_57 (by decide) ?_
        refine sk_loc [1, 3, 0] rfl ?_
        exact h
      · replace h := h.2 hc
        refine sk_iload_n (j := 0) d_M_data_53 rfl rfl ?_
        refine sk_goto (tgt := 58) d_M_data_54 (by decide) ?_
        refine sk_loc [1, 3, 0] rfl ?_
        exact h
  · replace h := h.2 hc
    exact sk_vreturn d_M_data_32 rfl (Nat.zero_le _) (Nat.zero_le _) h
theorem s_M_data_58 {Γ : sk_T} {mc ms : Nat} {I : sk_I} {J : sk_J} {Q : sk_Q} {x2 : Int32} {x3 : Int32} {u2 : Int32} (h : vp_in u2 6 ∧ (¬ (I 47 u2.toNatClampNeg) = 0 → vp_in x3 6 ∧ sk_S Γ m_M_built 0 0 (.ref 41 :: []) sk_gg (sk_pi (sk_pi I 41 0 0) 48 x3.toNatClampNeg x2) J (sk_Kv fun I' J' => sk_W Γ m_M_data mc ms 89 [] [] sk_gg I' J' 0 0 Q)) ∧ ((I 47 u2.toNatClampNeg) = 0 → sk_W Γ m_M_data mc ms 62 [(0, .ref 41), (2, .int x2), (3, .int x3)] [.ref 41] sk_gg I J 0 0 Q)) : sk_W Γ m_M_data mc ms 58 [(0, .ref 41), (2, .int x2), (3, .int x3)] [.int u2, .ref 47, .ref 41] sk_gg I J 0 0 Q := by
  obtain ⟨hb, h⟩ := h
  refine sk_zald d_M_data_58 sh_47 hb ?_
  refine sk_if_ne (tgt := 66) d_M_data_59 (by decide) (fun hc => ?_) (fun hc => ?_)
  · replace h := h.1 hc
    refine sk_iconst (v := 0) d_M_data_66 (by decide) ?_
    refine r_putI d_M_data_67 fp_M_68 sh_41 ?_
    refine sk_aload_n (j := 0) d_M_data_70 rfl rfl ?_
    refine q_getI d_M_data_71 fg_M_68 sh_41 ?_
    refine q_cvi (y := 0) rfl ?_
    refine sk_if_le (tgt := 78) d_M_data_74 (by decide) (fun _ => ?_) (fun hc => absurd hc (by decide))
    refine sk_aload_n (j := 0) d_M_data_78 rfl rfl ?_
    refine q_getR d_M_data_79 fg_M_29 sh_41 rr_41_9 ?_
    refine sk_iload_n (j := 2) d_M_data_82 rfl rfl ?_
    refine sk_iload_n (j := 1) d_M_data_83 rfl rfl ?_
    obtain ⟨hb, h⟩ := h
    refine r_iast d_M_data_84 sh_48 hb ?_
    refine sk_aload_n (j := 0) d_M_data_85 rfl rfl ?_
    refine sk_loc [] rfl ?_
    exact q_callVv (S := []) (as := []) d_M_data_86 lk_M_97 sh_41 ⟨_, rfl⟩ rfl ⟨by decide, by decide⟩ (Nat.le_of_ble_eq_true rfl) rfl (Nat.zero_le _) (Nat.zero_le _) h
  · replace h := h.2 hc
    exact h
theorem s_M_data_62 {Γ : sk_T} {mc ms : Nat} {I : sk_I} {J : sk_J} {Q : sk_Q} {x2 : Int32} {x3 : Int32} (h : Q (.inl none) sk_gg (sk_pi I 41 0 2) J) : sk_W Γ m_M_data mc ms 62 [(0, .ref 41), (2, .int x2), (3, .int x3)] [.ref 41] sk_gg I J 0 0 Q := by
  refine sk_iconst (v := 2) d_M_data_62 (by decide) ?_
  refine sk_goto (tgt := 67) d_M_data_63 (by decide) ?_
  refine r_putI d_M_data_67 fp_M_68 sh_41 ?_
  refine sk_aload_n (j := 0) d_M_data_70 rfl rfl ?_
  refine q_getI d_M_data_71 fg_M_68 sh_41 ?_
  refine q_cvi (y := 2) rfl ?_
  refine sk_if_le (tgt := 78) d_M_data_74 (by decide) (fun hc => absurd hc (by decide)) (fun _ => ?_)
  exact sk_vreturn d_M_data_77 rfl (Nat.zero_le _) (Nat.zero_le _) h
theorem s_M_data_89 {Γ : sk_T} {mc ms : Nat} {I : sk_I} {J : sk_J} {Q : sk_Q}  (h : Q (.inl none) sk_gg I J) : sk_W Γ m_M_data mc ms 89 [] [] sk_gg I J 0 0 Q := by
  exact sk_vreturn d_M_data_89 rfl (Nat.zero_le _) (Nat.zero_le _) h
theorem s_M_count_0 {Γ : sk_T} {mc ms : Nat} {I : sk_I} {J : sk_J} {Q : sk_Q} {x1 : Int32} (h : (x1 < 0 → sk_W Γ m_M_count mc ms 15 [(0, .ref 41), (1, .int x1)] [.int 1, .ref 41] sk_gg I J 0 0 Q) ∧ (¬ x1 < 0 → (x1 ≤ 5 → sk_W Γ m_M_count mc ms 15 [(0, .ref 41), (1, .int x1)] [.int 0, .ref 41] sk_gg I J 0 0 Q) ∧ (¬ x1 ≤ 5 → sk_W Γ m_M_count mc ms 15 [(0, .ref 41), (1, .int x1)] [.int 1, .ref 41] sk_gg I J 0 0 Q))) : sk_W Γ m_M_count mc ms 0 [(0, .ref 41), (1, .int x1)] [] sk_gg I J 0 0 Q := by
  refine sk_aload_n (j := 0) d_M_count_0 rfl rfl ?_
  refine sk_iload_n (j := 1) d_M_count_1 rfl rfl ?_
  refine sk_if_lt (tgt := 10) d_M_count_2 (by decide) (fun hc => ?_) (fun hc => ?_)
  · replace h := h.1 hc
    refine sk_iconst (v := 1) d_M_count_10 (by decide) ?_
    refine sk_goto (tgt := 15) d_M_count_11 (by decide) ?_
    exact h
  · replace h := h.2 hc
    refine sk_iload_n (j := 1) d_M_count_5 rfl rfl ?_
    refine sk_iconst (v := 5) d_M_count_6 (by decide) ?_
    refine sk_icmp_le (tgt := 14) d_M_count_7 (by decide) (fun hc => ?_) (fun hc => ?_)
    · replace h := h.1 hc
      refine sk_iconst (v := 0) d_M_count_14 (by decide) ?_
      exact h
    · replace h := h.2 hc
      refine sk_iconst (v := 1) d_M_count_10 (by decide) ?_
      refine sk_goto (tgt := 15) d_M_count_11 (by decide) ?_
      exact h
theorem s_M_count_15 {Γ : sk_T} {mc ms : Nat} {I : sk_I} {J : sk_J} {Q : sk_Q} {x1 : Int32} {u1 : Int32} (h : (u1 ≤ 0 → (4 ≤ x1 → sk_S Γ m_M_learn 0 0 (.ref 41 :: []) sk_gg (sk_pi I 41 0 u1) J (sk_Kv fun I' J' => sk_W Γ m_M_count mc ms 78 [(0, .ref 41), (1, .int x1)] [] sk_gg I' J' 0 0 Q)) ∧ (¬ 4 ≤ x1 → (¬ x1 = 0 → (¬ x1 = 1 → (¬ x1 = 2 → Q (.inl (some (.int (2 * (I 41 14))))) sk_gg (sk_pi I 41 0 u1) J) ∧ (x1 = 2 → Q (.inl (some (.int (I 41 12)))) sk_gg (sk_pi I 41 0 u1) J)) ∧ (x1 = 1 → Q (.inl (some (.int (I 41 6)))) sk_gg (sk_pi I 41 0 u1) J)) ∧ (x1 = 0 → Q (.inl (some (.int (I 41 1)))) sk_gg (sk_pi I 41 0 u1) J))) ∧ (¬ u1 ≤ 0 → Q (.inl (some (.int 0))) sk_gg (sk_pi I 41 0 u1) J)) : sk_W Γ m_M_count mc ms 15 [(0, .ref 41), (1, .int x1)] [.int u1, .ref 41] sk_gg I J 0 0 Q := by
  refine r_putI d_M_count_15 fp_M_68 sh_41 ?_
  refine sk_aload_n (j := 0) d_M_count_18 rfl rfl ?_
  refine q_getI d_M_count_19 fg_M_68 sh_41 ?_
  refine q_cvi (y := u1) rfl ?_
  refine sk_if_le (tgt := 27) d_M_count_22 (by decide) (fun hc => ?_) (fun hc => ?_)
  · replace h := h.1 hc
    refine sk_iload_n (j := 1) d_M_count_27 rfl rfl ?_
    refine sk_iconst (v := 4) d_M_count_28 (by decide) ?_
    refine sk_icmp_ge (tgt := 74) d_M_count_29 (by decide) (fun hc => ?_) (fun hc => ?_)
    · replace h := h.1 hc
      refine sk_aload_n (j := 0) d_M_count_74 rfl rfl ?_
      exact q_callVv (S := []) (as := []) d_M_count_75 lk_M_119 sh_41 ⟨_, rfl⟩ rfl ⟨by decide, by decide⟩ (Nat.le_of_ble_eq_true rfl) rfl (Nat.zero_le _) (Nat.zero_le _) h
    · replace h := h.2 hc
      refine sk_iload_n (j := 1) d_M_count_32 rfl rfl ?_
      refine sk_if_ne (tgt := 43) d_M_count_33 (by decide) (fun hc => ?_) (fun hc => ?_)
      · replace h := h.1 hc
        refine sk_iload_n (j := 1) d_M_count_43 rfl rfl ?_
        refine sk_iconst (v := 1) d_M_count_44 (by decide) ?_
        refine sk_icmp_ne (tgt := 55) d_M_count_45 (by decide) (fun hc => ?_) (fun hc => ?_)
        · replace h := h.1 hc
          refine sk_iload_n (j := 1) d_M_count_55 rfl rfl ?_
          refine sk_iconst (v := 2) d_M_count_56 (by decide) ?_
          refine sk_icmp_ne (tgt := 67) d_M_count_57 (by decide) (fun hc => ?_) (fun hc => ?_)
          · replace h := h.1 hc
            refine sk_iconst (v := 2) d_M_count_67 (by decide) ?_
            refine sk_aload_n (j := 0) d_M_count_68 rfl rfl ?_
            refine q_getI d_M_count_69 fg_M_78 sh_41 ?_
            refine q_cvi (y := I 41 14) rfl ?_
            refine sk_imul d_M_count_72 ?_
            exact sk_ireturn d_M_count_73 rfl (Nat.zero_le _) (Nat.zero_le _) h
          · replace h := h.2 hc
            refine sk_aload_n (j := 0) d_M_count_60 rfl rfl ?_
            refine q_getI d_M_count_61 fg_M_91 sh_41 ?_
            refine q_cvi (y := I 41 12) rfl ?_
            refine sk_goto (tgt := 73) d_M_count_64 (by decide) ?_
            exact sk_ireturn d_M_count_73 rfl (Nat.zero_le _) (Nat.zero_le _) h
        · replace h := h.2 hc
          refine sk_aload_n (j := 0) d_M_count_48 rfl rfl ?_
          refine q_getI d_M_count_49 fg_M_75 sh_41 ?_
          refine q_cvi (y := I 41 6) rfl ?_
          refine sk_goto (tgt := 73) d_M_count_52 (by decide) ?_
          exact sk_ireturn d_M_count_73 rfl (Nat.zero_le _) (Nat.zero_le _) h
      · replace h := h.2 hc
        refine sk_aload_n (j := 0) d_M_count_36 rfl rfl ?_
        refine q_getI d_M_count_37 fg_M_72 sh_41 ?_
        refine q_cvi (y := I 41 1) rfl ?_
        refine sk_goto (tgt := 73) d_M_count_40 (by decide) ?_
        exact sk_ireturn d_M_count_73 rfl (Nat.zero_le _) (Nat.zero_le _) h
  · replace h := h.2 hc
    refine sk_iconst (v := 0) d_M_count_25 (by decide) ?_
    exact sk_ireturn d_M_count_26 rfl (Nat.zero_le _) (Nat.zero_le _) h
theorem s_M_count_78 {Γ : sk_T} {mc ms : Nat} {I : sk_I} {J : sk_J} {Q : sk_Q} {x1 : Int32} (h : sk_W Γ m_M_count mc ms 82 [(0, .ref 41), (1, .int x1), (2, .int 0), (3, .int 0)] [] sk_gg I J 0 0 Q) : sk_W Γ m_M_count mc ms 78 [(0, .ref 41), (1, .int x1)] [] sk_gg I J 0 0 Q := by
  refine sk_iconst (v := 0) d_M_count_78 (by decide) ?_
  refine sk_istore_n d_M_count_79 rfl (by decide) rfl ?_
  refine sk_iconst (v := 0) d_M_count_80 (by decide) ?_
  refine sk_istore_n d_M_count_81 rfl (by decide) rfl ?_
  refine sk_loc [2, 3, 1, 0] rfl ?_
  exact h
theorem s_M_count_82 {Γ : sk_T} {mc ms : Nat} {I : sk_I} {J : sk_J} {Q : sk_Q} {x1 : Int32} {x2 : Int32} {x3 : Int32} (h : ((2 * (I 41 14)) ≤ x3 → Q (.inl (some (.int x2))) sk_gg I J) ∧ (¬ (2 * (I 41 14)) ≤ x3 → (¬ x1 = 4 → sk_S Γ m_M_firstAlike 0 0 (.ref 41 :: [.int x3]) sk_gg I J (sk_Ki fun v' I' J' => sk_W Γ m_M_count mc ms 118 [(0, .ref 41), (1, .int x1), (2, .int x2), (3, .int x3)] [.int v'] sk_gg I' J' 0 0 Q)) ∧ (x1 = 4 → sk_S Γ m_M_leastOf 0 0 (.ref 41 :: [.int x3]) sk_gg I J (sk_Ki fun v' I' J' => sk_W Γ m_M_count mc ms 102 [(0, .ref 41), (1, .int x1), (2, .int x2), (3, .int x3)] [.int v'] sk_gg I' J' 0 0 Q)))) : sk_W Γ m_M_count mc ms 82 [(0, .ref 41), (1, .int x1), (2, .int x2), (3, .int x3)] [] sk_gg I J 0 0 Q := by
  refine sk_iload_n (j := 3) d_M_count_82 rfl rfl ?_
  refine sk_iconst (v := 2) d_M_count_83 (by decide) ?_
  refine sk_aload_n (j := 0) d_M_count_84 rfl rfl ?_
  refine q_getI d_M_count_85 fg_M_78 sh_41 ?_
  refine sk_imul d_M_count_88 ?_
  refine sk_icmp_ge (tgt := 148) d_M_count_89 (by decide) (fun hc => ?_) (fun hc => ?_)
  · replace h := h.1 hc
    refine sk_iload_n (j := 2) d_M_count_148 rfl rfl ?_
    exact sk_ireturn d_M_count_149 rfl (Nat.zero_le _) (Nat.zero_le _) h
  · replace h := h.2 hc
    refine sk_iload_n (j := 1) d_M_count_92 rfl rfl ?_
    refine sk_iconst (v := 4) d_M_count_93 (by decide) ?_
    refine sk_icmp_ne (tgt := 113) d_M_count_94 (by decide) (fun hc => ?_) (fun hc => ?_)
    · replace h := h.1 hc
      refine sk_aload_n (j := 0) d_M_count_113 rfl rfl ?_
      refine sk_iload_n (j := 3) d_M_count_114 rfl rfl ?_
      exact q_callVi (S := []) (as := [.int x3]) d_M_count_115 lk_M_126 sh_41 ⟨_, rfl⟩ rfl ⟨by decide, by decide⟩ (Nat.le_of_ble_eq_true rfl) rfl (Nat.zero_le _) (Nat.zero_le _) h
    · replace h := h.2 hc
      refine sk_aload_n (j := 0) d_M_count_97 rfl rfl ?_
      refine sk_iload_n (j := 3) d_M_count_98 rfl rfl ?_
      exact q_callVi (S := []) (as := [.int x3]) d_M_count_99 lk_M_122 sh_41 ⟨_, rfl⟩ rfl ⟨by decide, by decide⟩ (Nat.le_of_ble_eq_true rfl) rfl (Nat.zero_le _) (Nat.zero_le _) h
theorem s_M_count_102 {Γ : sk_T} {mc ms : Nat} {I : sk_I} {J : sk_J} {Q : sk_Q} {x1 : Int32} {x2 : Int32} {x3 : Int32} {u0 : Int32} (h : (u0 < 0 → sk_W Γ m_M_count mc ms 127 [(0, .ref 41), (1, .int x1), (2, .int x2), (3, .int x3)] [.int 0] sk_gg I J 0 0 Q) ∧ (¬ u0 < 0 → sk_W Γ m_M_count mc ms 127 [(0, .ref 41), (1, .int x1), (2, .int x2), (3, .int x3)] [.int 1] sk_gg I J 0 0 Q)) : sk_W Γ m_M_count mc ms 102 [(0, .ref 41), (1, .int x1), (2, .int x2), (3, .int x3)] [.int u0] sk_gg I J 0 0 Q := by
  refine sk_if_lt (tgt := 109) d_M_count_102 (by decide) (fun hc => ?_) (fun hc => ?_)
  · replace h := h.1 hc
    refine sk_iconst (v := 0) d_M_count_109 (by decide) ?_
    refine sk_goto (tgt := 127) d_M_count_110 (by decide) ?_
    exact h
  · replace h := h.2 hc
    refine sk_iconst (v := 1) d_M_count_105 (by decide) ?_
    refine sk_goto (tgt := 127) d_M_count_106 (by decide) ?_
    exact h
theorem s_M_count_118 {Γ : sk_T} {mc ms : Nat} {I : sk_I} {J : sk_J} {Q : sk_Q} {x1 : Int32} {x2 : Int32} {x3 : Int32} {u0 : Int32} (h : (¬ u0 = x3 → sk_W Γ m_M_count mc ms 127 [(0, .ref 41), (1, .int x1), (2, .int x2), (3, .int x3)] [.int 0] sk_gg I J 0 0 Q) ∧ (u0 = x3 → sk_W Γ m_M_count mc ms 127 [(0, .ref 41), (1, .int x1), (2, .int x2), (3, .int x3)] [.int 1] sk_gg I J 0 0 Q)) : sk_W Γ m_M_count mc ms 118 [(0, .ref 41), (1, .int x1), (2, .int x2), (3, .int x3)] [.int u0] sk_gg I J 0 0 Q := by
  refine sk_iload_n (j := 3) d_M_count_118 rfl rfl ?_
  refine sk_icmp_ne (tgt := 126) d_M_count_119 (by decide) (fun hc => ?_) (fun hc => ?_)
  · replace h := h.1 hc
    refine sk_iconst (v := 0) d_M_count_126 (by decide) ?_
    exact h
  · replace h := h.2 hc
    refine sk_iconst (v := 1) d_M_count_122 (by decide) ?_
    refine sk_goto (tgt := 127) d_M_count_123 (by decide) ?_
    exact h
theorem s_M_count_127 {Γ : sk_T} {mc ms : Nat} {I : sk_I} {J : sk_J} {Q : sk_Q} {x1 : Int32} {x2 : Int32} {x3 : Int32} {u0 : Int32} (h : (u0 = 0 → sk_W Γ m_M_count mc ms 82 [(0, .ref 41), (1, .int x1), (2, .int x2), (3, .int (x3 + 1))] [] sk_gg I J 0 0 Q) ∧ (¬ u0 = 0 → sk_W Γ m_M_count mc ms 82 [(0, .ref 41), (1, .int x1), (2, .int (x2 + 1)), (3, .int (x3 + 1))] [] sk_gg I J 0 0 Q)) : sk_W Γ m_M_count mc ms 127 [(0, .ref 41), (1, .int x1), (2, .int x2), (3, .int x3)] [.int u0] sk_gg I J 0 0 Q := by
  refine sk_istore d_M_count_127 (by decide) rfl ?_
  refine sk_iload (j := 0) d_M_count_129 rfl ?_
  refine sk_if_eq (tgt := 140) d_M_count_131 (by decide) (fun hc => ?_) (fun hc => ?_)
  · replace h := h.1 hc
    refine sk_iload_n (j := 3) d_M_count_140 rfl rfl ?_
    refine sk_istore_n d_M_count_141 rfl (by decide) rfl ?_
    refine sk_iinc (j := 4) (v := x3 + 1) d_M_count_142 rfl (by rfl) (by decide) rfl ?_
    refine sk_goto (tgt := 82) d_M_count_145 (by decide) ?_
    refine sk_loc [3, 4, 1, 0] rfl ?_
    exact h
  · replace h := h.2 hc
    refine sk_iload_n (j := 3) d_M_count_134 rfl rfl ?_
    refine sk_iconst (v := 1) d_M_count_135 (by decide) ?_
    refine sk_iadd d_M_count_136 ?_
    refine sk_goto (tgt := 141) d_M_count_137 (by decide) ?_
    refine sk_istore_n d_M_count_141 rfl (by decide) rfl ?_
    refine sk_iinc (j := 4) (v := x3 + 1) d_M_count_142 rfl (by rfl) (by decide) rfl ?_
    refine sk_goto (tgt := 82) d_M_count_145 (by decide) ?_
    refine sk_loc [3, 4, 1, 0] rfl ?_
    exact h
theorem s_M_learn_0 {Γ : sk_T} {mc ms : Nat} {I : sk_I} {J : sk_J} {Q : sk_Q}  (h : ((I 41 19) = 0 → sk_W Γ m_M_learn mc ms 15 [(0, .ref 41), (1, .int 0)] [] sk_gg (sk_pi I 41 19 1) J 0 0 Q) ∧ (¬ (I 41 19) = 0 → Q (.inl none) sk_gg I J)) : sk_W Γ m_M_learn mc ms 0 [(0, .ref 41)] [] sk_gg I J 0 0 Q := by
  refine sk_aload_n (j := 0) d_M_learn_0 rfl rfl ?_
  refine q_getI d_M_learn_1 fg_M_81 sh_41 ?_
  refine sk_if_eq (tgt := 8) d_M_learn_4 (by decide) (fun hc => ?_) (fun hc => ?_)
  · replace h := h.1 hc
    refine sk_aload_n (j := 0) d_M_learn_8 rfl rfl ?_
    refine sk_iconst (v := 1) d_M_learn_9 (by decide) ?_
    refine r_putZ d_M_learn_10 fp_M_81 sh_41 (by decide) ?_
    refine sk_iconst (v := 0) d_M_learn_13 (by decide) ?_
    refine sk_istore_n d_M_learn_14 rfl (by decide) rfl ?_
    refine sk_loc [1, 0] rfl ?_
    exact h
  · replace h := h.2 hc
    exact sk_vreturn d_M_learn_7 rfl (Nat.zero_le _) (Nat.zero_le _) h
theorem s_M_learn_15 {Γ : sk_T} {mc ms : Nat} {I : sk_I} {J : sk_J} {Q : sk_Q} {x1 : Int32} (h : sk_S Γ m_M_vectors 0 0 (.ref 41 :: []) sk_gg I J (sk_Ki fun v' I' J' => sk_W Γ m_M_learn mc ms 20 [(0, .ref 41), (1, .int x1)] [.int v', .int x1] sk_gg I' J' 0 0 Q)) : sk_W Γ m_M_learn mc ms 15 [(0, .ref 41), (1, .int x1)] [] sk_gg I J 0 0 Q := by
  refine sk_iload_n (j := 1) d_M_learn_15 rfl rfl ?_
  refine sk_aload_n (j := 0) d_M_learn_16 rfl rfl ?_
  exact q_callVi (S := [.int x1]) (as := []) d_M_learn_17 lk_M_108 sh_41 ⟨_, rfl⟩ rfl ⟨by decide, by decide⟩ (Nat.le_of_ble_eq_true rfl) rfl (Nat.zero_le _) (Nat.zero_le _) h
theorem s_M_learn_20 {Γ : sk_T} {mc ms : Nat} {I : sk_I} {J : sk_J} {Q : sk_Q} {x1 : Int32} {u0 : Int32} {u1 : Int32} (h : (u1 ≤ u0 → Q (.inl none) sk_gg I J) ∧ (¬ u1 ≤ u0 → sk_S Γ m_M_make 0 0 (.ref 41 :: [.int 0, .int x1, .int (-1)]) sk_gg I J (sk_Kv fun I' J' => sk_W Γ m_M_learn mc ms 30 [(0, .ref 41), (1, .int x1)] [] sk_gg I' J' 0 0 Q))) : sk_W Γ m_M_learn mc ms 20 [(0, .ref 41), (1, .int x1)] [.int u1, .int u0] sk_gg I J 0 0 Q := by
  refine sk_icmp_ge (tgt := 86) d_M_learn_20 (by decide) (fun hc => ?_) (fun hc => ?_)
  · replace h := h.1 hc
    exact sk_vreturn d_M_learn_86 rfl (Nat.zero_le _) (Nat.zero_le _) h
  · replace h := h.2 hc
    refine sk_aload_n (j := 0) d_M_learn_23 rfl rfl ?_
    refine sk_iconst (v := 0) d_M_learn_24 (by decide) ?_
    refine sk_iload_n (j := 1) d_M_learn_25 rfl rfl ?_
    refine sk_iconst (v := (-1)) d_M_learn_26 (by decide) ?_
    exact q_callVv (S := []) (as := [.int 0, .int x1, .int (-1)]) d_M_learn_27 lk_M_112 sh_41 ⟨_, rfl⟩ rfl ⟨by decide, by decide⟩ (Nat.le_of_ble_eq_true rfl) rfl (Nat.zero_le _) (Nat.zero_le _) h
theorem s_M_learn_30 {Γ : sk_T} {mc ms : Nat} {I : sk_I} {J : sk_J} {Q : sk_Q} {x1 : Int32} (h : sk_S Γ m_M_answered 0 0 (.ref 41 :: []) sk_gg I J (sk_Ki fun v' I' J' => sk_W Γ m_M_learn mc ms 39 [(0, .ref 41), (1, .int x1)] [.int v', .int x1, .ref 56] sk_gg I' J' 0 0 Q)) : sk_W Γ m_M_learn mc ms 30 [(0, .ref 41), (1, .int x1)] [] sk_gg I J 0 0 Q := by
  refine sk_aload_n (j := 0) d_M_learn_30 rfl rfl ?_
  refine q_getR d_M_learn_31 fg_M_53 sh_41 rr_41_21 ?_
  refine sk_iload_n (j := 1) d_M_learn_34 rfl rfl ?_
  refine sk_aload_n (j := 0) d_M_learn_35 rfl rfl ?_
  exact q_callVi (S := [.int x1, .ref 56]) (as := []) d_M_learn_36 lk_M_116 sh_41 ⟨_, rfl⟩ rfl ⟨by decide, by decide⟩ (Nat.le_of_ble_eq_true rfl) rfl (Nat.zero_le _) (Nat.zero_le _) h
theorem s_M_learn_39 {Γ : sk_T} {mc ms : Nat} {I : sk_I} {J : sk_J} {Q : sk_Q} {x1 : Int32} {u1 : Int32} {u2 : Int32} (h : vp_in u1 64 ∧ sk_W Γ m_M_learn mc ms 42 [(0, .ref 41), (1, .int x1), (2, .int 0)] [] sk_gg (sk_pi I 56 u1.toNatClampNeg u2) J 0 0 Q) : sk_W Γ m_M_learn mc ms 39 [(0, .ref 41), (1, .int x1)] [.int u2, .int u1, .ref 56] sk_gg I J 0 0 Q := by
  obtain ⟨hb, h⟩ := h
  refine r_iast d_M_learn_39 sh_56 hb ?_
  refine sk_iconst (v := 0) d_M_learn_40 (by decide) ?_
  refine sk_istore_n d_M_learn_41 rfl (by decide) rfl ?_
  refine sk_loc [1, 2, 0] rfl ?_
  exact h
theorem s_M_learn_42 {Γ : sk_T} {mc ms : Nat} {I : sk_I} {J : sk_J} {Q : sk_Q} {x1 : Int32} {x2 : Int32} (h : ((2 * (I 41 14)) ≤ x2 → sk_W Γ m_M_learn mc ms 15 [(0, .ref 41), (1, .int (x1 + 1))] [] sk_gg I J 0 0 Q) ∧ (¬ (2 * (I 41 14)) ≤ x2 → sk_S Γ m_M_make 0 0 (.ref 41 :: [.int 0, .int x1, .int x2]) sk_gg I J (sk_Kv fun I' J' => sk_W Γ m_M_learn mc ms 59 [(0, .ref 41), (1, .int x1), (2, .int x2)] [] sk_gg I' J' 0 0 Q))) : sk_W Γ m_M_learn mc ms 42 [(0, .ref 41), (1, .int x1), (2, .int x2)] [] sk_gg I J 0 0 Q := by
  refine sk_iload_n (j := 2) d_M_learn_42 rfl rfl ?_
  refine sk_iconst (v := 2) d_M_learn_43 (by decide) ?_
  refine sk_aload_n (j := 0) d_M_learn_44 rfl rfl ?_
  refine q_getI d_M_learn_45 fg_M_78 sh_41 ?_
  refine sk_imul d_M_learn_48 ?_
  refine sk_icmp_ge (tgt := 80) d_M_learn_49 (by decide) (fun hc => ?_) (fun hc => ?_)
  · replace h := h.1 hc
    refine sk_iinc (j := 1) (v := x1 + 1) d_M_learn_80 rfl (by rfl) (by decide) rfl ?_
    refine sk_goto (tgt := 15) d_M_learn_83 (by decide) ?_
    refine sk_loc [1, 0] rfl ?_
    exact h
  · replace h := h.2 hc
    refine sk_aload_n (j := 0) d_M_learn_52 rfl rfl ?_
    refine sk_iconst (v := 0) d_M_learn_53 (by decide) ?_
    refine sk_iload_n (j := 1) d_M_learn_54 rfl rfl ?_
    refine sk_iload_n (j := 2) d_M_learn_55 rfl rfl ?_
    exact q_callVv (S := []) (as := [.int 0, .int x1, .int x2]) d_M_learn_56 lk_M_112 sh_41 ⟨_, rfl⟩ rfl ⟨by decide, by decide⟩ (Nat.le_of_ble_eq_true rfl) rfl (Nat.zero_le _) (Nat.zero_le _) h
theorem s_M_learn_59 {Γ : sk_T} {mc ms : Nat} {I : sk_I} {J : sk_J} {Q : sk_Q} {x1 : Int32} {x2 : Int32} (h : sk_S Γ m_M_answered 0 0 (.ref 41 :: []) sk_gg I J (sk_Ki fun v' I' J' => sk_W Γ m_M_learn mc ms 73 [(0, .ref 41), (1, .int x1), (2, .int x2)] [.int v', .int ((64 * x2) + x1), .ref 55] sk_gg I' J' 0 0 Q)) : sk_W Γ m_M_learn mc ms 59 [(0, .ref 41), (1, .int x1), (2, .int x2)] [] sk_gg I J 0 0 Q := by
  refine sk_aload_n (j := 0) d_M_learn_59 rfl rfl ?_
  refine q_getR d_M_learn_60 fg_M_50 sh_41 rr_41_20 ?_
  refine sk_bipush (v := 64) d_M_learn_63 (by decide) ?_
  refine sk_iload_n (j := 2) d_M_learn_65 rfl rfl ?_
  refine sk_imul d_M_learn_66 ?_
  refine sk_iload_n (j := 1) d_M_learn_67 rfl rfl ?_
  refine sk_iadd d_M_learn_68 ?_
  refine sk_aload_n (j := 0) d_M_learn_69 rfl rfl ?_
  exact q_callVi (S := [.int ((64 * x2) + x1), .ref 55]) (as := []) d_M_learn_70 lk_M_116 sh_41 ⟨_, rfl⟩ rfl ⟨by decide, by decide⟩ (Nat.le_of_ble_eq_true rfl) rfl (Nat.zero_le _) (Nat.zero_le _) h
theorem s_M_learn_73 {Γ : sk_T} {mc ms : Nat} {I : sk_I} {J : sk_J} {Q : sk_Q} {x1 : Int32} {x2 : Int32} {u1 : Int32} {u2 : Int32} (h : vp_in u1 13312 ∧ sk_W Γ m_M_learn mc ms 42 [(0, .ref 41), (1, .int x1), (2, .int (x2 + 1))] [] sk_gg (sk_pi I 55 u1.toNatClampNeg u2) J 0 0 Q) : sk_W Γ m_M_learn mc ms 73 [(0, .ref 41), (1, .int x1), (2, .int x2)] [.int u2, .int u1, .ref 55] sk_gg I J 0 0 Q := by
  obtain ⟨hb, h⟩ := h
  refine r_iast d_M_learn_73 sh_55 hb ?_
  refine sk_iinc (j := 2) (v := x2 + 1) d_M_learn_74 rfl (by rfl) (by decide) rfl ?_
  refine sk_goto (tgt := 42) d_M_learn_77 (by decide) ?_
  refine sk_loc [1, 2, 0] rfl ?_
  exact h
theorem s_M_vectors_0 {Γ : sk_T} {mc ms : Nat} {I : sk_I} {J : sk_J} {Q : sk_Q}  (h : Q (.inl (some (.int (1 <<< ((I 41 6) &&& 31))))) sk_gg I J) : sk_W Γ m_M_vectors mc ms 0 [(0, .ref 41)] [] sk_gg I J 0 0 Q := by
  refine sk_iconst (v := 1) d_M_vectors_0 (by decide) ?_
  refine sk_aload_n (j := 0) d_M_vectors_1 rfl rfl ?_
  refine q_getI d_M_vectors_2 fg_M_75 sh_41 ?_
  refine sk_ishl d_M_vectors_5 ?_
  exact sk_ireturn d_M_vectors_6 rfl (Nat.zero_le _) (Nat.zero_le _) h
theorem s_M_make_0 {Γ : sk_T} {mc ms : Nat} {I : sk_I} {J : sk_J} {Q : sk_Q} {x1 : Int32} {x2 : Int32} {x3 : Int32} (h : (0 ≤ x3 → vp_in (x3 / 2) 104 ∧ (0 ≤ x3 → vp_in (x3 / 2) 104 ∧ sk_W Γ m_M_make mc ms 34 [(0, .ref 41), (1, .int x1), (2, .int x2), (3, .int x3), (4, .int (I 51 (x3 / 2).toNatClampNeg))] [.int (I 52 (x3 / 2).toNatClampNeg)] sk_gg I J 0 0 Q) ∧ (¬ 0 ≤ x3 → sk_W Γ m_M_make mc ms 34 [(0, .ref 41), (1, .int x1), (2, .int x2), (3, .int x3), (4, .int (I 51 (x3 / 2).toNatClampNeg))] [.int (-1)] sk_gg I J 0 0 Q)) ∧ (¬ 0 ≤ x3 → (0 ≤ x3 → vp_in (x3 / 2) 104 ∧ sk_W Γ m_M_make mc ms 34 [(0, .ref 41), (1, .int x1), (2, .int x2), (3, .int x3), (4, .int (-1))] [.int (I 52 (x3 / 2).toNatClampNeg)] sk_gg I J 0 0 Q) ∧ (¬ 0 ≤ x3 → sk_W Γ m_M_make mc ms 34 [(0, .ref 41), (1, .int x1), (2, .int x2), (3, .int x3), (4, .int (-1))] [.int (-1)] sk_gg I J 0 0 Q))) : sk_W Γ m_M_make mc ms 0 [(0, .ref 41), (1, .int x1), (2, .int x2), (3, .int x3)] [] sk_gg I J 0 0 Q := by
  refine sk_iload_n (j := 3) d_M_make_0 rfl rfl ?_
  refine sk_if_ge (tgt := 8) d_M_make_1 (by decide) (fun hc => ?_) (fun hc => ?_)
  · replace h := h.1 hc
    refine sk_aload_n (j := 0) d_M_make_8 rfl rfl ?_
    refine q_getR d_M_make_9 fg_M_38 sh_41 rr_41_15 ?_
    refine sk_iload_n (j := 3) d_M_make_12 rfl rfl ?_
    refine sk_iconst (v := 2) d_M_make_13 (by decide) ?_
    refine sk_idiv d_M_make_14 (by decide) ?_
    obtain ⟨hb, h⟩ := h
    refine sk_iald d_M_make_15 sh_51 hb ?_
    refine sk_istore d_M_make_16 (by decide) rfl ?_
    refine sk_iload_n (j := 4) d_M_make_18 rfl rfl ?_
    refine sk_if_ge (tgt := 26) d_M_make_19 (by decide) (fun hc => ?_) (fun hc => ?_)
    · replace h := h.1 hc
      refine sk_aload_n (j := 1) d_M_make_26 rfl rfl ?_
      refine q_getR d_M_make_27 fg_M_41 sh_41 rr_41_16 ?_
      refine sk_iload_n (j := 4) d_M_make_30 rfl rfl ?_
      refine sk_iconst (v := 2) d_M_make_31 (by decide) ?_
      refine sk_idiv d_M_make_32 (by decide) ?_
      obtain ⟨hb, h⟩ := h
      refine sk_iald d_M_make_33 sh_52 hb ?_
      refine sk_loc [1, 2, 3, 4, 0] rfl ?_
      exact h
    · replace h := h.2 hc
      refine sk_iconst (v := (-1)) d_M_make_22 (by decide) ?_
      refine sk_goto (tgt := 34) d_M_make_23 (by decide) ?_
      refine sk_loc [1, 2, 3, 4, 0] rfl ?_
      exact h
  · replace h := h.2 hc
    refine sk_iconst (v := (-1)) d_M_make_4 (by decide) ?_
    refine sk_goto (tgt := 16) d_M_make_5 (by decide) ?_
    refine sk_istore d_M_make_16 (by decide) rfl ?_
    refine sk_iload_n (j := 4) d_M_make_18 rfl rfl ?_
    refine sk_if_ge (tgt := 26) d_M_make_19 (by decide) (fun hc => ?_) (fun hc => ?_)
    · replace h := h.1 hc
      refine sk_aload_n (j := 1) d_M_make_26 rfl rfl ?_
      refine q_getR d_M_make_27 fg_M_41 sh_41 rr_41_16 ?_
      refine sk_iload_n (j := 4) d_M_make_30 rfl rfl ?_
      refine sk_iconst (v := 2) d_M_make_31 (by decide) ?_
      refine sk_idiv d_M_make_32 (by decide) ?_
      obtain ⟨hb, h⟩ := h
      refine sk_iald d_M_make_33 sh_52 hb ?_
      refine sk_loc [1, 2, 3, 4, 0] rfl ?_
      exact h
    · replace h := h.2 hc
      refine sk_iconst (v := (-1)) d_M_make_22 (by decide) ?_
      refine sk_goto (tgt := 34) d_M_make_23 (by decide) ?_
      refine sk_loc [1, 2, 3, 4, 0] rfl ?_
      exact h
theorem s_M_make_34 {Γ : sk_T} {mc ms : Nat} {I : sk_I} {J : sk_J} {Q : sk_Q} {x1 : Int32} {x2 : Int32} {x3 : Int32} {x4 : Int32} {u0 : Int32} (h : (0 ≤ x3 → sk_W Γ m_M_make mc ms 52 [(0, .ref 41), (1, .int x1), (2, .int x2), (4, .int x4), (5, .int u0), (6, .int (x3 - x3 / 2 * 2)), (7, .int 0)] [] sk_gg I J 0 0 Q) ∧ (¬ 0 ≤ x3 → sk_W Γ m_M_make mc ms 52 [(0, .ref 41), (1, .int x1), (2, .int x2), (4, .int x4), (5, .int u0), (6, .int 0), (7, .int 0)] [] sk_gg I J 0 0 Q)) : sk_W Γ m_M_make mc ms 34 [(0, .ref 41), (1, .int x1), (2, .int x2), (3, .int x3), (4, .int x4)] [.int u0] sk_gg I J 0 0 Q := by
  refine sk_istore d_M_make_34 (by decide) rfl ?_
  refine sk_iload_n (j := 4) d_M_make_36 rfl rfl ?_
  refine sk_if_ge (tgt := 44) d_M_make_37 (by decide) (fun hc => ?_) (fun hc => ?_)
  · replace h := h.1 hc
    refine sk_iload_n (j := 4) d_M_make_44 rfl rfl ?_
    refine sk_iconst (v := 2) d_M_make_45 (by decide) ?_
    refine sk_irem d_M_make_46 (by decide) ?_
    refine sk_istore d_M_make_47 (by decide) rfl ?_
    refine sk_iconst (v := 0) d_M_make_49 (by decide) ?_
    refine sk_istore d_M_make_50 (by decide) rfl ?_
    refine sk_loc [3, 4, 5, 7, 2, 1, 0] rfl ?_
    exact h
  · replace h := h.2 hc
    refine sk_iconst (v := 0) d_M_make_40 (by decide) ?_
    refine sk_goto (tgt := 47) d_M_make_41 (by decide) ?_
    refine sk_istore d_M_make_47 (by decide) rfl ?_
    refine sk_iconst (v := 0) d_M_make_49 (by decide) ?_
    refine sk_istore d_M_make_50 (by decide) rfl ?_
    refine sk_loc [3, 4, 5, 7, 2, 1, 0] rfl ?_
    exact h
theorem s_M_make_52 {Γ : sk_T} {mc ms : Nat} {I : sk_I} {J : sk_J} {Q : sk_Q} {x1 : Int32} {x2 : Int32} {x4 : Int32} {x5 : Int32} {x6 : Int32} {x7 : Int32} (h : ((I 41 1) ≤ x7 → Q (.inl none) sk_gg I J) ∧ (¬ (I 41 1) ≤ x7 → vp_in x7 26 ∧ ((I 42 x7.toNatClampNeg) < 0 → sk_W Γ m_M_make mc ms 117 [(0, .ref 41), (1, .int x1), (2, .int x2), (4, .int x4), (5, .int x5), (6, .int x6), (7, .int x7), (9, .int 0), (10, .int 0), (11, .int 0), (12, .int 0)] [] sk_gg I J 0 0 Q) ∧ (¬ (I 42 x7.toNatClampNeg) < 0 → (¬ ((x1 >>> ((I 42 x7.toNatClampNeg) &&& 31)) &&& 1) = 1 → vp_in x7 26 ∧ sk_W Γ m_M_make mc ms 246 [(0, .ref 41), (1, .int x1), (2, .int x2), (4, .int x4), (5, .int x5), (6, .int x6), (7, .int x7)] [] sk_gg (sk_pi I 53 x7.toNatClampNeg ((x2 >>> ((I 42 x7.toNatClampNeg) &&& 31)) &&& 1)) J 0 0 Q) ∧ (((x1 >>> ((I 42 x7.toNatClampNeg) &&& 31)) &&& 1) = 1 → vp_in x7 26 ∧ sk_W Γ m_M_make mc ms 246 [(0, .ref 41), (1, .int x1), (2, .int x2), (4, .int x4), (5, .int x5), (6, .int x6), (7, .int x7)] [] sk_gg (sk_pi I 53 x7.toNatClampNeg 2) J 0 0 Q)))) : sk_W Γ m_M_make mc ms 52 [(0, .ref 41), (1, .int x1), (2, .int x2), (4, .int x4), (5, .int x5), (6, .int x6), (7, .int x7)] [] sk_gg I J 0 0 Q := by
  refine sk_iload (j := 6) d_M_make_52 rfl ?_
  refine sk_aload_n (j := 0) d_M_make_54 rfl rfl ?_
  refine q_getI d_M_make_55 fg_M_72 sh_41 ?_
  refine sk_icmp_ge (tgt := 284) d_M_make_58 (by decide) (fun hc => ?_) (fun hc => ?_)
  · replace h := h.1 hc
    exact sk_vreturn d_M_make_284 rfl (Nat.zero_le _) (Nat.zero_le _) h
  · replace h := h.2 hc
    refine sk_aload_n (j := 0) d_M_make_61 rfl rfl ?_
    refine q_getR d_M_make_62 fg_M_7 sh_41 rr_41_2 ?_
    refine sk_iload (j := 6) d_M_make_65 rfl ?_
    obtain ⟨hb, h⟩ := h
    refine sk_iald d_M_make_67 sh_42 hb ?_
    refine sk_istore d_M_make_68 (by decide) rfl ?_
    refine sk_iload (j := 0) d_M_make_70 rfl ?_
    refine sk_if_lt (tgt := 105) d_M_make_72 (by decide) (fun hc => ?_) (fun hc => ?_)
    · replace h := h.1 hc
      refine sk_iconst (v := 0) d_M_make_105 (by decide) ?_
      refine sk_istore d_M_make_106 (by decide) rfl ?_
      refine sk_iconst (v := 0) d_M_make_108 (by decide) ?_
      refine sk_istore d_M_make_109 (by decide) rfl ?_
      refine sk_iconst (v := 0) d_M_make_111 (by decide) ?_
      refine sk_istore d_M_make_112 (by decide) rfl ?_
      refine sk_iconst (v := 0) d_M_make_114 (by decide) ?_
      refine sk_istore d_M_make_115 (by decide) rfl ?_
      refine sk_loc [5, 6, 7, 8, 9, 10, 11, 3, 2, 1, 0] rfl ?_
      exact h
    · replace h := h.2 hc
      refine sk_aload_n (j := 1) d_M_make_75 rfl rfl ?_
      refine q_getR d_M_make_76 fg_M_44 sh_41 rr_41_17 ?_
      refine sk_iload (j := 7) d_M_make_79 rfl ?_
      refine sk_iload_n (j := 2) d_M_make_81 rfl rfl ?_
      refine sk_iload (j := 0) d_M_make_82 rfl ?_
      refine sk_ishr d_M_make_84 ?_
      refine sk_iconst (v := 1) d_M_make_85 (by decide) ?_
      refine sk_iand d_M_make_86 ?_
      refine sk_iconst (v := 1) d_M_make_87 (by decide) ?_
      refine sk_icmp_ne (tgt := 95) d_M_make_88 (by decide) (fun hc => ?_) (fun hc => ?_)
      · replace h := h.1 hc
        refine sk_iload_n (j := 3) d_M_make_95 rfl rfl ?_
        refine sk_iload (j := 0) d_M_make_96 rfl ?_
        refine sk_ishr d_M_make_98 ?_
        refine sk_iconst (v := 1) d_M_make_99 (by decide) ?_
        refine sk_iand d_M_make_100 ?_
        obtain ⟨hb, h⟩ := h
        refine r_iast d_M_make_101 sh_53 hb ?_
        refine sk_goto (tgt := 246) d_M_make_102 (by decide) ?_
        refine sk_loc [1, 2, 3, 4, 5, 6, 7] rfl ?_
        exact h
      · replace h := h.2 hc
        refine sk_iconst (v := 2) d_M_make_91 (by decide) ?_
        refine sk_goto (tgt := 101) d_M_make_92 (by decide) ?_
        obtain ⟨hb, h⟩ := h
        refine r_iast d_M_make_101 sh_53 hb ?_
        refine sk_goto (tgt := 246) d_M_make_102 (by decide) ?_
        refine sk_loc [1, 2, 3, 4, 5, 6, 7] rfl ?_
        exact h
theorem s_M_make_117 {Γ : sk_T} {mc ms : Nat} {I : sk_I} {J : sk_J} {Q : sk_Q} {x1 : Int32} {x2 : Int32} {x4 : Int32} {x5 : Int32} {x6 : Int32} {x7 : Int32} {x9 : Int32} {x10 : Int32} {x11 : Int32} {x12 : Int32} (h : vp_in x7 26 ∧ ((I 45 x7.toNatClampNeg) ≤ x12 → vp_in x7 26 ∧ sk_S Γ m_M_madeOf 0 0 [.int (I 43 x7.toNatClampNeg), .int x9, .int x10, .int x11] sk_gg I J (sk_Ki fun v' I' J' => sk_W Γ m_M_make mc ms 245 [(0, .ref 41), (1, .int x1), (2, .int x2), (4, .int x4), (5, .int x5), (6, .int x6), (7, .int x7)] [.int v', .int x7, .ref 53] sk_gg I' J' 0 0 Q)) ∧ (¬ (I 45 x7.toNatClampNeg) ≤ x12 → (¬ x7 = x4 → vp_in ((3 * x7) + x12) 78 ∧ vp_in (I 44 ((3 * x7) + x12).toNatClampNeg) 26 ∧ sk_W Γ m_M_make mc ms 165 [(0, .ref 41), (1, .int x1), (2, .int x2), (4, .int x4), (5, .int x5), (6, .int x6), (7, .int x7), (9, .int x9), (10, .int x10), (11, .int x11), (12, .int x12)] [.int (I 53 (I 44 ((3 * x7) + x12).toNatClampNeg).toNatClampNeg)] sk_gg I J 0 0 Q) ∧ (x7 = x4 → (¬ x12 = x5 → vp_in ((3 * x7) + x12) 78 ∧ vp_in (I 44 ((3 * x7) + x12).toNatClampNeg) 26 ∧ sk_W Γ m_M_make mc ms 165 [(0, .ref 41), (1, .int x1), (2, .int x2), (4, .int x4), (5, .int x5), (6, .int x6), (7, .int x7), (9, .int x9), (10, .int x10), (11, .int x11), (12, .int x12)] [.int (I 53 (I 44 ((3 * x7) + x12).toNatClampNeg).toNatClampNeg)] sk_gg I J 0 0 Q) ∧ (x12 = x5 → sk_W Γ m_M_make mc ms 165 [(0, .ref 41), (1, .int x1), (2, .int x2), (4, .int x4), (5, .int x5), (6, .int x6), (7, .int x7), (9, .int x9), (10, .int x10), (11, .int x11), (12, .int x12)] [.int x6] sk_gg I J 0 0 Q)))) : sk_W Γ m_M_make mc ms 117 [(0, .ref 41), (1, .int x1), (2, .int x2), (4, .int x4), (5, .int x5), (6, .int x6), (7, .int x7), (9, .int x9), (10, .int x10), (11, .int x11), (12, .int x12)] [] sk_gg I J 0 0 Q := by
  refine sk_iload (j := 10) d_M_make_117 rfl ?_
  refine sk_aload_n (j := 0) d_M_make_119 rfl rfl ?_
  refine q_getR d_M_make_120 fg_M_19 sh_41 rr_41_5 ?_
  refine sk_iload (j := 6) d_M_make_123 rfl ?_
  obtain ⟨hb, h⟩ := h
  refine sk_iald d_M_make_125 sh_45 hb ?_
  refine sk_icmp_ge (tgt := 223) d_M_make_126 (by decide) (fun hc => ?_) (fun hc => ?_)
  · replace h := h.1 hc
    refine sk_aload_n (j := 0) d_M_make_223 rfl rfl ?_
    refine q_getR d_M_make_224 fg_M_44 sh_41 rr_41_17 ?_
    refine sk_iload (j := 6) d_M_make_227 rfl ?_
    refine sk_aload_n (j := 0) d_M_make_229 rfl rfl ?_
    refine q_getR d_M_make_230 fg_M_13 sh_41 rr_41_3 ?_
    refine sk_iload (j := 6) d_M_make_233 rfl ?_
    obtain ⟨hb, h⟩ := h
    refine sk_iald d_M_make_235 sh_43 hb ?_
    refine sk_iload (j := 7) d_M_make_236 rfl ?_
    refine sk_iload (j := 8) d_M_make_238 rfl ?_
    refine sk_iload (j := 9) d_M_make_240 rfl ?_
    refine sk_loc [0, 1, 2, 3, 4, 5, 6] rfl ?_
    exact q_callSi (S := [.int x7, .ref 53]) (as := [.int (I 43 x7.toNatClampNeg), .int x9, .int x10, .int x11]) (mc' := 0) (ms' := 0) d_M_make_242 lk_M_104 rfl ⟨by decide, by decide⟩ (Nat.le_of_ble_eq_true rfl) rfl ⟨Nat.zero_le _, Nat.zero_le _⟩ h
  · replace h := h.2 hc
    refine sk_iload (j := 6) d_M_make_129 rfl ?_
    refine sk_iload (j := 3) d_M_make_131 rfl ?_
    refine sk_icmp_ne (tgt := 148) d_M_make_133 (by decide) (fun hc => ?_) (fun hc => ?_)
    · replace h := h.1 hc
      refine sk_aload_n (j := 0) d_M_make_148 rfl rfl ?_
      refine q_getR d_M_make_149 fg_M_44 sh_41 rr_41_17 ?_
      refine sk_aload_n (j := 0) d_M_make_152 rfl rfl ?_
      refine q_getR d_M_make_153 fg_M_16 sh_41 rr_41_4 ?_
      refine sk_iconst (v := 3) d_M_make_156 (by decide) ?_
      refine sk_iload (j := 6) d_M_make_157 rfl ?_
      refine sk_imul d_M_make_159 ?_
      refine sk_iload (j := 10) d_M_make_160 rfl ?_
      refine sk_iadd d_M_make_162 ?_
      obtain ⟨hb, h⟩ := h
      refine sk_iald d_M_make_163 sh_44 hb ?_
      obtain ⟨hb, h⟩ := h
      refine sk_iald d_M_make_164 sh_53 hb ?_
      exact h
    · replace h := h.2 hc
      refine sk_iload (j := 10) d_M_make_136 rfl ?_
      refine sk_iload (j := 4) d_M_make_138 rfl ?_
      refine sk_icmp_ne (tgt := 148) d_M_make_140 (by decide) (fun hc => ?_) (fun hc => ?_)
      · replace h := h.1 hc
        refine sk_aload_n (j := 0) d_M_make_148 rfl rfl ?_
        refine q_getR d_M_make_149 fg_M_44 sh_41 rr_41_17 ?_
        refine sk_aload_n (j := 0) d_M_make_152 rfl rfl ?_
        refine q_getR d_M_make_153 fg_M_16 sh_41 rr_41_4 ?_
        refine sk_iconst (v := 3) d_M_make_156 (by decide) ?_
        refine sk_iload (j := 6) d_M_make_157 rfl ?_
        refine sk_imul d_M_make_159 ?_
        refine sk_iload (j := 10) d_M_make_160 rfl ?_
        refine sk_iadd d_M_make_162 ?_
        obtain ⟨hb, h⟩ := h
        refine sk_iald d_M_make_163 sh_44 hb ?_
        obtain ⟨hb, h⟩ := h
        refine sk_iald d_M_make_164 sh_53 hb ?_
        exact h
      · replace h := h.2 hc
        refine sk_iload (j := 5) d_M_make_143 rfl ?_
        refine sk_goto (tgt := 165) d_M_make_145 (by decide) ?_
        exact h
theorem s_M_make_165 {Γ : sk_T} {mc ms : Nat} {I : sk_I} {J : sk_J} {Q : sk_Q} {x1 : Int32} {x2 : Int32} {x4 : Int32} {x5 : Int32} {x6 : Int32} {x7 : Int32} {x9 : Int32} {x10 : Int32} {x11 : Int32} {x12 : Int32} {u0 : Int32} (h : (¬ u0 = 0 → (¬ u0 = 1 → sk_W Γ m_M_make mc ms 198 [(0, .ref 41), (1, .int x1), (2, .int x2), (4, .int x4), (5, .int x5), (6, .int x6), (7, .int x7), (9, .int x9), (11, .int x11), (12, .int x12), (13, .int u0)] [.int x10] sk_gg I J 0 0 Q) ∧ (u0 = 1 → sk_W Γ m_M_make mc ms 198 [(0, .ref 41), (1, .int x1), (2, .int x2), (4, .int x4), (5, .int x5), (6, .int x6), (7, .int x7), (9, .int x9), (11, .int x11), (12, .int x12), (13, .int u0)] [.int (x10 + 1)] sk_gg I J 0 0 Q)) ∧ (u0 = 0 → (¬ u0 = 1 → sk_W Γ m_M_make mc ms 198 [(0, .ref 41), (1, .int x1), (2, .int x2), (4, .int x4), (5, .int x5), (6, .int x6), (7, .int x7), (9, .int (x9 + 1)), (11, .int x11), (12, .int x12), (13, .int u0)] [.int x10] sk_gg I J 0 0 Q) ∧ (u0 = 1 → sk_W Γ m_M_make mc ms 198 [(0, .ref 41), (1, .int x1), (2, .int x2), (4, .int x4), (5, .int x5), (6, .int x6), (7, .int x7), (9, .int (x9 + 1)), (11, .int x11), (12, .int x12), (13, .int u0)] [.int (x10 + 1)] sk_gg I J 0 0 Q))) : sk_W Γ m_M_make mc ms 165 [(0, .ref 41), (1, .int x1), (2, .int x2), (4, .int x4), (5, .int x5), (6, .int x6), (7, .int x7), (9, .int x9), (10, .int x10), (11, .int x11), (12, .int x12)] [.int u0] sk_gg I J 0 0 Q := by
  refine sk_istore d_M_make_165 (by decide) rfl ?_
  refine sk_iload (j := 0) d_M_make_167 rfl ?_
  refine sk_if_ne (tgt := 179) d_M_make_169 (by decide) (fun hc => ?_) (fun hc => ?_)
  · replace h := h.1 hc
    refine sk_iload (j := 8) d_M_make_179 rfl ?_
    refine sk_istore d_M_make_181 (by decide) rfl ?_
    refine sk_iload (j := 1) d_M_make_183 rfl ?_
    refine sk_iconst (v := 1) d_M_make_185 (by decide) ?_
    refine sk_icmp_ne (tgt := 196) d_M_make_186 (by decide) (fun hc => ?_) (fun hc => ?_)
    · replace h := h.1 hc
      refine sk_iload (j := 9) d_M_make_196 rfl ?_
      refine sk_loc [2, 3, 4, 5, 6, 7, 8, 0, 10, 11, 1] rfl ?_
      exact h
    · replace h := h.2 hc
      refine sk_iload (j := 9) d_M_make_189 rfl ?_
      refine sk_iconst (v := 1) d_M_make_191 (by decide) ?_
      refine sk_iadd d_M_make_192 ?_
      refine sk_goto (tgt := 198) d_M_make_193 (by decide) ?_
      refine sk_loc [2, 3, 4, 5, 6, 7, 8, 0, 10, 11, 1] rfl ?_
      exact h
  · replace h := h.2 hc
    refine sk_iload (j := 8) d_M_make_172 rfl ?_
    refine sk_iconst (v := 1) d_M_make_174 (by decide) ?_
    refine sk_iadd d_M_make_175 ?_
    refine sk_goto (tgt := 181) d_M_make_176 (by decide) ?_
    refine sk_istore d_M_make_181 (by decide) rfl ?_
    refine sk_iload (j := 1) d_M_make_183 rfl ?_
    refine sk_iconst (v := 1) d_M_make_185 (by decide) ?_
    refine sk_icmp_ne (tgt := 196) d_M_make_186 (by decide) (fun hc => ?_) (fun hc => ?_)
    · replace h := h.1 hc
      refine sk_iload (j := 9) d_M_make_196 rfl ?_
      refine sk_loc [2, 3, 4, 5, 6, 7, 8, 0, 10, 11, 1] rfl ?_
      exact h
    · replace h := h.2 hc
      refine sk_iload (j := 9) d_M_make_189 rfl ?_
      refine sk_iconst (v := 1) d_M_make_191 (by decide) ?_
      refine sk_iadd d_M_make_192 ?_
      refine sk_goto (tgt := 198) d_M_make_193 (by decide) ?_
      refine sk_loc [2, 3, 4, 5, 6, 7, 8, 0, 10, 11, 1] rfl ?_
      exact h
theorem s_M_make_198 {Γ : sk_T} {mc ms : Nat} {I : sk_I} {J : sk_J} {Q : sk_Q} {x1 : Int32} {x2 : Int32} {x4 : Int32} {x5 : Int32} {x6 : Int32} {x7 : Int32} {x9 : Int32} {x11 : Int32} {x12 : Int32} {x13 : Int32} {u0 : Int32} (h : (¬ x13 = 2 → sk_W Γ m_M_make mc ms 117 [(0, .ref 41), (1, .int x1), (2, .int x2), (4, .int x4), (5, .int x5), (6, .int x6), (7, .int x7), (9, .int x9), (10, .int u0), (11, .int x11), (12, .int (x12 + 1))] [] sk_gg I J 0 0 Q) ∧ (x13 = 2 → sk_W Γ m_M_make mc ms 117 [(0, .ref 41), (1, .int x1), (2, .int x2), (4, .int x4), (5, .int x5), (6, .int x6), (7, .int x7), (9, .int x9), (10, .int u0), (11, .int (x11 + 1)), (12, .int (x12 + 1))] [] sk_gg I J 0 0 Q)) : sk_W Γ m_M_make mc ms 198 [(0, .ref 41), (1, .int x1), (2, .int x2), (4, .int x4), (5, .int x5), (6, .int x6), (7, .int x7), (9, .int x9), (11, .int x11), (12, .int x12), (13, .int x13)] [.int u0] sk_gg I J 0 0 Q := by
  refine sk_istore d_M_make_198 (by decide) rfl ?_
  refine sk_iload (j := 11) d_M_make_200 rfl ?_
  refine sk_iconst (v := 2) d_M_make_202 (by decide) ?_
  refine sk_icmp_ne (tgt := 213) d_M_make_203 (by decide) (fun hc => ?_) (fun hc => ?_)
  · replace h := h.1 hc
    refine sk_iload (j := 9) d_M_make_213 rfl ?_
    refine sk_istore d_M_make_215 (by decide) rfl ?_
    refine sk_iinc (j := 10) (v := x12 + 1) d_M_make_217 rfl (by rfl) (by decide) rfl ?_
    refine sk_goto (tgt := 117) d_M_make_220 (by decide) ?_
    refine sk_loc [3, 4, 5, 6, 7, 8, 9, 10, 2, 1, 0] rfl ?_
    exact h
  · replace h := h.2 hc
    refine sk_iload (j := 9) d_M_make_206 rfl ?_
    refine sk_iconst (v := 1) d_M_make_208 (by decide) ?_
    refine sk_iadd d_M_make_209 ?_
    refine sk_goto (tgt := 215) d_M_make_210 (by decide) ?_
    refine sk_istore d_M_make_215 (by decide) rfl ?_
    refine sk_iinc (j := 10) (v := x12 + 1) d_M_make_217 rfl (by rfl) (by decide) rfl ?_
    refine sk_goto (tgt := 117) d_M_make_220 (by decide) ?_
    refine sk_loc [3, 4, 5, 6, 7, 8, 9, 10, 2, 1, 0] rfl ?_
    exact h
theorem s_M_make_245 {Γ : sk_T} {mc ms : Nat} {I : sk_I} {J : sk_J} {Q : sk_Q} {x1 : Int32} {x2 : Int32} {x4 : Int32} {x5 : Int32} {x6 : Int32} {x7 : Int32} {u1 : Int32} {u2 : Int32} (h : vp_in u1 26 ∧ sk_W Γ m_M_make mc ms 246 [(0, .ref 41), (1, .int x1), (2, .int x2), (4, .int x4), (5, .int x5), (6, .int x6), (7, .int x7)] [] sk_gg (sk_pi I 53 u1.toNatClampNeg u2) J 0 0 Q) : sk_W Γ m_M_make mc ms 245 [(0, .ref 41), (1, .int x1), (2, .int x2), (4, .int x4), (5, .int x5), (6, .int x6), (7, .int x7)] [.int u2, .int u1, .ref 53] sk_gg I J 0 0 Q := by
  obtain ⟨hb, h⟩ := h
  refine r_iast d_M_make_245 sh_53 hb ?_
  exact h
theorem s_M_make_246 {Γ : sk_T} {mc ms : Nat} {I : sk_I} {J : sk_J} {Q : sk_Q} {x1 : Int32} {x2 : Int32} {x4 : Int32} {x5 : Int32} {x6 : Int32} {x7 : Int32} (h : (¬ x7 = x4 → vp_in x7 26 ∧ vp_in x7 26 ∧ sk_W Γ m_M_make mc ms 52 [(0, .ref 41), (1, .int x1), (2, .int x2), (4, .int x4), (5, .int x5), (6, .int x6), (7, .int (x7 + 1))] [] sk_gg (sk_pi I 53 x7.toNatClampNeg (I 53 x7.toNatClampNeg)) J 0 0 Q) ∧ (x7 = x4 → (¬ x5 = (-1) → vp_in x7 26 ∧ vp_in x7 26 ∧ sk_W Γ m_M_make mc ms 52 [(0, .ref 41), (1, .int x1), (2, .int x2), (4, .int x4), (5, .int x5), (6, .int x6), (7, .int (x7 + 1))] [] sk_gg (sk_pi I 53 x7.toNatClampNeg (I 53 x7.toNatClampNeg)) J 0 0 Q) ∧ (x5 = (-1) → vp_in x7 26 ∧ sk_W Γ m_M_make mc ms 52 [(0, .ref 41), (1, .int x1), (2, .int x2), (4, .int x4), (5, .int x5), (6, .int x6), (7, .int (x7 + 1))] [] sk_gg (sk_pi I 53 x7.toNatClampNeg x6) J 0 0 Q))) : sk_W Γ m_M_make mc ms 246 [(0, .ref 41), (1, .int x1), (2, .int x2), (4, .int x4), (5, .int x5), (6, .int x6), (7, .int x7)] [] sk_gg I J 0 0 Q := by
  refine sk_aload_n (j := 0) d_M_make_246 rfl rfl ?_
  refine q_getR d_M_make_247 fg_M_44 sh_41 rr_41_17 ?_
  refine sk_iload (j := 6) d_M_make_250 rfl ?_
  refine sk_iload (j := 6) d_M_make_252 rfl ?_
  refine sk_iload (j := 3) d_M_make_254 rfl ?_
  refine sk_icmp_ne (tgt := 270) d_M_make_256 (by decide) (fun hc => ?_) (fun hc => ?_)
  · replace h := h.1 hc
    refine sk_aload_n (j := 0) d_M_make_270 rfl rfl ?_
    refine q_getR d_M_make_271 fg_M_44 sh_41 rr_41_17 ?_
    refine sk_iload (j := 6) d_M_make_274 rfl ?_
    obtain ⟨hb, h⟩ := h
    refine sk_iald d_M_make_276 sh_53 hb ?_
    obtain ⟨hb, h⟩ := h
    refine r_iast d_M_make_277 sh_53 hb ?_
    refine sk_iinc (j := 6) (v := x7 + 1) d_M_make_278 rfl (by rfl) (by decide) rfl ?_
    refine sk_goto (tgt := 52) d_M_make_281 (by decide) ?_
    refine sk_loc [1, 2, 3, 4, 5, 6, 0] rfl ?_
    exact h
  · replace h := h.2 hc
    refine sk_iload (j := 4) d_M_make_259 rfl ?_
    refine sk_iconst (v := (-1)) d_M_make_261 (by decide) ?_
    refine sk_icmp_ne (tgt := 270) d_M_make_262 (by decide) (fun hc => ?_) (fun hc => ?_)
    · replace h := h.1 hc
      refine sk_aload_n (j := 0) d_M_make_270 rfl rfl ?_
      refine q_getR d_M_make_271 fg_M_44 sh_41 rr_41_17 ?_
      refine sk_iload (j := 6) d_M_make_274 rfl ?_
      obtain ⟨hb, h⟩ := h
      refine sk_iald d_M_make_276 sh_53 hb ?_
      obtain ⟨hb, h⟩ := h
      refine r_iast d_M_make_277 sh_53 hb ?_
      refine sk_iinc (j := 6) (v := x7 + 1) d_M_make_278 rfl (by rfl) (by decide) rfl ?_
      refine sk_goto (tgt := 52) d_M_make_281 (by decide) ?_
      refine sk_loc [1, 2, 3, 4, 5, 6, 0] rfl ?_
      exact h
    · replace h := h.2 hc
      refine sk_iload (j := 5) d_M_make_265 rfl ?_
      refine sk_goto (tgt := 277) d_M_make_267 (by decide) ?_
      obtain ⟨hb, h⟩ := h
      refine r_iast d_M_make_277 sh_53 hb ?_
      refine sk_iinc (j := 6) (v := x7 + 1) d_M_make_278 rfl (by rfl) (by decide) rfl ?_
      refine sk_goto (tgt := 52) d_M_make_281 (by decide) ?_
      refine sk_loc [1, 2, 3, 4, 5, 6, 0] rfl ?_
      exact h
theorem s_M_madeOf_0 {Γ : sk_T} {mc ms : Nat} {I : sk_I} {J : sk_J} {Q : sk_Q} {x0 : Int32} {x1 : Int32} {x2 : Int32} {x3 : Int32} (h : (2 ≤ x0 → (4 ≤ x0 → (x3 ≤ 0 → sk_W Γ m_M_madeOf mc ms 67 [(0, .int x0), (4, .int (x2 - x2 / 2 * 2))] [] sk_gg I J 0 0 Q) ∧ (¬ x3 ≤ 0 → sk_W Γ m_M_madeOf mc ms 67 [(0, .int x0), (4, .int 2)] [] sk_gg I J 0 0 Q)) ∧ (¬ 4 ≤ x0 → (x2 ≤ 0 → (x3 ≤ 0 → sk_W Γ m_M_madeOf mc ms 67 [(0, .int x0), (4, .int 0)] [] sk_gg I J 0 0 Q) ∧ (¬ x3 ≤ 0 → sk_W Γ m_M_madeOf mc ms 67 [(0, .int x0), (4, .int 2)] [] sk_gg I J 0 0 Q)) ∧ (¬ x2 ≤ 0 → sk_W Γ m_M_madeOf mc ms 67 [(0, .int x0), (4, .int 1)] [] sk_gg I J 0 0 Q))) ∧ (¬ 2 ≤ x0 → (x1 ≤ 0 → (x3 ≤ 0 → sk_W Γ m_M_madeOf mc ms 67 [(0, .int x0), (4, .int 1)] [] sk_gg I J 0 0 Q) ∧ (¬ x3 ≤ 0 → sk_W Γ m_M_madeOf mc ms 67 [(0, .int x0), (4, .int 2)] [] sk_gg I J 0 0 Q)) ∧ (¬ x1 ≤ 0 → sk_W Γ m_M_madeOf mc ms 67 [(0, .int x0), (4, .int 0)] [] sk_gg I J 0 0 Q))) : sk_W Γ m_M_madeOf mc ms 0 [(0, .int x0), (1, .int x1), (2, .int x2), (3, .int x3)] [] sk_gg I J 0 0 Q := by
  refine sk_iload_n (j := 0) d_M_madeOf_0 rfl rfl ?_
  refine sk_iconst (v := 2) d_M_madeOf_1 (by decide) ?_
  refine sk_icmp_ge (tgt := 27) d_M_madeOf_2 (by decide) (fun hc => ?_) (fun hc => ?_)
  · replace h := h.1 hc
    refine sk_iload_n (j := 0) d_M_madeOf_27 rfl rfl ?_
    refine sk_iconst (v := 4) d_M_madeOf_28 (by decide) ?_
    refine sk_icmp_ge (tgt := 54) d_M_madeOf_29 (by decide) (fun hc => ?_) (fun hc => ?_)
    · replace h := h.1 hc
      refine sk_iload_n (j := 3) d_M_madeOf_54 rfl rfl ?_
      refine sk_if_le (tgt := 62) d_M_madeOf_55 (by decide) (fun hc => ?_) (fun hc => ?_)
      · replace h := h.1 hc
        refine sk_iload_n (j := 2) d_M_madeOf_62 rfl rfl ?_
        refine sk_iconst (v := 2) d_M_madeOf_63 (by decide) ?_
        refine sk_irem d_M_madeOf_64 (by decide) ?_
        refine sk_istore d_M_madeOf_65 (by decide) rfl ?_
        refine sk_loc [1, 0] rfl ?_
        exact h
      · replace h := h.2 hc
        refine sk_iconst (v := 2) d_M_madeOf_58 (by decide) ?_
        refine sk_goto (tgt := 65) d_M_madeOf_59 (by decide) ?_
        refine sk_istore d_M_madeOf_65 (by decide) rfl ?_
        refine sk_loc [1, 0] rfl ?_
        exact h
    · replace h := h.2 hc
      refine sk_iload_n (j := 2) d_M_madeOf_32 rfl rfl ?_
      refine sk_if_le (tgt := 40) d_M_madeOf_33 (by decide) (fun hc => ?_) (fun hc => ?_)
      · replace h := h.1 hc
        refine sk_iload_n (j := 3) d_M_madeOf_40 rfl rfl ?_
        refine sk_if_le (tgt := 48) d_M_madeOf_41 (by decide) (fun hc => ?_) (fun hc => ?_)
        · replace h := h.1 hc
          refine sk_iconst (v := 0) d_M_madeOf_48 (by decide) ?_
          refine sk_istore d_M_madeOf_49 (by decide) rfl ?_
          refine sk_goto (tgt := 67) d_M_madeOf_51 (by decide) ?_
          refine sk_loc [1, 0] rfl ?_
          exact h
        · replace h := h.2 hc
          refine sk_iconst (v := 2) d_M_madeOf_44 (by decide) ?_
          refine sk_goto (tgt := 49) d_M_madeOf_45 (by decide) ?_
          refine sk_istore d_M_madeOf_49 (by decide) rfl ?_
          refine sk_goto (tgt := 67) d_M_madeOf_51 (by decide) ?_
          refine sk_loc [1, 0] rfl ?_
          exact h
      · replace h := h.2 hc
        refine sk_iconst (v := 1) d_M_madeOf_36 (by decide) ?_
        refine sk_goto (tgt := 49) d_M_madeOf_37 (by decide) ?_
        refine sk_istore d_M_madeOf_49 (by decide) rfl ?_
        refine sk_goto (tgt := 67) d_M_madeOf_51 (by decide) ?_
        refine sk_loc [1, 0] rfl ?_
        exact h
  · replace h := h.2 hc
    refine sk_iload_n (j := 1) d_M_madeOf_5 rfl rfl ?_
    refine sk_if_le (tgt := 13) d_M_madeOf_6 (by decide) (fun hc => ?_) (fun hc => ?_)
    · replace h := h.1 hc
      refine sk_iload_n (j := 3) d_M_madeOf_13 rfl rfl ?_
      refine sk_if_le (tgt := 21) d_M_madeOf_14 (by decide) (fun hc => ?_) (fun hc => ?_)
      · replace h := h.1 hc
        refine sk_iconst (v := 1) d_M_madeOf_21 (by decide) ?_
        refine sk_istore d_M_madeOf_22 (by decide) rfl ?_
        refine sk_goto (tgt := 67) d_M_madeOf_24 (by decide) ?_
        refine sk_loc [1, 0] rfl ?_
        exact h
      · replace h := h.2 hc
        refine sk_iconst (v := 2) d_M_madeOf_17 (by decide) ?_
        refine sk_goto (tgt := 22) d_M_madeOf_18 (by decide) ?_
        refine sk_istore d_M_madeOf_22 (by decide) rfl ?_
        refine sk_goto (tgt := 67) d_M_madeOf_24 (by decide) ?_
        refine sk_loc [1, 0] rfl ?_
        exact h
    · replace h := h.2 hc
      refine sk_iconst (v := 0) d_M_madeOf_9 (by decide) ?_
      refine sk_goto (tgt := 22) d_M_madeOf_10 (by decide) ?_
      refine sk_istore d_M_madeOf_22 (by decide) rfl ?_
      refine sk_goto (tgt := 67) d_M_madeOf_24 (by decide) ?_
      refine sk_loc [1, 0] rfl ?_
      exact h
theorem s_M_madeOf_67 {Γ : sk_T} {mc ms : Nat} {I : sk_I} {J : sk_J} {Q : sk_Q} {x0 : Int32} {x4 : Int32} (h : (x4 = 2 → Q (.inl (some (.int x4))) sk_gg I J) ∧ (¬ x4 = 2 → (¬ (x0 - x0 / 2 * 2) = 0 → Q (.inl (some (.int (1 - x4)))) sk_gg I J) ∧ ((x0 - x0 / 2 * 2) = 0 → Q (.inl (some (.int x4))) sk_gg I J))) : sk_W Γ m_M_madeOf mc ms 67 [(0, .int x0), (4, .int x4)] [] sk_gg I J 0 0 Q := by
  refine sk_iload (j := 1) d_M_madeOf_67 rfl ?_
  refine sk_iconst (v := 2) d_M_madeOf_69 (by decide) ?_
  refine sk_icmp_eq (tgt := 79) d_M_madeOf_70 (by decide) (fun hc => ?_) (fun hc => ?_)
  · replace h := h.1 hc
    refine sk_iload (j := 1) d_M_madeOf_79 rfl ?_
    refine sk_goto (tgt := 88) d_M_madeOf_81 (by decide) ?_
    exact sk_ireturn d_M_madeOf_88 rfl (Nat.zero_le _) (Nat.zero_le _) h
  · replace h := h.2 hc
    refine sk_iload_n (j := 0) d_M_madeOf_73 rfl rfl ?_
    refine sk_iconst (v := 2) d_M_madeOf_74 (by decide) ?_
    refine sk_irem d_M_madeOf_75 (by decide) ?_
    refine sk_if_ne (tgt := 84) d_M_madeOf_76 (by decide) (fun hc => ?_) (fun hc => ?_)
    · replace h := h.1 hc
      refine sk_iconst (v := 1) d_M_madeOf_84 (by decide) ?_
      refine sk_iload (j := 1) d_M_madeOf_85 rfl ?_
      refine sk_isub d_M_madeOf_87 ?_
      exact sk_ireturn d_M_madeOf_88 rfl (Nat.zero_le _) (Nat.zero_le _) h
    · replace h := h.2 hc
      refine sk_iload (j := 1) d_M_madeOf_79 rfl ?_
      refine sk_goto (tgt := 88) d_M_madeOf_81 (by decide) ?_
      exact sk_ireturn d_M_madeOf_88 rfl (Nat.zero_le _) (Nat.zero_le _) h
theorem s_M_answered_0 {Γ : sk_T} {mc ms : Nat} {I : sk_I} {J : sk_J} {Q : sk_Q}  (h : sk_W Γ m_M_answered mc ms 4 [(0, .ref 41), (1, .int 0), (2, .int 0)] [] sk_gg I J 0 0 Q) : sk_W Γ m_M_answered mc ms 0 [(0, .ref 41)] [] sk_gg I J 0 0 Q := by
  refine sk_iconst (v := 0) d_M_answered_0 (by decide) ?_
  refine sk_istore_n d_M_answered_1 rfl (by decide) rfl ?_
  refine sk_iconst (v := 0) d_M_answered_2 (by decide) ?_
  refine sk_istore_n d_M_answered_3 rfl (by decide) rfl ?_
  refine sk_loc [2, 1, 0] rfl ?_
  exact h
theorem s_M_answered_4 {Γ : sk_T} {mc ms : Nat} {I : sk_I} {J : sk_J} {Q : sk_Q} {x1 : Int32} {x2 : Int32} (h : ((I 41 12) ≤ x2 → Q (.inl (some (.int x1))) sk_gg I J) ∧ (¬ (I 41 12) ≤ x2 → vp_in x2 12 ∧ vp_in (I 50 x2.toNatClampNeg) 26 ∧ sk_W Γ m_M_answered mc ms 4 [(0, .ref 41), (1, .int (x1 + ((I 53 (I 50 x2.toNatClampNeg).toNatClampNeg) <<< (x2 &&& 31)))), (2, .int (x2 + 1))] [] sk_gg I J 0 0 Q)) : sk_W Γ m_M_answered mc ms 4 [(0, .ref 41), (1, .int x1), (2, .int x2)] [] sk_gg I J 0 0 Q := by
  refine sk_iload_n (j := 2) d_M_answered_4 rfl rfl ?_
  refine sk_aload_n (j := 0) d_M_answered_5 rfl rfl ?_
  refine q_getI d_M_answered_6 fg_M_91 sh_41 ?_
  refine sk_icmp_ge (tgt := 34) d_M_answered_9 (by decide) (fun hc => ?_) (fun hc => ?_)
  · replace h := h.1 hc
    refine sk_iload_n (j := 1) d_M_answered_34 rfl rfl ?_
    exact sk_ireturn d_M_answered_35 rfl (Nat.zero_le _) (Nat.zero_le _) h
  · replace h := h.2 hc
    refine sk_iload_n (j := 1) d_M_answered_12 rfl rfl ?_
    refine sk_aload_n (j := 0) d_M_answered_13 rfl rfl ?_
    refine q_getR d_M_answered_14 fg_M_44 sh_41 rr_41_17 ?_
    refine sk_aload_n (j := 0) d_M_answered_17 rfl rfl ?_
    refine q_getR d_M_answered_18 fg_M_35 sh_41 rr_41_13 ?_
    refine sk_iload_n (j := 2) d_M_answered_21 rfl rfl ?_
    obtain ⟨hb, h⟩ := h
    refine sk_iald d_M_answered_22 sh_50 hb ?_
    obtain ⟨hb, h⟩ := h
    refine sk_iald d_M_answered_23 sh_53 hb ?_
    refine sk_iload_n (j := 2) d_M_answered_24 rfl rfl ?_
    refine sk_ishl d_M_answered_25 ?_
    refine sk_iadd d_M_answered_26 ?_
    refine sk_istore_n d_M_answered_27 rfl (by decide) rfl ?_
    refine sk_iinc (j := 2) (v := x2 + 1) d_M_answered_28 rfl (by rfl) (by decide) rfl ?_
    refine sk_goto (tgt := 4) d_M_answered_31 (by decide) ?_
    refine sk_loc [2, 1, 0] rfl ?_
    exact h
theorem s_M_leastOf_0 {Γ : sk_T} {mc ms : Nat} {I : sk_I} {J : sk_J} {Q : sk_Q} {x1 : Int32} (h : sk_W Γ m_M_leastOf mc ms 2 [(0, .ref 41), (1, .int x1), (2, .int 0)] [] sk_gg I J 0 0 Q) : sk_W Γ m_M_leastOf mc ms 0 [(0, .ref 41), (1, .int x1)] [] sk_gg I J 0 0 Q := by
  refine sk_iconst (v := 0) d_M_leastOf_0 (by decide) ?_
  refine sk_istore_n d_M_leastOf_1 rfl (by decide) rfl ?_
  refine sk_loc [1, 2, 0] rfl ?_
  exact h
theorem s_M_leastOf_2 {Γ : sk_T} {mc ms : Nat} {I : sk_I} {J : sk_J} {Q : sk_Q} {x1 : Int32} {x2 : Int32} (h : sk_S Γ m_M_vectors 0 0 (.ref 41 :: []) sk_gg I J (sk_Ki fun v' I' J' => sk_W Γ m_M_leastOf mc ms 7 [(0, .ref 41), (1, .int x1), (2, .int x2)] [.int v', .int x2] sk_gg I' J' 0 0 Q)) : sk_W Γ m_M_leastOf mc ms 2 [(0, .ref 41), (1, .int x1), (2, .int x2)] [] sk_gg I J 0 0 Q := by
  refine sk_iload_n (j := 2) d_M_leastOf_2 rfl rfl ?_
  refine sk_aload_n (j := 0) d_M_leastOf_3 rfl rfl ?_
  exact q_callVi (S := [.int x2]) (as := []) d_M_leastOf_4 lk_M_108 sh_41 ⟨_, rfl⟩ rfl ⟨by decide, by decide⟩ (Nat.le_of_ble_eq_true rfl) rfl (Nat.zero_le _) (Nat.zero_le _) h
theorem s_M_leastOf_7 {Γ : sk_T} {mc ms : Nat} {I : sk_I} {J : sk_J} {Q : sk_Q} {x1 : Int32} {x2 : Int32} {u0 : Int32} {u1 : Int32} (h : (u1 ≤ u0 → Q (.inl (some (.int (-1)))) sk_gg I J) ∧ (¬ u1 ≤ u0 → vp_in ((64 * x1) + x2) 13312 ∧ vp_in x2 64 ∧ ((I 55 ((64 * x1) + x2).toNatClampNeg) = (I 56 x2.toNatClampNeg) → sk_W Γ m_M_leastOf mc ms 2 [(0, .ref 41), (1, .int x1), (2, .int (x2 + 1))] [] sk_gg I J 0 0 Q) ∧ (¬ (I 55 ((64 * x1) + x2).toNatClampNeg) = (I 56 x2.toNatClampNeg) → Q (.inl (some (.int x2))) sk_gg I J))) : sk_W Γ m_M_leastOf mc ms 7 [(0, .ref 41), (1, .int x1), (2, .int x2)] [.int u1, .int u0] sk_gg I J 0 0 Q := by
  refine sk_icmp_ge (tgt := 38) d_M_leastOf_7 (by decide) (fun hc => ?_) (fun hc => ?_)
  · replace h := h.1 hc
    refine sk_iconst (v := (-1)) d_M_leastOf_38 (by decide) ?_
    exact sk_ireturn d_M_leastOf_39 rfl (Nat.zero_le _) (Nat.zero_le _) h
  · replace h := h.2 hc
    refine sk_aload_n (j := 0) d_M_leastOf_10 rfl rfl ?_
    refine q_getR d_M_leastOf_11 fg_M_50 sh_41 rr_41_20 ?_
    refine sk_bipush (v := 64) d_M_leastOf_14 (by decide) ?_
    refine sk_iload_n (j := 1) d_M_leastOf_16 rfl rfl ?_
    refine sk_imul d_M_leastOf_17 ?_
    refine sk_iload_n (j := 2) d_M_leastOf_18 rfl rfl ?_
    refine sk_iadd d_M_leastOf_19 ?_
    obtain ⟨hb, h⟩ := h
    refine sk_iald d_M_leastOf_20 sh_55 hb ?_
    refine sk_aload_n (j := 0) d_M_leastOf_21 rfl rfl ?_
    refine q_getR d_M_leastOf_22 fg_M_53 sh_41 rr_41_21 ?_
    refine sk_iload_n (j := 2) d_M_leastOf_25 rfl rfl ?_
    obtain ⟨hb, h⟩ := h
    refine sk_iald d_M_leastOf_26 sh_56 hb ?_
    refine sk_icmp_eq (tgt := 32) d_M_leastOf_27 (by decide) (fun hc => ?_) (fun hc => ?_)
    · replace h := h.1 hc
      refine sk_iinc (j := 2) (v := x2 + 1) d_M_leastOf_32 rfl (by rfl) (by decide) rfl ?_
      refine sk_goto (tgt := 2) d_M_leastOf_35 (by decide) ?_
      refine sk_loc [1, 2, 0] rfl ?_
      exact h
    · replace h := h.2 hc
      refine sk_iload_n (j := 2) d_M_leastOf_30 rfl rfl ?_
      exact sk_ireturn d_M_leastOf_31 rfl (Nat.zero_le _) (Nat.zero_le _) h
theorem s_M_firstAlike_0 {Γ : sk_T} {mc ms : Nat} {I : sk_I} {J : sk_J} {Q : sk_Q} {x1 : Int32} (h : sk_W Γ m_M_firstAlike mc ms 2 [(0, .ref 41), (1, .int x1), (2, .int 0)] [] sk_gg I J 0 0 Q) : sk_W Γ m_M_firstAlike mc ms 0 [(0, .ref 41), (1, .int x1)] [] sk_gg I J 0 0 Q := by
  refine sk_iconst (v := 0) d_M_firstAlike_0 (by decide) ?_
  refine sk_istore_n d_M_firstAlike_1 rfl (by decide) rfl ?_
  refine sk_loc [1, 2, 0] rfl ?_
  exact h
theorem s_M_firstAlike_2 {Γ : sk_T} {mc ms : Nat} {I : sk_I} {J : sk_J} {Q : sk_Q} {x1 : Int32} {x2 : Int32} (h : (x1 ≤ x2 → Q (.inl (some (.int x1))) sk_gg I J) ∧ (¬ x1 ≤ x2 → sk_W Γ m_M_firstAlike mc ms 12 [(0, .ref 41), (1, .int x1), (2, .int x2), (3, .int 1), (4, .int 0)] [] sk_gg I J 0 0 Q)) : sk_W Γ m_M_firstAlike mc ms 2 [(0, .ref 41), (1, .int x1), (2, .int x2)] [] sk_gg I J 0 0 Q := by
  refine sk_iload_n (j := 2) d_M_firstAlike_2 rfl rfl ?_
  refine sk_iload_n (j := 1) d_M_firstAlike_3 rfl rfl ?_
  refine sk_icmp_ge (tgt := 76) d_M_firstAlike_4 (by decide) (fun hc => ?_) (fun hc => ?_)
  · replace h := h.1 hc
    refine sk_iload_n (j := 1) d_M_firstAlike_76 rfl rfl ?_
    exact sk_ireturn d_M_firstAlike_77 rfl (Nat.zero_le _) (Nat.zero_le _) h
  · replace h := h.2 hc
    refine sk_iconst (v := 1) d_M_firstAlike_7 (by decide) ?_
    refine sk_istore_n d_M_firstAlike_8 rfl (by decide) rfl ?_
    refine sk_iconst (v := 0) d_M_firstAlike_9 (by decide) ?_
    refine sk_istore d_M_firstAlike_10 (by decide) rfl ?_
    refine sk_loc [2, 3, 4, 1, 0] rfl ?_
    exact h
theorem s_M_firstAlike_12 {Γ : sk_T} {mc ms : Nat} {I : sk_I} {J : sk_J} {Q : sk_Q} {x1 : Int32} {x2 : Int32} {x3 : Int32} {x4 : Int32} (h : sk_S Γ m_M_vectors 0 0 (.ref 41 :: []) sk_gg I J (sk_Ki fun v' I' J' => sk_W Γ m_M_firstAlike mc ms 18 [(0, .ref 41), (1, .int x1), (2, .int x2), (3, .int x3), (4, .int x4)] [.int v', .int x4] sk_gg I' J' 0 0 Q)) : sk_W Γ m_M_firstAlike mc ms 12 [(0, .ref 41), (1, .int x1), (2, .int x2), (3, .int x3), (4, .int x4)] [] sk_gg I J 0 0 Q := by
  refine sk_iload (j := 4) d_M_firstAlike_12 rfl ?_
  refine sk_aload_n (j := 0) d_M_firstAlike_14 rfl rfl ?_
  exact q_callVi (S := [.int x4]) (as := []) d_M_firstAlike_15 lk_M_108 sh_41 ⟨_, rfl⟩ rfl ⟨by decide, by decide⟩ (Nat.le_of_ble_eq_true rfl) rfl (Nat.zero_le _) (Nat.zero_le _) h
theorem s_M_firstAlike_18 {Γ : sk_T} {mc ms : Nat} {I : sk_I} {J : sk_J} {Q : sk_Q} {x1 : Int32} {x2 : Int32} {x3 : Int32} {x4 : Int32} {u0 : Int32} {u1 : Int32} (h : (u1 ≤ u0 → (x3 = 0 → sk_W Γ m_M_firstAlike mc ms 2 [(0, .ref 41), (1, .int x1), (2, .int (x2 + 1))] [] sk_gg I J 0 0 Q) ∧ (¬ x3 = 0 → Q (.inl (some (.int x2))) sk_gg I J)) ∧ (¬ u1 ≤ u0 → (x3 = 0 → (x3 = 0 → sk_W Γ m_M_firstAlike mc ms 2 [(0, .ref 41), (1, .int x1), (2, .int (x2 + 1))] [] sk_gg I J 0 0 Q) ∧ (¬ x3 = 0 → Q (.inl (some (.int x2))) sk_gg I J)) ∧ (¬ x3 = 0 → vp_in ((64 * x1) + x4) 13312 ∧ vp_in ((64 * x2) + x4) 13312 ∧ (¬ (I 55 ((64 * x1) + x4).toNatClampNeg) = (I 55 ((64 * x2) + x4).toNatClampNeg) → sk_W Γ m_M_firstAlike mc ms 12 [(0, .ref 41), (1, .int x1), (2, .int x2), (3, .int 0), (4, .int (x4 + 1))] [] sk_gg I J 0 0 Q) ∧ ((I 55 ((64 * x1) + x4).toNatClampNeg) = (I 55 ((64 * x2) + x4).toNatClampNeg) → sk_W Γ m_M_firstAlike mc ms 12 [(0, .ref 41), (1, .int x1), (2, .int x2), (3, .int 1), (4, .int (x4 + 1))] [] sk_gg I J 0 0 Q)))) : sk_W Γ m_M_firstAlike mc ms 18 [(0, .ref 41), (1, .int x1), (2, .int x2), (3, .int x3), (4, .int x4)] [.int u1, .int u0] sk_gg I J 0 0 Q := by
  refine sk_icmp_ge (tgt := 64) d_M_firstAlike_18 (by decide) (fun hc => ?_) (fun hc => ?_)
  · replace h := h.1 hc
    refine sk_iload_n (j := 3) d_M_firstAlike_64 rfl rfl ?_
    refine sk_if_eq (tgt := 70) d_M_firstAlike_65 (by decide) (fun hc => ?_) (fun hc => ?_)
    · replace h := h.1 hc
      refine sk_iinc (j := 2) (v := x2 + 1) d_M_firstAlike_70 rfl (by rfl) (by decide) rfl ?_
      refine sk_goto (tgt := 2) d_M_firstAlike_73 (by decide) ?_
      refine sk_loc [1, 2, 0] rfl ?_
      exact h
    · replace h := h.2 hc
      refine sk_iload_n (j := 2) d_M_firstAlike_68 rfl rfl ?_
      exact sk_ireturn d_M_firstAlike_69 rfl (Nat.zero_le _) (Nat.zero_le _) h
  · replace h := h.2 hc
    refine sk_iload_n (j := 3) d_M_firstAlike_21 rfl rfl ?_
    refine sk_if_eq (tgt := 64) d_M_firstAlike_22 (by decide) (fun hc => ?_) (fun hc => ?_)
    · replace h := h.1 hc
      refine sk_iload_n (j := 3) d_M_firstAlike_64 rfl rfl ?_
      refine sk_if_eq (tgt := 70) d_M_firstAlike_65 (by decide) (fun hc => ?_) (fun hc => ?_)
      · replace h := h.1 hc
        refine sk_iinc (j := 2) (v := x2 + 1) d_M_firstAlike_70 rfl (by rfl) (by decide) rfl ?_
        refine sk_goto (tgt := 2) d_M_firstAlike_73 (by decide) ?_
        refine sk_loc [1, 2, 0] rfl ?_
        exact h
      · replace h := h.2 hc
        refine sk_iload_n (j := 2) d_M_firstAlike_68 rfl rfl ?_
        exact sk_ireturn d_M_firstAlike_69 rfl (Nat.zero_le _) (Nat.zero_le _) h
    · replace h := h.2 hc
      refine sk_aload_n (j := 0) d_M_firstAlike_25 rfl rfl ?_
      refine q_getR d_M_firstAlike_26 fg_M_50 sh_41 rr_41_20 ?_
      refine sk_bipush (v := 64) d_M_firstAlike_29 (by decide) ?_
      refine sk_iload_n (j := 1) d_M_firstAlike_31 rfl rfl ?_
      refine sk_imul d_M_firstAlike_32 ?_
      refine sk_iload (j := 4) d_M_firstAlike_33 rfl ?_
      refine sk_iadd d_M_firstAlike_35 ?_
      obtain ⟨hb, h⟩ := h
      refine sk_iald d_M_firstAlike_36 sh_55 hb ?_
      refine sk_aload_n (j := 0) d_M_firstAlike_37 rfl rfl ?_
      refine q_getR d_M_firstAlike_38 fg_M_50 sh_41 rr_41_20 ?_
      refine sk_bipush (v := 64) d_M_firstAlike_41 (by decide) ?_
      refine sk_iload_n (j := 2) d_M_firstAlike_43 rfl rfl ?_
      refine sk_imul d_M_firstAlike_44 ?_
      refine sk_iload (j := 4) d_M_firstAlike_45 rfl ?_
      refine sk_iadd d_M_firstAlike_47 ?_
      obtain ⟨hb, h⟩ := h
      refine sk_iald d_M_firstAlike_48 sh_55 hb ?_
      refine sk_icmp_ne (tgt := 56) d_M_firstAlike_49 (by decide) (fun hc => ?_) (fun hc => ?_)
      · replace h := h.1 hc
        refine sk_iconst (v := 0) d_M_firstAlike_56 (by decide) ?_
        refine sk_istore_n d_M_firstAlike_57 rfl (by decide) rfl ?_
        refine sk_iinc (j := 4) (v := x4 + 1) d_M_firstAlike_58 rfl (by rfl) (by decide) rfl ?_
        refine sk_goto (tgt := 12) d_M_firstAlike_61 (by decide) ?_
        refine sk_loc [2, 3, 4, 1, 0] rfl ?_
        exact h
      · replace h := h.2 hc
        refine sk_iconst (v := 1) d_M_firstAlike_52 (by decide) ?_
        refine sk_goto (tgt := 57) d_M_firstAlike_53 (by decide) ?_
        refine sk_istore_n d_M_firstAlike_57 rfl (by decide) rfl ?_
        refine sk_iinc (j := 4) (v := x4 + 1) d_M_firstAlike_58 rfl (by rfl) (by decide) rfl ?_
        refine sk_goto (tgt := 12) d_M_firstAlike_61 (by decide) ?_
        refine sk_loc [2, 3, 4, 1, 0] rfl ?_
        exact h
theorem s_M_value_0 {Γ : sk_T} {mc ms : Nat} {I : sk_I} {J : sk_J} {Q : sk_Q} {x1 : Int32} {x2 : Int32} {x3 : Int32} (h : (x1 < 0 → sk_W Γ m_M_value mc ms 34 [(0, .ref 41), (1, .int x1), (2, .int x2), (3, .int x3)] [.ref 41] sk_gg I J 0 0 Q) ∧ (¬ x1 < 0 → sk_S Γ m_M_vectors 0 0 (.ref 41 :: []) sk_gg I J (sk_Ki fun v' I' J' => sk_W Γ m_M_value mc ms 10 [(0, .ref 41), (1, .int x1), (2, .int x2), (3, .int x3)] [.int v', .int x1, .ref 41] sk_gg I' J' 0 0 Q))) : sk_W Γ m_M_value mc ms 0 [(0, .ref 41), (1, .int x1), (2, .int x2), (3, .int x3)] [] sk_gg I J 0 0 Q := by
  refine sk_aload_n (j := 0) d_M_value_0 rfl rfl ?_
  refine sk_iload_n (j := 1) d_M_value_1 rfl rfl ?_
  refine sk_if_lt (tgt := 34) d_M_value_2 (by decide) (fun hc => ?_) (fun hc => ?_)
  · replace h := h.1 hc
    exact h
  · replace h := h.2 hc
    refine sk_iload_n (j := 1) d_M_value_5 rfl rfl ?_
    refine sk_aload_n (j := 0) d_M_value_6 rfl rfl ?_
    exact q_callVi (S := [.int x1, .ref 41]) (as := []) d_M_value_7 lk_M_108 sh_41 ⟨_, rfl⟩ rfl ⟨by decide, by decide⟩ (Nat.le_of_ble_eq_true rfl) rfl (Nat.zero_le _) (Nat.zero_le _) h
theorem s_M_value_10 {Γ : sk_T} {mc ms : Nat} {I : sk_I} {J : sk_J} {Q : sk_Q} {x1 : Int32} {x2 : Int32} {x3 : Int32} {u1 : Int32} {u2 : Int32} (h : (u2 ≤ u1 → sk_W Γ m_M_value mc ms 34 [(0, .ref 41), (1, .int x1), (2, .int x2), (3, .int x3)] [.ref 41] sk_gg I J 0 0 Q) ∧ (¬ u2 ≤ u1 → sk_S Γ m_M_noLine 0 0 (.ref 41 :: [.int x2]) sk_gg I J (sk_Ki fun v' I' J' => sk_W Γ m_M_value mc ms 18 [(0, .ref 41), (1, .int x1), (2, .int x2), (3, .int x3)] [.int v', .ref 41] sk_gg I' J' 0 0 Q))) : sk_W Γ m_M_value mc ms 10 [(0, .ref 41), (1, .int x1), (2, .int x2), (3, .int x3)] [.int u2, .int u1, .ref 41] sk_gg I J 0 0 Q := by
  refine sk_icmp_ge (tgt := 34) d_M_value_10 (by decide) (fun hc => ?_) (fun hc => ?_)
  · replace h := h.1 hc
    exact h
  · replace h := h.2 hc
    refine sk_aload_n (j := 0) d_M_value_13 rfl rfl ?_
    refine sk_iload_n (j := 2) d_M_value_14 rfl rfl ?_
    exact q_callVi (S := [.ref 41]) (as := [.int x2]) d_M_value_15 lk_M_100 sh_41 ⟨_, rfl⟩ rfl ⟨by decide, by decide⟩ (Nat.le_of_ble_eq_true rfl) rfl (Nat.zero_le _) (Nat.zero_le _) h
theorem s_M_value_18 {Γ : sk_T} {mc ms : Nat} {I : sk_I} {J : sk_J} {Q : sk_Q} {x1 : Int32} {x2 : Int32} {x3 : Int32} {u1 : Int32} (h : (¬ u1 = 0 → sk_W Γ m_M_value mc ms 34 [(0, .ref 41), (1, .int x1), (2, .int x2), (3, .int x3)] [.ref 41] sk_gg I J 0 0 Q) ∧ (u1 = 0 → (x3 = (-1) → sk_S Γ m_M_make 0 0 (.ref 41 :: [.int 0, .int x1, .int x3]) sk_gg (sk_pi I 41 0 0) J (sk_Kv fun I' J' => sk_W Γ m_M_value mc ms 58 [(0, .ref 41), (2, .int x2)] [] sk_gg I' J' 0 0 Q)) ∧ (¬ x3 = (-1) → sk_S Γ m_M_noFault 0 0 (.ref 41 :: [.int x3]) sk_gg I J (sk_Ki fun v' I' J' => sk_W Γ m_M_value mc ms 31 [(0, .ref 41), (1, .int x1), (2, .int x2), (3, .int x3)] [.int v', .ref 41] sk_gg I' J' 0 0 Q)))) : sk_W Γ m_M_value mc ms 18 [(0, .ref 41), (1, .int x1), (2, .int x2), (3, .int x3)] [.int u1, .ref 41] sk_gg I J 0 0 Q := by
  refine sk_if_ne (tgt := 34) d_M_value_18 (by decide) (fun hc => ?_) (fun hc => ?_)
  · replace h := h.1 hc
    exact h
  · replace h := h.2 hc
    refine sk_iload_n (j := 3) d_M_value_21 rfl rfl ?_
    refine sk_iconst (v := (-1)) d_M_value_22 (by decide) ?_
    refine sk_icmp_eq (tgt := 38) d_M_value_23 (by decide) (fun hc => ?_) (fun hc => ?_)
    · replace h := h.1 hc
      refine sk_iconst (v := 0) d_M_value_38 (by decide) ?_
      refine r_putI d_M_value_39 fp_M_68 sh_41 ?_
      refine sk_aload_n (j := 0) d_M_value_42 rfl rfl ?_
      refine q_getI d_M_value_43 fg_M_68 sh_41 ?_
      refine q_cvi (y := 0) rfl ?_
      refine sk_if_le (tgt := 51) d_M_value_46 (by decide) (fun _ => ?_) (fun hc => absurd hc (by decide))
      refine sk_aload_n (j := 0) d_M_value_51 rfl rfl ?_
      refine sk_iconst (v := 0) d_M_value_52 (by decide) ?_
      refine sk_iload_n (j := 1) d_M_value_53 rfl rfl ?_
      refine sk_iload_n (j := 3) d_M_value_54 rfl rfl ?_
      refine sk_loc [0, 2] rfl ?_
      exact q_callVv (S := []) (as := [.int 0, .int x1, .int x3]) d_M_value_55 lk_M_112 sh_41 ⟨_, rfl⟩ rfl ⟨by decide, by decide⟩ (Nat.le_of_ble_eq_true rfl) rfl (Nat.zero_le _) (Nat.zero_le _) h
    · replace h := h.2 hc
      refine sk_aload_n (j := 0) d_M_value_26 rfl rfl ?_
      refine sk_iload_n (j := 3) d_M_value_27 rfl rfl ?_
      exact q_callVi (S := [.ref 41]) (as := [.int x3]) d_M_value_28 lk_M_129 sh_41 ⟨_, rfl⟩ rfl ⟨by decide, by decide⟩ (Nat.le_of_ble_eq_true rfl) rfl (Nat.zero_le _) (Nat.zero_le _) h
theorem s_M_value_31 {Γ : sk_T} {mc ms : Nat} {I : sk_I} {J : sk_J} {Q : sk_Q} {x1 : Int32} {x2 : Int32} {x3 : Int32} {u1 : Int32} (h : (u1 = 0 → sk_S Γ m_M_make 0 0 (.ref 41 :: [.int 0, .int x1, .int x3]) sk_gg (sk_pi I 41 0 0) J (sk_Kv fun I' J' => sk_W Γ m_M_value mc ms 58 [(0, .ref 41), (2, .int x2)] [] sk_gg I' J' 0 0 Q)) ∧ (¬ u1 = 0 → sk_W Γ m_M_value mc ms 34 [(0, .ref 41), (1, .int x1), (2, .int x2), (3, .int x3)] [.ref 41] sk_gg I J 0 0 Q)) : sk_W Γ m_M_value mc ms 31 [(0, .ref 41), (1, .int x1), (2, .int x2), (3, .int x3)] [.int u1, .ref 41] sk_gg I J 0 0 Q := by
  refine sk_if_eq (tgt := 38) d_M_value_31 (by decide) (fun hc => ?_) (fun hc => ?_)
  · replace h := h.1 hc
    refine sk_iconst (v := 0) d_M_value_38 (by decide) ?_
    refine r_putI d_M_value_39 fp_M_68 sh_41 ?_
    refine sk_aload_n (j := 0) d_M_value_42 rfl rfl ?_
    refine q_getI d_M_value_43 fg_M_68 sh_41 ?_
    refine q_cvi (y := 0) rfl ?_
    refine sk_if_le (tgt := 51) d_M_value_46 (by decide) (fun _ => ?_) (fun hc => absurd hc (by decide))
    refine sk_aload_n (j := 0) d_M_value_51 rfl rfl ?_
    refine sk_iconst (v := 0) d_M_value_52 (by decide) ?_
    refine sk_iload_n (j := 1) d_M_value_53 rfl rfl ?_
    refine sk_iload_n (j := 3) d_M_value_54 rfl rfl ?_
    refine sk_loc [0, 2] rfl ?_
    exact q_callVv (S := []) (as := [.int 0, .int x1, .int x3]) d_M_value_55 lk_M_112 sh_41 ⟨_, rfl⟩ rfl ⟨by decide, by decide⟩ (Nat.le_of_ble_eq_true rfl) rfl (Nat.zero_le _) (Nat.zero_le _) h
  · replace h := h.2 hc
    exact h
theorem s_M_value_34 {Γ : sk_T} {mc ms : Nat} {I : sk_I} {J : sk_J} {Q : sk_Q} {x1 : Int32} {x2 : Int32} {x3 : Int32} (h : Q (.inl (some (.int 0))) sk_gg (sk_pi I 41 0 1) J) : sk_W Γ m_M_value mc ms 34 [(0, .ref 41), (1, .int x1), (2, .int x2), (3, .int x3)] [.ref 41] sk_gg I J 0 0 Q := by
  refine sk_iconst (v := 1) d_M_value_34 (by decide) ?_
  refine sk_goto (tgt := 39) d_M_value_35 (by decide) ?_
  refine r_putI d_M_value_39 fp_M_68 sh_41 ?_
  refine sk_aload_n (j := 0) d_M_value_42 rfl rfl ?_
  refine q_getI d_M_value_43 fg_M_68 sh_41 ?_
  refine q_cvi (y := 1) rfl ?_
  refine sk_if_le (tgt := 51) d_M_value_46 (by decide) (fun hc => absurd hc (by decide)) (fun _ => ?_)
  refine sk_iconst (v := 0) d_M_value_49 (by decide) ?_
  exact sk_ireturn d_M_value_50 rfl (Nat.zero_le _) (Nat.zero_le _) h
theorem s_M_value_58 {Γ : sk_T} {mc ms : Nat} {I : sk_I} {J : sk_J} {Q : sk_Q} {x2 : Int32} (h : vp_in x2 26 ∧ Q (.inl (some (.int (I 53 x2.toNatClampNeg)))) sk_gg I J) : sk_W Γ m_M_value mc ms 58 [(0, .ref 41), (2, .int x2)] [] sk_gg I J 0 0 Q := by
  refine sk_aload_n (j := 0) d_M_value_58 rfl rfl ?_
  refine q_getR d_M_value_59 fg_M_44 sh_41 rr_41_17 ?_
  refine sk_iload_n (j := 1) d_M_value_62 rfl rfl ?_
  obtain ⟨hb, h⟩ := h
  refine sk_iald d_M_value_63 sh_53 hb ?_
  exact sk_ireturn d_M_value_64 rfl (Nat.zero_le _) (Nat.zero_le _) h
theorem s_M_noFault_0 {Γ : sk_T} {mc ms : Nat} {I : sk_I} {J : sk_J} {Q : sk_Q} {x1 : Int32} (h : (x1 < 0 → Q (.inl (some (.int 1))) sk_gg I J) ∧ (¬ x1 < 0 → (x1 < (2 * (I 41 14)) → Q (.inl (some (.int 0))) sk_gg I J) ∧ (¬ x1 < (2 * (I 41 14)) → Q (.inl (some (.int 1))) sk_gg I J))) : sk_W Γ m_M_noFault mc ms 0 [(0, .ref 41), (1, .int x1)] [] sk_gg I J 0 0 Q := by
  refine sk_iload_n (j := 1) d_M_noFault_0 rfl rfl ?_
  refine sk_if_lt (tgt := 14) d_M_noFault_1 (by decide) (fun hc => ?_) (fun hc => ?_)
  · replace h := h.1 hc
    refine sk_iconst (v := 1) d_M_noFault_14 (by decide) ?_
    refine sk_goto (tgt := 19) d_M_noFault_15 (by decide) ?_
    exact q_zreturn d_M_noFault_19 rfl (by decide) (Nat.zero_le _) (Nat.zero_le _) h
  · replace h := h.2 hc
    refine sk_iload_n (j := 1) d_M_noFault_4 rfl rfl ?_
    refine sk_iconst (v := 2) d_M_noFault_5 (by decide) ?_
    refine sk_aload_n (j := 0) d_M_noFault_6 rfl rfl ?_
    refine q_getI d_M_noFault_7 fg_M_78 sh_41 ?_
    refine sk_imul d_M_noFault_10 ?_
    refine sk_icmp_lt (tgt := 18) d_M_noFault_11 (by decide) (fun hc => ?_) (fun hc => ?_)
    · replace h := h.1 hc
      refine sk_iconst (v := 0) d_M_noFault_18 (by decide) ?_
      exact q_zreturn d_M_noFault_19 rfl (by decide) (Nat.zero_le _) (Nat.zero_le _) h
    · replace h := h.2 hc
      refine sk_iconst (v := 1) d_M_noFault_14 (by decide) ?_
      refine sk_goto (tgt := 19) d_M_noFault_15 (by decide) ?_
      exact q_zreturn d_M_noFault_19 rfl (by decide) (Nat.zero_le _) (Nat.zero_le _) h
theorem s_M_response_0 {Γ : sk_T} {mc ms : Nat} {I : sk_I} {J : sk_J} {Q : sk_Q} {x1 : Int32} {x2 : Int32} (h : (x1 < 0 → sk_W Γ m_M_response mc ms 26 [(0, .ref 41), (1, .int x1), (2, .int x2)] [.ref 41] sk_gg I J 0 0 Q) ∧ (¬ x1 < 0 → sk_S Γ m_M_vectors 0 0 (.ref 41 :: []) sk_gg I J (sk_Ki fun v' I' J' => sk_W Γ m_M_response mc ms 10 [(0, .ref 41), (1, .int x1), (2, .int x2)] [.int v', .int x1, .ref 41] sk_gg I' J' 0 0 Q))) : sk_W Γ m_M_response mc ms 0 [(0, .ref 41), (1, .int x1), (2, .int x2)] [] sk_gg I J 0 0 Q := by
  refine sk_aload_n (j := 0) d_M_response_0 rfl rfl ?_
  refine sk_iload_n (j := 1) d_M_response_1 rfl rfl ?_
  refine sk_if_lt (tgt := 26) d_M_response_2 (by decide) (fun hc => ?_) (fun hc => ?_)
  · replace h := h.1 hc
    exact h
  · replace h := h.2 hc
    refine sk_iload_n (j := 1) d_M_response_5 rfl rfl ?_
    refine sk_aload_n (j := 0) d_M_response_6 rfl rfl ?_
    exact q_callVi (S := [.int x1, .ref 41]) (as := []) d_M_response_7 lk_M_108 sh_41 ⟨_, rfl⟩ rfl ⟨by decide, by decide⟩ (Nat.le_of_ble_eq_true rfl) rfl (Nat.zero_le _) (Nat.zero_le _) h
theorem s_M_response_10 {Γ : sk_T} {mc ms : Nat} {I : sk_I} {J : sk_J} {Q : sk_Q} {x1 : Int32} {x2 : Int32} {u1 : Int32} {u2 : Int32} (h : (u2 ≤ u1 → sk_W Γ m_M_response mc ms 26 [(0, .ref 41), (1, .int x1), (2, .int x2)] [.ref 41] sk_gg I J 0 0 Q) ∧ (¬ u2 ≤ u1 → (x2 = (-1) → sk_S Γ m_M_make 0 0 (.ref 41 :: [.int 0, .int x1, .int x2]) sk_gg (sk_pi I 41 0 0) J (sk_Kv fun I' J' => sk_W Γ m_M_response mc ms 50 [(0, .ref 41)] [] sk_gg I' J' 0 0 Q)) ∧ (¬ x2 = (-1) → sk_S Γ m_M_noFault 0 0 (.ref 41 :: [.int x2]) sk_gg I J (sk_Ki fun v' I' J' => sk_W Γ m_M_response mc ms 23 [(0, .ref 41), (1, .int x1), (2, .int x2)] [.int v', .ref 41] sk_gg I' J' 0 0 Q)))) : sk_W Γ m_M_response mc ms 10 [(0, .ref 41), (1, .int x1), (2, .int x2)] [.int u2, .int u1, .ref 41] sk_gg I J 0 0 Q := by
  refine sk_icmp_ge (tgt := 26) d_M_response_10 (by decide) (fun hc => ?_) (fun hc => ?_)
  · replace h := h.1 hc
    exact h
  · replace h := h.2 hc
    refine sk_iload_n (j := 2) d_M_response_13 rfl rfl ?_
    refine sk_iconst (v := (-1)) d_M_response_14 (by decide) ?_
    refine sk_icmp_eq (tgt := 30) d_M_response_15 (by decide) (fun hc => ?_) (fun hc => ?_)
    · replace h := h.1 hc
      refine sk_iconst (v := 0) d_M_response_30 (by decide) ?_
      refine r_putI d_M_response_31 fp_M_68 sh_41 ?_
      refine sk_aload_n (j := 0) d_M_response_34 rfl rfl ?_
      refine q_getI d_M_response_35 fg_M_68 sh_41 ?_
      refine q_cvi (y := 0) rfl ?_
      refine sk_if_le (tgt := 43) d_M_response_38 (by decide) (fun _ => ?_) (fun hc => absurd hc (by decide))
      refine sk_aload_n (j := 0) d_M_response_43 rfl rfl ?_
      refine sk_iconst (v := 0) d_M_response_44 (by decide) ?_
      refine sk_iload_n (j := 1) d_M_response_45 rfl rfl ?_
      refine sk_iload_n (j := 2) d_M_response_46 rfl rfl ?_
      refine sk_loc [0] rfl ?_
      exact q_callVv (S := []) (as := [.int 0, .int x1, .int x2]) d_M_response_47 lk_M_112 sh_41 ⟨_, rfl⟩ rfl ⟨by decide, by decide⟩ (Nat.le_of_ble_eq_true rfl) rfl (Nat.zero_le _) (Nat.zero_le _) h
    · replace h := h.2 hc
      refine sk_aload_n (j := 0) d_M_response_18 rfl rfl ?_
      refine sk_iload_n (j := 2) d_M_response_19 rfl rfl ?_
      exact q_callVi (S := [.ref 41]) (as := [.int x2]) d_M_response_20 lk_M_129 sh_41 ⟨_, rfl⟩ rfl ⟨by decide, by decide⟩ (Nat.le_of_ble_eq_true rfl) rfl (Nat.zero_le _) (Nat.zero_le _) h
theorem s_M_response_23 {Γ : sk_T} {mc ms : Nat} {I : sk_I} {J : sk_J} {Q : sk_Q} {x1 : Int32} {x2 : Int32} {u1 : Int32} (h : (u1 = 0 → sk_S Γ m_M_make 0 0 (.ref 41 :: [.int 0, .int x1, .int x2]) sk_gg (sk_pi I 41 0 0) J (sk_Kv fun I' J' => sk_W Γ m_M_response mc ms 50 [(0, .ref 41)] [] sk_gg I' J' 0 0 Q)) ∧ (¬ u1 = 0 → sk_W Γ m_M_response mc ms 26 [(0, .ref 41), (1, .int x1), (2, .int x2)] [.ref 41] sk_gg I J 0 0 Q)) : sk_W Γ m_M_response mc ms 23 [(0, .ref 41), (1, .int x1), (2, .int x2)] [.int u1, .ref 41] sk_gg I J 0 0 Q := by
  refine sk_if_eq (tgt := 30) d_M_response_23 (by decide) (fun hc => ?_) (fun hc => ?_)
  · replace h := h.1 hc
    refine sk_iconst (v := 0) d_M_response_30 (by decide) ?_
    refine r_putI d_M_response_31 fp_M_68 sh_41 ?_
    refine sk_aload_n (j := 0) d_M_response_34 rfl rfl ?_
    refine q_getI d_M_response_35 fg_M_68 sh_41 ?_
    refine q_cvi (y := 0) rfl ?_
    refine sk_if_le (tgt := 43) d_M_response_38 (by decide) (fun _ => ?_) (fun hc => absurd hc (by decide))
    refine sk_aload_n (j := 0) d_M_response_43 rfl rfl ?_
    refine sk_iconst (v := 0) d_M_response_44 (by decide) ?_
    refine sk_iload_n (j := 1) d_M_response_45 rfl rfl ?_
    refine sk_iload_n (j := 2) d_M_response_46 rfl rfl ?_
    refine sk_loc [0] rfl ?_
    exact q_callVv (S := []) (as := [.int 0, .int x1, .int x2]) d_M_response_47 lk_M_112 sh_41 ⟨_, rfl⟩ rfl ⟨by decide, by decide⟩ (Nat.le_of_ble_eq_true rfl) rfl (Nat.zero_le _) (Nat.zero_le _) h
  · replace h := h.2 hc
    exact h
theorem s_M_response_26 {Γ : sk_T} {mc ms : Nat} {I : sk_I} {J : sk_J} {Q : sk_Q} {x1 : Int32} {x2 : Int32} (h : Q (.inl (some (.int 0))) sk_gg (sk_pi I 41 0 1) J) : sk_W Γ m_M_response mc ms 26 [(0, .ref 41), (1, .int x1), (2, .int x2)] [.ref 41] sk_gg I J 0 0 Q := by
  refine sk_iconst (v := 1) d_M_response_26 (by decide) ?_
  refine sk_goto (tgt := 31) d_M_response_27 (by decide) ?_
  refine r_putI d_M_response_31 fp_M_68 sh_41 ?_
  refine sk_aload_n (j := 0) d_M_response_34 rfl rfl ?_
  refine q_getI d_M_response_35 fg_M_68 sh_41 ?_
  refine q_cvi (y := 1) rfl ?_
  refine sk_if_le (tgt := 43) d_M_response_38 (by decide) (fun hc => absurd hc (by decide)) (fun _ => ?_)
  refine sk_iconst (v := 0) d_M_response_41 (by decide) ?_
  exact sk_ireturn d_M_response_42 rfl (Nat.zero_le _) (Nat.zero_le _) h
theorem s_M_response_50 {Γ : sk_T} {mc ms : Nat} {I : sk_I} {J : sk_J} {Q : sk_Q}  (h : sk_S Γ m_M_answered 0 0 (.ref 41 :: []) sk_gg I J (sk_Ki fun v' I' J' => sk_W Γ m_M_response mc ms 54 [] [.int v'] sk_gg I' J' 0 0 Q)) : sk_W Γ m_M_response mc ms 50 [(0, .ref 41)] [] sk_gg I J 0 0 Q := by
  refine sk_aload_n (j := 0) d_M_response_50 rfl rfl ?_
  refine sk_loc [] rfl ?_
  exact q_callVi (S := []) (as := []) d_M_response_51 lk_M_116 sh_41 ⟨_, rfl⟩ rfl ⟨by decide, by decide⟩ (Nat.le_of_ble_eq_true rfl) rfl (Nat.zero_le _) (Nat.zero_le _) h
theorem s_M_response_54 {Γ : sk_T} {mc ms : Nat} {I : sk_I} {J : sk_J} {Q : sk_Q} {u0 : Int32} (h : Q (.inl (some (.int u0))) sk_gg I J) : sk_W Γ m_M_response mc ms 54 [] [.int u0] sk_gg I J 0 0 Q := by
  exact sk_ireturn d_M_response_54 rfl (Nat.zero_le _) (Nat.zero_le _) h
theorem s_M_fault_0 {Γ : sk_T} {mc ms : Nat} {I : sk_I} {J : sk_J} {Q : sk_Q} {x1 : Int32} {x2 : Int32} {x3 : Int32} (h : (x3 < 0 → Q (.inl (some (.int (-1)))) sk_gg (sk_pi I 41 0 0) J) ∧ (¬ x3 < 0 → (x3 ≤ 1 → sk_W Γ m_M_fault mc ms 19 [(0, .ref 41), (1, .int x1), (2, .int x2), (3, .int x3), (4, .int 0)] [] sk_gg (sk_pi I 41 0 0) J 0 0 Q) ∧ (¬ x3 ≤ 1 → Q (.inl (some (.int (-1)))) sk_gg (sk_pi I 41 0 0) J))) : sk_W Γ m_M_fault mc ms 0 [(0, .ref 41), (1, .int x1), (2, .int x2), (3, .int x3)] [] sk_gg I J 0 0 Q := by
  refine sk_aload_n (j := 0) d_M_fault_0 rfl rfl ?_
  refine sk_iconst (v := 0) d_M_fault_1 (by decide) ?_
  refine r_putI d_M_fault_2 fp_M_68 sh_41 ?_
  refine sk_iload_n (j := 3) d_M_fault_5 rfl rfl ?_
  refine sk_if_lt (tgt := 14) d_M_fault_6 (by decide) (fun hc => ?_) (fun hc => ?_)
  · replace h := h.1 hc
    refine sk_iconst (v := (-1)) d_M_fault_14 (by decide) ?_
    exact sk_ireturn d_M_fault_15 rfl (Nat.zero_le _) (Nat.zero_le _) h
  · replace h := h.2 hc
    refine sk_iload_n (j := 3) d_M_fault_9 rfl rfl ?_
    refine sk_iconst (v := 1) d_M_fault_10 (by decide) ?_
    refine sk_icmp_le (tgt := 16) d_M_fault_11 (by decide) (fun hc => ?_) (fun hc => ?_)
    · replace h := h.1 hc
      refine sk_iconst (v := 0) d_M_fault_16 (by decide) ?_
      refine sk_istore d_M_fault_17 (by decide) rfl ?_
      refine sk_loc [1, 2, 3, 4, 0] rfl ?_
      exact h
    · replace h := h.2 hc
      refine sk_iconst (v := (-1)) d_M_fault_14 (by decide) ?_
      exact sk_ireturn d_M_fault_15 rfl (Nat.zero_le _) (Nat.zero_le _) h
theorem s_M_fault_19 {Γ : sk_T} {mc ms : Nat} {I : sk_I} {J : sk_J} {Q : sk_Q} {x1 : Int32} {x2 : Int32} {x3 : Int32} {x4 : Int32} (h : ((I 41 14) ≤ x4 → Q (.inl (some (.int (-1)))) sk_gg I J) ∧ (¬ (I 41 14) ≤ x4 → vp_in x4 104 ∧ (¬ (I 51 x4.toNatClampNeg) = x1 → sk_W Γ m_M_fault mc ms 19 [(0, .ref 41), (1, .int x1), (2, .int x2), (3, .int x3), (4, .int (x4 + 1))] [] sk_gg I J 0 0 Q) ∧ ((I 51 x4.toNatClampNeg) = x1 → vp_in x4 104 ∧ (¬ (I 52 x4.toNatClampNeg) = x2 → sk_W Γ m_M_fault mc ms 19 [(0, .ref 41), (1, .int x1), (2, .int x2), (3, .int x3), (4, .int (x4 + 1))] [] sk_gg I J 0 0 Q) ∧ ((I 52 x4.toNatClampNeg) = x2 → Q (.inl (some (.int ((2 * x4) + x3)))) sk_gg I J)))) : sk_W Γ m_M_fault mc ms 19 [(0, .ref 41), (1, .int x1), (2, .int x2), (3, .int x3), (4, .int x4)] [] sk_gg I J 0 0 Q := by
  refine sk_iload (j := 4) d_M_fault_19 rfl ?_
  refine sk_aload_n (j := 0) d_M_fault_21 rfl rfl ?_
  refine q_getI d_M_fault_22 fg_M_78 sh_41 ?_
  refine sk_icmp_ge (tgt := 63) d_M_fault_25 (by decide) (fun hc => ?_) (fun hc => ?_)
  · replace h := h.1 hc
    refine sk_iconst (v := (-1)) d_M_fault_63 (by decide) ?_
    exact sk_ireturn d_M_fault_64 rfl (Nat.zero_le _) (Nat.zero_le _) h
  · replace h := h.2 hc
    refine sk_aload_n (j := 0) d_M_fault_28 rfl rfl ?_
    refine q_getR d_M_fault_29 fg_M_38 sh_41 rr_41_15 ?_
    refine sk_iload (j := 4) d_M_fault_32 rfl ?_
    obtain ⟨hb, h⟩ := h
    refine sk_iald d_M_fault_34 sh_51 hb ?_
    refine sk_iload_n (j := 1) d_M_fault_35 rfl rfl ?_
    refine sk_icmp_ne (tgt := 57) d_M_fault_36 (by decide) (fun hc => ?_) (fun hc => ?_)
    · replace h := h.1 hc
      refine sk_iinc (j := 4) (v := x4 + 1) d_M_fault_57 rfl (by rfl) (by decide) rfl ?_
      refine sk_goto (tgt := 19) d_M_fault_60 (by decide) ?_
      refine sk_loc [1, 2, 3, 4, 0] rfl ?_
      exact h
    · replace h := h.2 hc
      refine sk_aload_n (j := 0) d_M_fault_39 rfl rfl ?_
      refine q_getR d_M_fault_40 fg_M_41 sh_41 rr_41_16 ?_
      refine sk_iload (j := 4) d_M_fault_43 rfl ?_
      obtain ⟨hb, h⟩ := h
      refine sk_iald d_M_fault_45 sh_52 hb ?_
      refine sk_iload_n (j := 2) d_M_fault_46 rfl rfl ?_
      refine sk_icmp_ne (tgt := 57) d_M_fault_47 (by decide) (fun hc => ?_) (fun hc => ?_)
      · replace h := h.1 hc
        refine sk_iinc (j := 4) (v := x4 + 1) d_M_fault_57 rfl (by rfl) (by decide) rfl ?_
        refine sk_goto (tgt := 19) d_M_fault_60 (by decide) ?_
        refine sk_loc [1, 2, 3, 4, 0] rfl ?_
        exact h
      · replace h := h.2 hc
        refine sk_iconst (v := 2) d_M_fault_50 (by decide) ?_
        refine sk_iload (j := 4) d_M_fault_51 rfl ?_
        refine sk_imul d_M_fault_53 ?_
        refine sk_iload_n (j := 3) d_M_fault_54 rfl rfl ?_
        refine sk_iadd d_M_fault_55 ?_
        exact sk_ireturn d_M_fault_56 rfl (Nat.zero_le _) (Nat.zero_le _) h
theorem s_M_faultAt_0 {Γ : sk_T} {mc ms : Nat} {I : sk_I} {J : sk_J} {Q : sk_Q} {x1 : Int32} {x2 : Int32} (h : sk_S Γ m_M_noFault 0 0 (.ref 41 :: [.int x1]) sk_gg I J (sk_Ki fun v' I' J' => sk_W Γ m_M_faultAt mc ms 6 [(0, .ref 41), (1, .int x1), (2, .int x2)] [.int v', .ref 41] sk_gg I' J' 0 0 Q)) : sk_W Γ m_M_faultAt mc ms 0 [(0, .ref 41), (1, .int x1), (2, .int x2)] [] sk_gg I J 0 0 Q := by
  refine sk_aload_n (j := 0) d_M_faultAt_0 rfl rfl ?_
  refine sk_aload_n (j := 0) d_M_faultAt_1 rfl rfl ?_
  refine sk_iload_n (j := 1) d_M_faultAt_2 rfl rfl ?_
  exact q_callVi (S := [.ref 41]) (as := [.int x1]) d_M_faultAt_3 lk_M_129 sh_41 ⟨_, rfl⟩ rfl ⟨by decide, by decide⟩ (Nat.le_of_ble_eq_true rfl) rfl (Nat.zero_le _) (Nat.zero_le _) h
theorem s_M_faultAt_6 {Γ : sk_T} {mc ms : Nat} {I : sk_I} {J : sk_J} {Q : sk_Q} {x1 : Int32} {x2 : Int32} {u1 : Int32} (h : (u1 = 0 → (x2 < 0 → sk_W Γ m_M_faultAt mc ms 27 [(0, .ref 41), (1, .int x1), (2, .int x2)] [.int 2, .ref 41] sk_gg I J 0 0 Q) ∧ (¬ x2 < 0 → (x2 ≤ 2 → sk_W Γ m_M_faultAt mc ms 27 [(0, .ref 41), (1, .int x1), (2, .int x2)] [.int 0, .ref 41] sk_gg I J 0 0 Q) ∧ (¬ x2 ≤ 2 → sk_W Γ m_M_faultAt mc ms 27 [(0, .ref 41), (1, .int x1), (2, .int x2)] [.int 2, .ref 41] sk_gg I J 0 0 Q))) ∧ (¬ u1 = 0 → sk_W Γ m_M_faultAt mc ms 27 [(0, .ref 41), (1, .int x1), (2, .int x2)] [.int 1, .ref 41] sk_gg I J 0 0 Q)) : sk_W Γ m_M_faultAt mc ms 6 [(0, .ref 41), (1, .int x1), (2, .int x2)] [.int u1, .ref 41] sk_gg I J 0 0 Q := by
  refine sk_if_eq (tgt := 13) d_M_faultAt_6 (by decide) (fun hc => ?_) (fun hc => ?_)
  · replace h := h.1 hc
    refine sk_iload_n (j := 2) d_M_faultAt_13 rfl rfl ?_
    refine sk_if_lt (tgt := 22) d_M_faultAt_14 (by decide) (fun hc => ?_) (fun hc => ?_)
    · replace h := h.1 hc
      refine sk_iconst (v := 2) d_M_faultAt_22 (by decide) ?_
      refine sk_goto (tgt := 27) d_M_faultAt_23 (by decide) ?_
      exact h
    · replace h := h.2 hc
      refine sk_iload_n (j := 2) d_M_faultAt_17 rfl rfl ?_
      refine sk_iconst (v := 2) d_M_faultAt_18 (by decide) ?_
      refine sk_icmp_le (tgt := 26) d_M_faultAt_19 (by decide) (fun hc => ?_) (fun hc => ?_)
      · replace h := h.1 hc
        refine sk_iconst (v := 0) d_M_faultAt_26 (by decide) ?_
        exact h
      · replace h := h.2 hc
        refine sk_iconst (v := 2) d_M_faultAt_22 (by decide) ?_
        refine sk_goto (tgt := 27) d_M_faultAt_23 (by decide) ?_
        exact h
  · replace h := h.2 hc
    refine sk_iconst (v := 1) d_M_faultAt_9 (by decide) ?_
    refine sk_goto (tgt := 27) d_M_faultAt_10 (by decide) ?_
    exact h
theorem s_M_faultAt_27 {Γ : sk_T} {mc ms : Nat} {I : sk_I} {J : sk_J} {Q : sk_Q} {x1 : Int32} {x2 : Int32} {u1 : Int32} (h : (u1 ≤ 0 → (¬ x2 = 0 → (¬ x2 = 1 → Q (.inl (some (.int (x1 - x1 / 2 * 2)))) sk_gg (sk_pi I 41 0 u1) J) ∧ (x2 = 1 → vp_in (x1 / 2) 104 ∧ Q (.inl (some (.int (I 52 (x1 / 2).toNatClampNeg)))) sk_gg (sk_pi I 41 0 u1) J)) ∧ (x2 = 0 → vp_in (x1 / 2) 104 ∧ Q (.inl (some (.int (I 51 (x1 / 2).toNatClampNeg)))) sk_gg (sk_pi I 41 0 u1) J)) ∧ (¬ u1 ≤ 0 → Q (.inl (some (.int 0))) sk_gg (sk_pi I 41 0 u1) J)) : sk_W Γ m_M_faultAt mc ms 27 [(0, .ref 41), (1, .int x1), (2, .int x2)] [.int u1, .ref 41] sk_gg I J 0 0 Q := by
  refine r_putI d_M_faultAt_27 fp_M_68 sh_41 ?_
  refine sk_aload_n (j := 0) d_M_faultAt_30 rfl rfl ?_
  refine q_getI d_M_faultAt_31 fg_M_68 sh_41 ?_
  refine q_cvi (y := u1) rfl ?_
  refine sk_if_le (tgt := 39) d_M_faultAt_34 (by decide) (fun hc => ?_) (fun hc => ?_)
  · replace h := h.1 hc
    refine sk_iload_n (j := 2) d_M_faultAt_39 rfl rfl ?_
    refine sk_if_ne (tgt := 54) d_M_faultAt_40 (by decide) (fun hc => ?_) (fun hc => ?_)
    · replace h := h.1 hc
      refine sk_iload_n (j := 2) d_M_faultAt_54 rfl rfl ?_
      refine sk_iconst (v := 1) d_M_faultAt_55 (by decide) ?_
      refine sk_icmp_ne (tgt := 70) d_M_faultAt_56 (by decide) (fun hc => ?_) (fun hc => ?_)
      · replace h := h.1 hc
        refine sk_iload_n (j := 1) d_M_faultAt_70 rfl rfl ?_
        refine sk_iconst (v := 2) d_M_faultAt_71 (by decide) ?_
        refine sk_irem d_M_faultAt_72 (by decide) ?_
        exact sk_ireturn d_M_faultAt_73 rfl (Nat.zero_le _) (Nat.zero_le _) h
      · replace h := h.2 hc
        refine sk_aload_n (j := 0) d_M_faultAt_59 rfl rfl ?_
        refine q_getR d_M_faultAt_60 fg_M_41 sh_41 rr_41_16 ?_
        refine sk_iload_n (j := 1) d_M_faultAt_63 rfl rfl ?_
        refine sk_iconst (v := 2) d_M_faultAt_64 (by decide) ?_
        refine sk_idiv d_M_faultAt_65 (by decide) ?_
        obtain ⟨hb, h⟩ := h
        refine sk_iald d_M_faultAt_66 sh_52 hb ?_
        refine q_cvi (y := I 52 (x1 / 2).toNatClampNeg) rfl ?_
        refine sk_goto (tgt := 73) d_M_faultAt_67 (by decide) ?_
        exact sk_ireturn d_M_faultAt_73 rfl (Nat.zero_le _) (Nat.zero_le _) h
    · replace h := h.2 hc
      refine sk_aload_n (j := 0) d_M_faultAt_43 rfl rfl ?_
      refine q_getR d_M_faultAt_44 fg_M_38 sh_41 rr_41_15 ?_
      refine sk_iload_n (j := 1) d_M_faultAt_47 rfl rfl ?_
      refine sk_iconst (v := 2) d_M_faultAt_48 (by decide) ?_
      refine sk_idiv d_M_faultAt_49 (by decide) ?_
      obtain ⟨hb, h⟩ := h
      refine sk_iald d_M_faultAt_50 sh_51 hb ?_
      refine q_cvi (y := I 51 (x1 / 2).toNatClampNeg) rfl ?_
      refine sk_goto (tgt := 73) d_M_faultAt_51 (by decide) ?_
      exact sk_ireturn d_M_faultAt_73 rfl (Nat.zero_le _) (Nat.zero_le _) h
  · replace h := h.2 hc
    refine sk_iconst (v := 0) d_M_faultAt_37 (by decide) ?_
    exact sk_ireturn d_M_faultAt_38 rfl (Nat.zero_le _) (Nat.zero_le _) h
theorem s_M_least_0 {Γ : sk_T} {mc ms : Nat} {I : sk_I} {J : sk_J} {Q : sk_Q} {x1 : Int32} (h : sk_S Γ m_M_noFault 0 0 (.ref 41 :: [.int x1]) sk_gg I J (sk_Ki fun v' I' J' => sk_W Γ m_M_least mc ms 6 [(0, .ref 41), (1, .int x1)] [.int v', .ref 41] sk_gg I' J' 0 0 Q)) : sk_W Γ m_M_least mc ms 0 [(0, .ref 41), (1, .int x1)] [] sk_gg I J 0 0 Q := by
  refine sk_aload_n (j := 0) d_M_least_0 rfl rfl ?_
  refine sk_aload_n (j := 0) d_M_least_1 rfl rfl ?_
  refine sk_iload_n (j := 1) d_M_least_2 rfl rfl ?_
  exact q_callVi (S := [.ref 41]) (as := [.int x1]) d_M_least_3 lk_M_129 sh_41 ⟨_, rfl⟩ rfl ⟨by decide, by decide⟩ (Nat.le_of_ble_eq_true rfl) rfl (Nat.zero_le _) (Nat.zero_le _) h
theorem s_M_least_6 {Γ : sk_T} {mc ms : Nat} {I : sk_I} {J : sk_J} {Q : sk_Q} {x1 : Int32} {u1 : Int32} (h : (u1 = 0 → sk_S Γ m_M_learn 0 0 (.ref 41 :: []) sk_gg (sk_pi I 41 0 0) J (sk_Kv fun I' J' => sk_W Γ m_M_least mc ms 30 [(0, .ref 41), (1, .int x1)] [] sk_gg I' J' 0 0 Q)) ∧ (¬ u1 = 0 → Q (.inl (some (.int 0))) sk_gg (sk_pi I 41 0 1) J)) : sk_W Γ m_M_least mc ms 6 [(0, .ref 41), (1, .int x1)] [.int u1, .ref 41] sk_gg I J 0 0 Q := by
  refine sk_if_eq (tgt := 13) d_M_least_6 (by decide) (fun hc => ?_) (fun hc => ?_)
  · replace h := h.1 hc
    refine sk_iconst (v := 0) d_M_least_13 (by decide) ?_
    refine r_putI d_M_least_14 fp_M_68 sh_41 ?_
    refine sk_aload_n (j := 0) d_M_least_17 rfl rfl ?_
    refine q_getI d_M_least_18 fg_M_68 sh_41 ?_
    refine q_cvi (y := 0) rfl ?_
    refine sk_if_le (tgt := 26) d_M_least_21 (by decide) (fun _ => ?_) (fun hc => absurd hc (by decide))
    refine sk_aload_n (j := 0) d_M_least_26 rfl rfl ?_
    exact q_callVv (S := []) (as := []) d_M_least_27 lk_M_119 sh_41 ⟨_, rfl⟩ rfl ⟨by decide, by decide⟩ (Nat.le_of_ble_eq_true rfl) rfl (Nat.zero_le _) (Nat.zero_le _) h
  · replace h := h.2 hc
    refine sk_iconst (v := 1) d_M_least_9 (by decide) ?_
    refine sk_goto (tgt := 14) d_M_least_10 (by decide) ?_
    refine r_putI d_M_least_14 fp_M_68 sh_41 ?_
    refine sk_aload_n (j := 0) d_M_least_17 rfl rfl ?_
    refine q_getI d_M_least_18 fg_M_68 sh_41 ?_
    refine q_cvi (y := 1) rfl ?_
    refine sk_if_le (tgt := 26) d_M_least_21 (by decide) (fun hc => absurd hc (by decide)) (fun _ => ?_)
    refine sk_iconst (v := 0) d_M_least_24 (by decide) ?_
    exact sk_ireturn d_M_least_25 rfl (Nat.zero_le _) (Nat.zero_le _) h
theorem s_M_least_30 {Γ : sk_T} {mc ms : Nat} {I : sk_I} {J : sk_J} {Q : sk_Q} {x1 : Int32} (h : sk_S Γ m_M_leastOf 0 0 (.ref 41 :: [.int x1]) sk_gg I J (sk_Ki fun v' I' J' => sk_W Γ m_M_least mc ms 35 [] [.int v'] sk_gg I' J' 0 0 Q)) : sk_W Γ m_M_least mc ms 30 [(0, .ref 41), (1, .int x1)] [] sk_gg I J 0 0 Q := by
  refine sk_aload_n (j := 0) d_M_least_30 rfl rfl ?_
  refine sk_iload_n (j := 1) d_M_least_31 rfl rfl ?_
  refine sk_loc [] rfl ?_
  exact q_callVi (S := []) (as := [.int x1]) d_M_least_32 lk_M_122 sh_41 ⟨_, rfl⟩ rfl ⟨by decide, by decide⟩ (Nat.le_of_ble_eq_true rfl) rfl (Nat.zero_le _) (Nat.zero_le _) h
theorem s_M_least_35 {Γ : sk_T} {mc ms : Nat} {I : sk_I} {J : sk_J} {Q : sk_Q} {u0 : Int32} (h : Q (.inl (some (.int u0))) sk_gg I J) : sk_W Γ m_M_least mc ms 35 [] [.int u0] sk_gg I J 0 0 Q := by
  exact sk_ireturn d_M_least_35 rfl (Nat.zero_le _) (Nat.zero_le _) h
theorem s_M_showing_0 {Γ : sk_T} {mc ms : Nat} {I : sk_I} {J : sk_J} {Q : sk_Q} {x1 : Int32} (h : sk_S Γ m_M_noFault 0 0 (.ref 41 :: [.int x1]) sk_gg I J (sk_Ki fun v' I' J' => sk_W Γ m_M_showing mc ms 6 [(0, .ref 41), (1, .int x1)] [.int v', .ref 41] sk_gg I' J' 0 0 Q)) : sk_W Γ m_M_showing mc ms 0 [(0, .ref 41), (1, .int x1)] [] sk_gg I J 0 0 Q := by
  refine sk_aload_n (j := 0) d_M_showing_0 rfl rfl ?_
  refine sk_aload_n (j := 0) d_M_showing_1 rfl rfl ?_
  refine sk_iload_n (j := 1) d_M_showing_2 rfl rfl ?_
  exact q_callVi (S := [.ref 41]) (as := [.int x1]) d_M_showing_3 lk_M_129 sh_41 ⟨_, rfl⟩ rfl ⟨by decide, by decide⟩ (Nat.le_of_ble_eq_true rfl) rfl (Nat.zero_le _) (Nat.zero_le _) h
theorem s_M_showing_6 {Γ : sk_T} {mc ms : Nat} {I : sk_I} {J : sk_J} {Q : sk_Q} {x1 : Int32} {u1 : Int32} (h : (u1 = 0 → sk_S Γ m_M_learn 0 0 (.ref 41 :: []) sk_gg (sk_pi I 41 0 0) J (sk_Kv fun I' J' => sk_W Γ m_M_showing mc ms 30 [(0, .ref 41), (1, .int x1)] [] sk_gg I' J' 0 0 Q)) ∧ (¬ u1 = 0 → Q (.inl (some (.long 0))) sk_gg (sk_pi I 41 0 1) J)) : sk_W Γ m_M_showing mc ms 6 [(0, .ref 41), (1, .int x1)] [.int u1, .ref 41] sk_gg I J 0 0 Q := by
  refine sk_if_eq (tgt := 13) d_M_showing_6 (by decide) (fun hc => ?_) (fun hc => ?_)
  · replace h := h.1 hc
    refine sk_iconst (v := 0) d_M_showing_13 (by decide) ?_
    refine r_putI d_M_showing_14 fp_M_68 sh_41 ?_
    refine sk_aload_n (j := 0) d_M_showing_17 rfl rfl ?_
    refine q_getI d_M_showing_18 fg_M_68 sh_41 ?_
    refine q_cvi (y := 0) rfl ?_
    refine sk_if_le (tgt := 26) d_M_showing_21 (by decide) (fun _ => ?_) (fun hc => absurd hc (by decide))
    refine sk_aload_n (j := 0) d_M_showing_26 rfl rfl ?_
    exact q_callVv (S := []) (as := []) d_M_showing_27 lk_M_119 sh_41 ⟨_, rfl⟩ rfl ⟨by decide, by decide⟩ (Nat.le_of_ble_eq_true rfl) rfl (Nat.zero_le _) (Nat.zero_le _) h
  · replace h := h.2 hc
    refine sk_iconst (v := 1) d_M_showing_9 (by decide) ?_
    refine sk_goto (tgt := 14) d_M_showing_10 (by decide) ?_
    refine r_putI d_M_showing_14 fp_M_68 sh_41 ?_
    refine sk_aload_n (j := 0) d_M_showing_17 rfl rfl ?_
    refine q_getI d_M_showing_18 fg_M_68 sh_41 ?_
    refine q_cvi (y := 1) rfl ?_
    refine sk_if_le (tgt := 26) d_M_showing_21 (by decide) (fun hc => absurd hc (by decide)) (fun _ => ?_)
    refine sk_lconst (v := 0) d_M_showing_24 (by decide) ?_
    exact sk_lreturn d_M_showing_25 rfl (Nat.zero_le _) (Nat.zero_le _) h
theorem s_M_showing_30 {Γ : sk_T} {mc ms : Nat} {I : sk_I} {J : sk_J} {Q : sk_Q} {x1 : Int32} (h : sk_W Γ m_M_showing mc ms 35 [(0, .ref 41), (1, .int x1), (2, .long 0), (4, .int 0)] [] sk_gg I J 0 0 Q) : sk_W Γ m_M_showing mc ms 30 [(0, .ref 41), (1, .int x1)] [] sk_gg I J 0 0 Q := by
  refine sk_lconst (v := 0) d_M_showing_30 (by decide) ?_
  refine sk_lstore_n d_M_showing_31 rfl (by decide) rfl ?_
  refine sk_iconst (v := 0) d_M_showing_32 (by decide) ?_
  refine sk_istore d_M_showing_33 (by decide) rfl ?_
  refine sk_loc [2, 3, 1, 0] rfl ?_
  exact h
theorem s_M_showing_35 {Γ : sk_T} {mc ms : Nat} {I : sk_I} {J : sk_J} {Q : sk_Q} {x1 : Int32} {y2 : Int64} {x4 : Int32} (h : sk_S Γ m_M_vectors 0 0 (.ref 41 :: []) sk_gg I J (sk_Ki fun v' I' J' => sk_W Γ m_M_showing mc ms 41 [(0, .ref 41), (1, .int x1), (2, .long y2), (4, .int x4)] [.int v', .int x4] sk_gg I' J' 0 0 Q)) : sk_W Γ m_M_showing mc ms 35 [(0, .ref 41), (1, .int x1), (2, .long y2), (4, .int x4)] [] sk_gg I J 0 0 Q := by
  refine sk_iload (j := 3) d_M_showing_35 rfl ?_
  refine sk_aload_n (j := 0) d_M_showing_37 rfl rfl ?_
  exact q_callVi (S := [.int x4]) (as := []) d_M_showing_38 lk_M_108 sh_41 ⟨_, rfl⟩ rfl ⟨by decide, by decide⟩ (Nat.le_of_ble_eq_true rfl) rfl (Nat.zero_le _) (Nat.zero_le _) h
theorem s_M_showing_41 {Γ : sk_T} {mc ms : Nat} {I : sk_I} {J : sk_J} {Q : sk_Q} {x1 : Int32} {y2 : Int64} {x4 : Int32} {u0 : Int32} {u1 : Int32} (h : (u1 ≤ u0 → Q (.inl (some (.long y2))) sk_gg I J) ∧ (¬ u1 ≤ u0 → vp_in ((64 * x1) + x4) 13312 ∧ vp_in x4 64 ∧ ((I 55 ((64 * x1) + x4).toNatClampNeg) = (I 56 x4.toNatClampNeg) → sk_W Γ m_M_showing mc ms 35 [(0, .ref 41), (1, .int x1), (2, .long y2), (4, .int (x4 + 1))] [] sk_gg I J 0 0 Q) ∧ (¬ (I 55 ((64 * x1) + x4).toNatClampNeg) = (I 56 x4.toNatClampNeg) → sk_W Γ m_M_showing mc ms 35 [(0, .ref 41), (1, .int x1), (2, .long (y2 ||| (sk_shl 1 x4))), (4, .int (x4 + 1))] [] sk_gg I J 0 0 Q))) : sk_W Γ m_M_showing mc ms 41 [(0, .ref 41), (1, .int x1), (2, .long y2), (4, .int x4)] [.int u1, .int u0] sk_gg I J 0 0 Q := by
  refine sk_icmp_ge (tgt := 83) d_M_showing_41 (by decide) (fun hc => ?_) (fun hc => ?_)
  · replace h := h.1 hc
    refine sk_lload_n (j := 2) d_M_showing_83 rfl rfl ?_
    exact sk_lreturn d_M_showing_84 rfl (Nat.zero_le _) (Nat.zero_le _) h
  · replace h := h.2 hc
    refine sk_aload_n (j := 0) d_M_showing_44 rfl rfl ?_
    refine q_getR d_M_showing_45 fg_M_50 sh_41 rr_41_20 ?_
    refine sk_bipush (v := 64) d_M_showing_48 (by decide) ?_
    refine sk_iload_n (j := 1) d_M_showing_50 rfl rfl ?_
    refine sk_imul d_M_showing_51 ?_
    refine sk_iload (j := 3) d_M_showing_52 rfl ?_
    refine sk_iadd d_M_showing_54 ?_
    obtain ⟨hb, h⟩ := h
    refine sk_iald d_M_showing_55 sh_55 hb ?_
    refine sk_aload_n (j := 0) d_M_showing_56 rfl rfl ?_
    refine q_getR d_M_showing_57 fg_M_53 sh_41 rr_41_21 ?_
    refine sk_iload (j := 3) d_M_showing_60 rfl ?_
    obtain ⟨hb, h⟩ := h
    refine sk_iald d_M_showing_62 sh_56 hb ?_
    refine sk_icmp_eq (tgt := 75) d_M_showing_63 (by decide) (fun hc => ?_) (fun hc => ?_)
    · replace h := h.1 hc
      refine sk_lload_n (j := 2) d_M_showing_75 rfl rfl ?_
      refine sk_lstore_n d_M_showing_76 rfl (by decide) rfl ?_
      refine sk_iinc (j := 3) (v := x4 + 1) d_M_showing_77 rfl (by rfl) (by decide) rfl ?_
      refine sk_goto (tgt := 35) d_M_showing_80 (by decide) ?_
      refine sk_loc [2, 3, 1, 0] rfl ?_
      exact h
    · replace h := h.2 hc
      refine sk_lload_n (j := 2) d_M_showing_66 rfl rfl ?_
      refine sk_lconst (v := 1) d_M_showing_67 (by decide) ?_
      refine sk_iload (j := 3) d_M_showing_68 rfl ?_
      refine r_lshl d_M_showing_70 ?_
      refine sk_lor d_M_showing_71 ?_
      refine sk_goto (tgt := 76) d_M_showing_72 (by decide) ?_
      refine sk_lstore_n d_M_showing_76 rfl (by decide) rfl ?_
      refine sk_iinc (j := 3) (v := x4 + 1) d_M_showing_77 rfl (by rfl) (by decide) rfl ?_
      refine sk_goto (tgt := 35) d_M_showing_80 (by decide) ?_
      refine sk_loc [2, 3, 1, 0] rfl ?_
      exact h
theorem s_M_alike_0 {Γ : sk_T} {mc ms : Nat} {I : sk_I} {J : sk_J} {Q : sk_Q} {x1 : Int32} (h : sk_S Γ m_M_noFault 0 0 (.ref 41 :: [.int x1]) sk_gg I J (sk_Ki fun v' I' J' => sk_W Γ m_M_alike mc ms 6 [(0, .ref 41), (1, .int x1)] [.int v', .ref 41] sk_gg I' J' 0 0 Q)) : sk_W Γ m_M_alike mc ms 0 [(0, .ref 41), (1, .int x1)] [] sk_gg I J 0 0 Q := by
  refine sk_aload_n (j := 0) d_M_alike_0 rfl rfl ?_
  refine sk_aload_n (j := 0) d_M_alike_1 rfl rfl ?_
  refine sk_iload_n (j := 1) d_M_alike_2 rfl rfl ?_
  exact q_callVi (S := [.ref 41]) (as := [.int x1]) d_M_alike_3 lk_M_129 sh_41 ⟨_, rfl⟩ rfl ⟨by decide, by decide⟩ (Nat.le_of_ble_eq_true rfl) rfl (Nat.zero_le _) (Nat.zero_le _) h
theorem s_M_alike_6 {Γ : sk_T} {mc ms : Nat} {I : sk_I} {J : sk_J} {Q : sk_Q} {x1 : Int32} {u1 : Int32} (h : (u1 = 0 → sk_S Γ m_M_learn 0 0 (.ref 41 :: []) sk_gg (sk_pi I 41 0 0) J (sk_Kv fun I' J' => sk_W Γ m_M_alike mc ms 30 [(0, .ref 41), (1, .int x1)] [] sk_gg I' J' 0 0 Q)) ∧ (¬ u1 = 0 → Q (.inl (some (.int 0))) sk_gg (sk_pi I 41 0 1) J)) : sk_W Γ m_M_alike mc ms 6 [(0, .ref 41), (1, .int x1)] [.int u1, .ref 41] sk_gg I J 0 0 Q := by
  refine sk_if_eq (tgt := 13) d_M_alike_6 (by decide) (fun hc => ?_) (fun hc => ?_)
  · replace h := h.1 hc
    refine sk_iconst (v := 0) d_M_alike_13 (by decide) ?_
    refine r_putI d_M_alike_14 fp_M_68 sh_41 ?_
    refine sk_aload_n (j := 0) d_M_alike_17 rfl rfl ?_
    refine q_getI d_M_alike_18 fg_M_68 sh_41 ?_
    refine q_cvi (y := 0) rfl ?_
    refine sk_if_le (tgt := 26) d_M_alike_21 (by decide) (fun _ => ?_) (fun hc => absurd hc (by decide))
    refine sk_aload_n (j := 0) d_M_alike_26 rfl rfl ?_
    exact q_callVv (S := []) (as := []) d_M_alike_27 lk_M_119 sh_41 ⟨_, rfl⟩ rfl ⟨by decide, by decide⟩ (Nat.le_of_ble_eq_true rfl) rfl (Nat.zero_le _) (Nat.zero_le _) h
  · replace h := h.2 hc
    refine sk_iconst (v := 1) d_M_alike_9 (by decide) ?_
    refine sk_goto (tgt := 14) d_M_alike_10 (by decide) ?_
    refine r_putI d_M_alike_14 fp_M_68 sh_41 ?_
    refine sk_aload_n (j := 0) d_M_alike_17 rfl rfl ?_
    refine q_getI d_M_alike_18 fg_M_68 sh_41 ?_
    refine q_cvi (y := 1) rfl ?_
    refine sk_if_le (tgt := 26) d_M_alike_21 (by decide) (fun hc => absurd hc (by decide)) (fun _ => ?_)
    refine sk_iconst (v := 0) d_M_alike_24 (by decide) ?_
    exact sk_ireturn d_M_alike_25 rfl (Nat.zero_le _) (Nat.zero_le _) h
theorem s_M_alike_30 {Γ : sk_T} {mc ms : Nat} {I : sk_I} {J : sk_J} {Q : sk_Q} {x1 : Int32} (h : sk_S Γ m_M_firstAlike 0 0 (.ref 41 :: [.int x1]) sk_gg I J (sk_Ki fun v' I' J' => sk_W Γ m_M_alike mc ms 35 [] [.int v'] sk_gg I' J' 0 0 Q)) : sk_W Γ m_M_alike mc ms 30 [(0, .ref 41), (1, .int x1)] [] sk_gg I J 0 0 Q := by
  refine sk_aload_n (j := 0) d_M_alike_30 rfl rfl ?_
  refine sk_iload_n (j := 1) d_M_alike_31 rfl rfl ?_
  refine sk_loc [] rfl ?_
  exact q_callVi (S := []) (as := [.int x1]) d_M_alike_32 lk_M_126 sh_41 ⟨_, rfl⟩ rfl ⟨by decide, by decide⟩ (Nat.le_of_ble_eq_true rfl) rfl (Nat.zero_le _) (Nat.zero_le _) h
theorem s_M_alike_35 {Γ : sk_T} {mc ms : Nat} {I : sk_I} {J : sk_J} {Q : sk_Q} {u0 : Int32} (h : Q (.inl (some (.int u0))) sk_gg I J) : sk_W Γ m_M_alike mc ms 35 [] [.int u0] sk_gg I J 0 0 Q := by
  exact sk_ireturn d_M_alike_35 rfl (Nat.zero_le _) (Nat.zero_le _) h
theorem s_M_ternary_0 {Γ : sk_T} {mc ms : Nat} {I : sk_I} {J : sk_J} {Q : sk_Q} {x1 : Int32} {x2 : Int32} {x3 : Int32} {x4 : Int32} (h : sk_S Γ m_M_noLine 0 0 (.ref 41 :: [.int x3]) sk_gg I J (sk_Ki fun v' I' J' => sk_W Γ m_M_ternary mc ms 5 [(0, .ref 41), (1, .int x1), (2, .int x2), (3, .int x3), (4, .int x4)] [.int v'] sk_gg I' J' 0 0 Q)) : sk_W Γ m_M_ternary mc ms 0 [(0, .ref 41), (1, .int x1), (2, .int x2), (3, .int x3), (4, .int x4)] [] sk_gg I J 0 0 Q := by
  refine sk_aload_n (j := 0) d_M_ternary_0 rfl rfl ?_
  refine sk_iload_n (j := 3) d_M_ternary_1 rfl rfl ?_
  exact q_callVi (S := []) (as := [.int x3]) d_M_ternary_2 lk_M_100 sh_41 ⟨_, rfl⟩ rfl ⟨by decide, by decide⟩ (Nat.le_of_ble_eq_true rfl) rfl (Nat.zero_le _) (Nat.zero_le _) h
theorem s_M_ternary_5 {Γ : sk_T} {mc ms : Nat} {I : sk_I} {J : sk_J} {Q : sk_Q} {x1 : Int32} {x2 : Int32} {x3 : Int32} {x4 : Int32} {u0 : Int32} (h : (¬ u0 = 0 → (x1 < 0 → sk_W Γ m_M_ternary mc ms 65 [(0, .ref 41), (1, .int x1), (2, .int x2), (3, .int x3), (4, .int x4), (5, .int 1)] [.int 1] sk_gg I J 0 0 Q) ∧ (¬ x1 < 0 → sk_S Γ m_M_vectors 0 0 (.ref 41 :: []) sk_gg I J (sk_Ki fun v' I' J' => sk_W Γ m_M_ternary mc ms 39 [(0, .ref 41), (1, .int x1), (2, .int x2), (3, .int x3), (4, .int x4), (5, .int 1)] [.int v', .int x1] sk_gg I' J' 0 0 Q))) ∧ (u0 = 0 → (x4 = (-1) → (x1 < 0 → sk_W Γ m_M_ternary mc ms 65 [(0, .ref 41), (1, .int x1), (2, .int x2), (3, .int x3), (4, .int x4), (5, .int 0)] [.int 1] sk_gg I J 0 0 Q) ∧ (¬ x1 < 0 → sk_S Γ m_M_vectors 0 0 (.ref 41 :: []) sk_gg I J (sk_Ki fun v' I' J' => sk_W Γ m_M_ternary mc ms 39 [(0, .ref 41), (1, .int x1), (2, .int x2), (3, .int x3), (4, .int x4), (5, .int 0)] [.int v', .int x1] sk_gg I' J' 0 0 Q))) ∧ (¬ x4 = (-1) → sk_S Γ m_M_noFault 0 0 (.ref 41 :: [.int x4]) sk_gg I J (sk_Ki fun v' I' J' => sk_W Γ m_M_ternary mc ms 20 [(0, .ref 41), (1, .int x1), (2, .int x2), (3, .int x3), (4, .int x4)] [.int v'] sk_gg I' J' 0 0 Q)))) : sk_W Γ m_M_ternary mc ms 5 [(0, .ref 41), (1, .int x1), (2, .int x2), (3, .int x3), (4, .int x4)] [.int u0] sk_gg I J 0 0 Q := by
  refine sk_if_ne (tgt := 23) d_M_ternary_5 (by decide) (fun hc => ?_) (fun hc => ?_)
  · replace h := h.1 hc
    refine sk_iconst (v := 1) d_M_ternary_23 (by decide) ?_
    refine sk_goto (tgt := 28) d_M_ternary_24 (by decide) ?_
    refine sk_istore d_M_ternary_28 (by decide) rfl ?_
    refine sk_iload_n (j := 2) d_M_ternary_30 rfl rfl ?_
    refine sk_if_lt (tgt := 60) d_M_ternary_31 (by decide) (fun hc => ?_) (fun hc => ?_)
    · replace h := h.1 hc
      refine sk_iconst (v := 1) d_M_ternary_60 (by decide) ?_
      refine sk_goto (tgt := 65) d_M_ternary_61 (by decide) ?_
      refine sk_loc [1, 2, 3, 4, 5, 0] rfl ?_
      exact h
    · replace h := h.2 hc
      refine sk_iload_n (j := 2) d_M_ternary_34 rfl rfl ?_
      refine sk_aload_n (j := 1) d_M_ternary_35 rfl rfl ?_
      refine sk_loc [1, 2, 3, 4, 5, 0] rfl ?_
      exact q_callVi (S := [.int x1]) (as := []) d_M_ternary_36 lk_M_108 sh_41 ⟨_, rfl⟩ rfl ⟨by decide, by decide⟩ (Nat.le_of_ble_eq_true rfl) rfl (Nat.zero_le _) (Nat.zero_le _) h
  · replace h := h.2 hc
    refine sk_iload (j := 4) d_M_ternary_8 rfl ?_
    refine sk_iconst (v := (-1)) d_M_ternary_10 (by decide) ?_
    refine sk_icmp_eq (tgt := 27) d_M_ternary_11 (by decide) (fun hc => ?_) (fun hc => ?_)
    · replace h := h.1 hc
      refine sk_iconst (v := 0) d_M_ternary_27 (by decide) ?_
      refine sk_istore d_M_ternary_28 (by decide) rfl ?_
      refine sk_iload_n (j := 2) d_M_ternary_30 rfl rfl ?_
      refine sk_if_lt (tgt := 60) d_M_ternary_31 (by decide) (fun hc => ?_) (fun hc => ?_)
      · replace h := h.1 hc
        refine sk_iconst (v := 1) d_M_ternary_60 (by decide) ?_
        refine sk_goto (tgt := 65) d_M_ternary_61 (by decide) ?_
        refine sk_loc [1, 2, 3, 4, 5, 0] rfl ?_
        exact h
      · replace h := h.2 hc
        refine sk_iload_n (j := 2) d_M_ternary_34 rfl rfl ?_
        refine sk_aload_n (j := 1) d_M_ternary_35 rfl rfl ?_
        refine sk_loc [1, 2, 3, 4, 5, 0] rfl ?_
        exact q_callVi (S := [.int x1]) (as := []) d_M_ternary_36 lk_M_108 sh_41 ⟨_, rfl⟩ rfl ⟨by decide, by decide⟩ (Nat.le_of_ble_eq_true rfl) rfl (Nat.zero_le _) (Nat.zero_le _) h
    · replace h := h.2 hc
      refine sk_aload_n (j := 0) d_M_ternary_14 rfl rfl ?_
      refine sk_iload (j := 4) d_M_ternary_15 rfl ?_
      exact q_callVi (S := []) (as := [.int x4]) d_M_ternary_17 lk_M_129 sh_41 ⟨_, rfl⟩ rfl ⟨by decide, by decide⟩ (Nat.le_of_ble_eq_true rfl) rfl (Nat.zero_le _) (Nat.zero_le _) h
theorem s_M_ternary_20 {Γ : sk_T} {mc ms : Nat} {I : sk_I} {J : sk_J} {Q : sk_Q} {x1 : Int32} {x2 : Int32} {x3 : Int32} {x4 : Int32} {u0 : Int32} (h : (u0 = 0 → (x1 < 0 → sk_W Γ m_M_ternary mc ms 65 [(0, .ref 41), (1, .int x1), (2, .int x2), (3, .int x3), (4, .int x4), (5, .int 0)] [.int 1] sk_gg I J 0 0 Q) ∧ (¬ x1 < 0 → sk_S Γ m_M_vectors 0 0 (.ref 41 :: []) sk_gg I J (sk_Ki fun v' I' J' => sk_W Γ m_M_ternary mc ms 39 [(0, .ref 41), (1, .int x1), (2, .int x2), (3, .int x3), (4, .int x4), (5, .int 0)] [.int v', .int x1] sk_gg I' J' 0 0 Q))) ∧ (¬ u0 = 0 → (x1 < 0 → sk_W Γ m_M_ternary mc ms 65 [(0, .ref 41), (1, .int x1), (2, .int x2), (3, .int x3), (4, .int x4), (5, .int 1)] [.int 1] sk_gg I J 0 0 Q) ∧ (¬ x1 < 0 → sk_S Γ m_M_vectors 0 0 (.ref 41 :: []) sk_gg I J (sk_Ki fun v' I' J' => sk_W Γ m_M_ternary mc ms 39 [(0, .ref 41), (1, .int x1), (2, .int x2), (3, .int x3), (4, .int x4), (5, .int 1)] [.int v', .int x1] sk_gg I' J' 0 0 Q)))) : sk_W Γ m_M_ternary mc ms 20 [(0, .ref 41), (1, .int x1), (2, .int x2), (3, .int x3), (4, .int x4)] [.int u0] sk_gg I J 0 0 Q := by
  refine sk_if_eq (tgt := 27) d_M_ternary_20 (by decide) (fun hc => ?_) (fun hc => ?_)
  · replace h := h.1 hc
    refine sk_iconst (v := 0) d_M_ternary_27 (by decide) ?_
    refine sk_istore d_M_ternary_28 (by decide) rfl ?_
    refine sk_iload_n (j := 2) d_M_ternary_30 rfl rfl ?_
    refine sk_if_lt (tgt := 60) d_M_ternary_31 (by decide) (fun hc => ?_) (fun hc => ?_)
    · replace h := h.1 hc
      refine sk_iconst (v := 1) d_M_ternary_60 (by decide) ?_
      refine sk_goto (tgt := 65) d_M_ternary_61 (by decide) ?_
      refine sk_loc [1, 2, 3, 4, 5, 0] rfl ?_
      exact h
    · replace h := h.2 hc
      refine sk_iload_n (j := 2) d_M_ternary_34 rfl rfl ?_
      refine sk_aload_n (j := 1) d_M_ternary_35 rfl rfl ?_
      refine sk_loc [1, 2, 3, 4, 5, 0] rfl ?_
      exact q_callVi (S := [.int x1]) (as := []) d_M_ternary_36 lk_M_108 sh_41 ⟨_, rfl⟩ rfl ⟨by decide, by decide⟩ (Nat.le_of_ble_eq_true rfl) rfl (Nat.zero_le _) (Nat.zero_le _) h
  · replace h := h.2 hc
    refine sk_iconst (v := 1) d_M_ternary_23 (by decide) ?_
    refine sk_goto (tgt := 28) d_M_ternary_24 (by decide) ?_
    refine sk_istore d_M_ternary_28 (by decide) rfl ?_
    refine sk_iload_n (j := 2) d_M_ternary_30 rfl rfl ?_
    refine sk_if_lt (tgt := 60) d_M_ternary_31 (by decide) (fun hc => ?_) (fun hc => ?_)
    · replace h := h.1 hc
      refine sk_iconst (v := 1) d_M_ternary_60 (by decide) ?_
      refine sk_goto (tgt := 65) d_M_ternary_61 (by decide) ?_
      refine sk_loc [1, 2, 3, 4, 5, 0] rfl ?_
      exact h
    · replace h := h.2 hc
      refine sk_iload_n (j := 2) d_M_ternary_34 rfl rfl ?_
      refine sk_aload_n (j := 1) d_M_ternary_35 rfl rfl ?_
      refine sk_loc [1, 2, 3, 4, 5, 0] rfl ?_
      exact q_callVi (S := [.int x1]) (as := []) d_M_ternary_36 lk_M_108 sh_41 ⟨_, rfl⟩ rfl ⟨by decide, by decide⟩ (Nat.le_of_ble_eq_true rfl) rfl (Nat.zero_le _) (Nat.zero_le _) h
theorem s_M_ternary_39 {Γ : sk_T} {mc ms : Nat} {I : sk_I} {J : sk_J} {Q : sk_Q} {x1 : Int32} {x2 : Int32} {x3 : Int32} {x4 : Int32} {x5 : Int32} {u0 : Int32} {u1 : Int32} (h : (u1 ≤ u0 → sk_W Γ m_M_ternary mc ms 65 [(0, .ref 41), (1, .int x1), (2, .int x2), (3, .int x3), (4, .int x4), (5, .int x5)] [.int 1] sk_gg I J 0 0 Q) ∧ (¬ u1 ≤ u0 → (x2 < 0 → sk_W Γ m_M_ternary mc ms 65 [(0, .ref 41), (1, .int x1), (2, .int x2), (3, .int x3), (4, .int x4), (5, .int x5)] [.int 1] sk_gg I J 0 0 Q) ∧ (¬ x2 < 0 → sk_S Γ m_M_vectors 0 0 (.ref 41 :: []) sk_gg I J (sk_Ki fun v' I' J' => sk_W Γ m_M_ternary mc ms 51 [(0, .ref 41), (1, .int x1), (2, .int x2), (3, .int x3), (4, .int x4), (5, .int x5)] [.int v', .int x2] sk_gg I' J' 0 0 Q)))) : sk_W Γ m_M_ternary mc ms 39 [(0, .ref 41), (1, .int x1), (2, .int x2), (3, .int x3), (4, .int x4), (5, .int x5)] [.int u1, .int u0] sk_gg I J 0 0 Q := by
  refine sk_icmp_ge (tgt := 60) d_M_ternary_39 (by decide) (fun hc => ?_) (fun hc => ?_)
  · replace h := h.1 hc
    refine sk_iconst (v := 1) d_M_ternary_60 (by decide) ?_
    refine sk_goto (tgt := 65) d_M_ternary_61 (by decide) ?_
    exact h
  · replace h := h.2 hc
    refine sk_iload_n (j := 2) d_M_ternary_42 rfl rfl ?_
    refine sk_if_lt (tgt := 60) d_M_ternary_43 (by decide) (fun hc => ?_) (fun hc => ?_)
    · replace h := h.1 hc
      refine sk_iconst (v := 1) d_M_ternary_60 (by decide) ?_
      refine sk_goto (tgt := 65) d_M_ternary_61 (by decide) ?_
      exact h
    · replace h := h.2 hc
      refine sk_iload_n (j := 2) d_M_ternary_46 rfl rfl ?_
      refine sk_aload_n (j := 0) d_M_ternary_47 rfl rfl ?_
      exact q_callVi (S := [.int x2]) (as := []) d_M_ternary_48 lk_M_108 sh_41 ⟨_, rfl⟩ rfl ⟨by decide, by decide⟩ (Nat.le_of_ble_eq_true rfl) rfl (Nat.zero_le _) (Nat.zero_le _) h
theorem s_M_ternary_51 {Γ : sk_T} {mc ms : Nat} {I : sk_I} {J : sk_J} {Q : sk_Q} {x1 : Int32} {x2 : Int32} {x3 : Int32} {x4 : Int32} {x5 : Int32} {u0 : Int32} {u1 : Int32} (h : (u1 ≤ u0 → sk_W Γ m_M_ternary mc ms 65 [(0, .ref 41), (1, .int x1), (2, .int x2), (3, .int x3), (4, .int x4), (5, .int x5)] [.int 1] sk_gg I J 0 0 Q) ∧ (¬ u1 ≤ u0 → ((x1 &&& x2) = 0 → sk_W Γ m_M_ternary mc ms 65 [(0, .ref 41), (1, .int x1), (2, .int x2), (3, .int x3), (4, .int x4), (5, .int x5)] [.int 0] sk_gg I J 0 0 Q) ∧ (¬ (x1 &&& x2) = 0 → sk_W Γ m_M_ternary mc ms 65 [(0, .ref 41), (1, .int x1), (2, .int x2), (3, .int x3), (4, .int x4), (5, .int x5)] [.int 1] sk_gg I J 0 0 Q))) : sk_W Γ m_M_ternary mc ms 51 [(0, .ref 41), (1, .int x1), (2, .int x2), (3, .int x3), (4, .int x4), (5, .int x5)] [.int u1, .int u0] sk_gg I J 0 0 Q := by
  refine sk_icmp_ge (tgt := 60) d_M_ternary_51 (by decide) (fun hc => ?_) (fun hc => ?_)
  · replace h := h.1 hc
    refine sk_iconst (v := 1) d_M_ternary_60 (by decide) ?_
    refine sk_goto (tgt := 65) d_M_ternary_61 (by decide) ?_
    exact h
  · replace h := h.2 hc
    refine sk_iload_n (j := 1) d_M_ternary_54 rfl rfl ?_
    refine sk_iload_n (j := 2) d_M_ternary_55 rfl rfl ?_
    refine sk_iand d_M_ternary_56 ?_
    refine sk_if_eq (tgt := 64) d_M_ternary_57 (by decide) (fun hc => ?_) (fun hc => ?_)
    · replace h := h.1 hc
      refine sk_iconst (v := 0) d_M_ternary_64 (by decide) ?_
      exact h
    · replace h := h.2 hc
      refine sk_iconst (v := 1) d_M_ternary_60 (by decide) ?_
      refine sk_goto (tgt := 65) d_M_ternary_61 (by decide) ?_
      exact h
theorem s_M_ternary_65 {Γ : sk_T} {mc ms : Nat} {I : sk_I} {J : sk_J} {Q : sk_Q} {x1 : Int32} {x2 : Int32} {x3 : Int32} {x4 : Int32} {x5 : Int32} {u0 : Int32} (h : (x5 = 0 → (u0 = 0 → sk_S Γ m_M_make 0 0 (.ref 41 :: [.int x1, .int x2, .int x4]) sk_gg (sk_pi I 41 0 0) J (sk_Kv fun I' J' => sk_W Γ m_M_ternary mc ms 107 [(0, .ref 41), (3, .int x3)] [] sk_gg I' J' 0 0 Q)) ∧ (¬ u0 = 0 → Q (.inl (some (.int 0))) sk_gg (sk_pi I 41 0 2) J)) ∧ (¬ x5 = 0 → Q (.inl (some (.int 0))) sk_gg (sk_pi I 41 0 1) J)) : sk_W Γ m_M_ternary mc ms 65 [(0, .ref 41), (1, .int x1), (2, .int x2), (3, .int x3), (4, .int x4), (5, .int x5)] [.int u0] sk_gg I J 0 0 Q := by
  refine sk_istore d_M_ternary_65 (by decide) rfl ?_
  refine sk_aload_n (j := 1) d_M_ternary_67 rfl rfl ?_
  refine sk_iload (j := 6) d_M_ternary_68 rfl ?_
  refine sk_if_eq (tgt := 77) d_M_ternary_70 (by decide) (fun hc => ?_) (fun hc => ?_)
  · replace h := h.1 hc
    refine sk_iload (j := 0) d_M_ternary_77 rfl ?_
    refine sk_if_eq (tgt := 86) d_M_ternary_79 (by decide) (fun hc => ?_) (fun hc => ?_)
    · replace h := h.1 hc
      refine sk_iconst (v := 0) d_M_ternary_86 (by decide) ?_
      refine r_putI d_M_ternary_87 fp_M_68 sh_41 ?_
      refine sk_aload_n (j := 1) d_M_ternary_90 rfl rfl ?_
      refine q_getI d_M_ternary_91 fg_M_68 sh_41 ?_
      refine q_cvi (y := 0) rfl ?_
      refine sk_if_le (tgt := 99) d_M_ternary_94 (by decide) (fun _ => ?_) (fun hc => absurd hc (by decide))
      refine sk_aload_n (j := 1) d_M_ternary_99 rfl rfl ?_
      refine sk_iload_n (j := 2) d_M_ternary_100 rfl rfl ?_
      refine sk_iload_n (j := 3) d_M_ternary_101 rfl rfl ?_
      refine sk_iload (j := 5) d_M_ternary_102 rfl ?_
      refine sk_loc [1, 4] rfl ?_
      exact q_callVv (S := []) (as := [.int x1, .int x2, .int x4]) d_M_ternary_104 lk_M_112 sh_41 ⟨_, rfl⟩ rfl ⟨by decide, by decide⟩ (Nat.le_of_ble_eq_true rfl) rfl (Nat.zero_le _) (Nat.zero_le _) h
    · replace h := h.2 hc
      refine sk_iconst (v := 2) d_M_ternary_82 (by decide) ?_
      refine sk_goto (tgt := 87) d_M_ternary_83 (by decide) ?_
      refine r_putI d_M_ternary_87 fp_M_68 sh_41 ?_
      refine sk_aload_n (j := 1) d_M_ternary_90 rfl rfl ?_
      refine q_getI d_M_ternary_91 fg_M_68 sh_41 ?_
      refine q_cvi (y := 2) rfl ?_
      refine sk_if_le (tgt := 99) d_M_ternary_94 (by decide) (fun hc => absurd hc (by decide)) (fun _ => ?_)
      refine sk_iconst (v := 0) d_M_ternary_97 (by decide) ?_
      exact sk_ireturn d_M_ternary_98 rfl (Nat.zero_le _) (Nat.zero_le _) h
  · replace h := h.2 hc
    refine sk_iconst (v := 1) d_M_ternary_73 (by decide) ?_
    refine sk_goto (tgt := 87) d_M_ternary_74 (by decide) ?_
    refine r_putI d_M_ternary_87 fp_M_68 sh_41 ?_
    refine sk_aload_n (j := 1) d_M_ternary_90 rfl rfl ?_
    refine q_getI d_M_ternary_91 fg_M_68 sh_41 ?_
    refine q_cvi (y := 1) rfl ?_
    refine sk_if_le (tgt := 99) d_M_ternary_94 (by decide) (fun hc => absurd hc (by decide)) (fun _ => ?_)
    refine sk_iconst (v := 0) d_M_ternary_97 (by decide) ?_
    exact sk_ireturn d_M_ternary_98 rfl (Nat.zero_le _) (Nat.zero_le _) h
theorem s_M_ternary_107 {Γ : sk_T} {mc ms : Nat} {I : sk_I} {J : sk_J} {Q : sk_Q} {x3 : Int32} (h : vp_in x3 26 ∧ Q (.inl (some (.int (I 53 x3.toNatClampNeg)))) sk_gg I J) : sk_W Γ m_M_ternary mc ms 107 [(0, .ref 41), (3, .int x3)] [] sk_gg I J 0 0 Q := by
  refine sk_aload_n (j := 0) d_M_ternary_107 rfl rfl ?_
  refine q_getR d_M_ternary_108 fg_M_44 sh_41 rr_41_17 ?_
  refine sk_iload_n (j := 1) d_M_ternary_111 rfl rfl ?_
  obtain ⟨hb, h⟩ := h
  refine sk_iald d_M_ternary_112 sh_53 hb ?_
  exact sk_ireturn d_M_ternary_113 rfl (Nat.zero_le _) (Nat.zero_le _) h
theorem s_M_cube_0 {Γ : sk_T} {mc ms : Nat} {I : sk_I} {J : sk_J} {Q : sk_Q} {x1 : Int32} (h : sk_S Γ m_M_noFault 0 0 (.ref 41 :: [.int x1]) sk_gg I J (sk_Ki fun v' I' J' => sk_W Γ m_M_cube mc ms 6 [(0, .ref 41), (1, .int x1)] [.int v', .ref 41] sk_gg I' J' 0 0 Q)) : sk_W Γ m_M_cube mc ms 0 [(0, .ref 41), (1, .int x1)] [] sk_gg I J 0 0 Q := by
  refine sk_aload_n (j := 0) d_M_cube_0 rfl rfl ?_
  refine sk_aload_n (j := 0) d_M_cube_1 rfl rfl ?_
  refine sk_iload_n (j := 1) d_M_cube_2 rfl rfl ?_
  exact q_callVi (S := [.ref 41]) (as := [.int x1]) d_M_cube_3 lk_M_129 sh_41 ⟨_, rfl⟩ rfl ⟨by decide, by decide⟩ (Nat.le_of_ble_eq_true rfl) rfl (Nat.zero_le _) (Nat.zero_le _) h
theorem s_M_cube_6 {Γ : sk_T} {mc ms : Nat} {I : sk_I} {J : sk_J} {Q : sk_Q} {x1 : Int32} {u1 : Int32} (h : (u1 = 0 → sk_S Γ m_M_learn 0 0 (.ref 41 :: []) sk_gg (sk_pi I 41 0 0) J (sk_Kv fun I' J' => sk_W Γ m_M_cube mc ms 30 [(0, .ref 41), (1, .int x1)] [] sk_gg I' J' 0 0 Q)) ∧ (¬ u1 = 0 → Q (.inl (some (.int 0))) sk_gg (sk_pi I 41 0 1) J)) : sk_W Γ m_M_cube mc ms 6 [(0, .ref 41), (1, .int x1)] [.int u1, .ref 41] sk_gg I J 0 0 Q := by
  refine sk_if_eq (tgt := 13) d_M_cube_6 (by decide) (fun hc => ?_) (fun hc => ?_)
  · replace h := h.1 hc
    refine sk_iconst (v := 0) d_M_cube_13 (by decide) ?_
    refine r_putI d_M_cube_14 fp_M_68 sh_41 ?_
    refine sk_aload_n (j := 0) d_M_cube_17 rfl rfl ?_
    refine q_getI d_M_cube_18 fg_M_68 sh_41 ?_
    refine q_cvi (y := 0) rfl ?_
    refine sk_if_le (tgt := 26) d_M_cube_21 (by decide) (fun _ => ?_) (fun hc => absurd hc (by decide))
    refine sk_aload_n (j := 0) d_M_cube_26 rfl rfl ?_
    exact q_callVv (S := []) (as := []) d_M_cube_27 lk_M_119 sh_41 ⟨_, rfl⟩ rfl ⟨by decide, by decide⟩ (Nat.le_of_ble_eq_true rfl) rfl (Nat.zero_le _) (Nat.zero_le _) h
  · replace h := h.2 hc
    refine sk_iconst (v := 1) d_M_cube_9 (by decide) ?_
    refine sk_goto (tgt := 14) d_M_cube_10 (by decide) ?_
    refine r_putI d_M_cube_14 fp_M_68 sh_41 ?_
    refine sk_aload_n (j := 0) d_M_cube_17 rfl rfl ?_
    refine q_getI d_M_cube_18 fg_M_68 sh_41 ?_
    refine q_cvi (y := 1) rfl ?_
    refine sk_if_le (tgt := 26) d_M_cube_21 (by decide) (fun hc => absurd hc (by decide)) (fun _ => ?_)
    refine sk_iconst (v := 0) d_M_cube_24 (by decide) ?_
    exact sk_ireturn d_M_cube_25 rfl (Nat.zero_le _) (Nat.zero_le _) h
theorem s_M_cube_30 {Γ : sk_T} {mc ms : Nat} {I : sk_I} {J : sk_J} {Q : sk_Q} {x1 : Int32} (h : sk_S Γ m_M_leastOf 0 0 (.ref 41 :: [.int x1]) sk_gg I J (sk_Ki fun v' I' J' => sk_W Γ m_M_cube mc ms 35 [(0, .ref 41), (1, .int x1)] [.int v'] sk_gg I' J' 0 0 Q)) : sk_W Γ m_M_cube mc ms 30 [(0, .ref 41), (1, .int x1)] [] sk_gg I J 0 0 Q := by
  refine sk_aload_n (j := 0) d_M_cube_30 rfl rfl ?_
  refine sk_iload_n (j := 1) d_M_cube_31 rfl rfl ?_
  exact q_callVi (S := []) (as := [.int x1]) d_M_cube_32 lk_M_122 sh_41 ⟨_, rfl⟩ rfl ⟨by decide, by decide⟩ (Nat.le_of_ble_eq_true rfl) rfl (Nat.zero_le _) (Nat.zero_le _) h
theorem s_M_cube_35 {Γ : sk_T} {mc ms : Nat} {I : sk_I} {J : sk_J} {Q : sk_Q} {x1 : Int32} {u0 : Int32} (h : (0 ≤ u0 → sk_W Γ m_M_cube mc ms 47 [(0, .ref 41), (1, .int x1), (2, .int u0), (3, .int 0), (4, .int 0)] [] sk_gg I J 0 0 Q) ∧ (¬ 0 ≤ u0 → Q (.inl (some (.int (-1)))) sk_gg I J)) : sk_W Γ m_M_cube mc ms 35 [(0, .ref 41), (1, .int x1)] [.int u0] sk_gg I J 0 0 Q := by
  refine sk_istore_n d_M_cube_35 rfl (by decide) rfl ?_
  refine sk_iload_n (j := 0) d_M_cube_36 rfl rfl ?_
  refine sk_if_ge (tgt := 42) d_M_cube_37 (by decide) (fun hc => ?_) (fun hc => ?_)
  · replace h := h.1 hc
    refine sk_iconst (v := 0) d_M_cube_42 (by decide) ?_
    refine sk_istore_n d_M_cube_43 rfl (by decide) rfl ?_
    refine sk_iconst (v := 0) d_M_cube_44 (by decide) ?_
    refine sk_istore d_M_cube_45 (by decide) rfl ?_
    refine sk_loc [3, 4, 2, 1, 0] rfl ?_
    exact h
  · replace h := h.2 hc
    refine sk_iconst (v := (-1)) d_M_cube_40 (by decide) ?_
    exact sk_ireturn d_M_cube_41 rfl (Nat.zero_le _) (Nat.zero_le _) h
theorem s_M_cube_47 {Γ : sk_T} {mc ms : Nat} {I : sk_I} {J : sk_J} {Q : sk_Q} {x1 : Int32} {x2 : Int32} {x3 : Int32} {x4 : Int32} (h : ((I 41 6) ≤ x4 → Q (.inl (some (.int ((64 * x3) + x2)))) sk_gg I J) ∧ (¬ (I 41 6) ≤ x4 → sk_S Γ m_M_tells 0 0 (.ref 41 :: [.int (x3 ||| (1 <<< (x4 &&& 31))), .int (x2 &&& ((1 <<< (x4 &&& 31)) ^^^ (-1))), .int x1]) sk_gg I J (sk_Ki fun v' I' J' => sk_W Γ m_M_cube mc ms 77 [(0, .ref 41), (1, .int x1), (2, .int x2), (3, .int x3), (4, .int x4), (5, .int (1 <<< (x4 &&& 31)))] [.int v'] sk_gg I' J' 0 0 Q))) : sk_W Γ m_M_cube mc ms 47 [(0, .ref 41), (1, .int x1), (2, .int x2), (3, .int x3), (4, .int x4)] [] sk_gg I J 0 0 Q := by
  refine sk_iload (j := 4) d_M_cube_47 rfl ?_
  refine sk_aload_n (j := 0) d_M_cube_49 rfl rfl ?_
  refine q_getI d_M_cube_50 fg_M_75 sh_41 ?_
  refine sk_icmp_ge (tgt := 98) d_M_cube_53 (by decide) (fun hc => ?_) (fun hc => ?_)
  · replace h := h.1 hc
    refine sk_bipush (v := 64) d_M_cube_98 (by decide) ?_
    refine sk_iload_n (j := 3) d_M_cube_100 rfl rfl ?_
    refine sk_imul d_M_cube_101 ?_
    refine sk_iload_n (j := 2) d_M_cube_102 rfl rfl ?_
    refine sk_iadd d_M_cube_103 ?_
    exact sk_ireturn d_M_cube_104 rfl (Nat.zero_le _) (Nat.zero_le _) h
  · replace h := h.2 hc
    refine sk_iconst (v := 1) d_M_cube_56 (by decide) ?_
    refine sk_iload (j := 4) d_M_cube_57 rfl ?_
    refine sk_ishl d_M_cube_59 ?_
    refine sk_istore d_M_cube_60 (by decide) rfl ?_
    refine sk_aload_n (j := 1) d_M_cube_62 rfl rfl ?_
    refine sk_iload_n (j := 4) d_M_cube_63 rfl rfl ?_
    refine sk_iload (j := 0) d_M_cube_64 rfl ?_
    refine sk_ior d_M_cube_66 ?_
    refine sk_iload_n (j := 3) d_M_cube_67 rfl rfl ?_
    refine sk_iload (j := 0) d_M_cube_68 rfl ?_
    refine sk_iconst (v := (-1)) d_M_cube_70 (by decide) ?_
    refine sk_ixor d_M_cube_71 ?_
    refine sk_iand d_M_cube_72 ?_
    refine sk_iload_n (j := 2) d_M_cube_73 rfl rfl ?_
    refine sk_loc [1, 2, 3, 4, 5, 0] rfl ?_
    exact q_callVi (S := []) (as := [.int (x3 ||| (1 <<< (x4 &&& 31))), .int (x2 &&& ((1 <<< (x4 &&& 31)) ^^^ (-1))), .int x1]) d_M_cube_74 lk_M_132 sh_41 ⟨_, rfl⟩ rfl ⟨by decide, by decide⟩ (Nat.le_of_ble_eq_true rfl) rfl (Nat.zero_le _) (Nat.zero_le _) h
theorem s_M_cube_77 {Γ : sk_T} {mc ms : Nat} {I : sk_I} {J : sk_J} {Q : sk_Q} {x1 : Int32} {x2 : Int32} {x3 : Int32} {x4 : Int32} {x5 : Int32} {u0 : Int32} (h : (u0 = 0 → sk_W Γ m_M_cube mc ms 47 [(0, .ref 41), (1, .int x1), (2, .int x2), (3, .int x3), (4, .int (x4 + 1))] [] sk_gg I J 0 0 Q) ∧ (¬ u0 = 0 → sk_W Γ m_M_cube mc ms 47 [(0, .ref 41), (1, .int x1), (2, .int (x2 &&& (x5 ^^^ (-1)))), (3, .int (x3 ||| x5)), (4, .int (x4 + 1))] [] sk_gg I J 0 0 Q)) : sk_W Γ m_M_cube mc ms 77 [(0, .ref 41), (1, .int x1), (2, .int x2), (3, .int x3), (4, .int x4), (5, .int x5)] [.int u0] sk_gg I J 0 0 Q := by
  refine sk_if_eq (tgt := 92) d_M_cube_77 (by decide) (fun hc => ?_) (fun hc => ?_)
  · replace h := h.1 hc
    refine sk_iinc (j := 4) (v := x4 + 1) d_M_cube_92 rfl (by rfl) (by decide) rfl ?_
    refine sk_goto (tgt := 47) d_M_cube_95 (by decide) ?_
    refine sk_loc [1, 2, 3, 4, 0] rfl ?_
    exact h
  · replace h := h.2 hc
    refine sk_iload_n (j := 3) d_M_cube_80 rfl rfl ?_
    refine sk_iload (j := 5) d_M_cube_81 rfl ?_
    refine sk_ior d_M_cube_83 ?_
    refine sk_istore_n d_M_cube_84 rfl (by decide) rfl ?_
    refine sk_iload_n (j := 3) d_M_cube_85 rfl rfl ?_
    refine sk_iload (j := 5) d_M_cube_86 rfl ?_
    refine sk_iconst (v := (-1)) d_M_cube_88 (by decide) ?_
    refine sk_ixor d_M_cube_89 ?_
    refine sk_iand d_M_cube_90 ?_
    refine sk_istore_n d_M_cube_91 rfl (by decide) rfl ?_
    refine sk_iinc (j := 4) (v := x4 + 1) d_M_cube_92 rfl (by rfl) (by decide) rfl ?_
    refine sk_goto (tgt := 47) d_M_cube_95 (by decide) ?_
    refine sk_loc [3, 4, 1, 2, 0] rfl ?_
    exact h
theorem s_M_tells_0 {Γ : sk_T} {mc ms : Nat} {I : sk_I} {J : sk_J} {Q : sk_Q} {x1 : Int32} {x2 : Int32} {x3 : Int32} (h : sk_S Γ m_M_make 0 0 (.ref 41 :: [.int x1, .int x2, .int (-1)]) sk_gg I J (sk_Kv fun I' J' => sk_W Γ m_M_tells mc ms 7 [(0, .ref 41), (1, .int x1), (2, .int x2), (3, .int x3)] [] sk_gg I' J' 0 0 Q)) : sk_W Γ m_M_tells mc ms 0 [(0, .ref 41), (1, .int x1), (2, .int x2), (3, .int x3)] [] sk_gg I J 0 0 Q := by
  refine sk_aload_n (j := 0) d_M_tells_0 rfl rfl ?_
  refine sk_iload_n (j := 1) d_M_tells_1 rfl rfl ?_
  refine sk_iload_n (j := 2) d_M_tells_2 rfl rfl ?_
  refine sk_iconst (v := (-1)) d_M_tells_3 (by decide) ?_
  exact q_callVv (S := []) (as := [.int x1, .int x2, .int (-1)]) d_M_tells_4 lk_M_112 sh_41 ⟨_, rfl⟩ rfl ⟨by decide, by decide⟩ (Nat.le_of_ble_eq_true rfl) rfl (Nat.zero_le _) (Nat.zero_le _) h
theorem s_M_tells_7 {Γ : sk_T} {mc ms : Nat} {I : sk_I} {J : sk_J} {Q : sk_Q} {x1 : Int32} {x2 : Int32} {x3 : Int32} (h : sk_W Γ m_M_tells mc ms 10 [(0, .ref 41), (1, .int x1), (2, .int x2), (3, .int x3), (4, .int 0)] [] sk_gg I J 0 0 Q) : sk_W Γ m_M_tells mc ms 7 [(0, .ref 41), (1, .int x1), (2, .int x2), (3, .int x3)] [] sk_gg I J 0 0 Q := by
  refine sk_iconst (v := 0) d_M_tells_7 (by decide) ?_
  refine sk_istore d_M_tells_8 (by decide) rfl ?_
  refine sk_loc [1, 2, 3, 4, 0] rfl ?_
  exact h
theorem s_M_tells_10 {Γ : sk_T} {mc ms : Nat} {I : sk_I} {J : sk_J} {Q : sk_Q} {x1 : Int32} {x2 : Int32} {x3 : Int32} {x4 : Int32} (h : ((I 41 12) ≤ x4 → sk_S Γ m_M_make 0 0 (.ref 41 :: [.int x1, .int x2, .int x3]) sk_gg I J (sk_Kv fun I' J' => sk_W Γ m_M_tells mc ms 51 [(0, .ref 41)] [] sk_gg I' J' 0 0 Q)) ∧ (¬ (I 41 12) ≤ x4 → vp_in x4 12 ∧ vp_in (I 50 x4.toNatClampNeg) 26 ∧ vp_in x4 12 ∧ sk_W Γ m_M_tells mc ms 10 [(0, .ref 41), (1, .int x1), (2, .int x2), (3, .int x3), (4, .int (x4 + 1))] [] sk_gg (sk_pi I 54 x4.toNatClampNeg (I 53 (I 50 x4.toNatClampNeg).toNatClampNeg)) J 0 0 Q)) : sk_W Γ m_M_tells mc ms 10 [(0, .ref 41), (1, .int x1), (2, .int x2), (3, .int x3), (4, .int x4)] [] sk_gg I J 0 0 Q := by
  refine sk_iload (j := 4) d_M_tells_10 rfl ?_
  refine sk_aload_n (j := 0) d_M_tells_12 rfl rfl ?_
  refine q_getI d_M_tells_13 fg_M_91 sh_41 ?_
  refine sk_icmp_ge (tgt := 44) d_M_tells_16 (by decide) (fun hc => ?_) (fun hc => ?_)
  · replace h := h.1 hc
    refine sk_aload_n (j := 0) d_M_tells_44 rfl rfl ?_
    refine sk_iload_n (j := 1) d_M_tells_45 rfl rfl ?_
    refine sk_iload_n (j := 2) d_M_tells_46 rfl rfl ?_
    refine sk_iload_n (j := 3) d_M_tells_47 rfl rfl ?_
    refine sk_loc [0] rfl ?_
    exact q_callVv (S := []) (as := [.int x1, .int x2, .int x3]) d_M_tells_48 lk_M_112 sh_41 ⟨_, rfl⟩ rfl ⟨by decide, by decide⟩ (Nat.le_of_ble_eq_true rfl) rfl (Nat.zero_le _) (Nat.zero_le _) h
  · replace h := h.2 hc
    refine sk_aload_n (j := 0) d_M_tells_19 rfl rfl ?_
    refine q_getR d_M_tells_20 fg_M_47 sh_41 rr_41_18 ?_
    refine sk_iload (j := 4) d_M_tells_23 rfl ?_
    refine sk_aload_n (j := 0) d_M_tells_25 rfl rfl ?_
    refine q_getR d_M_tells_26 fg_M_44 sh_41 rr_41_17 ?_
    refine sk_aload_n (j := 0) d_M_tells_29 rfl rfl ?_
    refine q_getR d_M_tells_30 fg_M_35 sh_41 rr_41_13 ?_
    refine sk_iload (j := 4) d_M_tells_33 rfl ?_
    obtain ⟨hb, h⟩ := h
    refine sk_iald d_M_tells_35 sh_50 hb ?_
    obtain ⟨hb, h⟩ := h
    refine sk_iald d_M_tells_36 sh_53 hb ?_
    obtain ⟨hb, h⟩ := h
    refine r_iast d_M_tells_37 sh_54 hb ?_
    refine sk_iinc (j := 4) (v := x4 + 1) d_M_tells_38 rfl (by rfl) (by decide) rfl ?_
    refine sk_goto (tgt := 10) d_M_tells_41 (by decide) ?_
    refine sk_loc [1, 2, 3, 4, 0] rfl ?_
    exact h
theorem s_M_tells_51 {Γ : sk_T} {mc ms : Nat} {I : sk_I} {J : sk_J} {Q : sk_Q}  (h : sk_W Γ m_M_tells mc ms 57 [(0, .ref 41), (4, .int 0), (5, .int 0)] [] sk_gg I J 0 0 Q) : sk_W Γ m_M_tells mc ms 51 [(0, .ref 41)] [] sk_gg I J 0 0 Q := by
  refine sk_iconst (v := 0) d_M_tells_51 (by decide) ?_
  refine sk_istore d_M_tells_52 (by decide) rfl ?_
  refine sk_iconst (v := 0) d_M_tells_54 (by decide) ?_
  refine sk_istore d_M_tells_55 (by decide) rfl ?_
  refine sk_loc [2, 1, 0] rfl ?_
  exact h
theorem s_M_tells_57 {Γ : sk_T} {mc ms : Nat} {I : sk_I} {J : sk_J} {Q : sk_Q} {x4 : Int32} {x5 : Int32} (h : ((I 41 12) ≤ x5 → (x4 = 0 ∨ x4 = 1) ∧ Q (.inl (some (.int x4))) sk_gg I J) ∧ (¬ (I 41 12) ≤ x5 → vp_in x5 12 ∧ vp_in (I 50 x5.toNatClampNeg) 26 ∧ (¬ x4 = 0 → sk_W Γ m_M_tells mc ms 57 [(0, .ref 41), (4, .int 1), (5, .int (x5 + 1))] [] sk_gg I J 0 0 Q) ∧ (x4 = 0 → (2 ≤ (I 53 (I 50 x5.toNatClampNeg).toNatClampNeg) → sk_W Γ m_M_tells mc ms 57 [(0, .ref 41), (4, .int 0), (5, .int (x5 + 1))] [] sk_gg I J 0 0 Q) ∧ (¬ 2 ≤ (I 53 (I 50 x5.toNatClampNeg).toNatClampNeg) → vp_in x5 12 ∧ (¬ (I 54 x5.toNatClampNeg) = (1 - (I 53 (I 50 x5.toNatClampNeg).toNatClampNeg)) → sk_W Γ m_M_tells mc ms 57 [(0, .ref 41), (4, .int 0), (5, .int (x5 + 1))] [] sk_gg I J 0 0 Q) ∧ ((I 54 x5.toNatClampNeg) = (1 - (I 53 (I 50 x5.toNatClampNeg).toNatClampNeg)) → sk_W Γ m_M_tells mc ms 57 [(0, .ref 41), (4, .int 1), (5, .int (x5 + 1))] [] sk_gg I J 0 0 Q))))) : sk_W Γ m_M_tells mc ms 57 [(0, .ref 41), (4, .int x4), (5, .int x5)] [] sk_gg I J 0 0 Q := by
  refine sk_iload (j := 2) d_M_tells_57 rfl ?_
  refine sk_aload_n (j := 0) d_M_tells_59 rfl rfl ?_
  refine q_getI d_M_tells_60 fg_M_91 sh_41 ?_
  refine sk_icmp_ge (tgt := 118) d_M_tells_63 (by decide) (fun hc => ?_) (fun hc => ?_)
  · replace h := h.1 hc
    refine sk_iload (j := 1) d_M_tells_118 rfl ?_
    exact q_zreturn d_M_tells_120 rfl h.1 (Nat.zero_le _) (Nat.zero_le _) h.2
  · replace h := h.2 hc
    refine sk_aload_n (j := 0) d_M_tells_66 rfl rfl ?_
    refine q_getR d_M_tells_67 fg_M_44 sh_41 rr_41_17 ?_
    refine sk_aload_n (j := 0) d_M_tells_70 rfl rfl ?_
    refine q_getR d_M_tells_71 fg_M_35 sh_41 rr_41_13 ?_
    refine sk_iload (j := 2) d_M_tells_74 rfl ?_
    obtain ⟨hb, h⟩ := h
    refine sk_iald d_M_tells_76 sh_50 hb ?_
    obtain ⟨hb, h⟩ := h
    refine sk_iald d_M_tells_77 sh_53 hb ?_
    refine sk_istore d_M_tells_78 (by decide) rfl ?_
    refine sk_iload (j := 2) d_M_tells_80 rfl ?_
    refine sk_if_ne (tgt := 105) d_M_tells_82 (by decide) (fun hc => ?_) (fun hc => ?_)
    · replace h := h.1 hc
      refine sk_iconst (v := 1) d_M_tells_105 (by decide) ?_
      refine sk_goto (tgt := 110) d_M_tells_106 (by decide) ?_
      refine sk_istore d_M_tells_110 (by decide) rfl ?_
      refine sk_iinc (j := 3) (v := x5 + 1) d_M_tells_112 rfl (by rfl) (by decide) rfl ?_
      refine sk_goto (tgt := 57) d_M_tells_115 (by decide) ?_
      refine sk_loc [3, 1, 0] rfl ?_
      exact h
    · replace h := h.2 hc
      refine sk_iload (j := 0) d_M_tells_85 rfl ?_
      refine sk_iconst (v := 2) d_M_tells_87 (by decide) ?_
      refine sk_icmp_ge (tgt := 109) d_M_tells_88 (by decide) (fun hc => ?_) (fun hc => ?_)
      · replace h := h.1 hc
        refine sk_iconst (v := 0) d_M_tells_109 (by decide) ?_
        refine sk_istore d_M_tells_110 (by decide) rfl ?_
        refine sk_iinc (j := 3) (v := x5 + 1) d_M_tells_112 rfl (by rfl) (by decide) rfl ?_
        refine sk_goto (tgt := 57) d_M_tells_115 (by decide) ?_
        refine sk_loc [3, 1, 0] rfl ?_
        exact h
      · replace h := h.2 hc
        refine sk_aload_n (j := 1) d_M_tells_91 rfl rfl ?_
        refine q_getR d_M_tells_92 fg_M_47 sh_41 rr_41_18 ?_
        refine sk_iload (j := 3) d_M_tells_95 rfl ?_
        obtain ⟨hb, h⟩ := h
        refine sk_iald d_M_tells_97 sh_54 hb ?_
        refine sk_iconst (v := 1) d_M_tells_98 (by decide) ?_
        refine sk_iload (j := 0) d_M_tells_99 rfl ?_
        refine sk_isub d_M_tells_101 ?_
        refine sk_icmp_ne (tgt := 109) d_M_tells_102 (by decide) (fun hc => ?_) (fun hc => ?_)
        · replace h := h.1 hc
          refine sk_iconst (v := 0) d_M_tells_109 (by decide) ?_
          refine sk_istore d_M_tells_110 (by decide) rfl ?_
          refine sk_iinc (j := 3) (v := x5 + 1) d_M_tells_112 rfl (by rfl) (by decide) rfl ?_
          refine sk_goto (tgt := 57) d_M_tells_115 (by decide) ?_
          refine sk_loc [3, 1, 0] rfl ?_
          exact h
        · replace h := h.2 hc
          refine sk_iconst (v := 1) d_M_tells_105 (by decide) ?_
          refine sk_goto (tgt := 110) d_M_tells_106 (by decide) ?_
          refine sk_istore d_M_tells_110 (by decide) rfl ?_
          refine sk_iinc (j := 3) (v := x5 + 1) d_M_tells_112 rfl (by rfl) (by decide) rfl ?_
          refine sk_goto (tgt := 57) d_M_tells_115 (by decide) ?_
          refine sk_loc [3, 1, 0] rfl ?_
          exact h
theorem s_M_packed_0 {Γ : sk_T} {mc ms : Nat} {I : sk_I} {J : sk_J} {Q : sk_Q} {x1 : Int32} (h : sk_S Γ m_M_pack 0 0 (.ref 41 :: []) sk_gg (sk_pi I 41 0 0) J (sk_Kv fun I' J' => sk_W Γ m_M_packed mc ms 9 [(0, .ref 41), (1, .int x1)] [] sk_gg I' J' 0 0 Q)) : sk_W Γ m_M_packed mc ms 0 [(0, .ref 41), (1, .int x1)] [] sk_gg I J 0 0 Q := by
  refine sk_aload_n (j := 0) d_M_packed_0 rfl rfl ?_
  refine sk_iconst (v := 0) d_M_packed_1 (by decide) ?_
  refine r_putI d_M_packed_2 fp_M_68 sh_41 ?_
  refine sk_aload_n (j := 0) d_M_packed_5 rfl rfl ?_
  exact q_callVv (S := []) (as := []) d_M_packed_6 lk_M_143 sh_41 ⟨_, rfl⟩ rfl ⟨by decide, by decide⟩ (Nat.le_of_ble_eq_true rfl) rfl (Nat.zero_le _) (Nat.zero_le _) h
theorem s_M_packed_9 {Γ : sk_T} {mc ms : Nat} {I : sk_I} {J : sk_J} {Q : sk_Q} {x1 : Int32} (h : sk_W Γ m_M_packed mc ms 13 [(0, .ref 41), (1, .int x1), (2, .int 0), (3, .int 0)] [] sk_gg I J 0 0 Q) : sk_W Γ m_M_packed mc ms 9 [(0, .ref 41), (1, .int x1)] [] sk_gg I J 0 0 Q := by
  refine sk_iconst (v := 0) d_M_packed_9 (by decide) ?_
  refine sk_istore_n d_M_packed_10 rfl (by decide) rfl ?_
  refine sk_iconst (v := 0) d_M_packed_11 (by decide) ?_
  refine sk_istore_n d_M_packed_12 rfl (by decide) rfl ?_
  refine sk_loc [2, 3, 1, 0] rfl ?_
  exact h
theorem s_M_packed_13 {Γ : sk_T} {mc ms : Nat} {I : sk_I} {J : sk_J} {Q : sk_Q} {x1 : Int32} {x2 : Int32} {x3 : Int32} (h : ((I 41 23) ≤ x3 → Q (.inl (some (.int (-1)))) sk_gg I J) ∧ (¬ (I 41 23) ≤ x3 → vp_in x3 64 ∧ (¬ (I 58 x3.toNatClampNeg) = 0 → sk_W Γ m_M_packed mc ms 13 [(0, .ref 41), (1, .int x1), (2, .int x2), (3, .int (x3 + 1))] [] sk_gg I J 0 0 Q) ∧ ((I 58 x3.toNatClampNeg) = 0 → (¬ x2 = x1 → sk_W Γ m_M_packed mc ms 13 [(0, .ref 41), (1, .int x1), (2, .int (x2 + 1)), (3, .int (x3 + 1))] [] sk_gg I J 0 0 Q) ∧ (x2 = x1 → vp_in x3 64 ∧ Q (.inl (some (.int (I 57 x3.toNatClampNeg)))) sk_gg I J)))) : sk_W Γ m_M_packed mc ms 13 [(0, .ref 41), (1, .int x1), (2, .int x2), (3, .int x3)] [] sk_gg I J 0 0 Q := by
  refine sk_iload_n (j := 3) d_M_packed_13 rfl rfl ?_
  refine sk_aload_n (j := 0) d_M_packed_14 rfl rfl ?_
  refine q_getI d_M_packed_15 fg_M_136 sh_41 ?_
  refine sk_icmp_ge (tgt := 51) d_M_packed_18 (by decide) (fun hc => ?_) (fun hc => ?_)
  · replace h := h.1 hc
    refine sk_iconst (v := (-1)) d_M_packed_51 (by decide) ?_
    exact sk_ireturn d_M_packed_52 rfl (Nat.zero_le _) (Nat.zero_le _) h
  · replace h := h.2 hc
    refine sk_aload_n (j := 0) d_M_packed_21 rfl rfl ?_
    refine q_getR d_M_packed_22 fg_M_59 sh_41 rr_41_25 ?_
    refine sk_iload_n (j := 3) d_M_packed_25 rfl rfl ?_
    obtain ⟨hb, h⟩ := h
    refine sk_zald d_M_packed_26 sh_58 hb ?_
    refine sk_if_ne (tgt := 45) d_M_packed_27 (by decide) (fun hc => ?_) (fun hc => ?_)
    · replace h := h.1 hc
      refine sk_iinc (j := 3) (v := x3 + 1) d_M_packed_45 rfl (by rfl) (by decide) rfl ?_
      refine sk_goto (tgt := 13) d_M_packed_48 (by decide) ?_
      refine sk_loc [1, 2, 3, 0] rfl ?_
      exact h
    · replace h := h.2 hc
      refine sk_iload_n (j := 2) d_M_packed_30 rfl rfl ?_
      refine sk_iload_n (j := 1) d_M_packed_31 rfl rfl ?_
      refine sk_icmp_ne (tgt := 42) d_M_packed_32 (by decide) (fun hc => ?_) (fun hc => ?_)
      · replace h := h.1 hc
        refine sk_iinc (j := 2) (v := x2 + 1) d_M_packed_42 rfl (by rfl) (by decide) rfl ?_
        refine sk_iinc (j := 3) (v := x3 + 1) d_M_packed_45 rfl (by rfl) (by decide) rfl ?_
        refine sk_goto (tgt := 13) d_M_packed_48 (by decide) ?_
        refine sk_loc [2, 3, 1, 0] rfl ?_
        exact h
      · replace h := h.2 hc
        refine sk_aload_n (j := 0) d_M_packed_35 rfl rfl ?_
        refine q_getR d_M_packed_36 fg_M_56 sh_41 rr_41_24 ?_
        refine sk_iload_n (j := 3) d_M_packed_39 rfl rfl ?_
        obtain ⟨hb, h⟩ := h
        refine sk_iald d_M_packed_40 sh_57 hb ?_
        exact sk_ireturn d_M_packed_41 rfl (Nat.zero_le _) (Nat.zero_le _) h
theorem s_M_pack_0 {Γ : sk_T} {mc ms : Nat} {I : sk_I} {J : sk_J} {Q : sk_Q}  (h : ((I 41 22) = 0 → sk_S Γ m_M_learn 0 0 (.ref 41 :: []) sk_gg (sk_pi I 41 22 1) J (sk_Kv fun I' J' => sk_W Γ m_M_pack mc ms 17 [(0, .ref 41)] [] sk_gg I' J' 0 0 Q)) ∧ (¬ (I 41 22) = 0 → Q (.inl none) sk_gg I J)) : sk_W Γ m_M_pack mc ms 0 [(0, .ref 41)] [] sk_gg I J 0 0 Q := by
  refine sk_aload_n (j := 0) d_M_pack_0 rfl rfl ?_
  refine q_getI d_M_pack_1 fg_M_85 sh_41 ?_
  refine sk_if_eq (tgt := 8) d_M_pack_4 (by decide) (fun hc => ?_) (fun hc => ?_)
  · replace h := h.1 hc
    refine sk_aload_n (j := 0) d_M_pack_8 rfl rfl ?_
    refine sk_iconst (v := 1) d_M_pack_9 (by decide) ?_
    refine r_putZ d_M_pack_10 fp_M_85 sh_41 (by decide) ?_
    refine sk_aload_n (j := 0) d_M_pack_13 rfl rfl ?_
    exact q_callVv (S := []) (as := []) d_M_pack_14 lk_M_119 sh_41 ⟨_, rfl⟩ rfl ⟨by decide, by decide⟩ (Nat.le_of_ble_eq_true rfl) rfl (Nat.zero_le _) (Nat.zero_le _) h
  · replace h := h.2 hc
    exact sk_vreturn d_M_pack_7 rfl (Nat.zero_le _) (Nat.zero_le _) h
theorem s_M_pack_17 {Γ : sk_T} {mc ms : Nat} {I : sk_I} {J : sk_J} {Q : sk_Q}  (h : sk_W Γ m_M_pack mc ms 24 [(0, .ref 41), (1, .int 0)] [] sk_gg (sk_pi I 41 23 0) J 0 0 Q) : sk_W Γ m_M_pack mc ms 17 [(0, .ref 41)] [] sk_gg I J 0 0 Q := by
  refine sk_aload_n (j := 0) d_M_pack_17 rfl rfl ?_
  refine sk_iconst (v := 0) d_M_pack_18 (by decide) ?_
  refine r_putI d_M_pack_19 fp_M_136 sh_41 ?_
  refine sk_iconst (v := 0) d_M_pack_22 (by decide) ?_
  refine sk_istore_n d_M_pack_23 rfl (by decide) rfl ?_
  refine sk_loc [1, 0] rfl ?_
  exact h
theorem s_M_pack_24 {Γ : sk_T} {mc ms : Nat} {I : sk_I} {J : sk_J} {Q : sk_Q} {x1 : Int32} (h : ((2 * (I 41 14)) ≤ x1 → sk_W Γ m_M_pack mc ms 96 [(0, .ref 41), (1, .int ((I 41 23) - 1))] [] sk_gg I J 0 0 Q) ∧ (¬ (2 * (I 41 14)) ≤ x1 → sk_S Γ m_M_leastOf 0 0 (.ref 41 :: [.int x1]) sk_gg I J (sk_Ki fun v' I' J' => sk_W Γ m_M_pack mc ms 39 [(0, .ref 41), (1, .int x1)] [.int v'] sk_gg I' J' 0 0 Q))) : sk_W Γ m_M_pack mc ms 24 [(0, .ref 41), (1, .int x1)] [] sk_gg I J 0 0 Q := by
  refine sk_iload_n (j := 1) d_M_pack_24 rfl rfl ?_
  refine sk_iconst (v := 2) d_M_pack_25 (by decide) ?_
  refine sk_aload_n (j := 0) d_M_pack_26 rfl rfl ?_
  refine q_getI d_M_pack_27 fg_M_78 sh_41 ?_
  refine sk_imul d_M_pack_30 ?_
  refine sk_icmp_ge (tgt := 89) d_M_pack_31 (by decide) (fun hc => ?_) (fun hc => ?_)
  · replace h := h.1 hc
    refine sk_aload_n (j := 0) d_M_pack_89 rfl rfl ?_
    refine q_getI d_M_pack_90 fg_M_136 sh_41 ?_
    refine sk_iconst (v := 1) d_M_pack_93 (by decide) ?_
    refine sk_isub d_M_pack_94 ?_
    refine sk_istore_n d_M_pack_95 rfl (by decide) rfl ?_
    refine sk_loc [1, 0] rfl ?_
    exact h
  · replace h := h.2 hc
    refine sk_aload_n (j := 0) d_M_pack_34 rfl rfl ?_
    refine sk_iload_n (j := 1) d_M_pack_35 rfl rfl ?_
    exact q_callVi (S := []) (as := [.int x1]) d_M_pack_36 lk_M_122 sh_41 ⟨_, rfl⟩ rfl ⟨by decide, by decide⟩ (Nat.le_of_ble_eq_true rfl) rfl (Nat.zero_le _) (Nat.zero_le _) h
theorem s_M_pack_39 {Γ : sk_T} {mc ms : Nat} {I : sk_I} {J : sk_J} {Q : sk_Q} {x1 : Int32} {u0 : Int32} (h : (u0 < 0 → sk_W Γ m_M_pack mc ms 24 [(0, .ref 41), (1, .int (x1 + 1))] [] sk_gg I J 0 0 Q) ∧ (¬ u0 < 0 → sk_S Γ m_M_covered 0 0 (.ref 41 :: [.int x1, .int (-1)]) sk_gg I J (sk_Ki fun v' I' J' => sk_W Γ m_M_pack mc ms 50 [(0, .ref 41), (1, .int x1), (2, .int u0)] [.int v'] sk_gg I' J' 0 0 Q))) : sk_W Γ m_M_pack mc ms 39 [(0, .ref 41), (1, .int x1)] [.int u0] sk_gg I J 0 0 Q := by
  refine sk_istore_n d_M_pack_39 rfl (by decide) rfl ?_
  refine sk_iload_n (j := 0) d_M_pack_40 rfl rfl ?_
  refine sk_if_lt (tgt := 83) d_M_pack_41 (by decide) (fun hc => ?_) (fun hc => ?_)
  · replace h := h.1 hc
    refine sk_iinc (j := 2) (v := x1 + 1) d_M_pack_83 rfl (by rfl) (by decide) rfl ?_
    refine sk_goto (tgt := 24) d_M_pack_86 (by decide) ?_
    refine sk_loc [2, 0] rfl ?_
    exact h
  · replace h := h.2 hc
    refine sk_aload_n (j := 1) d_M_pack_44 rfl rfl ?_
    refine sk_iload_n (j := 2) d_M_pack_45 rfl rfl ?_
    refine sk_iconst (v := (-1)) d_M_pack_46 (by decide) ?_
    refine sk_loc [1, 2, 0] rfl ?_
    exact q_callVi (S := []) (as := [.int x1, .int (-1)]) d_M_pack_47 lk_M_139 sh_41 ⟨_, rfl⟩ rfl ⟨by decide, by decide⟩ (Nat.le_of_ble_eq_true rfl) rfl (Nat.zero_le _) (Nat.zero_le _) h
theorem s_M_pack_50 {Γ : sk_T} {mc ms : Nat} {I : sk_I} {J : sk_J} {Q : sk_Q} {x1 : Int32} {x2 : Int32} {u0 : Int32} (h : (¬ u0 = 0 → sk_W Γ m_M_pack mc ms 24 [(0, .ref 41), (1, .int (x1 + 1))] [] sk_gg I J 0 0 Q) ∧ (u0 = 0 → vp_in (I 41 23) 64 ∧ vp_in (I 41 23) 64 ∧ sk_W Γ m_M_pack mc ms 24 [(0, .ref 41), (1, .int (x1 + 1))] [] sk_gg (sk_pi (sk_pi (sk_pi I 57 (I 41 23).toNatClampNeg x2) 58 (I 41 23).toNatClampNeg 0) 41 23 ((I 41 23) + 1)) J 0 0 Q)) : sk_W Γ m_M_pack mc ms 50 [(0, .ref 41), (1, .int x1), (2, .int x2)] [.int u0] sk_gg I J 0 0 Q := by
  refine sk_if_ne (tgt := 83) d_M_pack_50 (by decide) (fun hc => ?_) (fun hc => ?_)
  · replace h := h.1 hc
    refine sk_iinc (j := 1) (v := x1 + 1) d_M_pack_83 rfl (by rfl) (by decide) rfl ?_
    refine sk_goto (tgt := 24) d_M_pack_86 (by decide) ?_
    refine sk_loc [1, 0] rfl ?_
    exact h
  · replace h := h.2 hc
    refine sk_aload_n (j := 0) d_M_pack_53 rfl rfl ?_
    refine q_getR d_M_pack_54 fg_M_56 sh_41 rr_41_24 ?_
    refine sk_aload_n (j := 0) d_M_pack_57 rfl rfl ?_
    refine q_getI d_M_pack_58 fg_M_136 sh_41 ?_
    refine sk_iload_n (j := 2) d_M_pack_61 rfl rfl ?_
    obtain ⟨hb, h⟩ := h
    refine r_iast d_M_pack_62 sh_57 hb ?_
    refine sk_aload_n (j := 0) d_M_pack_63 rfl rfl ?_
    refine q_getR d_M_pack_64 fg_M_59 sh_41 rr_41_25 ?_
    refine sk_aload_n (j := 0) d_M_pack_67 rfl rfl ?_
    refine q_getI d_M_pack_68 fg_M_136 sh_41 ?_
    refine q_cvi (y := I 41 23) rfl ?_
    refine sk_iconst (v := 0) d_M_pack_71 (by decide) ?_
    obtain ⟨hb, h⟩ := h
    refine r_zast d_M_pack_72 sh_58 hb (by decide) ?_
    refine sk_aload_n (j := 0) d_M_pack_73 rfl rfl ?_
    refine sk_dup d_M_pack_74 rfl ?_
    refine q_getI d_M_pack_75 fg_M_136 sh_41 ?_
    refine q_cvi (y := I 41 23) rfl ?_
    refine sk_iconst (v := 1) d_M_pack_78 (by decide) ?_
    refine sk_iadd d_M_pack_79 ?_
    refine r_putI d_M_pack_80 fp_M_136 sh_41 ?_
    refine sk_iinc (j := 1) (v := x1 + 1) d_M_pack_83 rfl (by rfl) (by decide) rfl ?_
    refine sk_goto (tgt := 24) d_M_pack_86 (by decide) ?_
    refine sk_loc [1, 0] rfl ?_
    exact h
theorem s_M_pack_96 {Γ : sk_T} {mc ms : Nat} {I : sk_I} {J : sk_J} {Q : sk_Q} {x1 : Int32} (h : (x1 < 0 → Q (.inl none) sk_gg I J) ∧ (¬ x1 < 0 → sk_W Γ m_M_pack mc ms 104 [(0, .ref 41), (1, .int x1), (2, .int 1), (3, .int 0)] [] sk_gg I J 0 0 Q)) : sk_W Γ m_M_pack mc ms 96 [(0, .ref 41), (1, .int x1)] [] sk_gg I J 0 0 Q := by
  refine sk_iload_n (j := 1) d_M_pack_96 rfl rfl ?_
  refine sk_if_lt (tgt := 160) d_M_pack_97 (by decide) (fun hc => ?_) (fun hc => ?_)
  · replace h := h.1 hc
    exact sk_vreturn d_M_pack_160 rfl (Nat.zero_le _) (Nat.zero_le _) h
  · replace h := h.2 hc
    refine sk_iconst (v := 1) d_M_pack_100 (by decide) ?_
    refine sk_istore_n d_M_pack_101 rfl (by decide) rfl ?_
    refine sk_iconst (v := 0) d_M_pack_102 (by decide) ?_
    refine sk_istore_n d_M_pack_103 rfl (by decide) rfl ?_
    refine sk_loc [2, 3, 1, 0] rfl ?_
    exact h
theorem s_M_pack_104 {Γ : sk_T} {mc ms : Nat} {I : sk_I} {J : sk_J} {Q : sk_Q} {x1 : Int32} {x2 : Int32} {x3 : Int32} (h : ((2 * (I 41 14)) ≤ x3 → vp_in x1 64 ∧ (x2 = 0 ∨ x2 = 1) ∧ sk_W Γ m_M_pack mc ms 96 [(0, .ref 41), (1, .int (x1 + (-1)))] [] sk_gg (sk_pi I 58 x1.toNatClampNeg x2) J 0 0 Q) ∧ (¬ (2 * (I 41 14)) ≤ x3 → (x2 = 0 → sk_W Γ m_M_pack mc ms 104 [(0, .ref 41), (1, .int x1), (2, .int 0), (3, .int (x3 + 1))] [] sk_gg I J 0 0 Q) ∧ (¬ x2 = 0 → sk_S Γ m_M_leastOf 0 0 (.ref 41 :: [.int x3]) sk_gg I J (sk_Ki fun v' I' J' => sk_W Γ m_M_pack mc ms 123 [(0, .ref 41), (1, .int x1), (3, .int x3)] [.int v'] sk_gg I' J' 0 0 Q)))) : sk_W Γ m_M_pack mc ms 104 [(0, .ref 41), (1, .int x1), (2, .int x2), (3, .int x3)] [] sk_gg I J 0 0 Q := by
  refine sk_iload_n (j := 3) d_M_pack_104 rfl rfl ?_
  refine sk_iconst (v := 2) d_M_pack_105 (by decide) ?_
  refine sk_aload_n (j := 0) d_M_pack_106 rfl rfl ?_
  refine q_getI d_M_pack_107 fg_M_78 sh_41 ?_
  refine sk_imul d_M_pack_110 ?_
  refine sk_icmp_ge (tgt := 147) d_M_pack_111 (by decide) (fun hc => ?_) (fun hc => ?_)
  · replace h := h.1 hc
    refine sk_aload_n (j := 0) d_M_pack_147 rfl rfl ?_
    refine q_getR d_M_pack_148 fg_M_59 sh_41 rr_41_25 ?_
    refine sk_iload_n (j := 1) d_M_pack_151 rfl rfl ?_
    refine sk_iload_n (j := 2) d_M_pack_152 rfl rfl ?_
    obtain ⟨hb, hz, h⟩ := h
    refine r_zast d_M_pack_153 sh_58 hb hz ?_
    refine sk_iinc (j := 1) (v := x1 + (-1)) d_M_pack_154 rfl (by rfl) (by decide) rfl ?_
    refine sk_goto (tgt := 96) d_M_pack_157 (by decide) ?_
    refine sk_loc [1, 0] rfl ?_
    exact h
  · replace h := h.2 hc
    refine sk_iload_n (j := 2) d_M_pack_114 rfl rfl ?_
    refine sk_if_eq (tgt := 139) d_M_pack_115 (by decide) (fun hc => ?_) (fun hc => ?_)
    · replace h := h.1 hc
      refine sk_iconst (v := 0) d_M_pack_139 (by decide) ?_
      refine sk_istore_n d_M_pack_140 rfl (by decide) rfl ?_
      refine sk_iinc (j := 3) (v := x3 + 1) d_M_pack_141 rfl (by rfl) (by decide) rfl ?_
      refine sk_goto (tgt := 104) d_M_pack_144 (by decide) ?_
      refine sk_loc [2, 3, 1, 0] rfl ?_
      exact h
    · replace h := h.2 hc
      refine sk_aload_n (j := 0) d_M_pack_118 rfl rfl ?_
      refine sk_iload_n (j := 3) d_M_pack_119 rfl rfl ?_
      refine sk_loc [0, 1, 3] rfl ?_
      exact q_callVi (S := []) (as := [.int x3]) d_M_pack_120 lk_M_122 sh_41 ⟨_, rfl⟩ rfl ⟨by decide, by decide⟩ (Nat.le_of_ble_eq_true rfl) rfl (Nat.zero_le _) (Nat.zero_le _) h
theorem s_M_pack_123 {Γ : sk_T} {mc ms : Nat} {I : sk_I} {J : sk_J} {Q : sk_Q} {x1 : Int32} {x3 : Int32} {u0 : Int32} (h : (u0 < 0 → sk_W Γ m_M_pack mc ms 104 [(0, .ref 41), (1, .int x1), (2, .int 1), (3, .int (x3 + 1))] [] sk_gg I J 0 0 Q) ∧ (¬ u0 < 0 → sk_S Γ m_M_covered 0 0 (.ref 41 :: [.int x3, .int x1]) sk_gg I J (sk_Ki fun v' I' J' => sk_W Γ m_M_pack mc ms 132 [(0, .ref 41), (1, .int x1), (3, .int x3)] [.int v'] sk_gg I' J' 0 0 Q))) : sk_W Γ m_M_pack mc ms 123 [(0, .ref 41), (1, .int x1), (3, .int x3)] [.int u0] sk_gg I J 0 0 Q := by
  refine sk_if_lt (tgt := 135) d_M_pack_123 (by decide) (fun hc => ?_) (fun hc => ?_)
  · replace h := h.1 hc
    refine sk_iconst (v := 1) d_M_pack_135 (by decide) ?_
    refine sk_goto (tgt := 140) d_M_pack_136 (by decide) ?_
    refine sk_istore_n d_M_pack_140 rfl (by decide) rfl ?_
    refine sk_iinc (j := 3) (v := x3 + 1) d_M_pack_141 rfl (by rfl) (by decide) rfl ?_
    refine sk_goto (tgt := 104) d_M_pack_144 (by decide) ?_
    refine sk_loc [2, 3, 1, 0] rfl ?_
    exact h
  · replace h := h.2 hc
    refine sk_aload_n (j := 0) d_M_pack_126 rfl rfl ?_
    refine sk_iload_n (j := 2) d_M_pack_127 rfl rfl ?_
    refine sk_iload_n (j := 1) d_M_pack_128 rfl rfl ?_
    exact q_callVi (S := []) (as := [.int x3, .int x1]) d_M_pack_129 lk_M_139 sh_41 ⟨_, rfl⟩ rfl ⟨by decide, by decide⟩ (Nat.le_of_ble_eq_true rfl) rfl (Nat.zero_le _) (Nat.zero_le _) h
theorem s_M_pack_132 {Γ : sk_T} {mc ms : Nat} {I : sk_I} {J : sk_J} {Q : sk_Q} {x1 : Int32} {x3 : Int32} {u0 : Int32} (h : (u0 = 0 → sk_W Γ m_M_pack mc ms 104 [(0, .ref 41), (1, .int x1), (2, .int 0), (3, .int (x3 + 1))] [] sk_gg I J 0 0 Q) ∧ (¬ u0 = 0 → sk_W Γ m_M_pack mc ms 104 [(0, .ref 41), (1, .int x1), (2, .int 1), (3, .int (x3 + 1))] [] sk_gg I J 0 0 Q)) : sk_W Γ m_M_pack mc ms 132 [(0, .ref 41), (1, .int x1), (3, .int x3)] [.int u0] sk_gg I J 0 0 Q := by
  refine sk_if_eq (tgt := 139) d_M_pack_132 (by decide) (fun hc => ?_) (fun hc => ?_)
  · replace h := h.1 hc
    refine sk_iconst (v := 0) d_M_pack_139 (by decide) ?_
    refine sk_istore_n d_M_pack_140 rfl (by decide) rfl ?_
    refine sk_iinc (j := 3) (v := x3 + 1) d_M_pack_141 rfl (by rfl) (by decide) rfl ?_
    refine sk_goto (tgt := 104) d_M_pack_144 (by decide) ?_
    refine sk_loc [2, 3, 1, 0] rfl ?_
    exact h
  · replace h := h.2 hc
    refine sk_iconst (v := 1) d_M_pack_135 (by decide) ?_
    refine sk_goto (tgt := 140) d_M_pack_136 (by decide) ?_
    refine sk_istore_n d_M_pack_140 rfl (by decide) rfl ?_
    refine sk_iinc (j := 3) (v := x3 + 1) d_M_pack_141 rfl (by rfl) (by decide) rfl ?_
    refine sk_goto (tgt := 104) d_M_pack_144 (by decide) ?_
    refine sk_loc [2, 3, 1, 0] rfl ?_
    exact h
theorem s_M_covered_0 {Γ : sk_T} {mc ms : Nat} {I : sk_I} {J : sk_J} {Q : sk_Q} {x1 : Int32} {x2 : Int32} (h : sk_W Γ m_M_covered mc ms 5 [(0, .ref 41), (1, .int x1), (2, .int x2), (3, .int 0), (4, .int 0)] [] sk_gg I J 0 0 Q) : sk_W Γ m_M_covered mc ms 0 [(0, .ref 41), (1, .int x1), (2, .int x2)] [] sk_gg I J 0 0 Q := by
  refine sk_iconst (v := 0) d_M_covered_0 (by decide) ?_
  refine sk_istore_n d_M_covered_1 rfl (by decide) rfl ?_
  refine sk_iconst (v := 0) d_M_covered_2 (by decide) ?_
  refine sk_istore d_M_covered_3 (by decide) rfl ?_
  refine sk_loc [2, 3, 4, 1, 0] rfl ?_
  exact h
theorem s_M_covered_5 {Γ : sk_T} {mc ms : Nat} {I : sk_I} {J : sk_J} {Q : sk_Q} {x1 : Int32} {x2 : Int32} {x3 : Int32} {x4 : Int32} (h : ((I 41 23) ≤ x4 → (x3 = 0 ∨ x3 = 1) ∧ Q (.inl (some (.int x3))) sk_gg I J) ∧ (¬ (I 41 23) ≤ x4 → (¬ x3 = 0 → sk_W Γ m_M_covered mc ms 5 [(0, .ref 41), (1, .int x1), (2, .int x2), (3, .int 1), (4, .int (x4 + 1))] [] sk_gg I J 0 0 Q) ∧ (x3 = 0 → (x4 = x2 → sk_W Γ m_M_covered mc ms 5 [(0, .ref 41), (1, .int x1), (2, .int x2), (3, .int 0), (4, .int (x4 + 1))] [] sk_gg I J 0 0 Q) ∧ (¬ x4 = x2 → vp_in x4 64 ∧ (¬ (I 58 x4.toNatClampNeg) = 0 → sk_W Γ m_M_covered mc ms 5 [(0, .ref 41), (1, .int x1), (2, .int x2), (3, .int 0), (4, .int (x4 + 1))] [] sk_gg I J 0 0 Q) ∧ ((I 58 x4.toNatClampNeg) = 0 → vp_in x4 64 ∧ vp_in ((64 * x1) + (I 57 x4.toNatClampNeg)) 13312 ∧ vp_in x4 64 ∧ vp_in (I 57 x4.toNatClampNeg) 64 ∧ ((I 55 ((64 * x1) + (I 57 x4.toNatClampNeg)).toNatClampNeg) = (I 56 (I 57 x4.toNatClampNeg).toNatClampNeg) → sk_W Γ m_M_covered mc ms 5 [(0, .ref 41), (1, .int x1), (2, .int x2), (3, .int 0), (4, .int (x4 + 1))] [] sk_gg I J 0 0 Q) ∧ (¬ (I 55 ((64 * x1) + (I 57 x4.toNatClampNeg)).toNatClampNeg) = (I 56 (I 57 x4.toNatClampNeg).toNatClampNeg) → sk_W Γ m_M_covered mc ms 5 [(0, .ref 41), (1, .int x1), (2, .int x2), (3, .int 1), (4, .int (x4 + 1))] [] sk_gg I J 0 0 Q)))))) : sk_W Γ m_M_covered mc ms 5 [(0, .ref 41), (1, .int x1), (2, .int x2), (3, .int x3), (4, .int x4)] [] sk_gg I J 0 0 Q := by
  refine sk_iload (j := 4) d_M_covered_5 rfl ?_
  refine sk_aload_n (j := 0) d_M_covered_7 rfl rfl ?_
  refine q_getI d_M_covered_8 fg_M_136 sh_41 ?_
  refine sk_icmp_ge (tgt := 78) d_M_covered_11 (by decide) (fun hc => ?_) (fun hc => ?_)
  · replace h := h.1 hc
    refine sk_iload_n (j := 3) d_M_covered_78 rfl rfl ?_
    exact q_zreturn d_M_covered_79 rfl h.1 (Nat.zero_le _) (Nat.zero_le _) h.2
  · replace h := h.2 hc
    refine sk_iload_n (j := 3) d_M_covered_14 rfl rfl ?_
    refine sk_if_ne (tgt := 66) d_M_covered_15 (by decide) (fun hc => ?_) (fun hc => ?_)
    · replace h := h.1 hc
      refine sk_iconst (v := 1) d_M_covered_66 (by decide) ?_
      refine sk_goto (tgt := 71) d_M_covered_67 (by decide) ?_
      refine sk_istore_n d_M_covered_71 rfl (by decide) rfl ?_
      refine sk_iinc (j := 4) (v := x4 + 1) d_M_covered_72 rfl (by rfl) (by decide) rfl ?_
      refine sk_goto (tgt := 5) d_M_covered_75 (by decide) ?_
      refine sk_loc [2, 3, 4, 1, 0] rfl ?_
      exact h
    · replace h := h.2 hc
      refine sk_iload (j := 4) d_M_covered_18 rfl ?_
      refine sk_iload_n (j := 2) d_M_covered_20 rfl rfl ?_
      refine sk_icmp_eq (tgt := 70) d_M_covered_21 (by decide) (fun hc => ?_) (fun hc => ?_)
      · replace h := h.1 hc
        refine sk_iconst (v := 0) d_M_covered_70 (by decide) ?_
        refine sk_istore_n d_M_covered_71 rfl (by decide) rfl ?_
        refine sk_iinc (j := 4) (v := x4 + 1) d_M_covered_72 rfl (by rfl) (by decide) rfl ?_
        refine sk_goto (tgt := 5) d_M_covered_75 (by decide) ?_
        refine sk_loc [2, 3, 4, 1, 0] rfl ?_
        exact h
      · replace h := h.2 hc
        refine sk_aload_n (j := 0) d_M_covered_24 rfl rfl ?_
        refine q_getR d_M_covered_25 fg_M_59 sh_41 rr_41_25 ?_
        refine sk_iload (j := 4) d_M_covered_28 rfl ?_
        obtain ⟨hb, h⟩ := h
        refine sk_zald d_M_covered_30 sh_58 hb ?_
        refine sk_if_ne (tgt := 70) d_M_covered_31 (by decide) (fun hc => ?_) (fun hc => ?_)
        · replace h := h.1 hc
          refine sk_iconst (v := 0) d_M_covered_70 (by decide) ?_
          refine sk_istore_n d_M_covered_71 rfl (by decide) rfl ?_
          refine sk_iinc (j := 4) (v := x4 + 1) d_M_covered_72 rfl (by rfl) (by decide) rfl ?_
          refine sk_goto (tgt := 5) d_M_covered_75 (by decide) ?_
          refine sk_loc [2, 3, 4, 1, 0] rfl ?_
          exact h
        · replace h := h.2 hc
          refine sk_aload_n (j := 0) d_M_covered_34 rfl rfl ?_
          refine q_getR d_M_covered_35 fg_M_50 sh_41 rr_41_20 ?_
          refine sk_bipush (v := 64) d_M_covered_38 (by decide) ?_
          refine sk_iload_n (j := 1) d_M_covered_40 rfl rfl ?_
          refine sk_imul d_M_covered_41 ?_
          refine sk_aload_n (j := 0) d_M_covered_42 rfl rfl ?_
          refine q_getR d_M_covered_43 fg_M_56 sh_41 rr_41_24 ?_
          refine sk_iload (j := 4) d_M_covered_46 rfl ?_
          obtain ⟨hb, h⟩ := h
          refine sk_iald d_M_covered_48 sh_57 hb ?_
          refine sk_iadd d_M_covered_49 ?_
          obtain ⟨hb, h⟩ := h
          refine sk_iald d_M_covered_50 sh_55 hb ?_
          refine sk_aload_n (j := 0) d_M_covered_51 rfl rfl ?_
          refine q_getR d_M_covered_52 fg_M_53 sh_41 rr_41_21 ?_
          refine sk_aload_n (j := 0) d_M_covered_55 rfl rfl ?_
          refine q_getR d_M_covered_56 fg_M_56 sh_41 rr_41_24 ?_
          refine sk_iload (j := 4) d_M_covered_59 rfl ?_
          obtain ⟨hb, h⟩ := h
          refine sk_iald d_M_covered_61 sh_57 hb ?_
          obtain ⟨hb, h⟩ := h
          refine sk_iald d_M_covered_62 sh_56 hb ?_
          refine sk_icmp_eq (tgt := 70) d_M_covered_63 (by decide) (fun hc => ?_) (fun hc => ?_)
          · replace h := h.1 hc
            refine sk_iconst (v := 0) d_M_covered_70 (by decide) ?_
            refine sk_istore_n d_M_covered_71 rfl (by decide) rfl ?_
            refine sk_iinc (j := 4) (v := x4 + 1) d_M_covered_72 rfl (by rfl) (by decide) rfl ?_
            refine sk_goto (tgt := 5) d_M_covered_75 (by decide) ?_
            refine sk_loc [2, 3, 4, 1, 0] rfl ?_
            exact h
          · replace h := h.2 hc
            refine sk_iconst (v := 1) d_M_covered_66 (by decide) ?_
            refine sk_goto (tgt := 71) d_M_covered_67 (by decide) ?_
            refine sk_istore_n d_M_covered_71 rfl (by decide) rfl ?_
            refine sk_iinc (j := 4) (v := x4 + 1) d_M_covered_72 rfl (by rfl) (by decide) rfl ?_
            refine sk_goto (tgt := 5) d_M_covered_75 (by decide) ?_
            refine sk_loc [2, 3, 4, 1, 0] rfl ?_
            exact h
theorem s_M_log_0 {Γ : sk_T} {mc ms : Nat} {I : sk_I} {J : sk_J} {Q : sk_Q} {x1 : Int32} {x2 : Int32} (h : (x1 < 0 → sk_W Γ m_M_log mc ms 46 [(0, .ref 41), (1, .int x1), (2, .int x2)] [.int 1, .ref 41] sk_gg I J 0 0 Q) ∧ (¬ x1 < 0 → sk_S Γ m_M_vectors 0 0 (.ref 41 :: []) sk_gg I J (sk_Ki fun v' I' J' => sk_W Γ m_M_log mc ms 10 [(0, .ref 41), (1, .int x1), (2, .int x2)] [.int v', .int x1, .ref 41] sk_gg I' J' 0 0 Q))) : sk_W Γ m_M_log mc ms 0 [(0, .ref 41), (1, .int x1), (2, .int x2)] [] sk_gg I J 0 0 Q := by
  refine sk_aload_n (j := 0) d_M_log_0 rfl rfl ?_
  refine sk_iload_n (j := 1) d_M_log_1 rfl rfl ?_
  refine sk_if_lt (tgt := 13) d_M_log_2 (by decide) (fun hc => ?_) (fun hc => ?_)
  · replace h := h.1 hc
    refine sk_iconst (v := 1) d_M_log_13 (by decide) ?_
    refine sk_goto (tgt := 46) d_M_log_14 (by decide) ?_
    exact h
  · replace h := h.2 hc
    refine sk_iload_n (j := 1) d_M_log_5 rfl rfl ?_
    refine sk_aload_n (j := 0) d_M_log_6 rfl rfl ?_
    exact q_callVi (S := [.int x1, .ref 41]) (as := []) d_M_log_7 lk_M_108 sh_41 ⟨_, rfl⟩ rfl ⟨by decide, by decide⟩ (Nat.le_of_ble_eq_true rfl) rfl (Nat.zero_le _) (Nat.zero_le _) h
theorem s_M_log_10 {Γ : sk_T} {mc ms : Nat} {I : sk_I} {J : sk_J} {Q : sk_Q} {x1 : Int32} {x2 : Int32} {u1 : Int32} {u2 : Int32} (h : (u1 < u2 → (x2 < 0 → sk_W Γ m_M_log mc ms 46 [(0, .ref 41), (1, .int x1), (2, .int x2)] [.int 2, .ref 41] sk_gg I J 0 0 Q) ∧ (¬ x2 < 0 → (x2 ≤ 4095 → (¬ (I 41 26) = 16 → sk_W Γ m_M_log mc ms 46 [(0, .ref 41), (1, .int x1), (2, .int x2)] [.int 0, .ref 41] sk_gg I J 0 0 Q) ∧ ((I 41 26) = 16 → sk_W Γ m_M_log mc ms 46 [(0, .ref 41), (1, .int x1), (2, .int x2)] [.int 3, .ref 41] sk_gg I J 0 0 Q)) ∧ (¬ x2 ≤ 4095 → sk_W Γ m_M_log mc ms 46 [(0, .ref 41), (1, .int x1), (2, .int x2)] [.int 2, .ref 41] sk_gg I J 0 0 Q))) ∧ (¬ u1 < u2 → sk_W Γ m_M_log mc ms 46 [(0, .ref 41), (1, .int x1), (2, .int x2)] [.int 1, .ref 41] sk_gg I J 0 0 Q)) : sk_W Γ m_M_log mc ms 10 [(0, .ref 41), (1, .int x1), (2, .int x2)] [.int u2, .int u1, .ref 41] sk_gg I J 0 0 Q := by
  refine sk_icmp_lt (tgt := 17) d_M_log_10 (by decide) (fun hc => ?_) (fun hc => ?_)
  · replace h := h.1 hc
    refine sk_iload_n (j := 2) d_M_log_17 rfl rfl ?_
    refine sk_if_lt (tgt := 28) d_M_log_18 (by decide) (fun hc => ?_) (fun hc => ?_)
    · replace h := h.1 hc
      refine sk_iconst (v := 2) d_M_log_28 (by decide) ?_
      refine sk_goto (tgt := 46) d_M_log_29 (by decide) ?_
      exact h
    · replace h := h.2 hc
      refine sk_iload_n (j := 2) d_M_log_21 rfl rfl ?_
      refine sk_sipush (v := 4095) d_M_log_22 (by decide) ?_
      refine sk_icmp_le (tgt := 32) d_M_log_25 (by decide) (fun hc => ?_) (fun hc => ?_)
      · replace h := h.1 hc
        refine sk_aload_n (j := 0) d_M_log_32 rfl rfl ?_
        refine q_getI d_M_log_33 fg_M_88 sh_41 ?_
        refine sk_bipush (v := 16) d_M_log_36 (by decide) ?_
        refine sk_icmp_ne (tgt := 45) d_M_log_38 (by decide) (fun hc => ?_) (fun hc => ?_)
        · replace h := h.1 hc
          refine sk_iconst (v := 0) d_M_log_45 (by decide) ?_
          exact h
        · replace h := h.2 hc
          refine sk_iconst (v := 3) d_M_log_41 (by decide) ?_
          refine sk_goto (tgt := 46) d_M_log_42 (by decide) ?_
          exact h
      · replace h := h.2 hc
        refine sk_iconst (v := 2) d_M_log_28 (by decide) ?_
        refine sk_goto (tgt := 46) d_M_log_29 (by decide) ?_
        exact h
  · replace h := h.2 hc
    refine sk_iconst (v := 1) d_M_log_13 (by decide) ?_
    refine sk_goto (tgt := 46) d_M_log_14 (by decide) ?_
    exact h
theorem s_M_log_46 {Γ : sk_T} {mc ms : Nat} {I : sk_I} {J : sk_J} {Q : sk_Q} {x1 : Int32} {x2 : Int32} {u1 : Int32} (h : (u1 ≤ 0 → vp_in (I 41 26) 16 ∧ vp_in (I 41 26) 16 ∧ Q (.inl (some (.int ((I 41 26) + 1)))) sk_gg (sk_pi (sk_pi (sk_pi (sk_pi I 41 0 u1) 59 (I 41 26).toNatClampNeg x1) 60 (I 41 26).toNatClampNeg x2) 41 26 ((I 41 26) + 1)) J) ∧ (¬ u1 ≤ 0 → Q (.inl (some (.int 0))) sk_gg (sk_pi I 41 0 u1) J)) : sk_W Γ m_M_log mc ms 46 [(0, .ref 41), (1, .int x1), (2, .int x2)] [.int u1, .ref 41] sk_gg I J 0 0 Q := by
  refine r_putI d_M_log_46 fp_M_68 sh_41 ?_
  refine sk_aload_n (j := 0) d_M_log_49 rfl rfl ?_
  refine q_getI d_M_log_50 fg_M_68 sh_41 ?_
  refine q_cvi (y := u1) rfl ?_
  refine sk_if_le (tgt := 58) d_M_log_53 (by decide) (fun hc => ?_) (fun hc => ?_)
  · replace h := h.1 hc
    refine sk_aload_n (j := 0) d_M_log_58 rfl rfl ?_
    refine q_getR d_M_log_59 fg_M_62 sh_41 rr_41_27 ?_
    refine sk_aload_n (j := 0) d_M_log_62 rfl rfl ?_
    refine q_getI d_M_log_63 fg_M_88 sh_41 ?_
    refine q_cvi (y := I 41 26) rfl ?_
    refine sk_iload_n (j := 1) d_M_log_66 rfl rfl ?_
    obtain ⟨hb, h⟩ := h
    refine r_iast d_M_log_67 sh_59 hb ?_
    refine sk_aload_n (j := 0) d_M_log_68 rfl rfl ?_
    refine q_getR d_M_log_69 fg_M_65 sh_41 rr_41_28 ?_
    refine sk_aload_n (j := 0) d_M_log_72 rfl rfl ?_
    refine q_getI d_M_log_73 fg_M_88 sh_41 ?_
    refine q_cvi (y := I 41 26) rfl ?_
    refine sk_iload_n (j := 2) d_M_log_76 rfl rfl ?_
    obtain ⟨hb, h⟩ := h
    refine r_iast d_M_log_77 sh_60 hb ?_
    refine sk_aload_n (j := 0) d_M_log_78 rfl rfl ?_
    refine sk_dup d_M_log_79 rfl ?_
    refine q_getI d_M_log_80 fg_M_88 sh_41 ?_
    refine q_cvi (y := I 41 26) rfl ?_
    refine sk_iconst (v := 1) d_M_log_83 (by decide) ?_
    refine sk_iadd d_M_log_84 ?_
    refine r_putI d_M_log_85 fp_M_88 sh_41 ?_
    refine sk_aload_n (j := 0) d_M_log_88 rfl rfl ?_
    refine q_getI d_M_log_89 fg_M_88 sh_41 ?_
    refine q_cvi (y := (I 41 26) + 1) rfl ?_
    exact sk_ireturn d_M_log_92 rfl (Nat.zero_le _) (Nat.zero_le _) h
  · replace h := h.2 hc
    refine sk_iconst (v := 0) d_M_log_56 (by decide) ?_
    exact sk_ireturn d_M_log_57 rfl (Nat.zero_le _) (Nat.zero_le _) h
theorem s_M_forget_0 {Γ : sk_T} {mc ms : Nat} {I : sk_I} {J : sk_J} {Q : sk_Q}  (h : Q (.inl (some (.int (I 41 26)))) sk_gg (sk_pi (sk_pi I 41 0 0) 41 26 0) J) : sk_W Γ m_M_forget mc ms 0 [(0, .ref 41)] [] sk_gg I J 0 0 Q := by
  refine sk_aload_n (j := 0) d_M_forget_0 rfl rfl ?_
  refine sk_iconst (v := 0) d_M_forget_1 (by decide) ?_
  refine r_putI d_M_forget_2 fp_M_68 sh_41 ?_
  refine sk_aload_n (j := 0) d_M_forget_5 rfl rfl ?_
  refine q_getI d_M_forget_6 fg_M_88 sh_41 ?_
  refine q_cvi (y := I 41 26) rfl ?_
  refine sk_istore_n d_M_forget_9 rfl (by decide) rfl ?_
  refine sk_aload_n (j := 1) d_M_forget_10 rfl rfl ?_
  refine sk_iconst (v := 0) d_M_forget_11 (by decide) ?_
  refine r_putI d_M_forget_12 fp_M_88 sh_41 ?_
  refine sk_iload_n (j := 0) d_M_forget_15 rfl rfl ?_
  exact sk_ireturn d_M_forget_16 rfl (Nat.zero_le _) (Nat.zero_le _) h
theorem s_M_explains_0 {Γ : sk_T} {mc ms : Nat} {I : sk_I} {J : sk_J} {Q : sk_Q} {x1 : Int32} (h : sk_S Γ m_M_learn 0 0 (.ref 41 :: []) sk_gg (sk_pi I 41 0 0) J (sk_Kv fun I' J' => sk_W Γ m_M_explains mc ms 9 [(0, .ref 41), (1, .int x1)] [] sk_gg I' J' 0 0 Q)) : sk_W Γ m_M_explains mc ms 0 [(0, .ref 41), (1, .int x1)] [] sk_gg I J 0 0 Q := by
  refine sk_aload_n (j := 0) d_M_explains_0 rfl rfl ?_
  refine sk_iconst (v := 0) d_M_explains_1 (by decide) ?_
  refine r_putI d_M_explains_2 fp_M_68 sh_41 ?_
  refine sk_aload_n (j := 0) d_M_explains_5 rfl rfl ?_
  exact q_callVv (S := []) (as := []) d_M_explains_6 lk_M_119 sh_41 ⟨_, rfl⟩ rfl ⟨by decide, by decide⟩ (Nat.le_of_ble_eq_true rfl) rfl (Nat.zero_le _) (Nat.zero_le _) h
theorem s_M_explains_9 {Γ : sk_T} {mc ms : Nat} {I : sk_I} {J : sk_J} {Q : sk_Q} {x1 : Int32} (h : (¬ x1 = (-1) → sk_W Γ m_M_explains mc ms 32 [(0, .ref 41), (1, .int x1), (2, .int 0), (3, .int 0)] [] sk_gg I J 0 0 Q) ∧ (x1 = (-1) → sk_S Γ m_M_gives 0 0 (.ref 41 :: [.int (-1)]) sk_gg I J (sk_Ki fun v' I' J' => sk_W Γ m_M_explains mc ms 19 [] [.int v'] sk_gg I' J' 0 0 Q))) : sk_W Γ m_M_explains mc ms 9 [(0, .ref 41), (1, .int x1)] [] sk_gg I J 0 0 Q := by
  refine sk_iload_n (j := 1) d_M_explains_9 rfl rfl ?_
  refine sk_iconst (v := (-1)) d_M_explains_10 (by decide) ?_
  refine sk_icmp_ne (tgt := 28) d_M_explains_11 (by decide) (fun hc => ?_) (fun hc => ?_)
  · replace h := h.1 hc
    refine sk_iconst (v := 0) d_M_explains_28 (by decide) ?_
    refine sk_istore_n d_M_explains_29 rfl (by decide) rfl ?_
    refine sk_iconst (v := 0) d_M_explains_30 (by decide) ?_
    refine sk_istore_n d_M_explains_31 rfl (by decide) rfl ?_
    refine sk_loc [2, 3, 1, 0] rfl ?_
    exact h
  · replace h := h.2 hc
    refine sk_aload_n (j := 0) d_M_explains_14 rfl rfl ?_
    refine sk_iconst (v := (-1)) d_M_explains_15 (by decide) ?_
    refine sk_loc [] rfl ?_
    exact q_callVi (S := []) (as := [.int (-1)]) d_M_explains_16 lk_M_146 sh_41 ⟨_, rfl⟩ rfl ⟨by decide, by decide⟩ (Nat.le_of_ble_eq_true rfl) rfl (Nat.zero_le _) (Nat.zero_le _) h
theorem s_M_explains_19 {Γ : sk_T} {mc ms : Nat} {I : sk_I} {J : sk_J} {Q : sk_Q} {u0 : Int32} (h : (u0 = 0 → Q (.inl (some (.int 0))) sk_gg I J) ∧ (¬ u0 = 0 → Q (.inl (some (.int 1))) sk_gg I J)) : sk_W Γ m_M_explains mc ms 19 [] [.int u0] sk_gg I J 0 0 Q := by
  refine sk_if_eq (tgt := 26) d_M_explains_19 (by decide) (fun hc => ?_) (fun hc => ?_)
  · replace h := h.1 hc
    refine sk_iconst (v := 0) d_M_explains_26 (by decide) ?_
    exact sk_ireturn d_M_explains_27 rfl (Nat.zero_le _) (Nat.zero_le _) h
  · replace h := h.2 hc
    refine sk_iconst (v := 1) d_M_explains_22 (by decide) ?_
    refine sk_goto (tgt := 27) d_M_explains_23 (by decide) ?_
    exact sk_ireturn d_M_explains_27 rfl (Nat.zero_le _) (Nat.zero_le _) h
theorem s_M_explains_32 {Γ : sk_T} {mc ms : Nat} {I : sk_I} {J : sk_J} {Q : sk_Q} {x1 : Int32} {x2 : Int32} {x3 : Int32} (h : ((2 * (I 41 14)) ≤ x3 → Q (.inl (some (.int (-1)))) sk_gg I J) ∧ (¬ (2 * (I 41 14)) ≤ x3 → sk_S Γ m_M_gives 0 0 (.ref 41 :: [.int x3]) sk_gg I J (sk_Ki fun v' I' J' => sk_W Γ m_M_explains mc ms 47 [(0, .ref 41), (1, .int x1), (2, .int x2), (3, .int x3)] [.int v'] sk_gg I' J' 0 0 Q))) : sk_W Γ m_M_explains mc ms 32 [(0, .ref 41), (1, .int x1), (2, .int x2), (3, .int x3)] [] sk_gg I J 0 0 Q := by
  refine sk_iload_n (j := 3) d_M_explains_32 rfl rfl ?_
  refine sk_iconst (v := 2) d_M_explains_33 (by decide) ?_
  refine sk_aload_n (j := 0) d_M_explains_34 rfl rfl ?_
  refine q_getI d_M_explains_35 fg_M_78 sh_41 ?_
  refine sk_imul d_M_explains_38 ?_
  refine sk_icmp_ge (tgt := 66) d_M_explains_39 (by decide) (fun hc => ?_) (fun hc => ?_)
  · replace h := h.1 hc
    refine sk_iconst (v := (-1)) d_M_explains_66 (by decide) ?_
    exact sk_ireturn d_M_explains_67 rfl (Nat.zero_le _) (Nat.zero_le _) h
  · replace h := h.2 hc
    refine sk_aload_n (j := 0) d_M_explains_42 rfl rfl ?_
    refine sk_iload_n (j := 3) d_M_explains_43 rfl rfl ?_
    exact q_callVi (S := []) (as := [.int x3]) d_M_explains_44 lk_M_146 sh_41 ⟨_, rfl⟩ rfl ⟨by decide, by decide⟩ (Nat.le_of_ble_eq_true rfl) rfl (Nat.zero_le _) (Nat.zero_le _) h
theorem s_M_explains_47 {Γ : sk_T} {mc ms : Nat} {I : sk_I} {J : sk_J} {Q : sk_Q} {x1 : Int32} {x2 : Int32} {x3 : Int32} {u0 : Int32} (h : (u0 = 0 → sk_W Γ m_M_explains mc ms 32 [(0, .ref 41), (1, .int x1), (2, .int x2), (3, .int (x3 + 1))] [] sk_gg I J 0 0 Q) ∧ (¬ u0 = 0 → (¬ x2 = x1 → sk_W Γ m_M_explains mc ms 32 [(0, .ref 41), (1, .int x1), (2, .int (x2 + 1)), (3, .int (x3 + 1))] [] sk_gg I J 0 0 Q) ∧ (x2 = x1 → Q (.inl (some (.int x3))) sk_gg I J))) : sk_W Γ m_M_explains mc ms 47 [(0, .ref 41), (1, .int x1), (2, .int x2), (3, .int x3)] [.int u0] sk_gg I J 0 0 Q := by
  refine sk_if_eq (tgt := 60) d_M_explains_47 (by decide) (fun hc => ?_) (fun hc => ?_)
  · replace h := h.1 hc
    refine sk_iinc (j := 3) (v := x3 + 1) d_M_explains_60 rfl (by rfl) (by decide) rfl ?_
    refine sk_goto (tgt := 32) d_M_explains_63 (by decide) ?_
    refine sk_loc [1, 2, 3, 0] rfl ?_
    exact h
  · replace h := h.2 hc
    refine sk_iload_n (j := 2) d_M_explains_50 rfl rfl ?_
    refine sk_iload_n (j := 1) d_M_explains_51 rfl rfl ?_
    refine sk_icmp_ne (tgt := 57) d_M_explains_52 (by decide) (fun hc => ?_) (fun hc => ?_)
    · replace h := h.1 hc
      refine sk_iinc (j := 2) (v := x2 + 1) d_M_explains_57 rfl (by rfl) (by decide) rfl ?_
      refine sk_iinc (j := 3) (v := x3 + 1) d_M_explains_60 rfl (by rfl) (by decide) rfl ?_
      refine sk_goto (tgt := 32) d_M_explains_63 (by decide) ?_
      refine sk_loc [2, 3, 1, 0] rfl ?_
      exact h
    · replace h := h.2 hc
      refine sk_iload_n (j := 3) d_M_explains_55 rfl rfl ?_
      exact sk_ireturn d_M_explains_56 rfl (Nat.zero_le _) (Nat.zero_le _) h
theorem s_M_gives_0 {Γ : sk_T} {mc ms : Nat} {I : sk_I} {J : sk_J} {Q : sk_Q} {x1 : Int32} (h : sk_W Γ m_M_gives mc ms 4 [(0, .ref 41), (1, .int x1), (2, .int 1), (3, .int 0)] [] sk_gg I J 0 0 Q) : sk_W Γ m_M_gives mc ms 0 [(0, .ref 41), (1, .int x1)] [] sk_gg I J 0 0 Q := by
  refine sk_iconst (v := 1) d_M_gives_0 (by decide) ?_
  refine sk_istore_n d_M_gives_1 rfl (by decide) rfl ?_
  refine sk_iconst (v := 0) d_M_gives_2 (by decide) ?_
  refine sk_istore_n d_M_gives_3 rfl (by decide) rfl ?_
  refine sk_loc [2, 3, 1, 0] rfl ?_
  exact h
theorem s_M_gives_4 {Γ : sk_T} {mc ms : Nat} {I : sk_I} {J : sk_J} {Q : sk_Q} {x1 : Int32} {x2 : Int32} {x3 : Int32} (h : ((I 41 26) ≤ x3 → (x2 = 0 ∨ x2 = 1) ∧ Q (.inl (some (.int x2))) sk_gg I J) ∧ (¬ (I 41 26) ≤ x3 → (0 ≤ x1 → vp_in x3 16 ∧ vp_in ((64 * x1) + (I 59 x3.toNatClampNeg)) 13312 ∧ sk_W Γ m_M_gives mc ms 46 [(0, .ref 41), (1, .int x1), (2, .int x2), (3, .int x3)] [.int (I 55 ((64 * x1) + (I 59 x3.toNatClampNeg)).toNatClampNeg)] sk_gg I J 0 0 Q) ∧ (¬ 0 ≤ x1 → vp_in x3 16 ∧ vp_in (I 59 x3.toNatClampNeg) 64 ∧ sk_W Γ m_M_gives mc ms 46 [(0, .ref 41), (1, .int x1), (2, .int x2), (3, .int x3)] [.int (I 56 (I 59 x3.toNatClampNeg).toNatClampNeg)] sk_gg I J 0 0 Q))) : sk_W Γ m_M_gives mc ms 4 [(0, .ref 41), (1, .int x1), (2, .int x2), (3, .int x3)] [] sk_gg I J 0 0 Q := by
  refine sk_iload_n (j := 3) d_M_gives_4 rfl rfl ?_
  refine sk_aload_n (j := 0) d_M_gives_5 rfl rfl ?_
  refine q_getI d_M_gives_6 fg_M_88 sh_41 ?_
  refine sk_icmp_ge (tgt := 75) d_M_gives_9 (by decide) (fun hc => ?_) (fun hc => ?_)
  · replace h := h.1 hc
    refine sk_iload_n (j := 2) d_M_gives_75 rfl rfl ?_
    exact q_zreturn d_M_gives_76 rfl h.1 (Nat.zero_le _) (Nat.zero_le _) h.2
  · replace h := h.2 hc
    refine sk_iload_n (j := 1) d_M_gives_12 rfl rfl ?_
    refine sk_if_ge (tgt := 30) d_M_gives_13 (by decide) (fun hc => ?_) (fun hc => ?_)
    · replace h := h.1 hc
      refine sk_aload_n (j := 0) d_M_gives_30 rfl rfl ?_
      refine q_getR d_M_gives_31 fg_M_50 sh_41 rr_41_20 ?_
      refine sk_bipush (v := 64) d_M_gives_34 (by decide) ?_
      refine sk_iload_n (j := 1) d_M_gives_36 rfl rfl ?_
      refine sk_imul d_M_gives_37 ?_
      refine sk_aload_n (j := 0) d_M_gives_38 rfl rfl ?_
      refine q_getR d_M_gives_39 fg_M_62 sh_41 rr_41_27 ?_
      refine sk_iload_n (j := 3) d_M_gives_42 rfl rfl ?_
      obtain ⟨hb, h⟩ := h
      refine sk_iald d_M_gives_43 sh_59 hb ?_
      refine sk_iadd d_M_gives_44 ?_
      obtain ⟨hb, h⟩ := h
      refine sk_iald d_M_gives_45 sh_55 hb ?_
      exact h
    · replace h := h.2 hc
      refine sk_aload_n (j := 0) d_M_gives_16 rfl rfl ?_
      refine q_getR d_M_gives_17 fg_M_53 sh_41 rr_41_21 ?_
      refine sk_aload_n (j := 0) d_M_gives_20 rfl rfl ?_
      refine q_getR d_M_gives_21 fg_M_62 sh_41 rr_41_27 ?_
      refine sk_iload_n (j := 3) d_M_gives_24 rfl rfl ?_
      obtain ⟨hb, h⟩ := h
      refine sk_iald d_M_gives_25 sh_59 hb ?_
      obtain ⟨hb, h⟩ := h
      refine sk_iald d_M_gives_26 sh_56 hb ?_
      refine sk_goto (tgt := 46) d_M_gives_27 (by decide) ?_
      exact h
theorem s_M_gives_46 {Γ : sk_T} {mc ms : Nat} {I : sk_I} {J : sk_J} {Q : sk_Q} {x1 : Int32} {x2 : Int32} {x3 : Int32} {u0 : Int32} (h : (x2 = 0 → sk_W Γ m_M_gives mc ms 4 [(0, .ref 41), (1, .int x1), (2, .int 0), (3, .int (x3 + 1))] [] sk_gg I J 0 0 Q) ∧ (¬ x2 = 0 → vp_in x3 16 ∧ (¬ u0 = (I 60 x3.toNatClampNeg) → sk_W Γ m_M_gives mc ms 4 [(0, .ref 41), (1, .int x1), (2, .int 0), (3, .int (x3 + 1))] [] sk_gg I J 0 0 Q) ∧ (u0 = (I 60 x3.toNatClampNeg) → sk_W Γ m_M_gives mc ms 4 [(0, .ref 41), (1, .int x1), (2, .int 1), (3, .int (x3 + 1))] [] sk_gg I J 0 0 Q))) : sk_W Γ m_M_gives mc ms 46 [(0, .ref 41), (1, .int x1), (2, .int x2), (3, .int x3)] [.int u0] sk_gg I J 0 0 Q := by
  refine sk_istore d_M_gives_46 (by decide) rfl ?_
  refine sk_iload_n (j := 3) d_M_gives_48 rfl rfl ?_
  refine sk_if_eq (tgt := 67) d_M_gives_49 (by decide) (fun hc => ?_) (fun hc => ?_)
  · replace h := h.1 hc
    refine sk_iconst (v := 0) d_M_gives_67 (by decide) ?_
    refine sk_istore_n d_M_gives_68 rfl (by decide) rfl ?_
    refine sk_iinc (j := 4) (v := x3 + 1) d_M_gives_69 rfl (by rfl) (by decide) rfl ?_
    refine sk_goto (tgt := 4) d_M_gives_72 (by decide) ?_
    refine sk_loc [3, 4, 1, 0] rfl ?_
    exact h
  · replace h := h.2 hc
    refine sk_iload (j := 0) d_M_gives_52 rfl ?_
    refine sk_aload_n (j := 1) d_M_gives_54 rfl rfl ?_
    refine q_getR d_M_gives_55 fg_M_65 sh_41 rr_41_28 ?_
    refine sk_iload_n (j := 4) d_M_gives_58 rfl rfl ?_
    obtain ⟨hb, h⟩ := h
    refine sk_iald d_M_gives_59 sh_60 hb ?_
    refine sk_icmp_ne (tgt := 67) d_M_gives_60 (by decide) (fun hc => ?_) (fun hc => ?_)
    · replace h := h.1 hc
      refine sk_iconst (v := 0) d_M_gives_67 (by decide) ?_
      refine sk_istore_n d_M_gives_68 rfl (by decide) rfl ?_
      refine sk_iinc (j := 4) (v := x3 + 1) d_M_gives_69 rfl (by rfl) (by decide) rfl ?_
      refine sk_goto (tgt := 4) d_M_gives_72 (by decide) ?_
      refine sk_loc [3, 4, 1, 0] rfl ?_
      exact h
    · replace h := h.2 hc
      refine sk_iconst (v := 1) d_M_gives_63 (by decide) ?_
      refine sk_goto (tgt := 68) d_M_gives_64 (by decide) ?_
      refine sk_istore_n d_M_gives_68 rfl (by decide) rfl ?_
      refine sk_iinc (j := 4) (v := x3 + 1) d_M_gives_69 rfl (by rfl) (by decide) rfl ?_
      refine sk_goto (tgt := 4) d_M_gives_72 (by decide) ?_
      refine sk_loc [3, 4, 1, 0] rfl ?_
      exact h
