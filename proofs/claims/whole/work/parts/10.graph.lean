/-! the cells that the law makes; rules over them: printed by wip/whole/gen_meth.py -/
def sk_SH : List (Nat × Nat × Nat) := [(0, 0, 6), (0, 1, 15), (1, 26, 0), (1, 26, 0), (2, 26, 0), (1, 27, 0), (1, 78, 0), (1, 78, 0), (1, 12, 0), (1, 26, 0), (1, 6, 0), (0, 2, 7), (3, 6, 0), (3, 6, 0), (3, 26, 0), (3, 26, 0), (0, 3, 5), (3, 2508, 0), (3, 209, 0), (1, 209, 0), (0, 2, 7), (3, 6, 0), (3, 6, 0), (3, 26, 0), (3, 26, 0), (0, 4, 3), (0, 2, 7), (3, 6, 0), (3, 6, 0), (3, 26, 0), (3, 26, 0), (0, 2, 7), (3, 6, 0), (3, 6, 0), (3, 26, 0), (3, 26, 0), (0, 5, 6), (1, 64, 0), (0, 6, 4), (1, 16, 0), (1, 16, 0), (0, 7, 29), (1, 26, 0), (1, 26, 0), (1, 78, 0), (1, 26, 0), (1, 6, 0), (2, 6, 0), (1, 6, 0), (1, 6, 0), (1, 12, 0), (1, 104, 0), (1, 104, 0), (1, 26, 0), (1, 12, 0), (1, 13312, 0), (1, 64, 0), (1, 64, 0), (2, 64, 0), (1, 16, 0), (1, 16, 0), (3, 1, 0)]
def sk_RT : List (List (Option Nat)) := [[some 1, some 11, some 16, some 25, some 36, some 38], [none, none, none, none, none, none, some 2, some 3, some 4, some 5, some 6, some 7, some 8, some 9, some 10], [], [], [], [], [], [], [], [], [], [some 1, some 12, some 13, some 14, some 15, none, none], [], [], [], [], [some 1, some 20, some 17, some 18, some 19], [], [], [], [some 1, some 21, some 22, some 23, some 24, none, none], [], [], [], [], [some 1, some 26, some 31], [some 1, some 27, some 28, some 29, some 30, none, none], [], [], [], [], [some 1, some 32, some 33, some 34, some 35, none, none], [], [], [], [], [some 1, some 16, some 37, none, none, none], [], [some 16, some 39, some 40, none], [], [], [none, none, some 42, some 43, some 44, some 45, none, some 46, some 47, some 48, none, some 49, none, some 50, none, some 51, some 52, some 53, some 54, none, some 55, some 56, none, none, some 57, some 58, none, some 59, some 60], [], [], [], [], [], [], [], [], [], [], [], [], [], [], [], [], [], [], [], []]
def sk_RR : sk_R := fun q j => (sk_RT.getD q []).getD j none
def sk_gg : sk_G := (false, sk_SH, sk_RR)
theorem sh_0 : sk_gg.2.1[0]? = some (0, 0, 6) := rfl
theorem sh_1 : sk_gg.2.1[1]? = some (0, 1, 15) := rfl
theorem sh_2 : sk_gg.2.1[2]? = some (1, 26, 0) := rfl
theorem sh_3 : sk_gg.2.1[3]? = some (1, 26, 0) := rfl
theorem sh_4 : sk_gg.2.1[4]? = some (2, 26, 0) := rfl
theorem sh_5 : sk_gg.2.1[5]? = some (1, 27, 0) := rfl
theorem sh_6 : sk_gg.2.1[6]? = some (1, 78, 0) := rfl
theorem sh_7 : sk_gg.2.1[7]? = some (1, 78, 0) := rfl
theorem sh_8 : sk_gg.2.1[8]? = some (1, 12, 0) := rfl
theorem sh_9 : sk_gg.2.1[9]? = some (1, 26, 0) := rfl
theorem sh_10 : sk_gg.2.1[10]? = some (1, 6, 0) := rfl
theorem sh_11 : sk_gg.2.1[11]? = some (0, 2, 7) := rfl
theorem sh_12 : sk_gg.2.1[12]? = some (3, 6, 0) := rfl
theorem sh_13 : sk_gg.2.1[13]? = some (3, 6, 0) := rfl
theorem sh_14 : sk_gg.2.1[14]? = some (3, 26, 0) := rfl
theorem sh_15 : sk_gg.2.1[15]? = some (3, 26, 0) := rfl
theorem sh_16 : sk_gg.2.1[16]? = some (0, 3, 5) := rfl
theorem sh_17 : sk_gg.2.1[17]? = some (3, 2508, 0) := rfl
theorem sh_18 : sk_gg.2.1[18]? = some (3, 209, 0) := rfl
theorem sh_19 : sk_gg.2.1[19]? = some (1, 209, 0) := rfl
theorem sh_20 : sk_gg.2.1[20]? = some (0, 2, 7) := rfl
theorem sh_21 : sk_gg.2.1[21]? = some (3, 6, 0) := rfl
theorem sh_22 : sk_gg.2.1[22]? = some (3, 6, 0) := rfl
theorem sh_23 : sk_gg.2.1[23]? = some (3, 26, 0) := rfl
theorem sh_24 : sk_gg.2.1[24]? = some (3, 26, 0) := rfl
theorem sh_25 : sk_gg.2.1[25]? = some (0, 4, 3) := rfl
theorem sh_26 : sk_gg.2.1[26]? = some (0, 2, 7) := rfl
theorem sh_27 : sk_gg.2.1[27]? = some (3, 6, 0) := rfl
theorem sh_28 : sk_gg.2.1[28]? = some (3, 6, 0) := rfl
theorem sh_29 : sk_gg.2.1[29]? = some (3, 26, 0) := rfl
theorem sh_30 : sk_gg.2.1[30]? = some (3, 26, 0) := rfl
theorem sh_31 : sk_gg.2.1[31]? = some (0, 2, 7) := rfl
theorem sh_32 : sk_gg.2.1[32]? = some (3, 6, 0) := rfl
theorem sh_33 : sk_gg.2.1[33]? = some (3, 6, 0) := rfl
theorem sh_34 : sk_gg.2.1[34]? = some (3, 26, 0) := rfl
theorem sh_35 : sk_gg.2.1[35]? = some (3, 26, 0) := rfl
theorem sh_36 : sk_gg.2.1[36]? = some (0, 5, 6) := rfl
theorem sh_37 : sk_gg.2.1[37]? = some (1, 64, 0) := rfl
theorem sh_38 : sk_gg.2.1[38]? = some (0, 6, 4) := rfl
theorem sh_39 : sk_gg.2.1[39]? = some (1, 16, 0) := rfl
theorem sh_40 : sk_gg.2.1[40]? = some (1, 16, 0) := rfl
theorem sh_41 : sk_gg.2.1[41]? = some (0, 7, 29) := rfl
theorem sh_42 : sk_gg.2.1[42]? = some (1, 26, 0) := rfl
theorem sh_43 : sk_gg.2.1[43]? = some (1, 26, 0) := rfl
theorem sh_44 : sk_gg.2.1[44]? = some (1, 78, 0) := rfl
theorem sh_45 : sk_gg.2.1[45]? = some (1, 26, 0) := rfl
theorem sh_46 : sk_gg.2.1[46]? = some (1, 6, 0) := rfl
theorem sh_47 : sk_gg.2.1[47]? = some (2, 6, 0) := rfl
theorem sh_48 : sk_gg.2.1[48]? = some (1, 6, 0) := rfl
theorem sh_49 : sk_gg.2.1[49]? = some (1, 6, 0) := rfl
theorem sh_50 : sk_gg.2.1[50]? = some (1, 12, 0) := rfl
theorem sh_51 : sk_gg.2.1[51]? = some (1, 104, 0) := rfl
theorem sh_52 : sk_gg.2.1[52]? = some (1, 104, 0) := rfl
theorem sh_53 : sk_gg.2.1[53]? = some (1, 26, 0) := rfl
theorem sh_54 : sk_gg.2.1[54]? = some (1, 12, 0) := rfl
theorem sh_55 : sk_gg.2.1[55]? = some (1, 13312, 0) := rfl
theorem sh_56 : sk_gg.2.1[56]? = some (1, 64, 0) := rfl
theorem sh_57 : sk_gg.2.1[57]? = some (1, 64, 0) := rfl
theorem sh_58 : sk_gg.2.1[58]? = some (2, 64, 0) := rfl
theorem sh_59 : sk_gg.2.1[59]? = some (1, 16, 0) := rfl
theorem sh_60 : sk_gg.2.1[60]? = some (1, 16, 0) := rfl
theorem sh_61 : sk_gg.2.1[61]? = some (3, 1, 0) := rfl
theorem rr_0_0 : sk_gg.2.2 0 0 = some 1 := rfl
theorem rr_0_1 : sk_gg.2.2 0 1 = some 11 := rfl
theorem rr_0_2 : sk_gg.2.2 0 2 = some 16 := rfl
theorem rr_0_3 : sk_gg.2.2 0 3 = some 25 := rfl
theorem rr_0_4 : sk_gg.2.2 0 4 = some 36 := rfl
theorem rr_0_5 : sk_gg.2.2 0 5 = some 38 := rfl
theorem rr_1_6 : sk_gg.2.2 1 6 = some 2 := rfl
theorem rr_1_7 : sk_gg.2.2 1 7 = some 3 := rfl
theorem rr_1_8 : sk_gg.2.2 1 8 = some 4 := rfl
theorem rr_1_9 : sk_gg.2.2 1 9 = some 5 := rfl
theorem rr_1_10 : sk_gg.2.2 1 10 = some 6 := rfl
theorem rr_1_11 : sk_gg.2.2 1 11 = some 7 := rfl
theorem rr_1_12 : sk_gg.2.2 1 12 = some 8 := rfl
theorem rr_1_13 : sk_gg.2.2 1 13 = some 9 := rfl
theorem rr_1_14 : sk_gg.2.2 1 14 = some 10 := rfl
theorem rr_11_0 : sk_gg.2.2 11 0 = some 1 := rfl
theorem rr_11_1 : sk_gg.2.2 11 1 = some 12 := rfl
theorem rr_11_2 : sk_gg.2.2 11 2 = some 13 := rfl
theorem rr_11_3 : sk_gg.2.2 11 3 = some 14 := rfl
theorem rr_11_4 : sk_gg.2.2 11 4 = some 15 := rfl
theorem rr_16_0 : sk_gg.2.2 16 0 = some 1 := rfl
theorem rr_16_1 : sk_gg.2.2 16 1 = some 20 := rfl
theorem rr_16_2 : sk_gg.2.2 16 2 = some 17 := rfl
theorem rr_16_3 : sk_gg.2.2 16 3 = some 18 := rfl
theorem rr_16_4 : sk_gg.2.2 16 4 = some 19 := rfl
theorem rr_20_0 : sk_gg.2.2 20 0 = some 1 := rfl
theorem rr_20_1 : sk_gg.2.2 20 1 = some 21 := rfl
theorem rr_20_2 : sk_gg.2.2 20 2 = some 22 := rfl
theorem rr_20_3 : sk_gg.2.2 20 3 = some 23 := rfl
theorem rr_20_4 : sk_gg.2.2 20 4 = some 24 := rfl
theorem rr_25_0 : sk_gg.2.2 25 0 = some 1 := rfl
theorem rr_25_1 : sk_gg.2.2 25 1 = some 26 := rfl
theorem rr_25_2 : sk_gg.2.2 25 2 = some 31 := rfl
theorem rr_26_0 : sk_gg.2.2 26 0 = some 1 := rfl
theorem rr_26_1 : sk_gg.2.2 26 1 = some 27 := rfl
theorem rr_26_2 : sk_gg.2.2 26 2 = some 28 := rfl
theorem rr_26_3 : sk_gg.2.2 26 3 = some 29 := rfl
theorem rr_26_4 : sk_gg.2.2 26 4 = some 30 := rfl
theorem rr_31_0 : sk_gg.2.2 31 0 = some 1 := rfl
theorem rr_31_1 : sk_gg.2.2 31 1 = some 32 := rfl
theorem rr_31_2 : sk_gg.2.2 31 2 = some 33 := rfl
theorem rr_31_3 : sk_gg.2.2 31 3 = some 34 := rfl
theorem rr_31_4 : sk_gg.2.2 31 4 = some 35 := rfl
theorem rr_36_0 : sk_gg.2.2 36 0 = some 1 := rfl
theorem rr_36_1 : sk_gg.2.2 36 1 = some 16 := rfl
theorem rr_36_2 : sk_gg.2.2 36 2 = some 37 := rfl
theorem rr_38_0 : sk_gg.2.2 38 0 = some 16 := rfl
theorem rr_38_1 : sk_gg.2.2 38 1 = some 39 := rfl
theorem rr_38_2 : sk_gg.2.2 38 2 = some 40 := rfl
theorem rr_41_2 : sk_gg.2.2 41 2 = some 42 := rfl
theorem rr_41_3 : sk_gg.2.2 41 3 = some 43 := rfl
theorem rr_41_4 : sk_gg.2.2 41 4 = some 44 := rfl
theorem rr_41_5 : sk_gg.2.2 41 5 = some 45 := rfl
theorem rr_41_7 : sk_gg.2.2 41 7 = some 46 := rfl
theorem rr_41_8 : sk_gg.2.2 41 8 = some 47 := rfl
theorem rr_41_9 : sk_gg.2.2 41 9 = some 48 := rfl
theorem rr_41_11 : sk_gg.2.2 41 11 = some 49 := rfl
theorem rr_41_13 : sk_gg.2.2 41 13 = some 50 := rfl
theorem rr_41_15 : sk_gg.2.2 41 15 = some 51 := rfl
theorem rr_41_16 : sk_gg.2.2 41 16 = some 52 := rfl
theorem rr_41_17 : sk_gg.2.2 41 17 = some 53 := rfl
theorem rr_41_18 : sk_gg.2.2 41 18 = some 54 := rfl
theorem rr_41_20 : sk_gg.2.2 41 20 = some 55 := rfl
theorem rr_41_21 : sk_gg.2.2 41 21 = some 56 := rfl
theorem rr_41_24 : sk_gg.2.2 41 24 = some 57 := rfl
theorem rr_41_25 : sk_gg.2.2 41 25 = some 58 := rfl
theorem rr_41_27 : sk_gg.2.2 41 27 = some 59 := rfl
theorem rr_41_28 : sk_gg.2.2 41 28 = some 60 := rfl
/-- what a link of a call says -/
def sk_lkV (own : String) (idx : Nat) (M' : sk_M) (na : Nat) : Prop := Cond.methodLink own idx (sk_y M') ∈ sk_ts ∧ Cond.instanceMethod (sk_y M') ∈ sk_ts ∧ Cond.selects (sk_y M').cls (sk_y M') (sk_y M') ∈ sk_ts ∧ Cond.initialized (sk_y M').cls ∈ sk_ts ∧ Cond.code (sk_y M') (sk_cc M') (sk_nl M') (sk_ret M') ∈ sk_ts ∧ sk_tab M' = [] ∧
  ((sk_y M').cls ≠ "java/lang/invoke/MethodHandle" ∧ (sk_y M').cls ≠ "java/lang/invoke/VarHandle" ∧ (parseMethodDescriptor (sk_y M').desc).map (fun d => d.parameters.length) = some na)
def sk_lkS (own : String) (idx : Nat) (M' : sk_M) (na : Nat) : Prop := Cond.methodLink own idx (sk_y M') ∈ sk_ts ∧ Cond.static (sk_y M') ∈ sk_ts ∧ Cond.initialized (sk_y M').cls ∈ sk_ts ∧ sk_head M' ∈ sk_ts ∧
  ((sk_y M').cls ≠ "java/lang/invoke/MethodHandle" ∧ (sk_y M').cls ≠ "java/lang/invoke/VarHandle" ∧ (parseMethodDescriptor (sk_y M').desc).map (fun d => d.parameters.length) = some na)
def sk_lkI (own : String) (idx : Nat) (M' : sk_M) (na : Nat) : Prop := (Cond.methodLink own idx (sk_y M') ∈ sk_ts ∨ ∃ host : String, Cond.methodLinkNest own idx (sk_y M') host ∈ sk_nw) ∧ Cond.instanceMethod (sk_y M') ∈ sk_ts ∧ Cond.initialized (sk_y M').cls ∈ sk_ts ∧ Cond.code (sk_y M') (sk_cc M') (sk_nl M') none ∈ sk_ts ∧ sk_tab M' = [] ∧ sk_ret M' = none ∧ (sk_y M').name = "<init>" ∧
  ((sk_y M').cls ≠ "java/lang/invoke/MethodHandle" ∧ (sk_y M').cls ≠ "java/lang/invoke/VarHandle" ∧ (parseMethodDescriptor (sk_y M').desc).map (fun d => d.parameters.length) = some na)
def sk_fg (own : String) (idx ci N j k : Nat) : Prop := ∃ (C : String) (T : u_T), sk_cl[ci]? = some (C, T, N) ∧ j < N ∧ sk_fl own idx T j ∧ sk_kd ci j = k
def sk_fp (own : String) (idx ci N j k : Nat) (ty : FieldType) (fin : Bool) : Prop := ∃ (C : String) (T : u_T), sk_cl[ci]? = some (C, T, N) ∧ j < N ∧ Cond.fieldLink own idx (T j).1 (T j).2.1 (T j).2.2.1 ∈ sk_ts ∧ (T j).2.2.2 = fin ∧ parseFieldDescriptor (T j).2.2.1 = some ty ∧ sk_kd ci j = k ∧ (T j).1 = own
def sk_nwc (own : String) (idx ci N : Nat) : Prop := ∃ (C : String) (T : u_T), sk_cl[ci]? = some (C, T, N) ∧ Cond.classLink own idx C ∈ sk_ts ∧ Cond.instantiable C N ∈ sk_ts ∧ Cond.initialized C ∈ sk_ts
def sk_th (ik is ic i : Nat) (cls : String) : Prop := Bundle.fit cls = true ∧ Cond.classLink "StuckLines" ik cls ∈ sk_ts ∧ Cond.initialized cls ∈ sk_ts ∧ ∃ text : String, sk_str[i]? = some (is, text) ∧ (Bundle.ownAtoms "StuckLines" ic cls ["java/lang/RuntimeException", "java/lang/Exception"]).all sk_thr = true
/-- what comes behind a call that answers an int, a long, nothing; that throws -/
def sk_Ki (K : Int32 → sk_I → sk_J → Prop) : sk_Q := fun r g I J => ∃ v : Int32, r = .inl (some (.int v)) ∧ g = sk_gg ∧ K v I J
def sk_Kl (K : Int64 → sk_I → sk_J → Prop) : sk_Q := fun r g I J => ∃ v : Int64, r = .inl (some (.long v)) ∧ g = sk_gg ∧ K v I J
def sk_Kv (K : sk_I → sk_J → Prop) : sk_Q := fun r g I J => r = .inl none ∧ g = sk_gg ∧ K I J
def sk_Kx (K : String → sk_I → sk_J → Prop) : sk_Q := fun r g I J => ∃ E : String, r = .inr E ∧ g = sk_gg ∧ K E I J
section SKQ
variable {Γ : sk_T} {M : sk_M} {mc ms pc : Nat} {L : List (Nat × Value)} {S : List Value} {I : sk_I} {J : sk_J} {kc kn : Nat} {Q : sk_Q} {g : sk_G}
theorem q_getI {q ci N j idx : Nat} (d : decode (sk_cc M) pc = .ok (.getfield idx, 3)) (hf : sk_fg (sk_own M) idx ci N j 0) (ho : g.2.1[q]? = some (0, ci, N)) (h : sk_W Γ M mc ms (pc + 3) L (.int (I q j) :: S) g I J kc kn Q) : sk_W Γ M mc ms pc L (.ref q :: S) g I J kc kn Q := by
  obtain ⟨C, T, h1, h2, h3, h4⟩ := hf
  exact sk_getI d ho h1 h2 h3 h4 h
theorem q_getJ {q ci N j idx : Nat} (d : decode (sk_cc M) pc = .ok (.getfield idx, 3)) (hf : sk_fg (sk_own M) idx ci N j 1) (ho : g.2.1[q]? = some (0, ci, N)) (h : sk_W Γ M mc ms (pc + 3) L (.long (J q j) :: S) g I J kc kn Q) : sk_W Γ M mc ms pc L (.ref q :: S) g I J kc kn Q := by
  obtain ⟨C, T, h1, h2, h3, h4⟩ := hf
  exact sk_getJ d ho h1 h2 h3 h4 h
theorem q_getR {q ci N j idx r : Nat} (d : decode (sk_cc M) pc = .ok (.getfield idx, 3)) (hf : sk_fg (sk_own M) idx ci N j 2) (ho : g.2.1[q]? = some (0, ci, N)) (hr : g.2.2 q j = some r) (h : sk_W Γ M mc ms (pc + 3) L (.ref r :: S) g I J kc kn Q) : sk_W Γ M mc ms pc L (.ref q :: S) g I J kc kn Q := by
  obtain ⟨C, T, h1, h2, h3, h4⟩ := hf
  exact sk_getR d ho h1 h2 h3 h4 hr h
theorem q_putI {q ci N j idx : Nat} {v : Int32} {fin : Bool} (d : decode (sk_cc M) pc = .ok (.putfield idx, 3)) (hf : sk_fp (sk_own M) idx ci N j 0 .int fin) (ho : g.2.1[q]? = some (0, ci, N)) (hi : fin = false ∨ (sk_y M).name = "<init>") (h : sk_W Γ M mc ms (pc + 3) L S g (sk_set I q (upd (I q) j v)) J kc kn Q) : sk_W Γ M mc ms pc L (.int v :: .ref q :: S) g I J kc kn Q := by
  obtain ⟨C, T, h1, h2, h3, h4, h5, h6, h7⟩ := hf
  refine sk_putI d ho h1 h2 h3 ?_ h5 h6 rfl rfl h
  cases fin
  · exact Or.inl h4
  · exact Or.inr ⟨h4, hi.resolve_left (by decide), h7⟩
theorem q_putZ {q ci N j idx : Nat} {v : Int32} {fin : Bool} (d : decode (sk_cc M) pc = .ok (.putfield idx, 3)) (hf : sk_fp (sk_own M) idx ci N j 0 .boolean fin) (ho : g.2.1[q]? = some (0, ci, N)) (hi : fin = false ∨ (sk_y M).name = "<init>") (hv : v = 0 ∨ v = 1) (h : sk_W Γ M mc ms (pc + 3) L S g (sk_set I q (upd (I q) j v)) J kc kn Q) : sk_W Γ M mc ms pc L (.int v :: .ref q :: S) g I J kc kn Q := by
  obtain ⟨C, T, h1, h2, h3, h4, h5, h6, h7⟩ := hf
  refine sk_putI d ho h1 h2 h3 ?_ h5 h6 (by rcases hv with rfl | rfl <;> rfl) (by rcases hv with rfl | rfl <;> rfl) h
  cases fin
  · exact Or.inl h4
  · exact Or.inr ⟨h4, hi.resolve_left (by decide), h7⟩
theorem q_zreturn {v : Int32} (d : decode (sk_cc M) pc = .ok (.ireturn, 1)) (hr : sk_ret M = some .boolean) (hv : v = 0 ∨ v = 1) (hk : kc ≤ mc) (hn : kn ≤ ms) (hq : Q (.inl (some (.int v))) g I J) : sk_W Γ M mc ms pc L [.int v] g I J kc kn Q :=
  sk_zreturn d hr (by rcases hv with rfl | rfl <;> rfl) hk hn hq
theorem q_zast {q n z : Nat} {i x : Int32} (d : decode (sk_cc M) pc = .ok (.bastore, 1)) (ho : g.2.1[q]? = some (2, n, z)) (hin : vp_in i n) (hx : x = 0 ∨ x = 1) (h : sk_W Γ M mc ms (pc + 1) L S g (sk_set I q (upd (I q) i.toNatClampNeg x)) J kc kn Q) : sk_W Γ M mc ms pc L (.int x :: .int i :: .ref q :: S) g I J kc kn Q :=
  sk_zast d ho hin (by rcases hx with rfl | rfl <;> rfl) h
theorem q_putJ {q ci N j idx : Nat} {v : Int64} {fin : Bool} (d : decode (sk_cc M) pc = .ok (.putfield idx, 3)) (hf : sk_fp (sk_own M) idx ci N j 1 .long fin) (ho : g.2.1[q]? = some (0, ci, N)) (hi : fin = false ∨ (sk_y M).name = "<init>") (h : sk_W Γ M mc ms (pc + 3) L S g I (sk_set J q (vp_updL (J q) j v)) kc kn Q) : sk_W Γ M mc ms pc L (.long v :: .ref q :: S) g I J kc kn Q := by
  obtain ⟨C, T, h1, h2, h3, h4, h5, h6, h7⟩ := hf
  refine sk_putJ d ho h1 h2 h3 ?_ h5 h6 h
  cases fin
  · exact Or.inl h4
  · exact Or.inr ⟨h4, hi.resolve_left (by decide), h7⟩
theorem q_putR {q ci N j idx r : Nat} {ty : FieldType} {fin : Bool} (d : decode (sk_cc M) pc = .ok (.putfield idx, 3)) (hf : sk_fp (sk_own M) idx ci N j 2 ty fin) (ho : g.2.1[q]? = some (0, ci, N)) (hi : fin = false ∨ (sk_y M).name = "<init>") (hn : ∀ a : Nat, narrow ty (.ref a) = .ref a) (hfit : ∀ a : Nat, fits ty (.ref a) = true)
    (h : sk_W Γ M mc ms (pc + 3) L S (g.1, g.2.1, sk_set g.2.2 q (sk_updR (g.2.2 q) j (some r))) I J kc kn Q) : sk_W Γ M mc ms pc L (.ref r :: .ref q :: S) g I J kc kn Q := by
  obtain ⟨C, T, h1, h2, h3, h4, h5, h6, h7⟩ := hf
  refine sk_putR d ho h1 h2 h3 ?_ h5 h6 hn hfit h
  cases fin
  · exact Or.inl h4
  · exact Or.inr ⟨h4, hi.resolve_left (by decide), h7⟩
theorem q_new {ci N idx : Nat} (d : decode (sk_cc M) pc = .ok (.new idx, 3)) (hn : sk_nwc (sk_own M) idx ci N) (hx : g.1 = true) (hlen : g.2.1.length < 900) (hI : ∀ j, I g.2.1.length j = 0) (hJ : ∀ j, J g.2.1.length j = 0) (hR : ∀ j, g.2.2 g.2.1.length j = none) (hf : kc + 1 ≤ mc ∧ kn + N ≤ ms)
    (h : sk_W Γ M mc ms (pc + 3) L (.ref g.2.1.length :: S) (true, g.2.1 ++ [(0, ci, N)], g.2.2) I J (kc + 1) (kn + N) Q) : sk_W Γ M mc ms pc L S g I J kc kn Q := by
  obtain ⟨C, T, h1, h2, h3, h4⟩ := hn
  exact sk_new d h1 h2 h3 h4 hx hlen hI hJ hR hf h
/-- a call that returns -/
theorem q_callV {M' : sk_M} {Q' : sk_Q} {q ci N idx na : Nat} {as S' : List Value} (d : decode (sk_cc M) pc = .ok (.invokevirtual idx, 3)) (hl : sk_lkV (sk_own M) idx M' na) (ho : sk_gg.2.1[q]? = some (0, ci, N)) (hc : ∃ T9, sk_cl[ci]? = some ((sk_y M').cls, T9, N)) (hna : as.length = na)
    (hR : sk_fr M' + 1 ≤ sk_fr M ∧ 8 + (sk_nl M' + 11) + sk_lo M' ≤ sk_lo M) (hcat : (S.map fun v => v.category).sum ≤ 8) (hst : as.reverse ++ .ref q :: S = S') (hk : kc ≤ mc) (hk' : kn ≤ ms)
    (hs : sk_S Γ M' 0 0 (.ref q :: as) sk_gg I J Q') (kk : ∀ (r : Option Value) (g' : sk_G) (I' : sk_I) (J' : sk_J), Q' (.inl r) g' I' J' → sk_W Γ M mc ms (pc + 3) L (r.toList ++ S) g' I' J' kc kn Q) (kx : ∀ (E : String) (g' : sk_G) (I' : sk_I) (J' : sk_J), ¬ Q' (.inr E) g' I' J') : sk_W Γ M mc ms pc L S' sk_gg I J kc kn Q := by
  obtain ⟨h1, h2, h3, h4, h5, h6, h7⟩ := hl
  obtain ⟨T9, hc⟩ := hc
  subst hna
  exact sk_callV d ho hc h1 h2 h3 h4 h5 h6 h7 hR ⟨hk, hk'⟩ hcat hst hs kk (fun E g' I' J' h => absurd h (kx E g' I' J'))
theorem q_callVi {M' : sk_M} {q ci N idx na : Nat} {as S' : List Value} (d : decode (sk_cc M) pc = .ok (.invokevirtual idx, 3)) (hl : sk_lkV (sk_own M) idx M' na) (ho : sk_gg.2.1[q]? = some (0, ci, N)) (hc : ∃ T9, sk_cl[ci]? = some ((sk_y M').cls, T9, N)) (hna : as.length = na)
    (hR : sk_fr M' + 1 ≤ sk_fr M ∧ 8 + (sk_nl M' + 11) + sk_lo M' ≤ sk_lo M) (hcat : (S.map fun v => v.category).sum ≤ 8) (hst : as.reverse ++ .ref q :: S = S') (hk : kc ≤ mc) (hk' : kn ≤ ms)
    (hs : sk_S Γ M' 0 0 (.ref q :: as) sk_gg I J (sk_Ki fun v I' J' => sk_W Γ M mc ms (pc + 3) L (.int v :: S) sk_gg I' J' kc kn Q)) : sk_W Γ M mc ms pc L S' sk_gg I J kc kn Q :=
  q_callV d hl ho hc hna hR hcat hst hk hk' hs (fun r g' I' J' h => by obtain ⟨v, h1, h2, h3⟩ := h; cases h1; subst h2; exact h3) (fun E g' I' J' h => by obtain ⟨v, h1, -⟩ := h; cases h1)
theorem q_callVl {M' : sk_M} {q ci N idx na : Nat} {as S' : List Value} (d : decode (sk_cc M) pc = .ok (.invokevirtual idx, 3)) (hl : sk_lkV (sk_own M) idx M' na) (ho : sk_gg.2.1[q]? = some (0, ci, N)) (hc : ∃ T9, sk_cl[ci]? = some ((sk_y M').cls, T9, N)) (hna : as.length = na)
    (hR : sk_fr M' + 1 ≤ sk_fr M ∧ 8 + (sk_nl M' + 11) + sk_lo M' ≤ sk_lo M) (hcat : (S.map fun v => v.category).sum ≤ 8) (hst : as.reverse ++ .ref q :: S = S') (hk : kc ≤ mc) (hk' : kn ≤ ms)
    (hs : sk_S Γ M' 0 0 (.ref q :: as) sk_gg I J (sk_Kl fun v I' J' => sk_W Γ M mc ms (pc + 3) L (.long v :: S) sk_gg I' J' kc kn Q)) : sk_W Γ M mc ms pc L S' sk_gg I J kc kn Q :=
  q_callV d hl ho hc hna hR hcat hst hk hk' hs (fun r g' I' J' h => by obtain ⟨v, h1, h2, h3⟩ := h; cases h1; subst h2; exact h3) (fun E g' I' J' h => by obtain ⟨v, h1, -⟩ := h; cases h1)
theorem q_callVv {M' : sk_M} {q ci N idx na : Nat} {as S' : List Value} (d : decode (sk_cc M) pc = .ok (.invokevirtual idx, 3)) (hl : sk_lkV (sk_own M) idx M' na) (ho : sk_gg.2.1[q]? = some (0, ci, N)) (hc : ∃ T9, sk_cl[ci]? = some ((sk_y M').cls, T9, N)) (hna : as.length = na)
    (hR : sk_fr M' + 1 ≤ sk_fr M ∧ 8 + (sk_nl M' + 11) + sk_lo M' ≤ sk_lo M) (hcat : (S.map fun v => v.category).sum ≤ 8) (hst : as.reverse ++ .ref q :: S = S') (hk : kc ≤ mc) (hk' : kn ≤ ms)
    (hs : sk_S Γ M' 0 0 (.ref q :: as) sk_gg I J (sk_Kv fun I' J' => sk_W Γ M mc ms (pc + 3) L S sk_gg I' J' kc kn Q)) : sk_W Γ M mc ms pc L S' sk_gg I J kc kn Q :=
  q_callV d hl ho hc hna hR hcat hst hk hk' hs (fun r g' I' J' h => by obtain ⟨h1, h2, h3⟩ := h; cases h1; subst h2; exact h3) (fun E g' I' J' h => by obtain ⟨h1, -⟩ := h; cases h1)
/-- a call that throws -/
theorem q_callVx {M' : sk_M} {q ci N idx na : Nat} {as S' : List Value} (d : decode (sk_cc M) pc = .ok (.invokevirtual idx, 3)) (hl : sk_lkV (sk_own M) idx M' na) (ho : sk_gg.2.1[q]? = some (0, ci, N)) (hc : ∃ T9, sk_cl[ci]? = some ((sk_y M').cls, T9, N)) (hna : as.length = na)
    (hR : sk_fr M' + 1 ≤ sk_fr M ∧ 8 + (sk_nl M' + 11) + sk_lo M' ≤ sk_lo M) (hcat : (S.map fun v => v.category).sum ≤ 8) (hst : as.reverse ++ .ref q :: S = S') (hk : kc + 1 ≤ mc ∧ kn + 6 ≤ ms)
    (hs : sk_S Γ M' 1 6 (.ref q :: as) sk_gg I J (sk_Kx fun E I' J' => sk_X Γ M mc ms pc L E sk_gg I' J' (kc + 1) (kn + 6) Q)) : sk_W Γ M mc ms pc L S' sk_gg I J kc kn Q := by
  obtain ⟨h1, h2, h3, h4, h5, h6, h7⟩ := hl
  obtain ⟨T9, hc⟩ := hc
  subst hna
  refine sk_callV d ho hc h1 h2 h3 h4 h5 h6 h7 hR hk hcat hst hs (fun r g' I' J' h => ?_) (fun E g' I' J' h => ?_)
  · obtain ⟨E, h1, -⟩ := h; cases h1
  · obtain ⟨E', h1, h2, h3⟩ := h; cases h1; subst h2; exact h3
theorem q_callSi {M' : sk_M} {idx na mc' ms' : Nat} {as S' : List Value} (d : decode (sk_cc M) pc = .ok (.invokestatic idx, 3)) (hl : sk_lkS (sk_own M) idx M' na) (hna : as.length = na)
    (hR : sk_fr M' + 1 ≤ sk_fr M ∧ 8 + (sk_nl M' + 11) + sk_lo M' ≤ sk_lo M) (hcat : (S.map fun v => v.category).sum ≤ 8) (hst : as.reverse ++ S = S') (hk : kc + mc' ≤ mc ∧ kn + ms' ≤ ms)
    (hs : sk_S Γ M' mc' ms' as sk_gg I J (sk_Ki fun v I' J' => sk_W Γ M mc ms (pc + 3) L (.int v :: S) sk_gg I' J' (kc + mc') (kn + ms') Q)) : sk_W Γ M mc ms pc L S' sk_gg I J kc kn Q := by
  obtain ⟨h1, h2, h3, h4, h7⟩ := hl
  subst hna
  refine sk_callS d h1 h2 h3 h4 h7 hR hk hcat hst hs (fun r g' I' J' h => ?_) (fun E g' I' J' h => ?_)
  · obtain ⟨v, h1, h2, h3⟩ := h; cases h1; subst h2; exact h3
  · obtain ⟨v, h1, -⟩ := h; cases h1
theorem q_callI {M' : sk_M} {mc' ms' : Nat} {Q' : sk_Q} {q idx na : Nat} {as S' : List Value} (d : decode (sk_cc M) pc = .ok (.invokespecial idx, 3)) (hl : sk_lkI (sk_own M) idx M' na) (hna : as.length = na)
    (hR : sk_fr M' + 1 ≤ sk_fr M ∧ 8 + (sk_nl M' + 11) + sk_lo M' ≤ sk_lo M) (hf : kc + mc' ≤ mc ∧ kn + ms' ≤ ms) (hcat : (S.map fun v => v.category).sum ≤ 8) (hst : as.reverse ++ .ref q :: S = S')
    (hs : sk_S Γ M' mc' ms' (.ref q :: as) g I J Q') (kk : ∀ (r : Option Value) (g' : sk_G) (I' : sk_I) (J' : sk_J), Q' (.inl r) g' I' J' → sk_W Γ M mc ms (pc + 3) L (r.toList ++ S) g' I' J' (kc + mc') (kn + ms') Q) (kx : ∀ (E : String) (g' : sk_G) (I' : sk_I) (J' : sk_J), ¬ Q' (.inr E) g' I' J') : sk_W Γ M mc ms pc L S' g I J kc kn Q := by
  obtain ⟨h1, h2, h3, h4, h5, h6, h8, h7⟩ := hl
  subst hna
  exact sk_callI d h1 h2 h3 h4 h5 h6 h8 h7 hR hf hcat hst hs kk (fun E g' I' J' h => absurd h (kx E g' I' J'))
theorem q_throw {ik is ic i : Nat} {cls : String} (d0 : decode (sk_cc M) pc = .ok (.new ik, 3)) (d3 : decode (sk_cc M) (pc + 3) = .ok (.dup, 1)) (d4 : decode (sk_cc M) (pc + 4) = .ok (.ldc is, 2)) (d6 : decode (sk_cc M) (pc + 6) = .ok (.invokespecial ic, 3)) (d9 : decode (sk_cc M) (pc + 9) = .ok (.athrow, 1))
    (hown : sk_own M = "StuckLines") (ht : sk_th ik is ic i cls) (htb : sk_tab M = []) (hR : 6 ≤ sk_fr M ∧ 90 ≤ sk_lo M) (hcat : (S.map fun v => v.category).sum ≤ 8) (hf : kc + 1 ≤ mc ∧ kn + 6 ≤ ms) (hq : Q (.inr cls) sk_gg I J) : sk_W Γ M mc ms pc L S sk_gg I J kc kn Q := by
  obtain ⟨h1, h2, h3, text, h4, h5⟩ := ht
  exact sk_throwS d0 d3 d4 d6 d9 hown h1 (by rw [hown]; exact h2) h3 h4 (by rw [hown]; exact h5) htb hR hcat hf hq
theorem q_cvi {x y : Int32} (e : x = y) (h : sk_W Γ M mc ms pc L (.int y :: S) g I J kc kn Q) : sk_W Γ M mc ms pc L (.int x :: S) g I J kc kn Q := e ▸ h
theorem q_cvl {x y : Int64} (e : x = y) (h : sk_W Γ M mc ms pc L (.long y :: S) g I J kc kn Q) : sk_W Γ M mc ms pc L (.long x :: S) g I J kc kn Q := e ▸ h
end SKQ
