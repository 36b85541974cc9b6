/-! decode rows -/
theorem d_X_init_0 : decode (sk_cc m_X_init) 0 = .ok (.aload_n 0, 1) := by decide +kernel
theorem d_X_init_1 : decode (sk_cc m_X_init) 1 = .ok (.invokespecial 3, 3) := by decide +kernel
theorem d_X_init_4 : decode (sk_cc m_X_init) 4 = .ok (.aload_n 0, 1) := by decide +kernel
theorem d_X_init_5 : decode (sk_cc m_X_init) 5 = .ok (.new 9, 3) := by decide +kernel
theorem d_X_init_8 : decode (sk_cc m_X_init) 8 = .ok (.dup, 1) := by decide +kernel
theorem d_X_init_9 : decode (sk_cc m_X_init) 9 = .ok (.invokespecial 11, 3) := by decide +kernel
theorem d_X_init_12 : decode (sk_cc m_X_init) 12 = .ok (.putfield 12, 3) := by decide +kernel
theorem d_X_init_15 : decode (sk_cc m_X_init) 15 = .ok (.aload_n 0, 1) := by decide +kernel
theorem d_X_init_16 : decode (sk_cc m_X_init) 16 = .ok (.new 16, 3) := by decide +kernel
theorem d_X_init_19 : decode (sk_cc m_X_init) 19 = .ok (.dup, 1) := by decide +kernel
theorem d_X_init_20 : decode (sk_cc m_X_init) 20 = .ok (.aload_n 0, 1) := by decide +kernel
theorem d_X_init_21 : decode (sk_cc m_X_init) 21 = .ok (.getfield 12, 3) := by decide +kernel
theorem d_X_init_24 : decode (sk_cc m_X_init) 24 = .ok (.invokespecial 18, 3) := by decide +kernel
theorem d_X_init_27 : decode (sk_cc m_X_init) 27 = .ok (.putfield 21, 3) := by decide +kernel
theorem d_X_init_30 : decode (sk_cc m_X_init) 30 = .ok (.aload_n 0, 1) := by decide +kernel
theorem d_X_init_31 : decode (sk_cc m_X_init) 31 = .ok (.new 25, 3) := by decide +kernel
theorem d_X_init_34 : decode (sk_cc m_X_init) 34 = .ok (.dup, 1) := by decide +kernel
theorem d_X_init_35 : decode (sk_cc m_X_init) 35 = .ok (.aload_n 0, 1) := by decide +kernel
theorem d_X_init_36 : decode (sk_cc m_X_init) 36 = .ok (.getfield 12, 3) := by decide +kernel
theorem d_X_init_39 : decode (sk_cc m_X_init) 39 = .ok (.invokespecial 27, 3) := by decide +kernel
theorem d_X_init_42 : decode (sk_cc m_X_init) 42 = .ok (.putfield 28, 3) := by decide +kernel
theorem d_X_init_45 : decode (sk_cc m_X_init) 45 = .ok (.aload_n 0, 1) := by decide +kernel
theorem d_X_init_46 : decode (sk_cc m_X_init) 46 = .ok (.new 32, 3) := by decide +kernel
theorem d_X_init_49 : decode (sk_cc m_X_init) 49 = .ok (.dup, 1) := by decide +kernel
theorem d_X_init_50 : decode (sk_cc m_X_init) 50 = .ok (.aload_n 0, 1) := by decide +kernel
theorem d_X_init_51 : decode (sk_cc m_X_init) 51 = .ok (.getfield 12, 3) := by decide +kernel
theorem d_X_init_54 : decode (sk_cc m_X_init) 54 = .ok (.invokespecial 34, 3) := by decide +kernel
theorem d_X_init_57 : decode (sk_cc m_X_init) 57 = .ok (.putfield 35, 3) := by decide +kernel
theorem d_X_init_60 : decode (sk_cc m_X_init) 60 = .ok (.aload_n 0, 1) := by decide +kernel
theorem d_X_init_61 : decode (sk_cc m_X_init) 61 = .ok (.new 39, 3) := by decide +kernel
theorem d_X_init_64 : decode (sk_cc m_X_init) 64 = .ok (.dup, 1) := by decide +kernel
theorem d_X_init_65 : decode (sk_cc m_X_init) 65 = .ok (.aload_n 0, 1) := by decide +kernel
theorem d_X_init_66 : decode (sk_cc m_X_init) 66 = .ok (.getfield 12, 3) := by decide +kernel
theorem d_X_init_69 : decode (sk_cc m_X_init) 69 = .ok (.aload_n 0, 1) := by decide +kernel
theorem d_X_init_70 : decode (sk_cc m_X_init) 70 = .ok (.getfield 28, 3) := by decide +kernel
theorem d_X_init_73 : decode (sk_cc m_X_init) 73 = .ok (.invokespecial 41, 3) := by decide +kernel
theorem d_X_init_76 : decode (sk_cc m_X_init) 76 = .ok (.putfield 44, 3) := by decide +kernel
theorem d_X_init_79 : decode (sk_cc m_X_init) 79 = .ok (.aload_n 0, 1) := by decide +kernel
theorem d_X_init_80 : decode (sk_cc m_X_init) 80 = .ok (.new 48, 3) := by decide +kernel
theorem d_X_init_83 : decode (sk_cc m_X_init) 83 = .ok (.dup, 1) := by decide +kernel
theorem d_X_init_84 : decode (sk_cc m_X_init) 84 = .ok (.aload_n 0, 1) := by decide +kernel
theorem d_X_init_85 : decode (sk_cc m_X_init) 85 = .ok (.getfield 28, 3) := by decide +kernel
theorem d_X_init_88 : decode (sk_cc m_X_init) 88 = .ok (.invokespecial 50, 3) := by decide +kernel
theorem d_X_init_91 : decode (sk_cc m_X_init) 91 = .ok (.putfield 53, 3) := by decide +kernel
theorem d_X_init_94 : decode (sk_cc m_X_init) 94 = .ok (.return_, 1) := by decide +kernel
theorem d_C_init_0 : decode (sk_cc m_C_init) 0 = .ok (.aload_n 0, 1) := by decide +kernel
theorem d_C_init_1 : decode (sk_cc m_C_init) 1 = .ok (.invokespecial 3, 3) := by decide +kernel
theorem d_C_init_4 : decode (sk_cc m_C_init) 4 = .ok (.aload_n 0, 1) := by decide +kernel
theorem d_C_init_5 : decode (sk_cc m_C_init) 5 = .ok (.iconst 1, 1) := by decide +kernel
theorem d_C_init_6 : decode (sk_cc m_C_init) 6 = .ok (.putfield 9, 3) := by decide +kernel
theorem d_C_init_9 : decode (sk_cc m_C_init) 9 = .ok (.aload_n 0, 1) := by decide +kernel
theorem d_C_init_10 : decode (sk_cc m_C_init) 10 = .ok (.iconst 0, 1) := by decide +kernel
theorem d_C_init_11 : decode (sk_cc m_C_init) 11 = .ok (.putfield 15, 3) := by decide +kernel
theorem d_C_init_14 : decode (sk_cc m_C_init) 14 = .ok (.aload_n 0, 1) := by decide +kernel
theorem d_C_init_15 : decode (sk_cc m_C_init) 15 = .ok (.iconst 0, 1) := by decide +kernel
theorem d_C_init_16 : decode (sk_cc m_C_init) 16 = .ok (.putfield 18, 3) := by decide +kernel
theorem d_C_init_19 : decode (sk_cc m_C_init) 19 = .ok (.aload_n 0, 1) := by decide +kernel
theorem d_C_init_20 : decode (sk_cc m_C_init) 20 = .ok (.iconst 0, 1) := by decide +kernel
theorem d_C_init_21 : decode (sk_cc m_C_init) 21 = .ok (.putfield 21, 3) := by decide +kernel
theorem d_C_init_24 : decode (sk_cc m_C_init) 24 = .ok (.aload_n 0, 1) := by decide +kernel
theorem d_C_init_25 : decode (sk_cc m_C_init) 25 = .ok (.iconst 0, 1) := by decide +kernel
theorem d_C_init_26 : decode (sk_cc m_C_init) 26 = .ok (.putfield 24, 3) := by decide +kernel
theorem d_C_init_29 : decode (sk_cc m_C_init) 29 = .ok (.aload_n 0, 1) := by decide +kernel
theorem d_C_init_30 : decode (sk_cc m_C_init) 30 = .ok (.iconst 0, 1) := by decide +kernel
theorem d_C_init_31 : decode (sk_cc m_C_init) 31 = .ok (.putfield 27, 3) := by decide +kernel
theorem d_C_init_34 : decode (sk_cc m_C_init) 34 = .ok (.aload_n 0, 1) := by decide +kernel
theorem d_C_init_35 : decode (sk_cc m_C_init) 35 = .ok (.bipush 26, 2) := by decide +kernel
theorem d_C_init_37 : decode (sk_cc m_C_init) 37 = .ok (.newarray .int, 2) := by decide +kernel
theorem d_C_init_39 : decode (sk_cc m_C_init) 39 = .ok (.putfield 30, 3) := by decide +kernel
theorem d_C_init_42 : decode (sk_cc m_C_init) 42 = .ok (.aload_n 0, 1) := by decide +kernel
theorem d_C_init_43 : decode (sk_cc m_C_init) 43 = .ok (.bipush 26, 2) := by decide +kernel
theorem d_C_init_45 : decode (sk_cc m_C_init) 45 = .ok (.newarray .int, 2) := by decide +kernel
theorem d_C_init_47 : decode (sk_cc m_C_init) 47 = .ok (.putfield 34, 3) := by decide +kernel
theorem d_C_init_50 : decode (sk_cc m_C_init) 50 = .ok (.aload_n 0, 1) := by decide +kernel
theorem d_C_init_51 : decode (sk_cc m_C_init) 51 = .ok (.bipush 26, 2) := by decide +kernel
theorem d_C_init_53 : decode (sk_cc m_C_init) 53 = .ok (.newarray .boolean, 2) := by decide +kernel
theorem d_C_init_55 : decode (sk_cc m_C_init) 55 = .ok (.putfield 37, 3) := by decide +kernel
theorem d_C_init_58 : decode (sk_cc m_C_init) 58 = .ok (.aload_n 0, 1) := by decide +kernel
theorem d_C_init_59 : decode (sk_cc m_C_init) 59 = .ok (.bipush 27, 2) := by decide +kernel
theorem d_C_init_61 : decode (sk_cc m_C_init) 61 = .ok (.newarray .int, 2) := by decide +kernel
theorem d_C_init_63 : decode (sk_cc m_C_init) 63 = .ok (.putfield 41, 3) := by decide +kernel
theorem d_C_init_66 : decode (sk_cc m_C_init) 66 = .ok (.aload_n 0, 1) := by decide +kernel
theorem d_C_init_67 : decode (sk_cc m_C_init) 67 = .ok (.bipush 78, 2) := by decide +kernel
theorem d_C_init_69 : decode (sk_cc m_C_init) 69 = .ok (.newarray .int, 2) := by decide +kernel
theorem d_C_init_71 : decode (sk_cc m_C_init) 71 = .ok (.putfield 44, 3) := by decide +kernel
theorem d_C_init_74 : decode (sk_cc m_C_init) 74 = .ok (.aload_n 0, 1) := by decide +kernel
theorem d_C_init_75 : decode (sk_cc m_C_init) 75 = .ok (.bipush 78, 2) := by decide +kernel
theorem d_C_init_77 : decode (sk_cc m_C_init) 77 = .ok (.newarray .int, 2) := by decide +kernel
theorem d_C_init_79 : decode (sk_cc m_C_init) 79 = .ok (.putfield 47, 3) := by decide +kernel
theorem d_C_init_82 : decode (sk_cc m_C_init) 82 = .ok (.aload_n 0, 1) := by decide +kernel
theorem d_C_init_83 : decode (sk_cc m_C_init) 83 = .ok (.bipush 12, 2) := by decide +kernel
theorem d_C_init_85 : decode (sk_cc m_C_init) 85 = .ok (.newarray .int, 2) := by decide +kernel
theorem d_C_init_87 : decode (sk_cc m_C_init) 87 = .ok (.putfield 50, 3) := by decide +kernel
theorem d_C_init_90 : decode (sk_cc m_C_init) 90 = .ok (.aload_n 0, 1) := by decide +kernel
theorem d_C_init_91 : decode (sk_cc m_C_init) 91 = .ok (.bipush 26, 2) := by decide +kernel
theorem d_C_init_93 : decode (sk_cc m_C_init) 93 = .ok (.newarray .int, 2) := by decide +kernel
theorem d_C_init_95 : decode (sk_cc m_C_init) 95 = .ok (.putfield 53, 3) := by decide +kernel
theorem d_C_init_98 : decode (sk_cc m_C_init) 98 = .ok (.aload_n 0, 1) := by decide +kernel
theorem d_C_init_99 : decode (sk_cc m_C_init) 99 = .ok (.bipush 6, 2) := by decide +kernel
theorem d_C_init_101 : decode (sk_cc m_C_init) 101 = .ok (.newarray .int, 2) := by decide +kernel
theorem d_C_init_103 : decode (sk_cc m_C_init) 103 = .ok (.putfield 56, 3) := by decide +kernel
theorem d_C_init_106 : decode (sk_cc m_C_init) 106 = .ok (.return_, 1) := by decide +kernel
theorem d_S_init_0 : decode (sk_cc m_S_init) 0 = .ok (.aload_n 0, 1) := by decide +kernel
theorem d_S_init_1 : decode (sk_cc m_S_init) 1 = .ok (.invokespecial 3, 3) := by decide +kernel
theorem d_S_init_4 : decode (sk_cc m_S_init) 4 = .ok (.aload_n 0, 1) := by decide +kernel
theorem d_S_init_5 : decode (sk_cc m_S_init) 5 = .ok (.bipush 6, 2) := by decide +kernel
theorem d_S_init_7 : decode (sk_cc m_S_init) 7 = .ok (.newarray .long, 2) := by decide +kernel
theorem d_S_init_9 : decode (sk_cc m_S_init) 9 = .ok (.putfield 9, 3) := by decide +kernel
theorem d_S_init_12 : decode (sk_cc m_S_init) 12 = .ok (.aload_n 0, 1) := by decide +kernel
theorem d_S_init_13 : decode (sk_cc m_S_init) 13 = .ok (.bipush 6, 2) := by decide +kernel
theorem d_S_init_15 : decode (sk_cc m_S_init) 15 = .ok (.newarray .long, 2) := by decide +kernel
theorem d_S_init_17 : decode (sk_cc m_S_init) 17 = .ok (.putfield 15, 3) := by decide +kernel
theorem d_S_init_20 : decode (sk_cc m_S_init) 20 = .ok (.aload_n 0, 1) := by decide +kernel
theorem d_S_init_21 : decode (sk_cc m_S_init) 21 = .ok (.bipush 26, 2) := by decide +kernel
theorem d_S_init_23 : decode (sk_cc m_S_init) 23 = .ok (.newarray .long, 2) := by decide +kernel
theorem d_S_init_25 : decode (sk_cc m_S_init) 25 = .ok (.putfield 18, 3) := by decide +kernel
theorem d_S_init_28 : decode (sk_cc m_S_init) 28 = .ok (.aload_n 0, 1) := by decide +kernel
theorem d_S_init_29 : decode (sk_cc m_S_init) 29 = .ok (.bipush 26, 2) := by decide +kernel
theorem d_S_init_31 : decode (sk_cc m_S_init) 31 = .ok (.newarray .long, 2) := by decide +kernel
theorem d_S_init_33 : decode (sk_cc m_S_init) 33 = .ok (.putfield 21, 3) := by decide +kernel
theorem d_S_init_36 : decode (sk_cc m_S_init) 36 = .ok (.aload_n 0, 1) := by decide +kernel
theorem d_S_init_37 : decode (sk_cc m_S_init) 37 = .ok (.iconst (-1), 1) := by decide +kernel
theorem d_S_init_38 : decode (sk_cc m_S_init) 38 = .ok (.putfield 24, 3) := by decide +kernel
theorem d_S_init_41 : decode (sk_cc m_S_init) 41 = .ok (.aload_n 0, 1) := by decide +kernel
theorem d_S_init_42 : decode (sk_cc m_S_init) 42 = .ok (.lconst 0, 1) := by decide +kernel
theorem d_S_init_43 : decode (sk_cc m_S_init) 43 = .ok (.putfield 28, 3) := by decide +kernel
theorem d_S_init_46 : decode (sk_cc m_S_init) 46 = .ok (.aload_n 0, 1) := by decide +kernel
theorem d_S_init_47 : decode (sk_cc m_S_init) 47 = .ok (.aload_n 1, 1) := by decide +kernel
theorem d_S_init_48 : decode (sk_cc m_S_init) 48 = .ok (.putfield 32, 3) := by decide +kernel
theorem d_S_init_51 : decode (sk_cc m_S_init) 51 = .ok (.return_, 1) := by decide +kernel
theorem d_R_init_0 : decode (sk_cc m_R_init) 0 = .ok (.aload_n 0, 1) := by decide +kernel
theorem d_R_init_1 : decode (sk_cc m_R_init) 1 = .ok (.invokespecial 3, 3) := by decide +kernel
theorem d_R_init_4 : decode (sk_cc m_R_init) 4 = .ok (.aload_n 0, 1) := by decide +kernel
theorem d_R_init_5 : decode (sk_cc m_R_init) 5 = .ok (.sipush 2508, 3) := by decide +kernel
theorem d_R_init_8 : decode (sk_cc m_R_init) 8 = .ok (.newarray .long, 2) := by decide +kernel
theorem d_R_init_10 : decode (sk_cc m_R_init) 10 = .ok (.putfield 9, 3) := by decide +kernel
theorem d_R_init_13 : decode (sk_cc m_R_init) 13 = .ok (.aload_n 0, 1) := by decide +kernel
theorem d_R_init_14 : decode (sk_cc m_R_init) 14 = .ok (.sipush 209, 3) := by decide +kernel
theorem d_R_init_17 : decode (sk_cc m_R_init) 17 = .ok (.newarray .long, 2) := by decide +kernel
theorem d_R_init_19 : decode (sk_cc m_R_init) 19 = .ok (.putfield 15, 3) := by decide +kernel
theorem d_R_init_22 : decode (sk_cc m_R_init) 22 = .ok (.aload_n 0, 1) := by decide +kernel
theorem d_R_init_23 : decode (sk_cc m_R_init) 23 = .ok (.sipush 209, 3) := by decide +kernel
theorem d_R_init_26 : decode (sk_cc m_R_init) 26 = .ok (.newarray .int, 2) := by decide +kernel
theorem d_R_init_28 : decode (sk_cc m_R_init) 28 = .ok (.putfield 18, 3) := by decide +kernel
theorem d_R_init_31 : decode (sk_cc m_R_init) 31 = .ok (.aload_n 0, 1) := by decide +kernel
theorem d_R_init_32 : decode (sk_cc m_R_init) 32 = .ok (.aload_n 1, 1) := by decide +kernel
theorem d_R_init_33 : decode (sk_cc m_R_init) 33 = .ok (.putfield 22, 3) := by decide +kernel
theorem d_R_init_36 : decode (sk_cc m_R_init) 36 = .ok (.aload_n 0, 1) := by decide +kernel
theorem d_R_init_37 : decode (sk_cc m_R_init) 37 = .ok (.new 26, 3) := by decide +kernel
theorem d_R_init_40 : decode (sk_cc m_R_init) 40 = .ok (.dup, 1) := by decide +kernel
theorem d_R_init_41 : decode (sk_cc m_R_init) 41 = .ok (.aload_n 1, 1) := by decide +kernel
theorem d_R_init_42 : decode (sk_cc m_R_init) 42 = .ok (.invokespecial 28, 3) := by decide +kernel
theorem d_R_init_45 : decode (sk_cc m_R_init) 45 = .ok (.putfield 31, 3) := by decide +kernel
theorem d_R_init_48 : decode (sk_cc m_R_init) 48 = .ok (.return_, 1) := by decide +kernel
theorem d_U_init_0 : decode (sk_cc m_U_init) 0 = .ok (.aload_n 0, 1) := by decide +kernel
theorem d_U_init_1 : decode (sk_cc m_U_init) 1 = .ok (.invokespecial 3, 3) := by decide +kernel
theorem d_U_init_4 : decode (sk_cc m_U_init) 4 = .ok (.aload_n 0, 1) := by decide +kernel
theorem d_U_init_5 : decode (sk_cc m_U_init) 5 = .ok (.aload_n 1, 1) := by decide +kernel
theorem d_U_init_6 : decode (sk_cc m_U_init) 6 = .ok (.putfield 9, 3) := by decide +kernel
theorem d_U_init_9 : decode (sk_cc m_U_init) 9 = .ok (.aload_n 0, 1) := by decide +kernel
theorem d_U_init_10 : decode (sk_cc m_U_init) 10 = .ok (.new 15, 3) := by decide +kernel
theorem d_U_init_13 : decode (sk_cc m_U_init) 13 = .ok (.dup, 1) := by decide +kernel
theorem d_U_init_14 : decode (sk_cc m_U_init) 14 = .ok (.aload_n 1, 1) := by decide +kernel
theorem d_U_init_15 : decode (sk_cc m_U_init) 15 = .ok (.invokespecial 17, 3) := by decide +kernel
theorem d_U_init_18 : decode (sk_cc m_U_init) 18 = .ok (.putfield 20, 3) := by decide +kernel
theorem d_U_init_21 : decode (sk_cc m_U_init) 21 = .ok (.aload_n 0, 1) := by decide +kernel
theorem d_U_init_22 : decode (sk_cc m_U_init) 22 = .ok (.new 15, 3) := by decide +kernel
theorem d_U_init_25 : decode (sk_cc m_U_init) 25 = .ok (.dup, 1) := by decide +kernel
theorem d_U_init_26 : decode (sk_cc m_U_init) 26 = .ok (.aload_n 1, 1) := by decide +kernel
theorem d_U_init_27 : decode (sk_cc m_U_init) 27 = .ok (.invokespecial 17, 3) := by decide +kernel
theorem d_U_init_30 : decode (sk_cc m_U_init) 30 = .ok (.putfield 24, 3) := by decide +kernel
theorem d_U_init_33 : decode (sk_cc m_U_init) 33 = .ok (.return_, 1) := by decide +kernel
theorem d_P_init_0 : decode (sk_cc m_P_init) 0 = .ok (.aload_n 0, 1) := by decide +kernel
theorem d_P_init_1 : decode (sk_cc m_P_init) 1 = .ok (.invokespecial 3, 3) := by decide +kernel
theorem d_P_init_4 : decode (sk_cc m_P_init) 4 = .ok (.aload_n 0, 1) := by decide +kernel
theorem d_P_init_5 : decode (sk_cc m_P_init) 5 = .ok (.bipush 64, 2) := by decide +kernel
theorem d_P_init_7 : decode (sk_cc m_P_init) 7 = .ok (.newarray .int, 2) := by decide +kernel
theorem d_P_init_9 : decode (sk_cc m_P_init) 9 = .ok (.putfield 9, 3) := by decide +kernel
theorem d_P_init_12 : decode (sk_cc m_P_init) 12 = .ok (.aload_n 0, 1) := by decide +kernel
theorem d_P_init_13 : decode (sk_cc m_P_init) 13 = .ok (.iconst 0, 1) := by decide +kernel
theorem d_P_init_14 : decode (sk_cc m_P_init) 14 = .ok (.putfield 15, 3) := by decide +kernel
theorem d_P_init_17 : decode (sk_cc m_P_init) 17 = .ok (.aload_n 0, 1) := by decide +kernel
theorem d_P_init_18 : decode (sk_cc m_P_init) 18 = .ok (.lconst 0, 1) := by decide +kernel
theorem d_P_init_19 : decode (sk_cc m_P_init) 19 = .ok (.putfield 19, 3) := by decide +kernel
theorem d_P_init_22 : decode (sk_cc m_P_init) 22 = .ok (.aload_n 0, 1) := by decide +kernel
theorem d_P_init_23 : decode (sk_cc m_P_init) 23 = .ok (.iconst 0, 1) := by decide +kernel
theorem d_P_init_24 : decode (sk_cc m_P_init) 24 = .ok (.putfield 23, 3) := by decide +kernel
theorem d_P_init_27 : decode (sk_cc m_P_init) 27 = .ok (.aload_n 0, 1) := by decide +kernel
theorem d_P_init_28 : decode (sk_cc m_P_init) 28 = .ok (.aload_n 1, 1) := by decide +kernel
theorem d_P_init_29 : decode (sk_cc m_P_init) 29 = .ok (.putfield 26, 3) := by decide +kernel
theorem d_P_init_32 : decode (sk_cc m_P_init) 32 = .ok (.aload_n 0, 1) := by decide +kernel
theorem d_P_init_33 : decode (sk_cc m_P_init) 33 = .ok (.aload_n 2, 1) := by decide +kernel
theorem d_P_init_34 : decode (sk_cc m_P_init) 34 = .ok (.putfield 30, 3) := by decide +kernel
theorem d_P_init_37 : decode (sk_cc m_P_init) 37 = .ok (.return_, 1) := by decide +kernel
theorem d_G_init_0 : decode (sk_cc m_G_init) 0 = .ok (.aload_n 0, 1) := by decide +kernel
theorem d_G_init_1 : decode (sk_cc m_G_init) 1 = .ok (.invokespecial 3, 3) := by decide +kernel
theorem d_G_init_4 : decode (sk_cc m_G_init) 4 = .ok (.aload_n 0, 1) := by decide +kernel
theorem d_G_init_5 : decode (sk_cc m_G_init) 5 = .ok (.bipush 16, 2) := by decide +kernel
theorem d_G_init_7 : decode (sk_cc m_G_init) 7 = .ok (.newarray .int, 2) := by decide +kernel
theorem d_G_init_9 : decode (sk_cc m_G_init) 9 = .ok (.putfield 9, 3) := by decide +kernel
theorem d_G_init_12 : decode (sk_cc m_G_init) 12 = .ok (.aload_n 0, 1) := by decide +kernel
theorem d_G_init_13 : decode (sk_cc m_G_init) 13 = .ok (.bipush 16, 2) := by decide +kernel
theorem d_G_init_15 : decode (sk_cc m_G_init) 15 = .ok (.newarray .int, 2) := by decide +kernel
theorem d_G_init_17 : decode (sk_cc m_G_init) 17 = .ok (.putfield 15, 3) := by decide +kernel
theorem d_G_init_20 : decode (sk_cc m_G_init) 20 = .ok (.aload_n 0, 1) := by decide +kernel
theorem d_G_init_21 : decode (sk_cc m_G_init) 21 = .ok (.iconst 0, 1) := by decide +kernel
theorem d_G_init_22 : decode (sk_cc m_G_init) 22 = .ok (.putfield 18, 3) := by decide +kernel
theorem d_G_init_25 : decode (sk_cc m_G_init) 25 = .ok (.aload_n 0, 1) := by decide +kernel
theorem d_G_init_26 : decode (sk_cc m_G_init) 26 = .ok (.aload_n 1, 1) := by decide +kernel
theorem d_G_init_27 : decode (sk_cc m_G_init) 27 = .ok (.putfield 22, 3) := by decide +kernel
theorem d_G_init_30 : decode (sk_cc m_G_init) 30 = .ok (.return_, 1) := by decide +kernel
theorem d_X_clear_0 : decode (sk_cc m_X_clear) 0 = .ok (.aload_n 0, 1) := by decide +kernel
theorem d_X_clear_1 : decode (sk_cc m_X_clear) 1 = .ok (.getfield 12, 3) := by decide +kernel
theorem d_X_clear_4 : decode (sk_cc m_X_clear) 4 = .ok (.invokevirtual 57, 3) := by decide +kernel
theorem d_X_clear_7 : decode (sk_cc m_X_clear) 7 = .ok (.aload_n 0, 1) := by decide +kernel
theorem d_X_clear_8 : decode (sk_cc m_X_clear) 8 = .ok (.getfield 53, 3) := by decide +kernel
theorem d_X_clear_11 : decode (sk_cc m_X_clear) 11 = .ok (.invokevirtual 60, 3) := by decide +kernel
theorem d_X_clear_14 : decode (sk_cc m_X_clear) 14 = .ok (.return_, 1) := by decide +kernel
theorem d_C_removeAll_0 : decode (sk_cc m_C_removeAll) 0 = .ok (.aload_n 0, 1) := by decide +kernel
theorem d_C_removeAll_1 : decode (sk_cc m_C_removeAll) 1 = .ok (.iconst 0, 1) := by decide +kernel
theorem d_C_removeAll_2 : decode (sk_cc m_C_removeAll) 2 = .ok (.putfield 15, 3) := by decide +kernel
theorem d_C_removeAll_5 : decode (sk_cc m_C_removeAll) 5 = .ok (.aload_n 0, 1) := by decide +kernel
theorem d_C_removeAll_6 : decode (sk_cc m_C_removeAll) 6 = .ok (.iconst 0, 1) := by decide +kernel
theorem d_C_removeAll_7 : decode (sk_cc m_C_removeAll) 7 = .ok (.putfield 18, 3) := by decide +kernel
theorem d_C_removeAll_10 : decode (sk_cc m_C_removeAll) 10 = .ok (.aload_n 0, 1) := by decide +kernel
theorem d_C_removeAll_11 : decode (sk_cc m_C_removeAll) 11 = .ok (.iconst 0, 1) := by decide +kernel
theorem d_C_removeAll_12 : decode (sk_cc m_C_removeAll) 12 = .ok (.putfield 21, 3) := by decide +kernel
theorem d_C_removeAll_15 : decode (sk_cc m_C_removeAll) 15 = .ok (.aload_n 0, 1) := by decide +kernel
theorem d_C_removeAll_16 : decode (sk_cc m_C_removeAll) 16 = .ok (.iconst 0, 1) := by decide +kernel
theorem d_C_removeAll_17 : decode (sk_cc m_C_removeAll) 17 = .ok (.putfield 24, 3) := by decide +kernel
theorem d_C_removeAll_20 : decode (sk_cc m_C_removeAll) 20 = .ok (.aload_n 0, 1) := by decide +kernel
theorem d_C_removeAll_21 : decode (sk_cc m_C_removeAll) 21 = .ok (.iconst 0, 1) := by decide +kernel
theorem d_C_removeAll_22 : decode (sk_cc m_C_removeAll) 22 = .ok (.putfield 27, 3) := by decide +kernel
theorem d_C_removeAll_25 : decode (sk_cc m_C_removeAll) 25 = .ok (.aload_n 0, 1) := by decide +kernel
theorem d_C_removeAll_26 : decode (sk_cc m_C_removeAll) 26 = .ok (.dup, 1) := by decide +kernel
theorem d_C_removeAll_27 : decode (sk_cc m_C_removeAll) 27 = .ok (.getfield 9, 3) := by decide +kernel
theorem d_C_removeAll_30 : decode (sk_cc m_C_removeAll) 30 = .ok (.iconst 1, 1) := by decide +kernel
theorem d_C_removeAll_31 : decode (sk_cc m_C_removeAll) 31 = .ok (.iadd, 1) := by decide +kernel
theorem d_C_removeAll_32 : decode (sk_cc m_C_removeAll) 32 = .ok (.putfield 9, 3) := by decide +kernel
theorem d_C_removeAll_35 : decode (sk_cc m_C_removeAll) 35 = .ok (.return_, 1) := by decide +kernel
theorem d_G_removeAll_0 : decode (sk_cc m_G_removeAll) 0 = .ok (.aload_n 0, 1) := by decide +kernel
theorem d_G_removeAll_1 : decode (sk_cc m_G_removeAll) 1 = .ok (.iconst 0, 1) := by decide +kernel
theorem d_G_removeAll_2 : decode (sk_cc m_G_removeAll) 2 = .ok (.putfield 18, 3) := by decide +kernel
theorem d_G_removeAll_5 : decode (sk_cc m_G_removeAll) 5 = .ok (.return_, 1) := by decide +kernel
theorem d_X_fault_0 : decode (sk_cc m_X_fault) 0 = .ok (.aload_n 0, 1) := by decide +kernel
theorem d_X_fault_1 : decode (sk_cc m_X_fault) 1 = .ok (.getfield 12, 3) := by decide +kernel
theorem d_X_fault_4 : decode (sk_cc m_X_fault) 4 = .ok (.iload_n 1, 1) := by decide +kernel
theorem d_X_fault_5 : decode (sk_cc m_X_fault) 5 = .ok (.invokevirtual 159, 3) := by decide +kernel
theorem d_X_fault_8 : decode (sk_cc m_X_fault) 8 = .ok (.ifCond .eq 12, 3) := by decide +kernel
theorem d_X_fault_11 : decode (sk_cc m_X_fault) 11 = .ok (.iload_n 3, 1) := by decide +kernel
theorem d_X_fault_12 : decode (sk_cc m_X_fault) 12 = .ok (.ifCond .lt 8, 3) := by decide +kernel
theorem d_X_fault_15 : decode (sk_cc m_X_fault) 15 = .ok (.iload_n 3, 1) := by decide +kernel
theorem d_X_fault_16 : decode (sk_cc m_X_fault) 16 = .ok (.iconst 1, 1) := by decide +kernel
theorem d_X_fault_17 : decode (sk_cc m_X_fault) 17 = .ok (.if_icmp .le 5, 3) := by decide +kernel
theorem d_X_fault_20 : decode (sk_cc m_X_fault) 20 = .ok (.iconst (-1), 1) := by decide +kernel
theorem d_X_fault_21 : decode (sk_cc m_X_fault) 21 = .ok (.ireturn, 1) := by decide +kernel
theorem d_X_fault_22 : decode (sk_cc m_X_fault) 22 = .ok (.iload_n 2, 1) := by decide +kernel
theorem d_X_fault_23 : decode (sk_cc m_X_fault) 23 = .ok (.iconst (-1), 1) := by decide +kernel
theorem d_X_fault_24 : decode (sk_cc m_X_fault) 24 = .ok (.if_icmp .ne 9, 3) := by decide +kernel
theorem d_X_fault_27 : decode (sk_cc m_X_fault) 27 = .ok (.iconst 2, 1) := by decide +kernel
theorem d_X_fault_28 : decode (sk_cc m_X_fault) 28 = .ok (.iload_n 1, 1) := by decide +kernel
theorem d_X_fault_29 : decode (sk_cc m_X_fault) 29 = .ok (.imul, 1) := by decide +kernel
theorem d_X_fault_30 : decode (sk_cc m_X_fault) 30 = .ok (.iload_n 3, 1) := by decide +kernel
theorem d_X_fault_31 : decode (sk_cc m_X_fault) 31 = .ok (.iadd, 1) := by decide +kernel
theorem d_X_fault_32 : decode (sk_cc m_X_fault) 32 = .ok (.ireturn, 1) := by decide +kernel
theorem d_X_fault_33 : decode (sk_cc m_X_fault) 33 = .ok (.iload_n 2, 1) := by decide +kernel
theorem d_X_fault_34 : decode (sk_cc m_X_fault) 34 = .ok (.ifCond .lt 15, 3) := by decide +kernel
theorem d_X_fault_37 : decode (sk_cc m_X_fault) 37 = .ok (.iload_n 2, 1) := by decide +kernel
theorem d_X_fault_38 : decode (sk_cc m_X_fault) 38 = .ok (.aload_n 0, 1) := by decide +kernel
theorem d_X_fault_39 : decode (sk_cc m_X_fault) 39 = .ok (.getfield 12, 3) := by decide +kernel
theorem d_X_fault_42 : decode (sk_cc m_X_fault) 42 = .ok (.iload_n 1, 1) := by decide +kernel
theorem d_X_fault_43 : decode (sk_cc m_X_fault) 43 = .ok (.invokevirtual 162, 3) := by decide +kernel
theorem d_X_fault_46 : decode (sk_cc m_X_fault) 46 = .ok (.if_icmp .lt 5, 3) := by decide +kernel
theorem d_X_fault_49 : decode (sk_cc m_X_fault) 49 = .ok (.iconst (-1), 1) := by decide +kernel
theorem d_X_fault_50 : decode (sk_cc m_X_fault) 50 = .ok (.ireturn, 1) := by decide +kernel
theorem d_X_fault_51 : decode (sk_cc m_X_fault) 51 = .ok (.iconst 2, 1) := by decide +kernel
theorem d_X_fault_52 : decode (sk_cc m_X_fault) 52 = .ok (.aload_n 0, 1) := by decide +kernel
theorem d_X_fault_53 : decode (sk_cc m_X_fault) 53 = .ok (.getfield 12, 3) := by decide +kernel
theorem d_X_fault_56 : decode (sk_cc m_X_fault) 56 = .ok (.getfield 65, 3) := by decide +kernel
theorem d_X_fault_59 : decode (sk_cc m_X_fault) 59 = .ok (.aload_n 0, 1) := by decide +kernel
theorem d_X_fault_60 : decode (sk_cc m_X_fault) 60 = .ok (.getfield 12, 3) := by decide +kernel
theorem d_X_fault_63 : decode (sk_cc m_X_fault) 63 = .ok (.getfield 165, 3) := by decide +kernel
theorem d_X_fault_66 : decode (sk_cc m_X_fault) 66 = .ok (.iload_n 1, 1) := by decide +kernel
theorem d_X_fault_67 : decode (sk_cc m_X_fault) 67 = .ok (.iaload, 1) := by decide +kernel
theorem d_X_fault_68 : decode (sk_cc m_X_fault) 68 = .ok (.iadd, 1) := by decide +kernel
theorem d_X_fault_69 : decode (sk_cc m_X_fault) 69 = .ok (.iload_n 2, 1) := by decide +kernel
theorem d_X_fault_70 : decode (sk_cc m_X_fault) 70 = .ok (.iadd, 1) := by decide +kernel
theorem d_X_fault_71 : decode (sk_cc m_X_fault) 71 = .ok (.imul, 1) := by decide +kernel
theorem d_X_fault_72 : decode (sk_cc m_X_fault) 72 = .ok (.iload_n 3, 1) := by decide +kernel
theorem d_X_fault_73 : decode (sk_cc m_X_fault) 73 = .ok (.iadd, 1) := by decide +kernel
theorem d_X_fault_74 : decode (sk_cc m_X_fault) 74 = .ok (.ireturn, 1) := by decide +kernel
theorem d_C_hasLine_0 : decode (sk_cc m_C_hasLine) 0 = .ok (.iload_n 1, 1) := by decide +kernel
theorem d_C_hasLine_1 : decode (sk_cc m_C_hasLine) 1 = .ok (.ifCond .lt 15, 3) := by decide +kernel
theorem d_C_hasLine_4 : decode (sk_cc m_C_hasLine) 4 = .ok (.iload_n 1, 1) := by decide +kernel
theorem d_C_hasLine_5 : decode (sk_cc m_C_hasLine) 5 = .ok (.aload_n 0, 1) := by decide +kernel
theorem d_C_hasLine_6 : decode (sk_cc m_C_hasLine) 6 = .ok (.getfield 15, 3) := by decide +kernel
theorem d_C_hasLine_9 : decode (sk_cc m_C_hasLine) 9 = .ok (.if_icmp .ge 7, 3) := by decide +kernel
theorem d_C_hasLine_12 : decode (sk_cc m_C_hasLine) 12 = .ok (.iconst 1, 1) := by decide +kernel
theorem d_C_hasLine_13 : decode (sk_cc m_C_hasLine) 13 = .ok (.goto 4, 3) := by decide +kernel
theorem d_C_hasLine_16 : decode (sk_cc m_C_hasLine) 16 = .ok (.iconst 0, 1) := by decide +kernel
theorem d_C_hasLine_17 : decode (sk_cc m_C_hasLine) 17 = .ok (.ireturn, 1) := by decide +kernel
theorem d_C_pinsOf_0 : decode (sk_cc m_C_pinsOf) 0 = .ok (.aload_n 0, 1) := by decide +kernel
theorem d_C_pinsOf_1 : decode (sk_cc m_C_pinsOf) 1 = .ok (.getfield 41, 3) := by decide +kernel
theorem d_C_pinsOf_4 : decode (sk_cc m_C_pinsOf) 4 = .ok (.iload_n 1, 1) := by decide +kernel
theorem d_C_pinsOf_5 : decode (sk_cc m_C_pinsOf) 5 = .ok (.iconst 1, 1) := by decide +kernel
theorem d_C_pinsOf_6 : decode (sk_cc m_C_pinsOf) 6 = .ok (.iadd, 1) := by decide +kernel
theorem d_C_pinsOf_7 : decode (sk_cc m_C_pinsOf) 7 = .ok (.iaload, 1) := by decide +kernel
theorem d_C_pinsOf_8 : decode (sk_cc m_C_pinsOf) 8 = .ok (.aload_n 0, 1) := by decide +kernel
theorem d_C_pinsOf_9 : decode (sk_cc m_C_pinsOf) 9 = .ok (.getfield 41, 3) := by decide +kernel
theorem d_C_pinsOf_12 : decode (sk_cc m_C_pinsOf) 12 = .ok (.iload_n 1, 1) := by decide +kernel
theorem d_C_pinsOf_13 : decode (sk_cc m_C_pinsOf) 13 = .ok (.iaload, 1) := by decide +kernel
theorem d_C_pinsOf_14 : decode (sk_cc m_C_pinsOf) 14 = .ok (.isub, 1) := by decide +kernel
theorem d_C_pinsOf_15 : decode (sk_cc m_C_pinsOf) 15 = .ok (.ireturn, 1) := by decide +kernel
theorem d_X_packed_0 : decode (sk_cc m_X_packed) 0 = .ok (.aload_n 0, 1) := by decide +kernel
theorem d_X_packed_1 : decode (sk_cc m_X_packed) 1 = .ok (.getfield 28, 3) := by decide +kernel
theorem d_X_packed_4 : decode (sk_cc m_X_packed) 4 = .ok (.invokevirtual 129, 3) := by decide +kernel
theorem d_X_packed_7 : decode (sk_cc m_X_packed) 7 = .ok (.aload_n 0, 1) := by decide +kernel
theorem d_X_packed_8 : decode (sk_cc m_X_packed) 8 = .ok (.getfield 44, 3) := by decide +kernel
theorem d_X_packed_11 : decode (sk_cc m_X_packed) 11 = .ok (.iload_n 1, 1) := by decide +kernel
theorem d_X_packed_12 : decode (sk_cc m_X_packed) 12 = .ok (.invokevirtual 207, 3) := by decide +kernel
theorem d_X_packed_15 : decode (sk_cc m_X_packed) 15 = .ok (.ireturn, 1) := by decide +kernel
theorem d_R_prepareAll_0 : decode (sk_cc m_R_prepareAll) 0 = .ok (.iconst (-1), 1) := by decide +kernel
theorem d_R_prepareAll_1 : decode (sk_cc m_R_prepareAll) 1 = .ok (.istore_n 1, 1) := by decide +kernel
theorem d_R_prepareAll_2 : decode (sk_cc m_R_prepareAll) 2 = .ok (.iload_n 1, 1) := by decide +kernel
theorem d_R_prepareAll_3 : decode (sk_cc m_R_prepareAll) 3 = .ok (.aload_n 0, 1) := by decide +kernel
theorem d_R_prepareAll_4 : decode (sk_cc m_R_prepareAll) 4 = .ok (.getfield 22, 3) := by decide +kernel
theorem d_R_prepareAll_7 : decode (sk_cc m_R_prepareAll) 7 = .ok (.invokevirtual 35, 3) := by decide +kernel
theorem d_R_prepareAll_10 : decode (sk_cc m_R_prepareAll) 10 = .ok (.if_icmp .ge 14, 3) := by decide +kernel
theorem d_R_prepareAll_13 : decode (sk_cc m_R_prepareAll) 13 = .ok (.aload_n 0, 1) := by decide +kernel
theorem d_R_prepareAll_14 : decode (sk_cc m_R_prepareAll) 14 = .ok (.iload_n 1, 1) := by decide +kernel
theorem d_R_prepareAll_15 : decode (sk_cc m_R_prepareAll) 15 = .ok (.invokevirtual 41, 3) := by decide +kernel
theorem d_R_prepareAll_18 : decode (sk_cc m_R_prepareAll) 18 = .ok (.iinc 1 1, 3) := by decide +kernel
theorem d_R_prepareAll_21 : decode (sk_cc m_R_prepareAll) 21 = .ok (.goto (-19), 3) := by decide +kernel
theorem d_R_prepareAll_24 : decode (sk_cc m_R_prepareAll) 24 = .ok (.return_, 1) := by decide +kernel
theorem d_C_faults_0 : decode (sk_cc m_C_faults) 0 = .ok (.iconst 2, 1) := by decide +kernel
theorem d_C_faults_1 : decode (sk_cc m_C_faults) 1 = .ok (.aload_n 0, 1) := by decide +kernel
theorem d_C_faults_2 : decode (sk_cc m_C_faults) 2 = .ok (.getfield 15, 3) := by decide +kernel
theorem d_C_faults_5 : decode (sk_cc m_C_faults) 5 = .ok (.aload_n 0, 1) := by decide +kernel
theorem d_C_faults_6 : decode (sk_cc m_C_faults) 6 = .ok (.getfield 27, 3) := by decide +kernel
theorem d_C_faults_9 : decode (sk_cc m_C_faults) 9 = .ok (.iadd, 1) := by decide +kernel
theorem d_C_faults_10 : decode (sk_cc m_C_faults) 10 = .ok (.imul, 1) := by decide +kernel
theorem d_C_faults_11 : decode (sk_cc m_C_faults) 11 = .ok (.ireturn, 1) := by decide +kernel
theorem d_R_workOut_0 : decode (sk_cc m_R_workOut) 0 = .ok (.iload_n 1, 1) := by decide +kernel
theorem d_R_workOut_1 : decode (sk_cc m_R_workOut) 1 = .ok (.iconst 1, 1) := by decide +kernel
theorem d_R_workOut_2 : decode (sk_cc m_R_workOut) 2 = .ok (.iadd, 1) := by decide +kernel
theorem d_R_workOut_3 : decode (sk_cc m_R_workOut) 3 = .ok (.istore_n 2, 1) := by decide +kernel
theorem d_R_workOut_4 : decode (sk_cc m_R_workOut) 4 = .ok (.aload_n 0, 1) := by decide +kernel
theorem d_R_workOut_5 : decode (sk_cc m_R_workOut) 5 = .ok (.getfield 18, 3) := by decide +kernel
theorem d_R_workOut_8 : decode (sk_cc m_R_workOut) 8 = .ok (.iload_n 2, 1) := by decide +kernel
theorem d_R_workOut_9 : decode (sk_cc m_R_workOut) 9 = .ok (.iaload, 1) := by decide +kernel
theorem d_R_workOut_10 : decode (sk_cc m_R_workOut) 10 = .ok (.aload_n 0, 1) := by decide +kernel
theorem d_R_workOut_11 : decode (sk_cc m_R_workOut) 11 = .ok (.getfield 22, 3) := by decide +kernel
theorem d_R_workOut_14 : decode (sk_cc m_R_workOut) 14 = .ok (.getfield 45, 3) := by decide +kernel
theorem d_R_workOut_17 : decode (sk_cc m_R_workOut) 17 = .ok (.if_icmp .ne 4, 3) := by decide +kernel
theorem d_R_workOut_20 : decode (sk_cc m_R_workOut) 20 = .ok (.return_, 1) := by decide +kernel
theorem d_R_workOut_21 : decode (sk_cc m_R_workOut) 21 = .ok (.ldc2_w 49, 3) := by decide +kernel
theorem d_R_workOut_24 : decode (sk_cc m_R_workOut) 24 = .ok (.bipush 64, 2) := by decide +kernel
theorem d_R_workOut_26 : decode (sk_cc m_R_workOut) 26 = .ok (.aload_n 0, 1) := by decide +kernel
theorem d_R_workOut_27 : decode (sk_cc m_R_workOut) 27 = .ok (.getfield 22, 3) := by decide +kernel
theorem d_R_workOut_30 : decode (sk_cc m_R_workOut) 30 = .ok (.invokevirtual 51, 3) := by decide +kernel
theorem d_R_workOut_33 : decode (sk_cc m_R_workOut) 33 = .ok (.isub, 1) := by decide +kernel
theorem d_R_workOut_34 : decode (sk_cc m_R_workOut) 34 = .ok (.lushr, 1) := by decide +kernel
theorem d_R_workOut_35 : decode (sk_cc m_R_workOut) 35 = .ok (.lstore_n 3, 1) := by decide +kernel
theorem d_R_workOut_36 : decode (sk_cc m_R_workOut) 36 = .ok (.lconst 0, 1) := by decide +kernel
theorem d_R_workOut_37 : decode (sk_cc m_R_workOut) 37 = .ok (.lstore 5, 2) := by decide +kernel
theorem d_R_workOut_39 : decode (sk_cc m_R_workOut) 39 = .ok (.aload_n 0, 1) := by decide +kernel
theorem d_R_workOut_40 : decode (sk_cc m_R_workOut) 40 = .ok (.getfield 31, 3) := by decide +kernel
theorem d_R_workOut_43 : decode (sk_cc m_R_workOut) 43 = .ok (.iload_n 1, 1) := by decide +kernel
theorem d_R_workOut_44 : decode (sk_cc m_R_workOut) 44 = .ok (.invokevirtual 54, 3) := by decide +kernel
theorem d_R_workOut_47 : decode (sk_cc m_R_workOut) 47 = .ok (.iconst 0, 1) := by decide +kernel
theorem d_R_workOut_48 : decode (sk_cc m_R_workOut) 48 = .ok (.istore 7, 2) := by decide +kernel
theorem d_R_workOut_50 : decode (sk_cc m_R_workOut) 50 = .ok (.iload 7, 2) := by decide +kernel
theorem d_R_workOut_52 : decode (sk_cc m_R_workOut) 52 = .ok (.aload_n 0, 1) := by decide +kernel
theorem d_R_workOut_53 : decode (sk_cc m_R_workOut) 53 = .ok (.getfield 22, 3) := by decide +kernel
theorem d_R_workOut_56 : decode (sk_cc m_R_workOut) 56 = .ok (.getfield 57, 3) := by decide +kernel
theorem d_R_workOut_59 : decode (sk_cc m_R_workOut) 59 = .ok (.if_icmp .ge 59, 3) := by decide +kernel
theorem d_R_workOut_62 : decode (sk_cc m_R_workOut) 62 = .ok (.aload_n 0, 1) := by decide +kernel
theorem d_R_workOut_63 : decode (sk_cc m_R_workOut) 63 = .ok (.getfield 31, 3) := by decide +kernel
theorem d_R_workOut_66 : decode (sk_cc m_R_workOut) 66 = .ok (.aload_n 0, 1) := by decide +kernel
theorem d_R_workOut_67 : decode (sk_cc m_R_workOut) 67 = .ok (.getfield 22, 3) := by decide +kernel
theorem d_R_workOut_70 : decode (sk_cc m_R_workOut) 70 = .ok (.getfield 60, 3) := by decide +kernel
theorem d_R_workOut_73 : decode (sk_cc m_R_workOut) 73 = .ok (.iload 7, 2) := by decide +kernel
theorem d_R_workOut_75 : decode (sk_cc m_R_workOut) 75 = .ok (.iaload, 1) := by decide +kernel
theorem d_R_workOut_76 : decode (sk_cc m_R_workOut) 76 = .ok (.invokevirtual 63, 3) := by decide +kernel
theorem d_R_workOut_79 : decode (sk_cc m_R_workOut) 79 = .ok (.lload_n 3, 1) := by decide +kernel
theorem d_R_workOut_80 : decode (sk_cc m_R_workOut) 80 = .ok (.land, 1) := by decide +kernel
theorem d_R_workOut_81 : decode (sk_cc m_R_workOut) 81 = .ok (.lstore 8, 2) := by decide +kernel
theorem d_R_workOut_83 : decode (sk_cc m_R_workOut) 83 = .ok (.aload_n 0, 1) := by decide +kernel
theorem d_R_workOut_84 : decode (sk_cc m_R_workOut) 84 = .ok (.getfield 9, 3) := by decide +kernel
theorem d_R_workOut_87 : decode (sk_cc m_R_workOut) 87 = .ok (.iload_n 2, 1) := by decide +kernel
theorem d_R_workOut_88 : decode (sk_cc m_R_workOut) 88 = .ok (.bipush 12, 2) := by decide +kernel
theorem d_R_workOut_90 : decode (sk_cc m_R_workOut) 90 = .ok (.imul, 1) := by decide +kernel
theorem d_R_workOut_91 : decode (sk_cc m_R_workOut) 91 = .ok (.iload 7, 2) := by decide +kernel
theorem d_R_workOut_93 : decode (sk_cc m_R_workOut) 93 = .ok (.iadd, 1) := by decide +kernel
theorem d_R_workOut_94 : decode (sk_cc m_R_workOut) 94 = .ok (.lload 8, 2) := by decide +kernel
theorem d_R_workOut_96 : decode (sk_cc m_R_workOut) 96 = .ok (.lastore, 1) := by decide +kernel
theorem d_R_workOut_97 : decode (sk_cc m_R_workOut) 97 = .ok (.lload 5, 2) := by decide +kernel
theorem d_R_workOut_99 : decode (sk_cc m_R_workOut) 99 = .ok (.lload 8, 2) := by decide +kernel
theorem d_R_workOut_101 : decode (sk_cc m_R_workOut) 101 = .ok (.aload_n 0, 1) := by decide +kernel
theorem d_R_workOut_102 : decode (sk_cc m_R_workOut) 102 = .ok (.getfield 9, 3) := by decide +kernel
theorem d_R_workOut_105 : decode (sk_cc m_R_workOut) 105 = .ok (.iload 7, 2) := by decide +kernel
theorem d_R_workOut_107 : decode (sk_cc m_R_workOut) 107 = .ok (.laload, 1) := by decide +kernel
theorem d_R_workOut_108 : decode (sk_cc m_R_workOut) 108 = .ok (.lxor, 1) := by decide +kernel
theorem d_R_workOut_109 : decode (sk_cc m_R_workOut) 109 = .ok (.lor, 1) := by decide +kernel
theorem d_R_workOut_110 : decode (sk_cc m_R_workOut) 110 = .ok (.lstore 5, 2) := by decide +kernel
theorem d_R_workOut_112 : decode (sk_cc m_R_workOut) 112 = .ok (.iinc 7 1, 3) := by decide +kernel
theorem d_R_workOut_115 : decode (sk_cc m_R_workOut) 115 = .ok (.goto (-65), 3) := by decide +kernel
theorem d_R_workOut_118 : decode (sk_cc m_R_workOut) 118 = .ok (.aload_n 0, 1) := by decide +kernel
theorem d_R_workOut_119 : decode (sk_cc m_R_workOut) 119 = .ok (.getfield 15, 3) := by decide +kernel
theorem d_R_workOut_122 : decode (sk_cc m_R_workOut) 122 = .ok (.iload_n 2, 1) := by decide +kernel
theorem d_R_workOut_123 : decode (sk_cc m_R_workOut) 123 = .ok (.lload 5, 2) := by decide +kernel
theorem d_R_workOut_125 : decode (sk_cc m_R_workOut) 125 = .ok (.lastore, 1) := by decide +kernel
theorem d_R_workOut_126 : decode (sk_cc m_R_workOut) 126 = .ok (.aload_n 0, 1) := by decide +kernel
theorem d_R_workOut_127 : decode (sk_cc m_R_workOut) 127 = .ok (.getfield 18, 3) := by decide +kernel
theorem d_R_workOut_130 : decode (sk_cc m_R_workOut) 130 = .ok (.iload_n 2, 1) := by decide +kernel
theorem d_R_workOut_131 : decode (sk_cc m_R_workOut) 131 = .ok (.aload_n 0, 1) := by decide +kernel
theorem d_R_workOut_132 : decode (sk_cc m_R_workOut) 132 = .ok (.getfield 22, 3) := by decide +kernel
theorem d_R_workOut_135 : decode (sk_cc m_R_workOut) 135 = .ok (.getfield 45, 3) := by decide +kernel
theorem d_R_workOut_138 : decode (sk_cc m_R_workOut) 138 = .ok (.iastore, 1) := by decide +kernel
theorem d_R_workOut_139 : decode (sk_cc m_R_workOut) 139 = .ok (.return_, 1) := by decide +kernel
theorem d_C_vectors_0 : decode (sk_cc m_C_vectors) 0 = .ok (.iconst 1, 1) := by decide +kernel
theorem d_C_vectors_1 : decode (sk_cc m_C_vectors) 1 = .ok (.aload_n 0, 1) := by decide +kernel
theorem d_C_vectors_2 : decode (sk_cc m_C_vectors) 2 = .ok (.getfield 18, 3) := by decide +kernel
theorem d_C_vectors_5 : decode (sk_cc m_C_vectors) 5 = .ok (.ishl, 1) := by decide +kernel
theorem d_C_vectors_6 : decode (sk_cc m_C_vectors) 6 = .ok (.ireturn, 1) := by decide +kernel
theorem d_S_settleVectors_0 : decode (sk_cc m_S_settleVectors) 0 = .ok (.iconst 0, 1) := by decide +kernel
theorem d_S_settleVectors_1 : decode (sk_cc m_S_settleVectors) 1 = .ok (.istore_n 2, 1) := by decide +kernel
theorem d_S_settleVectors_2 : decode (sk_cc m_S_settleVectors) 2 = .ok (.iload_n 2, 1) := by decide +kernel
theorem d_S_settleVectors_3 : decode (sk_cc m_S_settleVectors) 3 = .ok (.bipush 6, 2) := by decide +kernel
theorem d_S_settleVectors_5 : decode (sk_cc m_S_settleVectors) 5 = .ok (.if_icmp .ge 35, 3) := by decide +kernel
theorem d_S_settleVectors_8 : decode (sk_cc m_S_settleVectors) 8 = .ok (.aload_n 0, 1) := by decide +kernel
theorem d_S_settleVectors_9 : decode (sk_cc m_S_settleVectors) 9 = .ok (.getfield 9, 3) := by decide +kernel
theorem d_S_settleVectors_12 : decode (sk_cc m_S_settleVectors) 12 = .ok (.iload_n 2, 1) := by decide +kernel
theorem d_S_settleVectors_13 : decode (sk_cc m_S_settleVectors) 13 = .ok (.getstatic 36, 3) := by decide +kernel
theorem d_S_settleVectors_16 : decode (sk_cc m_S_settleVectors) 16 = .ok (.iload_n 2, 1) := by decide +kernel
theorem d_S_settleVectors_17 : decode (sk_cc m_S_settleVectors) 17 = .ok (.laload, 1) := by decide +kernel
theorem d_S_settleVectors_18 : decode (sk_cc m_S_settleVectors) 18 = .ok (.lastore, 1) := by decide +kernel
theorem d_S_settleVectors_19 : decode (sk_cc m_S_settleVectors) 19 = .ok (.aload_n 0, 1) := by decide +kernel
theorem d_S_settleVectors_20 : decode (sk_cc m_S_settleVectors) 20 = .ok (.getfield 15, 3) := by decide +kernel
theorem d_S_settleVectors_23 : decode (sk_cc m_S_settleVectors) 23 = .ok (.iload_n 2, 1) := by decide +kernel
theorem d_S_settleVectors_24 : decode (sk_cc m_S_settleVectors) 24 = .ok (.getstatic 36, 3) := by decide +kernel
theorem d_S_settleVectors_27 : decode (sk_cc m_S_settleVectors) 27 = .ok (.iload_n 2, 1) := by decide +kernel
theorem d_S_settleVectors_28 : decode (sk_cc m_S_settleVectors) 28 = .ok (.laload, 1) := by decide +kernel
theorem d_S_settleVectors_29 : decode (sk_cc m_S_settleVectors) 29 = .ok (.ldc2_w 39, 3) := by decide +kernel
theorem d_S_settleVectors_32 : decode (sk_cc m_S_settleVectors) 32 = .ok (.lxor, 1) := by decide +kernel
theorem d_S_settleVectors_33 : decode (sk_cc m_S_settleVectors) 33 = .ok (.lastore, 1) := by decide +kernel
theorem d_S_settleVectors_34 : decode (sk_cc m_S_settleVectors) 34 = .ok (.iinc 2 1, 3) := by decide +kernel
theorem d_S_settleVectors_37 : decode (sk_cc m_S_settleVectors) 37 = .ok (.goto (-35), 3) := by decide +kernel
theorem d_S_settleVectors_40 : decode (sk_cc m_S_settleVectors) 40 = .ok (.aload_n 0, 1) := by decide +kernel
theorem d_S_settleVectors_41 : decode (sk_cc m_S_settleVectors) 41 = .ok (.iload_n 1, 1) := by decide +kernel
theorem d_S_settleVectors_42 : decode (sk_cc m_S_settleVectors) 42 = .ok (.invokevirtual 41, 3) := by decide +kernel
theorem d_S_settleVectors_45 : decode (sk_cc m_S_settleVectors) 45 = .ok (.return_, 1) := by decide +kernel
theorem d_S_settle_0 : decode (sk_cc m_S_settle) 0 = .ok (.aload_n 0, 1) := by decide +kernel
theorem d_S_settle_1 : decode (sk_cc m_S_settle) 1 = .ok (.getfield 32, 3) := by decide +kernel
theorem d_S_settle_4 : decode (sk_cc m_S_settle) 4 = .ok (.iload_n 1, 1) := by decide +kernel
theorem d_S_settle_5 : decode (sk_cc m_S_settle) 5 = .ok (.invokevirtual 45, 3) := by decide +kernel
theorem d_S_settle_8 : decode (sk_cc m_S_settle) 8 = .ok (.istore_n 2, 1) := by decide +kernel
theorem d_S_settle_9 : decode (sk_cc m_S_settle) 9 = .ok (.aload_n 0, 1) := by decide +kernel
theorem d_S_settle_10 : decode (sk_cc m_S_settle) 10 = .ok (.aload_n 0, 1) := by decide +kernel
theorem d_S_settle_11 : decode (sk_cc m_S_settle) 11 = .ok (.getfield 32, 3) := by decide +kernel
theorem d_S_settle_14 : decode (sk_cc m_S_settle) 14 = .ok (.iload_n 1, 1) := by decide +kernel
theorem d_S_settle_15 : decode (sk_cc m_S_settle) 15 = .ok (.invokevirtual 51, 3) := by decide +kernel
theorem d_S_settle_18 : decode (sk_cc m_S_settle) 18 = .ok (.putfield 24, 3) := by decide +kernel
theorem d_S_settle_21 : decode (sk_cc m_S_settle) 21 = .ok (.aload_n 0, 1) := by decide +kernel
theorem d_S_settle_22 : decode (sk_cc m_S_settle) 22 = .ok (.iload_n 1, 1) := by decide +kernel
theorem d_S_settle_23 : decode (sk_cc m_S_settle) 23 = .ok (.iconst 1, 1) := by decide +kernel
theorem d_S_settle_24 : decode (sk_cc m_S_settle) 24 = .ok (.iand, 1) := by decide +kernel
theorem d_S_settle_25 : decode (sk_cc m_S_settle) 25 = .ok (.iconst 1, 1) := by decide +kernel
theorem d_S_settle_26 : decode (sk_cc m_S_settle) 26 = .ok (.if_icmp .ne 9, 3) := by decide +kernel
theorem d_S_settle_29 : decode (sk_cc m_S_settle) 29 = .ok (.ldc2_w 39, 3) := by decide +kernel
theorem d_S_settle_32 : decode (sk_cc m_S_settle) 32 = .ok (.goto 4, 3) := by decide +kernel
theorem d_S_settle_35 : decode (sk_cc m_S_settle) 35 = .ok (.lconst 0, 1) := by decide +kernel
theorem d_S_settle_36 : decode (sk_cc m_S_settle) 36 = .ok (.putfield 28, 3) := by decide +kernel
theorem d_S_settle_39 : decode (sk_cc m_S_settle) 39 = .ok (.iconst 0, 1) := by decide +kernel
theorem d_S_settle_40 : decode (sk_cc m_S_settle) 40 = .ok (.istore_n 3, 1) := by decide +kernel
theorem d_S_settle_41 : decode (sk_cc m_S_settle) 41 = .ok (.iload_n 3, 1) := by decide +kernel
theorem d_S_settle_42 : decode (sk_cc m_S_settle) 42 = .ok (.aload_n 0, 1) := by decide +kernel
theorem d_S_settle_43 : decode (sk_cc m_S_settle) 43 = .ok (.getfield 32, 3) := by decide +kernel
theorem d_S_settle_46 : decode (sk_cc m_S_settle) 46 = .ok (.getfield 53, 3) := by decide +kernel
theorem d_S_settle_49 : decode (sk_cc m_S_settle) 49 = .ok (.if_icmp .ge 102, 3) := by decide +kernel
theorem d_S_settle_52 : decode (sk_cc m_S_settle) 52 = .ok (.iload_n 3, 1) := by decide +kernel
theorem d_S_settle_53 : decode (sk_cc m_S_settle) 53 = .ok (.iload_n 2, 1) := by decide +kernel
theorem d_S_settle_54 : decode (sk_cc m_S_settle) 54 = .ok (.if_icmp .ne 30, 3) := by decide +kernel
theorem d_S_settle_57 : decode (sk_cc m_S_settle) 57 = .ok (.aload_n 0, 1) := by decide +kernel
theorem d_S_settle_58 : decode (sk_cc m_S_settle) 58 = .ok (.getfield 18, 3) := by decide +kernel
theorem d_S_settle_61 : decode (sk_cc m_S_settle) 61 = .ok (.iload_n 3, 1) := by decide +kernel
theorem d_S_settle_62 : decode (sk_cc m_S_settle) 62 = .ok (.aload_n 0, 1) := by decide +kernel
theorem d_S_settle_63 : decode (sk_cc m_S_settle) 63 = .ok (.getfield 28, 3) := by decide +kernel
theorem d_S_settle_66 : decode (sk_cc m_S_settle) 66 = .ok (.lastore, 1) := by decide +kernel
theorem d_S_settle_67 : decode (sk_cc m_S_settle) 67 = .ok (.aload_n 0, 1) := by decide +kernel
theorem d_S_settle_68 : decode (sk_cc m_S_settle) 68 = .ok (.getfield 21, 3) := by decide +kernel
theorem d_S_settle_71 : decode (sk_cc m_S_settle) 71 = .ok (.iload_n 3, 1) := by decide +kernel
theorem d_S_settle_72 : decode (sk_cc m_S_settle) 72 = .ok (.aload_n 0, 1) := by decide +kernel
theorem d_S_settle_73 : decode (sk_cc m_S_settle) 73 = .ok (.getfield 28, 3) := by decide +kernel
theorem d_S_settle_76 : decode (sk_cc m_S_settle) 76 = .ok (.ldc2_w 39, 3) := by decide +kernel
theorem d_S_settle_79 : decode (sk_cc m_S_settle) 79 = .ok (.lxor, 1) := by decide +kernel
theorem d_S_settle_80 : decode (sk_cc m_S_settle) 80 = .ok (.lastore, 1) := by decide +kernel
theorem d_S_settle_81 : decode (sk_cc m_S_settle) 81 = .ok (.goto 64, 3) := by decide +kernel
theorem d_S_settle_84 : decode (sk_cc m_S_settle) 84 = .ok (.aload_n 0, 1) := by decide +kernel
theorem d_S_settle_85 : decode (sk_cc m_S_settle) 85 = .ok (.getfield 32, 3) := by decide +kernel
theorem d_S_settle_88 : decode (sk_cc m_S_settle) 88 = .ok (.getfield 56, 3) := by decide +kernel
theorem d_S_settle_91 : decode (sk_cc m_S_settle) 91 = .ok (.iload_n 3, 1) := by decide +kernel
theorem d_S_settle_92 : decode (sk_cc m_S_settle) 92 = .ok (.iaload, 1) := by decide +kernel
theorem d_S_settle_93 : decode (sk_cc m_S_settle) 93 = .ok (.iconst (-1), 1) := by decide +kernel
theorem d_S_settle_94 : decode (sk_cc m_S_settle) 94 = .ok (.if_icmp .ne 46, 3) := by decide +kernel
theorem d_S_settle_97 : decode (sk_cc m_S_settle) 97 = .ok (.aload_n 0, 1) := by decide +kernel
theorem d_S_settle_98 : decode (sk_cc m_S_settle) 98 = .ok (.getfield 18, 3) := by decide +kernel
theorem d_S_settle_101 : decode (sk_cc m_S_settle) 101 = .ok (.iload_n 3, 1) := by decide +kernel
theorem d_S_settle_102 : decode (sk_cc m_S_settle) 102 = .ok (.aload_n 0, 1) := by decide +kernel
theorem d_S_settle_103 : decode (sk_cc m_S_settle) 103 = .ok (.getfield 9, 3) := by decide +kernel
theorem d_S_settle_106 : decode (sk_cc m_S_settle) 106 = .ok (.aload_n 0, 1) := by decide +kernel
theorem d_S_settle_107 : decode (sk_cc m_S_settle) 107 = .ok (.getfield 32, 3) := by decide +kernel
theorem d_S_settle_110 : decode (sk_cc m_S_settle) 110 = .ok (.getfield 60, 3) := by decide +kernel
theorem d_S_settle_113 : decode (sk_cc m_S_settle) 113 = .ok (.iload_n 3, 1) := by decide +kernel
theorem d_S_settle_114 : decode (sk_cc m_S_settle) 114 = .ok (.iaload, 1) := by decide +kernel
theorem d_S_settle_115 : decode (sk_cc m_S_settle) 115 = .ok (.laload, 1) := by decide +kernel
theorem d_S_settle_116 : decode (sk_cc m_S_settle) 116 = .ok (.lastore, 1) := by decide +kernel
theorem d_S_settle_117 : decode (sk_cc m_S_settle) 117 = .ok (.aload_n 0, 1) := by decide +kernel
theorem d_S_settle_118 : decode (sk_cc m_S_settle) 118 = .ok (.getfield 21, 3) := by decide +kernel
theorem d_S_settle_121 : decode (sk_cc m_S_settle) 121 = .ok (.iload_n 3, 1) := by decide +kernel
theorem d_S_settle_122 : decode (sk_cc m_S_settle) 122 = .ok (.aload_n 0, 1) := by decide +kernel
theorem d_S_settle_123 : decode (sk_cc m_S_settle) 123 = .ok (.getfield 15, 3) := by decide +kernel
theorem d_S_settle_126 : decode (sk_cc m_S_settle) 126 = .ok (.aload_n 0, 1) := by decide +kernel
theorem d_S_settle_127 : decode (sk_cc m_S_settle) 127 = .ok (.getfield 32, 3) := by decide +kernel
theorem d_S_settle_130 : decode (sk_cc m_S_settle) 130 = .ok (.getfield 60, 3) := by decide +kernel
theorem d_S_settle_133 : decode (sk_cc m_S_settle) 133 = .ok (.iload_n 3, 1) := by decide +kernel
theorem d_S_settle_134 : decode (sk_cc m_S_settle) 134 = .ok (.iaload, 1) := by decide +kernel
theorem d_S_settle_135 : decode (sk_cc m_S_settle) 135 = .ok (.laload, 1) := by decide +kernel
theorem d_S_settle_136 : decode (sk_cc m_S_settle) 136 = .ok (.lastore, 1) := by decide +kernel
theorem d_S_settle_137 : decode (sk_cc m_S_settle) 137 = .ok (.goto 8, 3) := by decide +kernel
theorem d_S_settle_140 : decode (sk_cc m_S_settle) 140 = .ok (.aload_n 0, 1) := by decide +kernel
theorem d_S_settle_141 : decode (sk_cc m_S_settle) 141 = .ok (.iload_n 3, 1) := by decide +kernel
theorem d_S_settle_142 : decode (sk_cc m_S_settle) 142 = .ok (.invokevirtual 63, 3) := by decide +kernel
theorem d_S_settle_145 : decode (sk_cc m_S_settle) 145 = .ok (.iinc 3 1, 3) := by decide +kernel
theorem d_S_settle_148 : decode (sk_cc m_S_settle) 148 = .ok (.goto (-107), 3) := by decide +kernel
theorem d_S_settle_151 : decode (sk_cc m_S_settle) 151 = .ok (.return_, 1) := by decide +kernel
theorem d_C_stuckLine_0 : decode (sk_cc m_C_stuckLine) 0 = .ok (.iload_n 1, 1) := by decide +kernel
theorem d_C_stuckLine_1 : decode (sk_cc m_C_stuckLine) 1 = .ok (.iconst 1, 1) := by decide +kernel
theorem d_C_stuckLine_2 : decode (sk_cc m_C_stuckLine) 2 = .ok (.ishr, 1) := by decide +kernel
theorem d_C_stuckLine_3 : decode (sk_cc m_C_stuckLine) 3 = .ok (.istore_n 2, 1) := by decide +kernel
theorem d_C_stuckLine_4 : decode (sk_cc m_C_stuckLine) 4 = .ok (.iload_n 2, 1) := by decide +kernel
theorem d_C_stuckLine_5 : decode (sk_cc m_C_stuckLine) 5 = .ok (.ifCond .lt 15, 3) := by decide +kernel
theorem d_C_stuckLine_8 : decode (sk_cc m_C_stuckLine) 8 = .ok (.iload_n 2, 1) := by decide +kernel
theorem d_C_stuckLine_9 : decode (sk_cc m_C_stuckLine) 9 = .ok (.aload_n 0, 1) := by decide +kernel
theorem d_C_stuckLine_10 : decode (sk_cc m_C_stuckLine) 10 = .ok (.getfield 15, 3) := by decide +kernel
theorem d_C_stuckLine_13 : decode (sk_cc m_C_stuckLine) 13 = .ok (.if_icmp .ge 7, 3) := by decide +kernel
theorem d_C_stuckLine_16 : decode (sk_cc m_C_stuckLine) 16 = .ok (.iload_n 2, 1) := by decide +kernel
theorem d_C_stuckLine_17 : decode (sk_cc m_C_stuckLine) 17 = .ok (.goto 4, 3) := by decide +kernel
theorem d_C_stuckLine_20 : decode (sk_cc m_C_stuckLine) 20 = .ok (.iconst (-1), 1) := by decide +kernel
theorem d_C_stuckLine_21 : decode (sk_cc m_C_stuckLine) 21 = .ok (.ireturn, 1) := by decide +kernel
theorem d_C_stuckPin_0 : decode (sk_cc m_C_stuckPin) 0 = .ok (.iload_n 1, 1) := by decide +kernel
theorem d_C_stuckPin_1 : decode (sk_cc m_C_stuckPin) 1 = .ok (.iconst 1, 1) := by decide +kernel
theorem d_C_stuckPin_2 : decode (sk_cc m_C_stuckPin) 2 = .ok (.ishr, 1) := by decide +kernel
theorem d_C_stuckPin_3 : decode (sk_cc m_C_stuckPin) 3 = .ok (.istore_n 2, 1) := by decide +kernel
theorem d_C_stuckPin_4 : decode (sk_cc m_C_stuckPin) 4 = .ok (.iload_n 2, 1) := by decide +kernel
theorem d_C_stuckPin_5 : decode (sk_cc m_C_stuckPin) 5 = .ok (.aload_n 0, 1) := by decide +kernel
theorem d_C_stuckPin_6 : decode (sk_cc m_C_stuckPin) 6 = .ok (.getfield 15, 3) := by decide +kernel
theorem d_C_stuckPin_9 : decode (sk_cc m_C_stuckPin) 9 = .ok (.if_icmp .lt 12, 3) := by decide +kernel
theorem d_C_stuckPin_12 : decode (sk_cc m_C_stuckPin) 12 = .ok (.iload_n 2, 1) := by decide +kernel
theorem d_C_stuckPin_13 : decode (sk_cc m_C_stuckPin) 13 = .ok (.aload_n 0, 1) := by decide +kernel
theorem d_C_stuckPin_14 : decode (sk_cc m_C_stuckPin) 14 = .ok (.getfield 15, 3) := by decide +kernel
theorem d_C_stuckPin_17 : decode (sk_cc m_C_stuckPin) 17 = .ok (.isub, 1) := by decide +kernel
theorem d_C_stuckPin_18 : decode (sk_cc m_C_stuckPin) 18 = .ok (.goto 4, 3) := by decide +kernel
theorem d_C_stuckPin_21 : decode (sk_cc m_C_stuckPin) 21 = .ok (.iconst (-1), 1) := by decide +kernel
theorem d_C_stuckPin_22 : decode (sk_cc m_C_stuckPin) 22 = .ok (.ireturn, 1) := by decide +kernel
theorem d_S_settleGate_0 : decode (sk_cc m_S_settleGate) 0 = .ok (.aload_n 0, 1) := by decide +kernel
theorem d_S_settleGate_1 : decode (sk_cc m_S_settleGate) 1 = .ok (.getfield 32, 3) := by decide +kernel
theorem d_S_settleGate_4 : decode (sk_cc m_S_settleGate) 4 = .ok (.getfield 56, 3) := by decide +kernel
theorem d_S_settleGate_7 : decode (sk_cc m_S_settleGate) 7 = .ok (.iload_n 1, 1) := by decide +kernel
theorem d_S_settleGate_8 : decode (sk_cc m_S_settleGate) 8 = .ok (.iaload, 1) := by decide +kernel
theorem d_S_settleGate_9 : decode (sk_cc m_S_settleGate) 9 = .ok (.iconst 1, 1) := by decide +kernel
theorem d_S_settleGate_10 : decode (sk_cc m_S_settleGate) 10 = .ok (.ishr, 1) := by decide +kernel
theorem d_S_settleGate_11 : decode (sk_cc m_S_settleGate) 11 = .ok (.istore_n 2, 1) := by decide +kernel
theorem d_S_settleGate_12 : decode (sk_cc m_S_settleGate) 12 = .ok (.aload_n 0, 1) := by decide +kernel
theorem d_S_settleGate_13 : decode (sk_cc m_S_settleGate) 13 = .ok (.getfield 32, 3) := by decide +kernel
theorem d_S_settleGate_16 : decode (sk_cc m_S_settleGate) 16 = .ok (.getfield 56, 3) := by decide +kernel
theorem d_S_settleGate_19 : decode (sk_cc m_S_settleGate) 19 = .ok (.iload_n 1, 1) := by decide +kernel
theorem d_S_settleGate_20 : decode (sk_cc m_S_settleGate) 20 = .ok (.iaload, 1) := by decide +kernel
theorem d_S_settleGate_21 : decode (sk_cc m_S_settleGate) 21 = .ok (.iconst 1, 1) := by decide +kernel
theorem d_S_settleGate_22 : decode (sk_cc m_S_settleGate) 22 = .ok (.iand, 1) := by decide +kernel
theorem d_S_settleGate_23 : decode (sk_cc m_S_settleGate) 23 = .ok (.iconst 1, 1) := by decide +kernel
theorem d_S_settleGate_24 : decode (sk_cc m_S_settleGate) 24 = .ok (.if_icmp .ne 7, 3) := by decide +kernel
theorem d_S_settleGate_27 : decode (sk_cc m_S_settleGate) 27 = .ok (.iconst 1, 1) := by decide +kernel
theorem d_S_settleGate_28 : decode (sk_cc m_S_settleGate) 28 = .ok (.goto 4, 3) := by decide +kernel
theorem d_S_settleGate_31 : decode (sk_cc m_S_settleGate) 31 = .ok (.iconst 0, 1) := by decide +kernel
theorem d_S_settleGate_32 : decode (sk_cc m_S_settleGate) 32 = .ok (.istore_n 3, 1) := by decide +kernel
theorem d_S_settleGate_33 : decode (sk_cc m_S_settleGate) 33 = .ok (.iload_n 2, 1) := by decide +kernel
theorem d_S_settleGate_34 : decode (sk_cc m_S_settleGate) 34 = .ok (.ifCond .ne 9, 3) := by decide +kernel
theorem d_S_settleGate_37 : decode (sk_cc m_S_settleGate) 37 = .ok (.ldc2_w 39, 3) := by decide +kernel
theorem d_S_settleGate_40 : decode (sk_cc m_S_settleGate) 40 = .ok (.goto 4, 3) := by decide +kernel
theorem d_S_settleGate_43 : decode (sk_cc m_S_settleGate) 43 = .ok (.lconst 0, 1) := by decide +kernel
theorem d_S_settleGate_44 : decode (sk_cc m_S_settleGate) 44 = .ok (.lstore 4, 2) := by decide +kernel
theorem d_S_settleGate_46 : decode (sk_cc m_S_settleGate) 46 = .ok (.lload 4, 2) := by decide +kernel
theorem d_S_settleGate_48 : decode (sk_cc m_S_settleGate) 48 = .ok (.ldc2_w 39, 3) := by decide +kernel
theorem d_S_settleGate_51 : decode (sk_cc m_S_settleGate) 51 = .ok (.lxor, 1) := by decide +kernel
theorem d_S_settleGate_52 : decode (sk_cc m_S_settleGate) 52 = .ok (.lstore 6, 2) := by decide +kernel
theorem d_S_settleGate_54 : decode (sk_cc m_S_settleGate) 54 = .ok (.aload_n 0, 1) := by decide +kernel
theorem d_S_settleGate_55 : decode (sk_cc m_S_settleGate) 55 = .ok (.getfield 32, 3) := by decide +kernel
theorem d_S_settleGate_58 : decode (sk_cc m_S_settleGate) 58 = .ok (.getfield 66, 3) := by decide +kernel
theorem d_S_settleGate_61 : decode (sk_cc m_S_settleGate) 61 = .ok (.iload_n 1, 1) := by decide +kernel
theorem d_S_settleGate_62 : decode (sk_cc m_S_settleGate) 62 = .ok (.iaload, 1) := by decide +kernel
theorem d_S_settleGate_63 : decode (sk_cc m_S_settleGate) 63 = .ok (.istore 8, 2) := by decide +kernel
theorem d_S_settleGate_65 : decode (sk_cc m_S_settleGate) 65 = .ok (.iload 8, 2) := by decide +kernel
theorem d_S_settleGate_67 : decode (sk_cc m_S_settleGate) 67 = .ok (.aload_n 0, 1) := by decide +kernel
theorem d_S_settleGate_68 : decode (sk_cc m_S_settleGate) 68 = .ok (.getfield 32, 3) := by decide +kernel
theorem d_S_settleGate_71 : decode (sk_cc m_S_settleGate) 71 = .ok (.getfield 66, 3) := by decide +kernel
theorem d_S_settleGate_74 : decode (sk_cc m_S_settleGate) 74 = .ok (.iload_n 1, 1) := by decide +kernel
theorem d_S_settleGate_75 : decode (sk_cc m_S_settleGate) 75 = .ok (.iconst 1, 1) := by decide +kernel
theorem d_S_settleGate_76 : decode (sk_cc m_S_settleGate) 76 = .ok (.iadd, 1) := by decide +kernel
theorem d_S_settleGate_77 : decode (sk_cc m_S_settleGate) 77 = .ok (.iaload, 1) := by decide +kernel
theorem d_S_settleGate_78 : decode (sk_cc m_S_settleGate) 78 = .ok (.if_icmp .ge 148, 3) := by decide +kernel
theorem d_S_settleGate_81 : decode (sk_cc m_S_settleGate) 81 = .ok (.aload_n 0, 1) := by decide +kernel
theorem d_S_settleGate_82 : decode (sk_cc m_S_settleGate) 82 = .ok (.getfield 32, 3) := by decide +kernel
theorem d_S_settleGate_85 : decode (sk_cc m_S_settleGate) 85 = .ok (.getfield 69, 3) := by decide +kernel
theorem d_S_settleGate_88 : decode (sk_cc m_S_settleGate) 88 = .ok (.iload 8, 2) := by decide +kernel
theorem d_S_settleGate_90 : decode (sk_cc m_S_settleGate) 90 = .ok (.iaload, 1) := by decide +kernel
theorem d_S_settleGate_91 : decode (sk_cc m_S_settleGate) 91 = .ok (.istore 9, 2) := by decide +kernel
theorem d_S_settleGate_93 : decode (sk_cc m_S_settleGate) 93 = .ok (.iload 8, 2) := by decide +kernel
theorem d_S_settleGate_95 : decode (sk_cc m_S_settleGate) 95 = .ok (.aload_n 0, 1) := by decide +kernel
theorem d_S_settleGate_96 : decode (sk_cc m_S_settleGate) 96 = .ok (.getfield 24, 3) := by decide +kernel
theorem d_S_settleGate_99 : decode (sk_cc m_S_settleGate) 99 = .ok (.if_icmp .ne 10, 3) := by decide +kernel
theorem d_S_settleGate_102 : decode (sk_cc m_S_settleGate) 102 = .ok (.aload_n 0, 1) := by decide +kernel
theorem d_S_settleGate_103 : decode (sk_cc m_S_settleGate) 103 = .ok (.getfield 28, 3) := by decide +kernel
theorem d_S_settleGate_106 : decode (sk_cc m_S_settleGate) 106 = .ok (.goto 10, 3) := by decide +kernel
theorem d_S_settleGate_109 : decode (sk_cc m_S_settleGate) 109 = .ok (.aload_n 0, 1) := by decide +kernel
theorem d_S_settleGate_110 : decode (sk_cc m_S_settleGate) 110 = .ok (.getfield 18, 3) := by decide +kernel
theorem d_S_settleGate_113 : decode (sk_cc m_S_settleGate) 113 = .ok (.iload 9, 2) := by decide +kernel
theorem d_S_settleGate_115 : decode (sk_cc m_S_settleGate) 115 = .ok (.laload, 1) := by decide +kernel
theorem d_S_settleGate_116 : decode (sk_cc m_S_settleGate) 116 = .ok (.lstore 10, 2) := by decide +kernel
theorem d_S_settleGate_118 : decode (sk_cc m_S_settleGate) 118 = .ok (.iload 8, 2) := by decide +kernel
theorem d_S_settleGate_120 : decode (sk_cc m_S_settleGate) 120 = .ok (.aload_n 0, 1) := by decide +kernel
theorem d_S_settleGate_121 : decode (sk_cc m_S_settleGate) 121 = .ok (.getfield 24, 3) := by decide +kernel
theorem d_S_settleGate_124 : decode (sk_cc m_S_settleGate) 124 = .ok (.if_icmp .ne 14, 3) := by decide +kernel
theorem d_S_settleGate_127 : decode (sk_cc m_S_settleGate) 127 = .ok (.aload_n 0, 1) := by decide +kernel
theorem d_S_settleGate_128 : decode (sk_cc m_S_settleGate) 128 = .ok (.getfield 28, 3) := by decide +kernel
theorem d_S_settleGate_131 : decode (sk_cc m_S_settleGate) 131 = .ok (.ldc2_w 39, 3) := by decide +kernel
theorem d_S_settleGate_134 : decode (sk_cc m_S_settleGate) 134 = .ok (.lxor, 1) := by decide +kernel
theorem d_S_settleGate_135 : decode (sk_cc m_S_settleGate) 135 = .ok (.goto 10, 3) := by decide +kernel
theorem d_S_settleGate_138 : decode (sk_cc m_S_settleGate) 138 = .ok (.aload_n 0, 1) := by decide +kernel
theorem d_S_settleGate_139 : decode (sk_cc m_S_settleGate) 139 = .ok (.getfield 21, 3) := by decide +kernel
theorem d_S_settleGate_142 : decode (sk_cc m_S_settleGate) 142 = .ok (.iload 9, 2) := by decide +kernel
theorem d_S_settleGate_144 : decode (sk_cc m_S_settleGate) 144 = .ok (.laload, 1) := by decide +kernel
theorem d_S_settleGate_145 : decode (sk_cc m_S_settleGate) 145 = .ok (.lstore 12, 2) := by decide +kernel
theorem d_S_settleGate_147 : decode (sk_cc m_S_settleGate) 147 = .ok (.iload_n 2, 1) := by decide +kernel
theorem d_S_settleGate_148 : decode (sk_cc m_S_settleGate) 148 = .ok (.ifCond .ne 20, 3) := by decide +kernel
theorem d_S_settleGate_151 : decode (sk_cc m_S_settleGate) 151 = .ok (.lload 4, 2) := by decide +kernel
theorem d_S_settleGate_153 : decode (sk_cc m_S_settleGate) 153 = .ok (.lload 10, 2) := by decide +kernel
theorem d_S_settleGate_155 : decode (sk_cc m_S_settleGate) 155 = .ok (.land, 1) := by decide +kernel
theorem d_S_settleGate_156 : decode (sk_cc m_S_settleGate) 156 = .ok (.lstore 4, 2) := by decide +kernel
theorem d_S_settleGate_158 : decode (sk_cc m_S_settleGate) 158 = .ok (.lload 6, 2) := by decide +kernel
theorem d_S_settleGate_160 : decode (sk_cc m_S_settleGate) 160 = .ok (.lload 12, 2) := by decide +kernel
theorem d_S_settleGate_162 : decode (sk_cc m_S_settleGate) 162 = .ok (.lor, 1) := by decide +kernel
theorem d_S_settleGate_163 : decode (sk_cc m_S_settleGate) 163 = .ok (.lstore 6, 2) := by decide +kernel
theorem d_S_settleGate_165 : decode (sk_cc m_S_settleGate) 165 = .ok (.goto 55, 3) := by decide +kernel
theorem d_S_settleGate_168 : decode (sk_cc m_S_settleGate) 168 = .ok (.iload_n 2, 1) := by decide +kernel
theorem d_S_settleGate_169 : decode (sk_cc m_S_settleGate) 169 = .ok (.iconst 1, 1) := by decide +kernel
theorem d_S_settleGate_170 : decode (sk_cc m_S_settleGate) 170 = .ok (.if_icmp .ne 20, 3) := by decide +kernel
theorem d_S_settleGate_173 : decode (sk_cc m_S_settleGate) 173 = .ok (.lload 4, 2) := by decide +kernel
theorem d_S_settleGate_175 : decode (sk_cc m_S_settleGate) 175 = .ok (.lload 10, 2) := by decide +kernel
theorem d_S_settleGate_177 : decode (sk_cc m_S_settleGate) 177 = .ok (.lor, 1) := by decide +kernel
theorem d_S_settleGate_178 : decode (sk_cc m_S_settleGate) 178 = .ok (.lstore 4, 2) := by decide +kernel
theorem d_S_settleGate_180 : decode (sk_cc m_S_settleGate) 180 = .ok (.lload 6, 2) := by decide +kernel
theorem d_S_settleGate_182 : decode (sk_cc m_S_settleGate) 182 = .ok (.lload 12, 2) := by decide +kernel
theorem d_S_settleGate_184 : decode (sk_cc m_S_settleGate) 184 = .ok (.land, 1) := by decide +kernel
theorem d_S_settleGate_185 : decode (sk_cc m_S_settleGate) 185 = .ok (.lstore 6, 2) := by decide +kernel
theorem d_S_settleGate_187 : decode (sk_cc m_S_settleGate) 187 = .ok (.goto 33, 3) := by decide +kernel
theorem d_S_settleGate_190 : decode (sk_cc m_S_settleGate) 190 = .ok (.lload 4, 2) := by decide +kernel
theorem d_S_settleGate_192 : decode (sk_cc m_S_settleGate) 192 = .ok (.lload 12, 2) := by decide +kernel
theorem d_S_settleGate_194 : decode (sk_cc m_S_settleGate) 194 = .ok (.land, 1) := by decide +kernel
theorem d_S_settleGate_195 : decode (sk_cc m_S_settleGate) 195 = .ok (.lload 6, 2) := by decide +kernel
theorem d_S_settleGate_197 : decode (sk_cc m_S_settleGate) 197 = .ok (.lload 10, 2) := by decide +kernel
theorem d_S_settleGate_199 : decode (sk_cc m_S_settleGate) 199 = .ok (.land, 1) := by decide +kernel
theorem d_S_settleGate_200 : decode (sk_cc m_S_settleGate) 200 = .ok (.lor, 1) := by decide +kernel
theorem d_S_settleGate_201 : decode (sk_cc m_S_settleGate) 201 = .ok (.lstore 14, 2) := by decide +kernel
theorem d_S_settleGate_203 : decode (sk_cc m_S_settleGate) 203 = .ok (.lload 6, 2) := by decide +kernel
theorem d_S_settleGate_205 : decode (sk_cc m_S_settleGate) 205 = .ok (.lload 12, 2) := by decide +kernel
theorem d_S_settleGate_207 : decode (sk_cc m_S_settleGate) 207 = .ok (.land, 1) := by decide +kernel
theorem d_S_settleGate_208 : decode (sk_cc m_S_settleGate) 208 = .ok (.lload 4, 2) := by decide +kernel
theorem d_S_settleGate_210 : decode (sk_cc m_S_settleGate) 210 = .ok (.lload 10, 2) := by decide +kernel
theorem d_S_settleGate_212 : decode (sk_cc m_S_settleGate) 212 = .ok (.land, 1) := by decide +kernel
theorem d_S_settleGate_213 : decode (sk_cc m_S_settleGate) 213 = .ok (.lor, 1) := by decide +kernel
theorem d_S_settleGate_214 : decode (sk_cc m_S_settleGate) 214 = .ok (.lstore 6, 2) := by decide +kernel
theorem d_S_settleGate_216 : decode (sk_cc m_S_settleGate) 216 = .ok (.lload 14, 2) := by decide +kernel
theorem d_S_settleGate_218 : decode (sk_cc m_S_settleGate) 218 = .ok (.lstore 4, 2) := by decide +kernel
theorem d_S_settleGate_220 : decode (sk_cc m_S_settleGate) 220 = .ok (.iinc 8 1, 3) := by decide +kernel
theorem d_S_settleGate_223 : decode (sk_cc m_S_settleGate) 223 = .ok (.goto (-158), 3) := by decide +kernel
theorem d_S_settleGate_226 : decode (sk_cc m_S_settleGate) 226 = .ok (.aload_n 0, 1) := by decide +kernel
theorem d_S_settleGate_227 : decode (sk_cc m_S_settleGate) 227 = .ok (.getfield 18, 3) := by decide +kernel
theorem d_S_settleGate_230 : decode (sk_cc m_S_settleGate) 230 = .ok (.iload_n 1, 1) := by decide +kernel
theorem d_S_settleGate_231 : decode (sk_cc m_S_settleGate) 231 = .ok (.iload_n 3, 1) := by decide +kernel
theorem d_S_settleGate_232 : decode (sk_cc m_S_settleGate) 232 = .ok (.ifCond .eq 8, 3) := by decide +kernel
theorem d_S_settleGate_235 : decode (sk_cc m_S_settleGate) 235 = .ok (.lload 6, 2) := by decide +kernel
theorem d_S_settleGate_237 : decode (sk_cc m_S_settleGate) 237 = .ok (.goto 5, 3) := by decide +kernel
theorem d_S_settleGate_240 : decode (sk_cc m_S_settleGate) 240 = .ok (.lload 4, 2) := by decide +kernel
theorem d_S_settleGate_242 : decode (sk_cc m_S_settleGate) 242 = .ok (.lastore, 1) := by decide +kernel
theorem d_S_settleGate_243 : decode (sk_cc m_S_settleGate) 243 = .ok (.aload_n 0, 1) := by decide +kernel
theorem d_S_settleGate_244 : decode (sk_cc m_S_settleGate) 244 = .ok (.getfield 21, 3) := by decide +kernel
theorem d_S_settleGate_247 : decode (sk_cc m_S_settleGate) 247 = .ok (.iload_n 1, 1) := by decide +kernel
theorem d_S_settleGate_248 : decode (sk_cc m_S_settleGate) 248 = .ok (.iload_n 3, 1) := by decide +kernel
theorem d_S_settleGate_249 : decode (sk_cc m_S_settleGate) 249 = .ok (.ifCond .eq 8, 3) := by decide +kernel
theorem d_S_settleGate_252 : decode (sk_cc m_S_settleGate) 252 = .ok (.lload 4, 2) := by decide +kernel
theorem d_S_settleGate_254 : decode (sk_cc m_S_settleGate) 254 = .ok (.goto 5, 3) := by decide +kernel
theorem d_S_settleGate_257 : decode (sk_cc m_S_settleGate) 257 = .ok (.lload 6, 2) := by decide +kernel
theorem d_S_settleGate_259 : decode (sk_cc m_S_settleGate) 259 = .ok (.lastore, 1) := by decide +kernel
theorem d_S_settleGate_260 : decode (sk_cc m_S_settleGate) 260 = .ok (.return_, 1) := by decide +kernel
theorem d_S_onesOf_0 : decode (sk_cc m_S_onesOf) 0 = .ok (.aload_n 0, 1) := by decide +kernel
theorem d_S_onesOf_1 : decode (sk_cc m_S_onesOf) 1 = .ok (.getfield 18, 3) := by decide +kernel
theorem d_S_onesOf_4 : decode (sk_cc m_S_onesOf) 4 = .ok (.iload_n 1, 1) := by decide +kernel
theorem d_S_onesOf_5 : decode (sk_cc m_S_onesOf) 5 = .ok (.laload, 1) := by decide +kernel
theorem d_S_onesOf_6 : decode (sk_cc m_S_onesOf) 6 = .ok (.lreturn, 1) := by decide +kernel
theorem d_P_at_0 : decode (sk_cc m_P_at) 0 = .ok (.aload_n 0, 1) := by decide +kernel
theorem d_P_at_1 : decode (sk_cc m_P_at) 1 = .ok (.getfield 23, 3) := by decide +kernel
theorem d_P_at_4 : decode (sk_cc m_P_at) 4 = .ok (.aload_n 0, 1) := by decide +kernel
theorem d_P_at_5 : decode (sk_cc m_P_at) 5 = .ok (.getfield 26, 3) := by decide +kernel
theorem d_P_at_8 : decode (sk_cc m_P_at) 8 = .ok (.getfield 34, 3) := by decide +kernel
theorem d_P_at_11 : decode (sk_cc m_P_at) 11 = .ok (.if_icmp .eq 26, 3) := by decide +kernel
theorem d_P_at_14 : decode (sk_cc m_P_at) 14 = .ok (.aload_n 0, 1) := by decide +kernel
theorem d_P_at_15 : decode (sk_cc m_P_at) 15 = .ok (.invokevirtual 37, 3) := by decide +kernel
theorem d_P_at_18 : decode (sk_cc m_P_at) 18 = .ok (.aload_n 0, 1) := by decide +kernel
theorem d_P_at_19 : decode (sk_cc m_P_at) 19 = .ok (.invokevirtual 40, 3) := by decide +kernel
theorem d_P_at_22 : decode (sk_cc m_P_at) 22 = .ok (.aload_n 0, 1) := by decide +kernel
theorem d_P_at_23 : decode (sk_cc m_P_at) 23 = .ok (.invokevirtual 43, 3) := by decide +kernel
theorem d_P_at_26 : decode (sk_cc m_P_at) 26 = .ok (.aload_n 0, 1) := by decide +kernel
theorem d_P_at_27 : decode (sk_cc m_P_at) 27 = .ok (.aload_n 0, 1) := by decide +kernel
theorem d_P_at_28 : decode (sk_cc m_P_at) 28 = .ok (.getfield 26, 3) := by decide +kernel
theorem d_P_at_31 : decode (sk_cc m_P_at) 31 = .ok (.getfield 34, 3) := by decide +kernel
theorem d_P_at_34 : decode (sk_cc m_P_at) 34 = .ok (.putfield 23, 3) := by decide +kernel
theorem d_P_at_37 : decode (sk_cc m_P_at) 37 = .ok (.iload_n 1, 1) := by decide +kernel
theorem d_P_at_38 : decode (sk_cc m_P_at) 38 = .ok (.ifCond .lt 20, 3) := by decide +kernel
theorem d_P_at_41 : decode (sk_cc m_P_at) 41 = .ok (.iload_n 1, 1) := by decide +kernel
theorem d_P_at_42 : decode (sk_cc m_P_at) 42 = .ok (.aload_n 0, 1) := by decide +kernel
theorem d_P_at_43 : decode (sk_cc m_P_at) 43 = .ok (.getfield 15, 3) := by decide +kernel
theorem d_P_at_46 : decode (sk_cc m_P_at) 46 = .ok (.if_icmp .ge 12, 3) := by decide +kernel
theorem d_P_at_49 : decode (sk_cc m_P_at) 49 = .ok (.aload_n 0, 1) := by decide +kernel
theorem d_P_at_50 : decode (sk_cc m_P_at) 50 = .ok (.getfield 9, 3) := by decide +kernel
theorem d_P_at_53 : decode (sk_cc m_P_at) 53 = .ok (.iload_n 1, 1) := by decide +kernel
theorem d_P_at_54 : decode (sk_cc m_P_at) 54 = .ok (.iaload, 1) := by decide +kernel
theorem d_P_at_55 : decode (sk_cc m_P_at) 55 = .ok (.goto 4, 3) := by decide +kernel
theorem d_P_at_58 : decode (sk_cc m_P_at) 58 = .ok (.iconst (-1), 1) := by decide +kernel
theorem d_P_at_59 : decode (sk_cc m_P_at) 59 = .ok (.ireturn, 1) := by decide +kernel
theorem d_P_gather_0 : decode (sk_cc m_P_gather) 0 = .ok (.aload_n 0, 1) := by decide +kernel
theorem d_P_gather_1 : decode (sk_cc m_P_gather) 1 = .ok (.iconst 0, 1) := by decide +kernel
theorem d_P_gather_2 : decode (sk_cc m_P_gather) 2 = .ok (.putfield 15, 3) := by decide +kernel
theorem d_P_gather_5 : decode (sk_cc m_P_gather) 5 = .ok (.aload_n 0, 1) := by decide +kernel
theorem d_P_gather_6 : decode (sk_cc m_P_gather) 6 = .ok (.lconst 0, 1) := by decide +kernel
theorem d_P_gather_7 : decode (sk_cc m_P_gather) 7 = .ok (.putfield 19, 3) := by decide +kernel
theorem d_P_gather_10 : decode (sk_cc m_P_gather) 10 = .ok (.iconst 0, 1) := by decide +kernel
theorem d_P_gather_11 : decode (sk_cc m_P_gather) 11 = .ok (.istore_n 1, 1) := by decide +kernel
theorem d_P_gather_12 : decode (sk_cc m_P_gather) 12 = .ok (.iload_n 1, 1) := by decide +kernel
theorem d_P_gather_13 : decode (sk_cc m_P_gather) 13 = .ok (.aload_n 0, 1) := by decide +kernel
theorem d_P_gather_14 : decode (sk_cc m_P_gather) 14 = .ok (.getfield 26, 3) := by decide +kernel
theorem d_P_gather_17 : decode (sk_cc m_P_gather) 17 = .ok (.invokevirtual 46, 3) := by decide +kernel
theorem d_P_gather_20 : decode (sk_cc m_P_gather) 20 = .ok (.if_icmp .ge 73, 3) := by decide +kernel
theorem d_P_gather_23 : decode (sk_cc m_P_gather) 23 = .ok (.aload_n 0, 1) := by decide +kernel
theorem d_P_gather_24 : decode (sk_cc m_P_gather) 24 = .ok (.getfield 30, 3) := by decide +kernel
theorem d_P_gather_27 : decode (sk_cc m_P_gather) 27 = .ok (.iload_n 1, 1) := by decide +kernel
theorem d_P_gather_28 : decode (sk_cc m_P_gather) 28 = .ok (.invokevirtual 50, 3) := by decide +kernel
theorem d_P_gather_31 : decode (sk_cc m_P_gather) 31 = .ok (.istore_n 2, 1) := by decide +kernel
theorem d_P_gather_32 : decode (sk_cc m_P_gather) 32 = .ok (.iload_n 2, 1) := by decide +kernel
theorem d_P_gather_33 : decode (sk_cc m_P_gather) 33 = .ok (.iconst (-1), 1) := by decide +kernel
theorem d_P_gather_34 : decode (sk_cc m_P_gather) 34 = .ok (.if_icmp .eq 53, 3) := by decide +kernel
theorem d_P_gather_37 : decode (sk_cc m_P_gather) 37 = .ok (.aload_n 0, 1) := by decide +kernel
theorem d_P_gather_38 : decode (sk_cc m_P_gather) 38 = .ok (.getfield 30, 3) := by decide +kernel
theorem d_P_gather_41 : decode (sk_cc m_P_gather) 41 = .ok (.iload_n 1, 1) := by decide +kernel
theorem d_P_gather_42 : decode (sk_cc m_P_gather) 42 = .ok (.invokevirtual 56, 3) := by decide +kernel
theorem d_P_gather_45 : decode (sk_cc m_P_gather) 45 = .ok (.aload_n 0, 1) := by decide +kernel
theorem d_P_gather_46 : decode (sk_cc m_P_gather) 46 = .ok (.getfield 19, 3) := by decide +kernel
theorem d_P_gather_49 : decode (sk_cc m_P_gather) 49 = .ok (.land, 1) := by decide +kernel
theorem d_P_gather_50 : decode (sk_cc m_P_gather) 50 = .ok (.lconst 0, 1) := by decide +kernel
theorem d_P_gather_51 : decode (sk_cc m_P_gather) 51 = .ok (.lcmp, 1) := by decide +kernel
theorem d_P_gather_52 : decode (sk_cc m_P_gather) 52 = .ok (.ifCond .ne 35, 3) := by decide +kernel
theorem d_P_gather_55 : decode (sk_cc m_P_gather) 55 = .ok (.aload_n 0, 1) := by decide +kernel
theorem d_P_gather_56 : decode (sk_cc m_P_gather) 56 = .ok (.getfield 9, 3) := by decide +kernel
theorem d_P_gather_59 : decode (sk_cc m_P_gather) 59 = .ok (.aload_n 0, 1) := by decide +kernel
theorem d_P_gather_60 : decode (sk_cc m_P_gather) 60 = .ok (.getfield 15, 3) := by decide +kernel
theorem d_P_gather_63 : decode (sk_cc m_P_gather) 63 = .ok (.iload_n 2, 1) := by decide +kernel
theorem d_P_gather_64 : decode (sk_cc m_P_gather) 64 = .ok (.iastore, 1) := by decide +kernel
theorem d_P_gather_65 : decode (sk_cc m_P_gather) 65 = .ok (.aload_n 0, 1) := by decide +kernel
theorem d_P_gather_66 : decode (sk_cc m_P_gather) 66 = .ok (.dup, 1) := by decide +kernel
theorem d_P_gather_67 : decode (sk_cc m_P_gather) 67 = .ok (.getfield 15, 3) := by decide +kernel
theorem d_P_gather_70 : decode (sk_cc m_P_gather) 70 = .ok (.iconst 1, 1) := by decide +kernel
theorem d_P_gather_71 : decode (sk_cc m_P_gather) 71 = .ok (.iadd, 1) := by decide +kernel
theorem d_P_gather_72 : decode (sk_cc m_P_gather) 72 = .ok (.putfield 15, 3) := by decide +kernel
theorem d_P_gather_75 : decode (sk_cc m_P_gather) 75 = .ok (.aload_n 0, 1) := by decide +kernel
theorem d_P_gather_76 : decode (sk_cc m_P_gather) 76 = .ok (.dup, 1) := by decide +kernel
theorem d_P_gather_77 : decode (sk_cc m_P_gather) 77 = .ok (.getfield 19, 3) := by decide +kernel
theorem d_P_gather_80 : decode (sk_cc m_P_gather) 80 = .ok (.lconst 1, 1) := by decide +kernel
theorem d_P_gather_81 : decode (sk_cc m_P_gather) 81 = .ok (.iload_n 2, 1) := by decide +kernel
theorem d_P_gather_82 : decode (sk_cc m_P_gather) 82 = .ok (.lshl, 1) := by decide +kernel
theorem d_P_gather_83 : decode (sk_cc m_P_gather) 83 = .ok (.lor, 1) := by decide +kernel
theorem d_P_gather_84 : decode (sk_cc m_P_gather) 84 = .ok (.putfield 19, 3) := by decide +kernel
theorem d_P_gather_87 : decode (sk_cc m_P_gather) 87 = .ok (.iinc 1 1, 3) := by decide +kernel
theorem d_P_gather_90 : decode (sk_cc m_P_gather) 90 = .ok (.goto (-78), 3) := by decide +kernel
theorem d_P_gather_93 : decode (sk_cc m_P_gather) 93 = .ok (.return_, 1) := by decide +kernel
theorem d_R_firstShowing_0 : decode (sk_cc m_R_firstShowing) 0 = .ok (.aload_n 0, 1) := by decide +kernel
theorem d_R_firstShowing_1 : decode (sk_cc m_R_firstShowing) 1 = .ok (.iload_n 1, 1) := by decide +kernel
theorem d_R_firstShowing_2 : decode (sk_cc m_R_firstShowing) 2 = .ok (.invokevirtual 67, 3) := by decide +kernel
theorem d_R_firstShowing_5 : decode (sk_cc m_R_firstShowing) 5 = .ok (.lstore_n 2, 1) := by decide +kernel
theorem d_R_firstShowing_6 : decode (sk_cc m_R_firstShowing) 6 = .ok (.iconst 0, 1) := by decide +kernel
theorem d_R_firstShowing_7 : decode (sk_cc m_R_firstShowing) 7 = .ok (.istore 4, 2) := by decide +kernel
