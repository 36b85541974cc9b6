/-! decode rows -/
theorem d_R_firstShowing_9 : decode (sk_cc m_R_firstShowing) 9 = .ok (.iload 4, 2) := by decide +kernel
theorem d_R_firstShowing_11 : decode (sk_cc m_R_firstShowing) 11 = .ok (.bipush 64, 2) := by decide +kernel
theorem d_R_firstShowing_13 : decode (sk_cc m_R_firstShowing) 13 = .ok (.if_icmp .ge 23, 3) := by decide +kernel
theorem d_R_firstShowing_16 : decode (sk_cc m_R_firstShowing) 16 = .ok (.lload_n 2, 1) := by decide +kernel
theorem d_R_firstShowing_17 : decode (sk_cc m_R_firstShowing) 17 = .ok (.iload 4, 2) := by decide +kernel
theorem d_R_firstShowing_19 : decode (sk_cc m_R_firstShowing) 19 = .ok (.lushr, 1) := by decide +kernel
theorem d_R_firstShowing_20 : decode (sk_cc m_R_firstShowing) 20 = .ok (.lconst 1, 1) := by decide +kernel
theorem d_R_firstShowing_21 : decode (sk_cc m_R_firstShowing) 21 = .ok (.land, 1) := by decide +kernel
theorem d_R_firstShowing_22 : decode (sk_cc m_R_firstShowing) 22 = .ok (.lconst 1, 1) := by decide +kernel
theorem d_R_firstShowing_23 : decode (sk_cc m_R_firstShowing) 23 = .ok (.lcmp, 1) := by decide +kernel
theorem d_R_firstShowing_24 : decode (sk_cc m_R_firstShowing) 24 = .ok (.ifCond .ne 6, 3) := by decide +kernel
theorem d_R_firstShowing_27 : decode (sk_cc m_R_firstShowing) 27 = .ok (.iload 4, 2) := by decide +kernel
theorem d_R_firstShowing_29 : decode (sk_cc m_R_firstShowing) 29 = .ok (.ireturn, 1) := by decide +kernel
theorem d_R_firstShowing_30 : decode (sk_cc m_R_firstShowing) 30 = .ok (.iinc 4 1, 3) := by decide +kernel
theorem d_R_firstShowing_33 : decode (sk_cc m_R_firstShowing) 33 = .ok (.goto (-24), 3) := by decide +kernel
theorem d_R_firstShowing_36 : decode (sk_cc m_R_firstShowing) 36 = .ok (.iconst (-1), 1) := by decide +kernel
theorem d_R_firstShowing_37 : decode (sk_cc m_R_firstShowing) 37 = .ok (.ireturn, 1) := by decide +kernel
theorem d_R_vectorsShowing_0 : decode (sk_cc m_R_vectorsShowing) 0 = .ok (.aload_n 0, 1) := by decide +kernel
theorem d_R_vectorsShowing_1 : decode (sk_cc m_R_vectorsShowing) 1 = .ok (.getfield 15, 3) := by decide +kernel
theorem d_R_vectorsShowing_4 : decode (sk_cc m_R_vectorsShowing) 4 = .ok (.iload_n 1, 1) := by decide +kernel
theorem d_R_vectorsShowing_5 : decode (sk_cc m_R_vectorsShowing) 5 = .ok (.iconst 1, 1) := by decide +kernel
theorem d_R_vectorsShowing_6 : decode (sk_cc m_R_vectorsShowing) 6 = .ok (.iadd, 1) := by decide +kernel
theorem d_R_vectorsShowing_7 : decode (sk_cc m_R_vectorsShowing) 7 = .ok (.laload, 1) := by decide +kernel
theorem d_R_vectorsShowing_8 : decode (sk_cc m_R_vectorsShowing) 8 = .ok (.lreturn, 1) := by decide +kernel
theorem d_P_thinOut_0 : decode (sk_cc m_P_thinOut) 0 = .ok (.aload_n 0, 1) := by decide +kernel
theorem d_P_thinOut_1 : decode (sk_cc m_P_thinOut) 1 = .ok (.getfield 15, 3) := by decide +kernel
theorem d_P_thinOut_4 : decode (sk_cc m_P_thinOut) 4 = .ok (.iconst 1, 1) := by decide +kernel
theorem d_P_thinOut_5 : decode (sk_cc m_P_thinOut) 5 = .ok (.isub, 1) := by decide +kernel
theorem d_P_thinOut_6 : decode (sk_cc m_P_thinOut) 6 = .ok (.istore_n 1, 1) := by decide +kernel
theorem d_P_thinOut_7 : decode (sk_cc m_P_thinOut) 7 = .ok (.iload_n 1, 1) := by decide +kernel
theorem d_P_thinOut_8 : decode (sk_cc m_P_thinOut) 8 = .ok (.ifCond .lt 40, 3) := by decide +kernel
theorem d_P_thinOut_11 : decode (sk_cc m_P_thinOut) 11 = .ok (.aload_n 0, 1) := by decide +kernel
theorem d_P_thinOut_12 : decode (sk_cc m_P_thinOut) 12 = .ok (.getfield 19, 3) := by decide +kernel
theorem d_P_thinOut_15 : decode (sk_cc m_P_thinOut) 15 = .ok (.lconst 1, 1) := by decide +kernel
theorem d_P_thinOut_16 : decode (sk_cc m_P_thinOut) 16 = .ok (.aload_n 0, 1) := by decide +kernel
theorem d_P_thinOut_17 : decode (sk_cc m_P_thinOut) 17 = .ok (.getfield 9, 3) := by decide +kernel
theorem d_P_thinOut_20 : decode (sk_cc m_P_thinOut) 20 = .ok (.iload_n 1, 1) := by decide +kernel
theorem d_P_thinOut_21 : decode (sk_cc m_P_thinOut) 21 = .ok (.iaload, 1) := by decide +kernel
theorem d_P_thinOut_22 : decode (sk_cc m_P_thinOut) 22 = .ok (.lshl, 1) := by decide +kernel
theorem d_P_thinOut_23 : decode (sk_cc m_P_thinOut) 23 = .ok (.ldc2_w 60, 3) := by decide +kernel
theorem d_P_thinOut_26 : decode (sk_cc m_P_thinOut) 26 = .ok (.lxor, 1) := by decide +kernel
theorem d_P_thinOut_27 : decode (sk_cc m_P_thinOut) 27 = .ok (.land, 1) := by decide +kernel
theorem d_P_thinOut_28 : decode (sk_cc m_P_thinOut) 28 = .ok (.lstore_n 2, 1) := by decide +kernel
theorem d_P_thinOut_29 : decode (sk_cc m_P_thinOut) 29 = .ok (.aload_n 0, 1) := by decide +kernel
theorem d_P_thinOut_30 : decode (sk_cc m_P_thinOut) 30 = .ok (.lload_n 2, 1) := by decide +kernel
theorem d_P_thinOut_31 : decode (sk_cc m_P_thinOut) 31 = .ok (.invokevirtual 62, 3) := by decide +kernel
theorem d_P_thinOut_34 : decode (sk_cc m_P_thinOut) 34 = .ok (.ifCond .eq 8, 3) := by decide +kernel
theorem d_P_thinOut_37 : decode (sk_cc m_P_thinOut) 37 = .ok (.aload_n 0, 1) := by decide +kernel
theorem d_P_thinOut_38 : decode (sk_cc m_P_thinOut) 38 = .ok (.lload_n 2, 1) := by decide +kernel
theorem d_P_thinOut_39 : decode (sk_cc m_P_thinOut) 39 = .ok (.putfield 19, 3) := by decide +kernel
theorem d_P_thinOut_42 : decode (sk_cc m_P_thinOut) 42 = .ok (.iinc 1 (-1), 3) := by decide +kernel
theorem d_P_thinOut_45 : decode (sk_cc m_P_thinOut) 45 = .ok (.goto (-38), 3) := by decide +kernel
theorem d_P_thinOut_48 : decode (sk_cc m_P_thinOut) 48 = .ok (.return_, 1) := by decide +kernel
theorem d_P_showAll_0 : decode (sk_cc m_P_showAll) 0 = .ok (.iconst 0, 1) := by decide +kernel
theorem d_P_showAll_1 : decode (sk_cc m_P_showAll) 1 = .ok (.istore_n 3, 1) := by decide +kernel
theorem d_P_showAll_2 : decode (sk_cc m_P_showAll) 2 = .ok (.iload_n 3, 1) := by decide +kernel
theorem d_P_showAll_3 : decode (sk_cc m_P_showAll) 3 = .ok (.aload_n 0, 1) := by decide +kernel
theorem d_P_showAll_4 : decode (sk_cc m_P_showAll) 4 = .ok (.getfield 26, 3) := by decide +kernel
theorem d_P_showAll_7 : decode (sk_cc m_P_showAll) 7 = .ok (.invokevirtual 46, 3) := by decide +kernel
theorem d_P_showAll_10 : decode (sk_cc m_P_showAll) 10 = .ok (.if_icmp .ge 37, 3) := by decide +kernel
theorem d_P_showAll_13 : decode (sk_cc m_P_showAll) 13 = .ok (.aload_n 0, 1) := by decide +kernel
theorem d_P_showAll_14 : decode (sk_cc m_P_showAll) 14 = .ok (.getfield 30, 3) := by decide +kernel
theorem d_P_showAll_17 : decode (sk_cc m_P_showAll) 17 = .ok (.iload_n 3, 1) := by decide +kernel
theorem d_P_showAll_18 : decode (sk_cc m_P_showAll) 18 = .ok (.invokevirtual 56, 3) := by decide +kernel
theorem d_P_showAll_21 : decode (sk_cc m_P_showAll) 21 = .ok (.lstore 4, 2) := by decide +kernel
theorem d_P_showAll_23 : decode (sk_cc m_P_showAll) 23 = .ok (.lload 4, 2) := by decide +kernel
theorem d_P_showAll_25 : decode (sk_cc m_P_showAll) 25 = .ok (.lconst 0, 1) := by decide +kernel
theorem d_P_showAll_26 : decode (sk_cc m_P_showAll) 26 = .ok (.lcmp, 1) := by decide +kernel
theorem d_P_showAll_27 : decode (sk_cc m_P_showAll) 27 = .ok (.ifCond .eq 14, 3) := by decide +kernel
theorem d_P_showAll_30 : decode (sk_cc m_P_showAll) 30 = .ok (.lload 4, 2) := by decide +kernel
theorem d_P_showAll_32 : decode (sk_cc m_P_showAll) 32 = .ok (.lload_n 1, 1) := by decide +kernel
theorem d_P_showAll_33 : decode (sk_cc m_P_showAll) 33 = .ok (.land, 1) := by decide +kernel
theorem d_P_showAll_34 : decode (sk_cc m_P_showAll) 34 = .ok (.lconst 0, 1) := by decide +kernel
theorem d_P_showAll_35 : decode (sk_cc m_P_showAll) 35 = .ok (.lcmp, 1) := by decide +kernel
theorem d_P_showAll_36 : decode (sk_cc m_P_showAll) 36 = .ok (.ifCond .ne 5, 3) := by decide +kernel
theorem d_P_showAll_39 : decode (sk_cc m_P_showAll) 39 = .ok (.iconst 0, 1) := by decide +kernel
theorem d_P_showAll_40 : decode (sk_cc m_P_showAll) 40 = .ok (.ireturn, 1) := by decide +kernel
theorem d_P_showAll_41 : decode (sk_cc m_P_showAll) 41 = .ok (.iinc 3 1, 3) := by decide +kernel
theorem d_P_showAll_44 : decode (sk_cc m_P_showAll) 44 = .ok (.goto (-42), 3) := by decide +kernel
theorem d_P_showAll_47 : decode (sk_cc m_P_showAll) 47 = .ok (.iconst 1, 1) := by decide +kernel
theorem d_P_showAll_48 : decode (sk_cc m_P_showAll) 48 = .ok (.ireturn, 1) := by decide +kernel
theorem d_P_dropTheLeftOut_0 : decode (sk_cc m_P_dropTheLeftOut) 0 = .ok (.iconst 0, 1) := by decide +kernel
theorem d_P_dropTheLeftOut_1 : decode (sk_cc m_P_dropTheLeftOut) 1 = .ok (.istore_n 1, 1) := by decide +kernel
theorem d_P_dropTheLeftOut_2 : decode (sk_cc m_P_dropTheLeftOut) 2 = .ok (.iconst 0, 1) := by decide +kernel
theorem d_P_dropTheLeftOut_3 : decode (sk_cc m_P_dropTheLeftOut) 3 = .ok (.istore_n 2, 1) := by decide +kernel
theorem d_P_dropTheLeftOut_4 : decode (sk_cc m_P_dropTheLeftOut) 4 = .ok (.iload_n 2, 1) := by decide +kernel
theorem d_P_dropTheLeftOut_5 : decode (sk_cc m_P_dropTheLeftOut) 5 = .ok (.aload_n 0, 1) := by decide +kernel
theorem d_P_dropTheLeftOut_6 : decode (sk_cc m_P_dropTheLeftOut) 6 = .ok (.getfield 15, 3) := by decide +kernel
theorem d_P_dropTheLeftOut_9 : decode (sk_cc m_P_dropTheLeftOut) 9 = .ok (.if_icmp .ge 42, 3) := by decide +kernel
theorem d_P_dropTheLeftOut_12 : decode (sk_cc m_P_dropTheLeftOut) 12 = .ok (.aload_n 0, 1) := by decide +kernel
theorem d_P_dropTheLeftOut_13 : decode (sk_cc m_P_dropTheLeftOut) 13 = .ok (.getfield 19, 3) := by decide +kernel
theorem d_P_dropTheLeftOut_16 : decode (sk_cc m_P_dropTheLeftOut) 16 = .ok (.aload_n 0, 1) := by decide +kernel
theorem d_P_dropTheLeftOut_17 : decode (sk_cc m_P_dropTheLeftOut) 17 = .ok (.getfield 9, 3) := by decide +kernel
theorem d_P_dropTheLeftOut_20 : decode (sk_cc m_P_dropTheLeftOut) 20 = .ok (.iload_n 2, 1) := by decide +kernel
theorem d_P_dropTheLeftOut_21 : decode (sk_cc m_P_dropTheLeftOut) 21 = .ok (.iaload, 1) := by decide +kernel
theorem d_P_dropTheLeftOut_22 : decode (sk_cc m_P_dropTheLeftOut) 22 = .ok (.lushr, 1) := by decide +kernel
theorem d_P_dropTheLeftOut_23 : decode (sk_cc m_P_dropTheLeftOut) 23 = .ok (.lconst 1, 1) := by decide +kernel
theorem d_P_dropTheLeftOut_24 : decode (sk_cc m_P_dropTheLeftOut) 24 = .ok (.land, 1) := by decide +kernel
theorem d_P_dropTheLeftOut_25 : decode (sk_cc m_P_dropTheLeftOut) 25 = .ok (.lconst 1, 1) := by decide +kernel
theorem d_P_dropTheLeftOut_26 : decode (sk_cc m_P_dropTheLeftOut) 26 = .ok (.lcmp, 1) := by decide +kernel
theorem d_P_dropTheLeftOut_27 : decode (sk_cc m_P_dropTheLeftOut) 27 = .ok (.ifCond .ne 18, 3) := by decide +kernel
theorem d_P_dropTheLeftOut_30 : decode (sk_cc m_P_dropTheLeftOut) 30 = .ok (.aload_n 0, 1) := by decide +kernel
theorem d_P_dropTheLeftOut_31 : decode (sk_cc m_P_dropTheLeftOut) 31 = .ok (.getfield 9, 3) := by decide +kernel
theorem d_P_dropTheLeftOut_34 : decode (sk_cc m_P_dropTheLeftOut) 34 = .ok (.iload_n 1, 1) := by decide +kernel
theorem d_P_dropTheLeftOut_35 : decode (sk_cc m_P_dropTheLeftOut) 35 = .ok (.aload_n 0, 1) := by decide +kernel
theorem d_P_dropTheLeftOut_36 : decode (sk_cc m_P_dropTheLeftOut) 36 = .ok (.getfield 9, 3) := by decide +kernel
theorem d_P_dropTheLeftOut_39 : decode (sk_cc m_P_dropTheLeftOut) 39 = .ok (.iload_n 2, 1) := by decide +kernel
theorem d_P_dropTheLeftOut_40 : decode (sk_cc m_P_dropTheLeftOut) 40 = .ok (.iaload, 1) := by decide +kernel
theorem d_P_dropTheLeftOut_41 : decode (sk_cc m_P_dropTheLeftOut) 41 = .ok (.iastore, 1) := by decide +kernel
theorem d_P_dropTheLeftOut_42 : decode (sk_cc m_P_dropTheLeftOut) 42 = .ok (.iinc 1 1, 3) := by decide +kernel
theorem d_P_dropTheLeftOut_45 : decode (sk_cc m_P_dropTheLeftOut) 45 = .ok (.iinc 2 1, 3) := by decide +kernel
theorem d_P_dropTheLeftOut_48 : decode (sk_cc m_P_dropTheLeftOut) 48 = .ok (.goto (-44), 3) := by decide +kernel
theorem d_P_dropTheLeftOut_51 : decode (sk_cc m_P_dropTheLeftOut) 51 = .ok (.aload_n 0, 1) := by decide +kernel
theorem d_P_dropTheLeftOut_52 : decode (sk_cc m_P_dropTheLeftOut) 52 = .ok (.iload_n 1, 1) := by decide +kernel
theorem d_P_dropTheLeftOut_53 : decode (sk_cc m_P_dropTheLeftOut) 53 = .ok (.putfield 15, 3) := by decide +kernel
theorem d_P_dropTheLeftOut_56 : decode (sk_cc m_P_dropTheLeftOut) 56 = .ok (.return_, 1) := by decide +kernel
theorem d_X_forget_0 : decode (sk_cc m_X_forget) 0 = .ok (.aload_n 0, 1) := by decide +kernel
theorem d_X_forget_1 : decode (sk_cc m_X_forget) 1 = .ok (.getfield 53, 3) := by decide +kernel
theorem d_X_forget_4 : decode (sk_cc m_X_forget) 4 = .ok (.getfield 212, 3) := by decide +kernel
theorem d_X_forget_7 : decode (sk_cc m_X_forget) 7 = .ok (.istore_n 1, 1) := by decide +kernel
theorem d_X_forget_8 : decode (sk_cc m_X_forget) 8 = .ok (.aload_n 0, 1) := by decide +kernel
theorem d_X_forget_9 : decode (sk_cc m_X_forget) 9 = .ok (.getfield 53, 3) := by decide +kernel
theorem d_X_forget_12 : decode (sk_cc m_X_forget) 12 = .ok (.invokevirtual 60, 3) := by decide +kernel
theorem d_X_forget_15 : decode (sk_cc m_X_forget) 15 = .ok (.iload_n 1, 1) := by decide +kernel
theorem d_X_forget_16 : decode (sk_cc m_X_forget) 16 = .ok (.ireturn, 1) := by decide +kernel
theorem d_X_explains_0 : decode (sk_cc m_X_explains) 0 = .ok (.iload_n 1, 1) := by decide +kernel
theorem d_X_explains_1 : decode (sk_cc m_X_explains) 1 = .ok (.iconst (-1), 1) := by decide +kernel
theorem d_X_explains_2 : decode (sk_cc m_X_explains) 2 = .ok (.if_icmp .ne 28, 3) := by decide +kernel
theorem d_X_explains_5 : decode (sk_cc m_X_explains) 5 = .ok (.aload_n 0, 1) := by decide +kernel
theorem d_X_explains_6 : decode (sk_cc m_X_explains) 6 = .ok (.getfield 28, 3) := by decide +kernel
theorem d_X_explains_9 : decode (sk_cc m_X_explains) 9 = .ok (.iconst (-1), 1) := by decide +kernel
theorem d_X_explains_10 : decode (sk_cc m_X_explains) 10 = .ok (.invokevirtual 153, 3) := by decide +kernel
theorem d_X_explains_13 : decode (sk_cc m_X_explains) 13 = .ok (.aload_n 0, 1) := by decide +kernel
theorem d_X_explains_14 : decode (sk_cc m_X_explains) 14 = .ok (.getfield 53, 3) := by decide +kernel
theorem d_X_explains_17 : decode (sk_cc m_X_explains) 17 = .ok (.iconst (-1), 1) := by decide +kernel
theorem d_X_explains_18 : decode (sk_cc m_X_explains) 18 = .ok (.invokevirtual 220, 3) := by decide +kernel
theorem d_X_explains_21 : decode (sk_cc m_X_explains) 21 = .ok (.ifCond .eq 7, 3) := by decide +kernel
theorem d_X_explains_24 : decode (sk_cc m_X_explains) 24 = .ok (.iconst 1, 1) := by decide +kernel
theorem d_X_explains_25 : decode (sk_cc m_X_explains) 25 = .ok (.goto 4, 3) := by decide +kernel
theorem d_X_explains_28 : decode (sk_cc m_X_explains) 28 = .ok (.iconst 0, 1) := by decide +kernel
theorem d_X_explains_29 : decode (sk_cc m_X_explains) 29 = .ok (.ireturn, 1) := by decide +kernel
theorem d_X_explains_30 : decode (sk_cc m_X_explains) 30 = .ok (.aload_n 0, 1) := by decide +kernel
theorem d_X_explains_31 : decode (sk_cc m_X_explains) 31 = .ok (.getfield 28, 3) := by decide +kernel
theorem d_X_explains_34 : decode (sk_cc m_X_explains) 34 = .ok (.invokevirtual 129, 3) := by decide +kernel
theorem d_X_explains_37 : decode (sk_cc m_X_explains) 37 = .ok (.iconst 0, 1) := by decide +kernel
theorem d_X_explains_38 : decode (sk_cc m_X_explains) 38 = .ok (.istore_n 2, 1) := by decide +kernel
theorem d_X_explains_39 : decode (sk_cc m_X_explains) 39 = .ok (.iconst 0, 1) := by decide +kernel
theorem d_X_explains_40 : decode (sk_cc m_X_explains) 40 = .ok (.istore_n 3, 1) := by decide +kernel
theorem d_X_explains_41 : decode (sk_cc m_X_explains) 41 = .ok (.iload_n 3, 1) := by decide +kernel
theorem d_X_explains_42 : decode (sk_cc m_X_explains) 42 = .ok (.aload_n 0, 1) := by decide +kernel
theorem d_X_explains_43 : decode (sk_cc m_X_explains) 43 = .ok (.getfield 12, 3) := by decide +kernel
theorem d_X_explains_46 : decode (sk_cc m_X_explains) 46 = .ok (.invokevirtual 125, 3) := by decide +kernel
theorem d_X_explains_49 : decode (sk_cc m_X_explains) 49 = .ok (.if_icmp .ge 30, 3) := by decide +kernel
theorem d_X_explains_52 : decode (sk_cc m_X_explains) 52 = .ok (.aload_n 0, 1) := by decide +kernel
theorem d_X_explains_53 : decode (sk_cc m_X_explains) 53 = .ok (.getfield 53, 3) := by decide +kernel
theorem d_X_explains_56 : decode (sk_cc m_X_explains) 56 = .ok (.iload_n 3, 1) := by decide +kernel
theorem d_X_explains_57 : decode (sk_cc m_X_explains) 57 = .ok (.invokevirtual 220, 3) := by decide +kernel
theorem d_X_explains_60 : decode (sk_cc m_X_explains) 60 = .ok (.ifCond .eq 13, 3) := by decide +kernel
theorem d_X_explains_63 : decode (sk_cc m_X_explains) 63 = .ok (.iload_n 2, 1) := by decide +kernel
theorem d_X_explains_64 : decode (sk_cc m_X_explains) 64 = .ok (.iload_n 1, 1) := by decide +kernel
theorem d_X_explains_65 : decode (sk_cc m_X_explains) 65 = .ok (.if_icmp .ne 5, 3) := by decide +kernel
theorem d_X_explains_68 : decode (sk_cc m_X_explains) 68 = .ok (.iload_n 3, 1) := by decide +kernel
theorem d_X_explains_69 : decode (sk_cc m_X_explains) 69 = .ok (.ireturn, 1) := by decide +kernel
theorem d_X_explains_70 : decode (sk_cc m_X_explains) 70 = .ok (.iinc 2 1, 3) := by decide +kernel
theorem d_X_explains_73 : decode (sk_cc m_X_explains) 73 = .ok (.iinc 3 1, 3) := by decide +kernel
theorem d_X_explains_76 : decode (sk_cc m_X_explains) 76 = .ok (.goto (-35), 3) := by decide +kernel
theorem d_X_explains_79 : decode (sk_cc m_X_explains) 79 = .ok (.iconst (-1), 1) := by decide +kernel
theorem d_X_explains_80 : decode (sk_cc m_X_explains) 80 = .ok (.ireturn, 1) := by decide +kernel
theorem d_R_prepare_0 : decode (sk_cc m_R_prepare) 0 = .ok (.aload_n 0, 1) := by decide +kernel
theorem d_R_prepare_1 : decode (sk_cc m_R_prepare) 1 = .ok (.iconst (-1), 1) := by decide +kernel
theorem d_R_prepare_2 : decode (sk_cc m_R_prepare) 2 = .ok (.invokevirtual 41, 3) := by decide +kernel
theorem d_R_prepare_5 : decode (sk_cc m_R_prepare) 5 = .ok (.aload_n 0, 1) := by decide +kernel
theorem d_R_prepare_6 : decode (sk_cc m_R_prepare) 6 = .ok (.iload_n 1, 1) := by decide +kernel
theorem d_R_prepare_7 : decode (sk_cc m_R_prepare) 7 = .ok (.invokevirtual 41, 3) := by decide +kernel
theorem d_R_prepare_10 : decode (sk_cc m_R_prepare) 10 = .ok (.return_, 1) := by decide +kernel
theorem d_G_isExplainedBy_0 : decode (sk_cc m_G_isExplainedBy) 0 = .ok (.iconst 0, 1) := by decide +kernel
theorem d_G_isExplainedBy_1 : decode (sk_cc m_G_isExplainedBy) 1 = .ok (.istore_n 2, 1) := by decide +kernel
theorem d_G_isExplainedBy_2 : decode (sk_cc m_G_isExplainedBy) 2 = .ok (.iload_n 2, 1) := by decide +kernel
theorem d_G_isExplainedBy_3 : decode (sk_cc m_G_isExplainedBy) 3 = .ok (.aload_n 0, 1) := by decide +kernel
theorem d_G_isExplainedBy_4 : decode (sk_cc m_G_isExplainedBy) 4 = .ok (.getfield 18, 3) := by decide +kernel
theorem d_G_isExplainedBy_7 : decode (sk_cc m_G_isExplainedBy) 7 = .ok (.if_icmp .ge 34, 3) := by decide +kernel
theorem d_G_isExplainedBy_10 : decode (sk_cc m_G_isExplainedBy) 10 = .ok (.aload_n 0, 1) := by decide +kernel
theorem d_G_isExplainedBy_11 : decode (sk_cc m_G_isExplainedBy) 11 = .ok (.getfield 22, 3) := by decide +kernel
theorem d_G_isExplainedBy_14 : decode (sk_cc m_G_isExplainedBy) 14 = .ok (.aload_n 0, 1) := by decide +kernel
theorem d_G_isExplainedBy_15 : decode (sk_cc m_G_isExplainedBy) 15 = .ok (.getfield 9, 3) := by decide +kernel
theorem d_G_isExplainedBy_18 : decode (sk_cc m_G_isExplainedBy) 18 = .ok (.iload_n 2, 1) := by decide +kernel
theorem d_G_isExplainedBy_19 : decode (sk_cc m_G_isExplainedBy) 19 = .ok (.iaload, 1) := by decide +kernel
theorem d_G_isExplainedBy_20 : decode (sk_cc m_G_isExplainedBy) 20 = .ok (.iload_n 1, 1) := by decide +kernel
theorem d_G_isExplainedBy_21 : decode (sk_cc m_G_isExplainedBy) 21 = .ok (.invokevirtual 26, 3) := by decide +kernel
theorem d_G_isExplainedBy_24 : decode (sk_cc m_G_isExplainedBy) 24 = .ok (.aload_n 0, 1) := by decide +kernel
theorem d_G_isExplainedBy_25 : decode (sk_cc m_G_isExplainedBy) 25 = .ok (.getfield 15, 3) := by decide +kernel
theorem d_G_isExplainedBy_28 : decode (sk_cc m_G_isExplainedBy) 28 = .ok (.iload_n 2, 1) := by decide +kernel
theorem d_G_isExplainedBy_29 : decode (sk_cc m_G_isExplainedBy) 29 = .ok (.iaload, 1) := by decide +kernel
theorem d_G_isExplainedBy_30 : decode (sk_cc m_G_isExplainedBy) 30 = .ok (.if_icmp .eq 5, 3) := by decide +kernel
theorem d_G_isExplainedBy_33 : decode (sk_cc m_G_isExplainedBy) 33 = .ok (.iconst 0, 1) := by decide +kernel
theorem d_G_isExplainedBy_34 : decode (sk_cc m_G_isExplainedBy) 34 = .ok (.ireturn, 1) := by decide +kernel
theorem d_G_isExplainedBy_35 : decode (sk_cc m_G_isExplainedBy) 35 = .ok (.iinc 2 1, 3) := by decide +kernel
theorem d_G_isExplainedBy_38 : decode (sk_cc m_G_isExplainedBy) 38 = .ok (.goto (-36), 3) := by decide +kernel
theorem d_G_isExplainedBy_41 : decode (sk_cc m_G_isExplainedBy) 41 = .ok (.iconst 1, 1) := by decide +kernel
theorem d_G_isExplainedBy_42 : decode (sk_cc m_G_isExplainedBy) 42 = .ok (.ireturn, 1) := by decide +kernel
theorem d_R_to_0 : decode (sk_cc m_R_to) 0 = .ok (.iload_n 2, 1) := by decide +kernel
theorem d_R_to_1 : decode (sk_cc m_R_to) 1 = .ok (.iconst 1, 1) := by decide +kernel
theorem d_R_to_2 : decode (sk_cc m_R_to) 2 = .ok (.iadd, 1) := by decide +kernel
theorem d_R_to_3 : decode (sk_cc m_R_to) 3 = .ok (.bipush 12, 2) := by decide +kernel
theorem d_R_to_5 : decode (sk_cc m_R_to) 5 = .ok (.imul, 1) := by decide +kernel
theorem d_R_to_6 : decode (sk_cc m_R_to) 6 = .ok (.istore_n 3, 1) := by decide +kernel
theorem d_R_to_7 : decode (sk_cc m_R_to) 7 = .ok (.iconst 0, 1) := by decide +kernel
theorem d_R_to_8 : decode (sk_cc m_R_to) 8 = .ok (.istore 4, 2) := by decide +kernel
theorem d_R_to_10 : decode (sk_cc m_R_to) 10 = .ok (.iconst 0, 1) := by decide +kernel
theorem d_R_to_11 : decode (sk_cc m_R_to) 11 = .ok (.istore 5, 2) := by decide +kernel
theorem d_R_to_13 : decode (sk_cc m_R_to) 13 = .ok (.iload 5, 2) := by decide +kernel
theorem d_R_to_15 : decode (sk_cc m_R_to) 15 = .ok (.aload_n 0, 1) := by decide +kernel
theorem d_R_to_16 : decode (sk_cc m_R_to) 16 = .ok (.getfield 22, 3) := by decide +kernel
theorem d_R_to_19 : decode (sk_cc m_R_to) 19 = .ok (.getfield 57, 3) := by decide +kernel
theorem d_R_to_22 : decode (sk_cc m_R_to) 22 = .ok (.if_icmp .ge 31, 3) := by decide +kernel
theorem d_R_to_25 : decode (sk_cc m_R_to) 25 = .ok (.iload 4, 2) := by decide +kernel
theorem d_R_to_27 : decode (sk_cc m_R_to) 27 = .ok (.aload_n 0, 1) := by decide +kernel
theorem d_R_to_28 : decode (sk_cc m_R_to) 28 = .ok (.getfield 9, 3) := by decide +kernel
theorem d_R_to_31 : decode (sk_cc m_R_to) 31 = .ok (.iload_n 3, 1) := by decide +kernel
theorem d_R_to_32 : decode (sk_cc m_R_to) 32 = .ok (.iload 5, 2) := by decide +kernel
theorem d_R_to_34 : decode (sk_cc m_R_to) 34 = .ok (.iadd, 1) := by decide +kernel
theorem d_R_to_35 : decode (sk_cc m_R_to) 35 = .ok (.laload, 1) := by decide +kernel
theorem d_R_to_36 : decode (sk_cc m_R_to) 36 = .ok (.iload_n 1, 1) := by decide +kernel
theorem d_R_to_37 : decode (sk_cc m_R_to) 37 = .ok (.lushr, 1) := by decide +kernel
theorem d_R_to_38 : decode (sk_cc m_R_to) 38 = .ok (.lconst 1, 1) := by decide +kernel
theorem d_R_to_39 : decode (sk_cc m_R_to) 39 = .ok (.land, 1) := by decide +kernel
theorem d_R_to_40 : decode (sk_cc m_R_to) 40 = .ok (.l2i, 1) := by decide +kernel
theorem d_R_to_41 : decode (sk_cc m_R_to) 41 = .ok (.iload 5, 2) := by decide +kernel
theorem d_R_to_43 : decode (sk_cc m_R_to) 43 = .ok (.ishl, 1) := by decide +kernel
theorem d_R_to_44 : decode (sk_cc m_R_to) 44 = .ok (.ior, 1) := by decide +kernel
theorem d_R_to_45 : decode (sk_cc m_R_to) 45 = .ok (.istore 4, 2) := by decide +kernel
theorem d_R_to_47 : decode (sk_cc m_R_to) 47 = .ok (.iinc 5 1, 3) := by decide +kernel
theorem d_R_to_50 : decode (sk_cc m_R_to) 50 = .ok (.goto (-37), 3) := by decide +kernel
theorem d_R_to_53 : decode (sk_cc m_R_to) 53 = .ok (.iload 4, 2) := by decide +kernel
theorem d_R_to_55 : decode (sk_cc m_R_to) 55 = .ok (.ireturn, 1) := by decide +kernel
theorem d_L_source_0 : decode (sk_cc m_L_source) 0 = .ok (.aload_n 2, 1) := by decide +kernel
theorem d_L_source_1 : decode (sk_cc m_L_source) 1 = .ok (.iconst 0, 1) := by decide +kernel
theorem d_L_source_2 : decode (sk_cc m_L_source) 2 = .ok (.aload_n 0, 1) := by decide +kernel
theorem d_L_source_3 : decode (sk_cc m_L_source) 3 = .ok (.iload_n 1, 1) := by decide +kernel
theorem d_L_source_4 : decode (sk_cc m_L_source) 4 = .ok (.invokevirtual 7, 3) := by decide +kernel
theorem d_L_source_7 : decode (sk_cc m_L_source) 7 = .ok (.i2l, 1) := by decide +kernel
theorem d_L_source_8 : decode (sk_cc m_L_source) 8 = .ok (.lastore, 1) := by decide +kernel
theorem d_L_source_9 : decode (sk_cc m_L_source) 9 = .ok (.goto 6, 3) := by decide +kernel
theorem d_L_source_12 : decode (sk_cc m_L_source) 12 = .ok (.astore_n 3, 1) := by decide +kernel
theorem d_L_source_13 : decode (sk_cc m_L_source) 13 = .ok (.iconst 1, 1) := by decide +kernel
theorem d_L_source_14 : decode (sk_cc m_L_source) 14 = .ok (.ireturn, 1) := by decide +kernel
theorem d_L_source_15 : decode (sk_cc m_L_source) 15 = .ok (.iconst 0, 1) := by decide +kernel
theorem d_L_source_16 : decode (sk_cc m_L_source) 16 = .ok (.ireturn, 1) := by decide +kernel
theorem d_X_source_0 : decode (sk_cc m_X_source) 0 = .ok (.aload_n 0, 1) := by decide +kernel
theorem d_X_source_1 : decode (sk_cc m_X_source) 1 = .ok (.getfield 12, 3) := by decide +kernel
theorem d_X_source_4 : decode (sk_cc m_X_source) 4 = .ok (.getfield 61, 3) := by decide +kernel
theorem d_X_source_7 : decode (sk_cc m_X_source) 7 = .ok (.bipush 6, 2) := by decide +kernel
theorem d_X_source_9 : decode (sk_cc m_X_source) 9 = .ok (.if_icmp .ge 15, 3) := by decide +kernel
theorem d_X_source_12 : decode (sk_cc m_X_source) 12 = .ok (.aload_n 0, 1) := by decide +kernel
theorem d_X_source_13 : decode (sk_cc m_X_source) 13 = .ok (.getfield 12, 3) := by decide +kernel
theorem d_X_source_16 : decode (sk_cc m_X_source) 16 = .ok (.getfield 65, 3) := by decide +kernel
theorem d_X_source_19 : decode (sk_cc m_X_source) 19 = .ok (.bipush 26, 2) := by decide +kernel
theorem d_X_source_21 : decode (sk_cc m_X_source) 21 = .ok (.if_icmp .lt 13, 3) := by decide +kernel
theorem d_X_source_24 : decode (sk_cc m_X_source) 24 = .ok (.new 68, 3) := by decide +kernel
theorem d_X_source_27 : decode (sk_cc m_X_source) 27 = .ok (.dup, 1) := by decide +kernel
theorem d_X_source_28 : decode (sk_cc m_X_source) 28 = .ok (.ldc 70, 2) := by decide +kernel
theorem d_X_source_30 : decode (sk_cc m_X_source) 30 = .ok (.invokespecial 72, 3) := by decide +kernel
theorem d_X_source_33 : decode (sk_cc m_X_source) 33 = .ok (.athrow, 1) := by decide +kernel
theorem d_X_source_34 : decode (sk_cc m_X_source) 34 = .ok (.aload_n 0, 1) := by decide +kernel
theorem d_X_source_35 : decode (sk_cc m_X_source) 35 = .ok (.getfield 53, 3) := by decide +kernel
theorem d_X_source_38 : decode (sk_cc m_X_source) 38 = .ok (.invokevirtual 60, 3) := by decide +kernel
theorem d_X_source_41 : decode (sk_cc m_X_source) 41 = .ok (.aload_n 0, 1) := by decide +kernel
theorem d_X_source_42 : decode (sk_cc m_X_source) 42 = .ok (.getfield 12, 3) := by decide +kernel
theorem d_X_source_45 : decode (sk_cc m_X_source) 45 = .ok (.iload_n 1, 1) := by decide +kernel
theorem d_X_source_46 : decode (sk_cc m_X_source) 46 = .ok (.invokevirtual 75, 3) := by decide +kernel
theorem d_X_source_49 : decode (sk_cc m_X_source) 49 = .ok (.ireturn, 1) := by decide +kernel
theorem d_C_addSource_0 : decode (sk_cc m_C_addSource) 0 = .ok (.aload_n 0, 1) := by decide +kernel
theorem d_C_addSource_1 : decode (sk_cc m_C_addSource) 1 = .ok (.iconst (-1), 1) := by decide +kernel
theorem d_C_addSource_2 : decode (sk_cc m_C_addSource) 2 = .ok (.invokevirtual 59, 3) := by decide +kernel
theorem d_C_addSource_5 : decode (sk_cc m_C_addSource) 5 = .ok (.istore_n 2, 1) := by decide +kernel
theorem d_C_addSource_6 : decode (sk_cc m_C_addSource) 6 = .ok (.aload_n 0, 1) := by decide +kernel
theorem d_C_addSource_7 : decode (sk_cc m_C_addSource) 7 = .ok (.getfield 37, 3) := by decide +kernel
theorem d_C_addSource_10 : decode (sk_cc m_C_addSource) 10 = .ok (.iload_n 2, 1) := by decide +kernel
theorem d_C_addSource_11 : decode (sk_cc m_C_addSource) 11 = .ok (.iload_n 1, 1) := by decide +kernel
theorem d_C_addSource_12 : decode (sk_cc m_C_addSource) 12 = .ok (.bastore, 1) := by decide +kernel
theorem d_C_addSource_13 : decode (sk_cc m_C_addSource) 13 = .ok (.aload_n 0, 1) := by decide +kernel
theorem d_C_addSource_14 : decode (sk_cc m_C_addSource) 14 = .ok (.getfield 34, 3) := by decide +kernel
theorem d_C_addSource_17 : decode (sk_cc m_C_addSource) 17 = .ok (.iload_n 2, 1) := by decide +kernel
theorem d_C_addSource_18 : decode (sk_cc m_C_addSource) 18 = .ok (.aload_n 0, 1) := by decide +kernel
theorem d_C_addSource_19 : decode (sk_cc m_C_addSource) 19 = .ok (.getfield 18, 3) := by decide +kernel
theorem d_C_addSource_22 : decode (sk_cc m_C_addSource) 22 = .ok (.iastore, 1) := by decide +kernel
theorem d_C_addSource_23 : decode (sk_cc m_C_addSource) 23 = .ok (.aload_n 0, 1) := by decide +kernel
theorem d_C_addSource_24 : decode (sk_cc m_C_addSource) 24 = .ok (.dup, 1) := by decide +kernel
theorem d_C_addSource_25 : decode (sk_cc m_C_addSource) 25 = .ok (.getfield 18, 3) := by decide +kernel
theorem d_C_addSource_28 : decode (sk_cc m_C_addSource) 28 = .ok (.iconst 1, 1) := by decide +kernel
theorem d_C_addSource_29 : decode (sk_cc m_C_addSource) 29 = .ok (.iadd, 1) := by decide +kernel
theorem d_C_addSource_30 : decode (sk_cc m_C_addSource) 30 = .ok (.putfield 18, 3) := by decide +kernel
theorem d_C_addSource_33 : decode (sk_cc m_C_addSource) 33 = .ok (.iload_n 2, 1) := by decide +kernel
theorem d_C_addSource_34 : decode (sk_cc m_C_addSource) 34 = .ok (.ireturn, 1) := by decide +kernel
theorem d_C_addLine_0 : decode (sk_cc m_C_addLine) 0 = .ok (.aload_n 0, 1) := by decide +kernel
theorem d_C_addLine_1 : decode (sk_cc m_C_addLine) 1 = .ok (.getfield 15, 3) := by decide +kernel
theorem d_C_addLine_4 : decode (sk_cc m_C_addLine) 4 = .ok (.istore_n 2, 1) := by decide +kernel
theorem d_C_addLine_5 : decode (sk_cc m_C_addLine) 5 = .ok (.aload_n 0, 1) := by decide +kernel
theorem d_C_addLine_6 : decode (sk_cc m_C_addLine) 6 = .ok (.getfield 30, 3) := by decide +kernel
theorem d_C_addLine_9 : decode (sk_cc m_C_addLine) 9 = .ok (.iload_n 2, 1) := by decide +kernel
theorem d_C_addLine_10 : decode (sk_cc m_C_addLine) 10 = .ok (.iload_n 1, 1) := by decide +kernel
theorem d_C_addLine_11 : decode (sk_cc m_C_addLine) 11 = .ok (.iastore, 1) := by decide +kernel
theorem d_C_addLine_12 : decode (sk_cc m_C_addLine) 12 = .ok (.aload_n 0, 1) := by decide +kernel
theorem d_C_addLine_13 : decode (sk_cc m_C_addLine) 13 = .ok (.getfield 37, 3) := by decide +kernel
theorem d_C_addLine_16 : decode (sk_cc m_C_addLine) 16 = .ok (.iload_n 2, 1) := by decide +kernel
theorem d_C_addLine_17 : decode (sk_cc m_C_addLine) 17 = .ok (.iconst 0, 1) := by decide +kernel
theorem d_C_addLine_18 : decode (sk_cc m_C_addLine) 18 = .ok (.bastore, 1) := by decide +kernel
theorem d_C_addLine_19 : decode (sk_cc m_C_addLine) 19 = .ok (.aload_n 0, 1) := by decide +kernel
theorem d_C_addLine_20 : decode (sk_cc m_C_addLine) 20 = .ok (.getfield 34, 3) := by decide +kernel
theorem d_C_addLine_23 : decode (sk_cc m_C_addLine) 23 = .ok (.iload_n 2, 1) := by decide +kernel
theorem d_C_addLine_24 : decode (sk_cc m_C_addLine) 24 = .ok (.iconst (-1), 1) := by decide +kernel
theorem d_C_addLine_25 : decode (sk_cc m_C_addLine) 25 = .ok (.iastore, 1) := by decide +kernel
theorem d_C_addLine_26 : decode (sk_cc m_C_addLine) 26 = .ok (.aload_n 0, 1) := by decide +kernel
theorem d_C_addLine_27 : decode (sk_cc m_C_addLine) 27 = .ok (.getfield 53, 3) := by decide +kernel
theorem d_C_addLine_30 : decode (sk_cc m_C_addLine) 30 = .ok (.iload_n 2, 1) := by decide +kernel
theorem d_C_addLine_31 : decode (sk_cc m_C_addLine) 31 = .ok (.iconst (-1), 1) := by decide +kernel
theorem d_C_addLine_32 : decode (sk_cc m_C_addLine) 32 = .ok (.iastore, 1) := by decide +kernel
theorem d_C_addLine_33 : decode (sk_cc m_C_addLine) 33 = .ok (.aload_n 0, 1) := by decide +kernel
theorem d_C_addLine_34 : decode (sk_cc m_C_addLine) 34 = .ok (.getfield 41, 3) := by decide +kernel
theorem d_C_addLine_37 : decode (sk_cc m_C_addLine) 37 = .ok (.iload_n 2, 1) := by decide +kernel
theorem d_C_addLine_38 : decode (sk_cc m_C_addLine) 38 = .ok (.iconst 1, 1) := by decide +kernel
theorem d_C_addLine_39 : decode (sk_cc m_C_addLine) 39 = .ok (.iadd, 1) := by decide +kernel
theorem d_C_addLine_40 : decode (sk_cc m_C_addLine) 40 = .ok (.aload_n 0, 1) := by decide +kernel
theorem d_C_addLine_41 : decode (sk_cc m_C_addLine) 41 = .ok (.getfield 27, 3) := by decide +kernel
theorem d_C_addLine_44 : decode (sk_cc m_C_addLine) 44 = .ok (.iastore, 1) := by decide +kernel
theorem d_C_addLine_45 : decode (sk_cc m_C_addLine) 45 = .ok (.aload_n 0, 1) := by decide +kernel
theorem d_C_addLine_46 : decode (sk_cc m_C_addLine) 46 = .ok (.dup, 1) := by decide +kernel
theorem d_C_addLine_47 : decode (sk_cc m_C_addLine) 47 = .ok (.getfield 15, 3) := by decide +kernel
theorem d_C_addLine_50 : decode (sk_cc m_C_addLine) 50 = .ok (.iconst 1, 1) := by decide +kernel
theorem d_C_addLine_51 : decode (sk_cc m_C_addLine) 51 = .ok (.iadd, 1) := by decide +kernel
theorem d_C_addLine_52 : decode (sk_cc m_C_addLine) 52 = .ok (.putfield 15, 3) := by decide +kernel
theorem d_C_addLine_55 : decode (sk_cc m_C_addLine) 55 = .ok (.aload_n 0, 1) := by decide +kernel
theorem d_C_addLine_56 : decode (sk_cc m_C_addLine) 56 = .ok (.dup, 1) := by decide +kernel
theorem d_C_addLine_57 : decode (sk_cc m_C_addLine) 57 = .ok (.getfield 9, 3) := by decide +kernel
theorem d_C_addLine_60 : decode (sk_cc m_C_addLine) 60 = .ok (.iconst 1, 1) := by decide +kernel
theorem d_C_addLine_61 : decode (sk_cc m_C_addLine) 61 = .ok (.iadd, 1) := by decide +kernel
theorem d_C_addLine_62 : decode (sk_cc m_C_addLine) 62 = .ok (.putfield 9, 3) := by decide +kernel
theorem d_C_addLine_65 : decode (sk_cc m_C_addLine) 65 = .ok (.iload_n 2, 1) := by decide +kernel
theorem d_C_addLine_66 : decode (sk_cc m_C_addLine) 66 = .ok (.ireturn, 1) := by decide +kernel
theorem d_L_gate_0 : decode (sk_cc m_L_gate) 0 = .ok (.aload 5, 2) := by decide +kernel
theorem d_L_gate_2 : decode (sk_cc m_L_gate) 2 = .ok (.iconst 0, 1) := by decide +kernel
theorem d_L_gate_3 : decode (sk_cc m_L_gate) 3 = .ok (.aload_n 0, 1) := by decide +kernel
theorem d_L_gate_4 : decode (sk_cc m_L_gate) 4 = .ok (.iload_n 1, 1) := by decide +kernel
theorem d_L_gate_5 : decode (sk_cc m_L_gate) 5 = .ok (.iload_n 2, 1) := by decide +kernel
theorem d_L_gate_6 : decode (sk_cc m_L_gate) 6 = .ok (.iload_n 3, 1) := by decide +kernel
theorem d_L_gate_7 : decode (sk_cc m_L_gate) 7 = .ok (.iload 4, 2) := by decide +kernel
theorem d_L_gate_9 : decode (sk_cc m_L_gate) 9 = .ok (.invokevirtual 15, 3) := by decide +kernel
theorem d_L_gate_12 : decode (sk_cc m_L_gate) 12 = .ok (.i2l, 1) := by decide +kernel
theorem d_L_gate_13 : decode (sk_cc m_L_gate) 13 = .ok (.lastore, 1) := by decide +kernel
theorem d_L_gate_14 : decode (sk_cc m_L_gate) 14 = .ok (.goto 15, 3) := by decide +kernel
theorem d_L_gate_17 : decode (sk_cc m_L_gate) 17 = .ok (.astore 6, 2) := by decide +kernel
theorem d_L_gate_19 : decode (sk_cc m_L_gate) 19 = .ok (.iconst 1, 1) := by decide +kernel
theorem d_L_gate_20 : decode (sk_cc m_L_gate) 20 = .ok (.ireturn, 1) := by decide +kernel
theorem d_L_gate_21 : decode (sk_cc m_L_gate) 21 = .ok (.astore 6, 2) := by decide +kernel
theorem d_L_gate_23 : decode (sk_cc m_L_gate) 23 = .ok (.iconst 2, 1) := by decide +kernel
theorem d_L_gate_24 : decode (sk_cc m_L_gate) 24 = .ok (.ireturn, 1) := by decide +kernel
theorem d_L_gate_25 : decode (sk_cc m_L_gate) 25 = .ok (.astore 6, 2) := by decide +kernel
theorem d_L_gate_27 : decode (sk_cc m_L_gate) 27 = .ok (.iconst 3, 1) := by decide +kernel
theorem d_L_gate_28 : decode (sk_cc m_L_gate) 28 = .ok (.ireturn, 1) := by decide +kernel
theorem d_L_gate_29 : decode (sk_cc m_L_gate) 29 = .ok (.iconst 0, 1) := by decide +kernel
theorem d_L_gate_30 : decode (sk_cc m_L_gate) 30 = .ok (.ireturn, 1) := by decide +kernel
theorem d_X_gate_0 : decode (sk_cc m_X_gate) 0 = .ok (.iload_n 1, 1) := by decide +kernel
theorem d_X_gate_1 : decode (sk_cc m_X_gate) 1 = .ok (.ifCond .lt 9, 3) := by decide +kernel
theorem d_X_gate_4 : decode (sk_cc m_X_gate) 4 = .ok (.iload_n 1, 1) := by decide +kernel
theorem d_X_gate_5 : decode (sk_cc m_X_gate) 5 = .ok (.bipush 6, 2) := by decide +kernel
theorem d_X_gate_7 : decode (sk_cc m_X_gate) 7 = .ok (.if_icmp .lt 13, 3) := by decide +kernel
theorem d_X_gate_10 : decode (sk_cc m_X_gate) 10 = .ok (.new 79, 3) := by decide +kernel
theorem d_X_gate_13 : decode (sk_cc m_X_gate) 13 = .ok (.dup, 1) := by decide +kernel
theorem d_X_gate_14 : decode (sk_cc m_X_gate) 14 = .ok (.ldc 81, 2) := by decide +kernel
theorem d_X_gate_16 : decode (sk_cc m_X_gate) 16 = .ok (.invokespecial 83, 3) := by decide +kernel
theorem d_X_gate_19 : decode (sk_cc m_X_gate) 19 = .ok (.athrow, 1) := by decide +kernel
theorem d_X_gate_20 : decode (sk_cc m_X_gate) 20 = .ok (.iload_n 2, 1) := by decide +kernel
theorem d_X_gate_21 : decode (sk_cc m_X_gate) 21 = .ok (.iconst (-1), 1) := by decide +kernel
theorem d_X_gate_22 : decode (sk_cc m_X_gate) 22 = .ok (.if_icmp .eq 14, 3) := by decide +kernel
theorem d_X_gate_25 : decode (sk_cc m_X_gate) 25 = .ok (.iload_n 3, 1) := by decide +kernel
theorem d_X_gate_26 : decode (sk_cc m_X_gate) 26 = .ok (.iconst (-1), 1) := by decide +kernel
theorem d_X_gate_27 : decode (sk_cc m_X_gate) 27 = .ok (.if_icmp .ne 19, 3) := by decide +kernel
theorem d_X_gate_30 : decode (sk_cc m_X_gate) 30 = .ok (.iload 4, 2) := by decide +kernel
theorem d_X_gate_32 : decode (sk_cc m_X_gate) 32 = .ok (.iconst (-1), 1) := by decide +kernel
theorem d_X_gate_33 : decode (sk_cc m_X_gate) 33 = .ok (.if_icmp .eq 13, 3) := by decide +kernel
theorem d_X_gate_36 : decode (sk_cc m_X_gate) 36 = .ok (.new 79, 3) := by decide +kernel
theorem d_X_gate_39 : decode (sk_cc m_X_gate) 39 = .ok (.dup, 1) := by decide +kernel
theorem d_X_gate_40 : decode (sk_cc m_X_gate) 40 = .ok (.ldc 84, 2) := by decide +kernel
theorem d_X_gate_42 : decode (sk_cc m_X_gate) 42 = .ok (.invokespecial 83, 3) := by decide +kernel
theorem d_X_gate_45 : decode (sk_cc m_X_gate) 45 = .ok (.athrow, 1) := by decide +kernel
theorem d_X_gate_46 : decode (sk_cc m_X_gate) 46 = .ok (.aload_n 0, 1) := by decide +kernel
theorem d_X_gate_47 : decode (sk_cc m_X_gate) 47 = .ok (.iload_n 2, 1) := by decide +kernel
theorem d_X_gate_48 : decode (sk_cc m_X_gate) 48 = .ok (.invokevirtual 86, 3) := by decide +kernel
theorem d_X_gate_51 : decode (sk_cc m_X_gate) 51 = .ok (.aload_n 0, 1) := by decide +kernel
theorem d_X_gate_52 : decode (sk_cc m_X_gate) 52 = .ok (.iload_n 3, 1) := by decide +kernel
theorem d_X_gate_53 : decode (sk_cc m_X_gate) 53 = .ok (.invokevirtual 90, 3) := by decide +kernel
theorem d_X_gate_56 : decode (sk_cc m_X_gate) 56 = .ok (.aload_n 0, 1) := by decide +kernel
theorem d_X_gate_57 : decode (sk_cc m_X_gate) 57 = .ok (.iload 4, 2) := by decide +kernel
theorem d_X_gate_59 : decode (sk_cc m_X_gate) 59 = .ok (.invokevirtual 90, 3) := by decide +kernel
theorem d_X_gate_62 : decode (sk_cc m_X_gate) 62 = .ok (.aload_n 0, 1) := by decide +kernel
theorem d_X_gate_63 : decode (sk_cc m_X_gate) 63 = .ok (.getfield 12, 3) := by decide +kernel
theorem d_X_gate_66 : decode (sk_cc m_X_gate) 66 = .ok (.getfield 65, 3) := by decide +kernel
theorem d_X_gate_69 : decode (sk_cc m_X_gate) 69 = .ok (.bipush 26, 2) := by decide +kernel
theorem d_X_gate_71 : decode (sk_cc m_X_gate) 71 = .ok (.if_icmp .lt 13, 3) := by decide +kernel
theorem d_X_gate_74 : decode (sk_cc m_X_gate) 74 = .ok (.new 68, 3) := by decide +kernel
theorem d_X_gate_77 : decode (sk_cc m_X_gate) 77 = .ok (.dup, 1) := by decide +kernel
theorem d_X_gate_78 : decode (sk_cc m_X_gate) 78 = .ok (.ldc 93, 2) := by decide +kernel
theorem d_X_gate_80 : decode (sk_cc m_X_gate) 80 = .ok (.invokespecial 72, 3) := by decide +kernel
theorem d_X_gate_83 : decode (sk_cc m_X_gate) 83 = .ok (.athrow, 1) := by decide +kernel
theorem d_X_gate_84 : decode (sk_cc m_X_gate) 84 = .ok (.aload_n 0, 1) := by decide +kernel
theorem d_X_gate_85 : decode (sk_cc m_X_gate) 85 = .ok (.getfield 53, 3) := by decide +kernel
theorem d_X_gate_88 : decode (sk_cc m_X_gate) 88 = .ok (.invokevirtual 60, 3) := by decide +kernel
theorem d_X_gate_91 : decode (sk_cc m_X_gate) 91 = .ok (.aload_n 0, 1) := by decide +kernel
theorem d_X_gate_92 : decode (sk_cc m_X_gate) 92 = .ok (.getfield 12, 3) := by decide +kernel
theorem d_X_gate_95 : decode (sk_cc m_X_gate) 95 = .ok (.iload_n 1, 1) := by decide +kernel
theorem d_X_gate_96 : decode (sk_cc m_X_gate) 96 = .ok (.iload_n 2, 1) := by decide +kernel
theorem d_X_gate_97 : decode (sk_cc m_X_gate) 97 = .ok (.iload_n 3, 1) := by decide +kernel
theorem d_X_gate_98 : decode (sk_cc m_X_gate) 98 = .ok (.iload 4, 2) := by decide +kernel
theorem d_X_gate_100 : decode (sk_cc m_X_gate) 100 = .ok (.invokevirtual 95, 3) := by decide +kernel
theorem d_X_gate_103 : decode (sk_cc m_X_gate) 103 = .ok (.ireturn, 1) := by decide +kernel
theorem d_X_requireLine_0 : decode (sk_cc m_X_requireLine) 0 = .ok (.aload_n 0, 1) := by decide +kernel
theorem d_X_requireLine_1 : decode (sk_cc m_X_requireLine) 1 = .ok (.getfield 12, 3) := by decide +kernel
theorem d_X_requireLine_4 : decode (sk_cc m_X_requireLine) 4 = .ok (.iload_n 1, 1) := by decide +kernel
theorem d_X_requireLine_5 : decode (sk_cc m_X_requireLine) 5 = .ok (.invokevirtual 159, 3) := by decide +kernel
theorem d_X_requireLine_8 : decode (sk_cc m_X_requireLine) 8 = .ok (.ifCond .ne 13, 3) := by decide +kernel
theorem d_X_requireLine_11 : decode (sk_cc m_X_requireLine) 11 = .ok (.new 223, 3) := by decide +kernel
theorem d_X_requireLine_14 : decode (sk_cc m_X_requireLine) 14 = .ok (.dup, 1) := by decide +kernel
theorem d_X_requireLine_15 : decode (sk_cc m_X_requireLine) 15 = .ok (.ldc 225, 2) := by decide +kernel
theorem d_X_requireLine_17 : decode (sk_cc m_X_requireLine) 17 = .ok (.invokespecial 227, 3) := by decide +kernel
theorem d_X_requireLine_20 : decode (sk_cc m_X_requireLine) 20 = .ok (.athrow, 1) := by decide +kernel
theorem d_X_requireLine_21 : decode (sk_cc m_X_requireLine) 21 = .ok (.return_, 1) := by decide +kernel
theorem d_X_requireLineOrNone_0 : decode (sk_cc m_X_requireLineOrNone) 0 = .ok (.iload_n 1, 1) := by decide +kernel
theorem d_X_requireLineOrNone_1 : decode (sk_cc m_X_requireLineOrNone) 1 = .ok (.iconst (-1), 1) := by decide +kernel
theorem d_X_requireLineOrNone_2 : decode (sk_cc m_X_requireLineOrNone) 2 = .ok (.if_icmp .eq 8, 3) := by decide +kernel
theorem d_X_requireLineOrNone_5 : decode (sk_cc m_X_requireLineOrNone) 5 = .ok (.aload_n 0, 1) := by decide +kernel
theorem d_X_requireLineOrNone_6 : decode (sk_cc m_X_requireLineOrNone) 6 = .ok (.iload_n 1, 1) := by decide +kernel
theorem d_X_requireLineOrNone_7 : decode (sk_cc m_X_requireLineOrNone) 7 = .ok (.invokevirtual 86, 3) := by decide +kernel
theorem d_X_requireLineOrNone_10 : decode (sk_cc m_X_requireLineOrNone) 10 = .ok (.return_, 1) := by decide +kernel
theorem d_C_addGate_0 : decode (sk_cc m_C_addGate) 0 = .ok (.aload_n 0, 1) := by decide +kernel
theorem d_C_addGate_1 : decode (sk_cc m_C_addGate) 1 = .ok (.iload_n 1, 1) := by decide +kernel
theorem d_C_addGate_2 : decode (sk_cc m_C_addGate) 2 = .ok (.invokevirtual 59, 3) := by decide +kernel
theorem d_C_addGate_5 : decode (sk_cc m_C_addGate) 5 = .ok (.istore 5, 2) := by decide +kernel
theorem d_C_addGate_7 : decode (sk_cc m_C_addGate) 7 = .ok (.aload_n 0, 1) := by decide +kernel
theorem d_C_addGate_8 : decode (sk_cc m_C_addGate) 8 = .ok (.iload 5, 2) := by decide +kernel
theorem d_C_addGate_10 : decode (sk_cc m_C_addGate) 10 = .ok (.iload_n 2, 1) := by decide +kernel
theorem d_C_addGate_11 : decode (sk_cc m_C_addGate) 11 = .ok (.invokevirtual 63, 3) := by decide +kernel
theorem d_C_addGate_14 : decode (sk_cc m_C_addGate) 14 = .ok (.aload_n 0, 1) := by decide +kernel
theorem d_C_addGate_15 : decode (sk_cc m_C_addGate) 15 = .ok (.iload 5, 2) := by decide +kernel
theorem d_C_addGate_17 : decode (sk_cc m_C_addGate) 17 = .ok (.iload_n 3, 1) := by decide +kernel
theorem d_C_addGate_18 : decode (sk_cc m_C_addGate) 18 = .ok (.invokevirtual 63, 3) := by decide +kernel
theorem d_C_addGate_21 : decode (sk_cc m_C_addGate) 21 = .ok (.aload_n 0, 1) := by decide +kernel
theorem d_C_addGate_22 : decode (sk_cc m_C_addGate) 22 = .ok (.iload 5, 2) := by decide +kernel
theorem d_C_addGate_24 : decode (sk_cc m_C_addGate) 24 = .ok (.iload 4, 2) := by decide +kernel
theorem d_C_addGate_26 : decode (sk_cc m_C_addGate) 26 = .ok (.invokevirtual 63, 3) := by decide +kernel
theorem d_C_addGate_29 : decode (sk_cc m_C_addGate) 29 = .ok (.iload 5, 2) := by decide +kernel
theorem d_C_addGate_31 : decode (sk_cc m_C_addGate) 31 = .ok (.ireturn, 1) := by decide +kernel
theorem d_C_addPin_0 : decode (sk_cc m_C_addPin) 0 = .ok (.iload_n 2, 1) := by decide +kernel
theorem d_C_addPin_1 : decode (sk_cc m_C_addPin) 1 = .ok (.iconst (-1), 1) := by decide +kernel
theorem d_C_addPin_2 : decode (sk_cc m_C_addPin) 2 = .ok (.if_icmp .ne 4, 3) := by decide +kernel
theorem d_C_addPin_5 : decode (sk_cc m_C_addPin) 5 = .ok (.return_, 1) := by decide +kernel
theorem d_C_addPin_6 : decode (sk_cc m_C_addPin) 6 = .ok (.aload_n 0, 1) := by decide +kernel
theorem d_C_addPin_7 : decode (sk_cc m_C_addPin) 7 = .ok (.getfield 44, 3) := by decide +kernel
theorem d_C_addPin_10 : decode (sk_cc m_C_addPin) 10 = .ok (.aload_n 0, 1) := by decide +kernel
theorem d_C_addPin_11 : decode (sk_cc m_C_addPin) 11 = .ok (.getfield 27, 3) := by decide +kernel
theorem d_C_addPin_14 : decode (sk_cc m_C_addPin) 14 = .ok (.iload_n 2, 1) := by decide +kernel
theorem d_C_addPin_15 : decode (sk_cc m_C_addPin) 15 = .ok (.iastore, 1) := by decide +kernel
theorem d_C_addPin_16 : decode (sk_cc m_C_addPin) 16 = .ok (.aload_n 0, 1) := by decide +kernel
theorem d_C_addPin_17 : decode (sk_cc m_C_addPin) 17 = .ok (.getfield 47, 3) := by decide +kernel
theorem d_C_addPin_20 : decode (sk_cc m_C_addPin) 20 = .ok (.aload_n 0, 1) := by decide +kernel
theorem d_C_addPin_21 : decode (sk_cc m_C_addPin) 21 = .ok (.getfield 27, 3) := by decide +kernel
theorem d_C_addPin_24 : decode (sk_cc m_C_addPin) 24 = .ok (.iload_n 1, 1) := by decide +kernel
theorem d_C_addPin_25 : decode (sk_cc m_C_addPin) 25 = .ok (.iastore, 1) := by decide +kernel
theorem d_C_addPin_26 : decode (sk_cc m_C_addPin) 26 = .ok (.aload_n 0, 1) := by decide +kernel
theorem d_C_addPin_27 : decode (sk_cc m_C_addPin) 27 = .ok (.dup, 1) := by decide +kernel
theorem d_C_addPin_28 : decode (sk_cc m_C_addPin) 28 = .ok (.getfield 27, 3) := by decide +kernel
theorem d_C_addPin_31 : decode (sk_cc m_C_addPin) 31 = .ok (.iconst 1, 1) := by decide +kernel
theorem d_C_addPin_32 : decode (sk_cc m_C_addPin) 32 = .ok (.iadd, 1) := by decide +kernel
theorem d_C_addPin_33 : decode (sk_cc m_C_addPin) 33 = .ok (.putfield 27, 3) := by decide +kernel
theorem d_C_addPin_36 : decode (sk_cc m_C_addPin) 36 = .ok (.aload_n 0, 1) := by decide +kernel
theorem d_C_addPin_37 : decode (sk_cc m_C_addPin) 37 = .ok (.getfield 41, 3) := by decide +kernel
theorem d_C_addPin_40 : decode (sk_cc m_C_addPin) 40 = .ok (.iload_n 1, 1) := by decide +kernel
theorem d_C_addPin_41 : decode (sk_cc m_C_addPin) 41 = .ok (.iconst 1, 1) := by decide +kernel
theorem d_C_addPin_42 : decode (sk_cc m_C_addPin) 42 = .ok (.iadd, 1) := by decide +kernel
theorem d_C_addPin_43 : decode (sk_cc m_C_addPin) 43 = .ok (.aload_n 0, 1) := by decide +kernel
theorem d_C_addPin_44 : decode (sk_cc m_C_addPin) 44 = .ok (.getfield 27, 3) := by decide +kernel
theorem d_C_addPin_47 : decode (sk_cc m_C_addPin) 47 = .ok (.iastore, 1) := by decide +kernel
theorem d_C_addPin_48 : decode (sk_cc m_C_addPin) 48 = .ok (.return_, 1) := by decide +kernel
theorem d_L_output_0 : decode (sk_cc m_L_output) 0 = .ok (.aload_n 2, 1) := by decide +kernel
theorem d_L_output_1 : decode (sk_cc m_L_output) 1 = .ok (.iconst 0, 1) := by decide +kernel
theorem d_L_output_2 : decode (sk_cc m_L_output) 2 = .ok (.aload_n 0, 1) := by decide +kernel
theorem d_L_output_3 : decode (sk_cc m_L_output) 3 = .ok (.iload_n 1, 1) := by decide +kernel
theorem d_L_output_4 : decode (sk_cc m_L_output) 4 = .ok (.invokevirtual 23, 3) := by decide +kernel
theorem d_L_output_7 : decode (sk_cc m_L_output) 7 = .ok (.i2l, 1) := by decide +kernel
theorem d_L_output_8 : decode (sk_cc m_L_output) 8 = .ok (.lastore, 1) := by decide +kernel
theorem d_L_output_9 : decode (sk_cc m_L_output) 9 = .ok (.goto 9, 3) := by decide +kernel
theorem d_L_output_12 : decode (sk_cc m_L_output) 12 = .ok (.astore_n 3, 1) := by decide +kernel
theorem d_L_output_13 : decode (sk_cc m_L_output) 13 = .ok (.iconst 1, 1) := by decide +kernel
theorem d_L_output_14 : decode (sk_cc m_L_output) 14 = .ok (.ireturn, 1) := by decide +kernel
theorem d_L_output_15 : decode (sk_cc m_L_output) 15 = .ok (.astore_n 3, 1) := by decide +kernel
theorem d_L_output_16 : decode (sk_cc m_L_output) 16 = .ok (.iconst 2, 1) := by decide +kernel
theorem d_L_output_17 : decode (sk_cc m_L_output) 17 = .ok (.ireturn, 1) := by decide +kernel
theorem d_L_output_18 : decode (sk_cc m_L_output) 18 = .ok (.iconst 0, 1) := by decide +kernel
theorem d_L_output_19 : decode (sk_cc m_L_output) 19 = .ok (.ireturn, 1) := by decide +kernel
theorem d_X_output_0 : decode (sk_cc m_X_output) 0 = .ok (.aload_n 0, 1) := by decide +kernel
theorem d_X_output_1 : decode (sk_cc m_X_output) 1 = .ok (.iload_n 1, 1) := by decide +kernel
theorem d_X_output_2 : decode (sk_cc m_X_output) 2 = .ok (.invokevirtual 86, 3) := by decide +kernel
theorem d_X_output_5 : decode (sk_cc m_X_output) 5 = .ok (.aload_n 0, 1) := by decide +kernel
theorem d_X_output_6 : decode (sk_cc m_X_output) 6 = .ok (.getfield 12, 3) := by decide +kernel
theorem d_X_output_9 : decode (sk_cc m_X_output) 9 = .ok (.iload_n 1, 1) := by decide +kernel
theorem d_X_output_10 : decode (sk_cc m_X_output) 10 = .ok (.invokevirtual 99, 3) := by decide +kernel
theorem d_X_output_13 : decode (sk_cc m_X_output) 13 = .ok (.ifCond .ne 15, 3) := by decide +kernel
theorem d_X_output_16 : decode (sk_cc m_X_output) 16 = .ok (.aload_n 0, 1) := by decide +kernel
theorem d_X_output_17 : decode (sk_cc m_X_output) 17 = .ok (.getfield 12, 3) := by decide +kernel
theorem d_X_output_20 : decode (sk_cc m_X_output) 20 = .ok (.getfield 103, 3) := by decide +kernel
theorem d_X_output_23 : decode (sk_cc m_X_output) 23 = .ok (.bipush 6, 2) := by decide +kernel
theorem d_X_output_25 : decode (sk_cc m_X_output) 25 = .ok (.if_icmp .lt 13, 3) := by decide +kernel
theorem d_X_output_28 : decode (sk_cc m_X_output) 28 = .ok (.new 68, 3) := by decide +kernel
theorem d_X_output_31 : decode (sk_cc m_X_output) 31 = .ok (.dup, 1) := by decide +kernel
theorem d_X_output_32 : decode (sk_cc m_X_output) 32 = .ok (.ldc 106, 2) := by decide +kernel
theorem d_X_output_34 : decode (sk_cc m_X_output) 34 = .ok (.invokespecial 72, 3) := by decide +kernel
theorem d_X_output_37 : decode (sk_cc m_X_output) 37 = .ok (.athrow, 1) := by decide +kernel
theorem d_X_output_38 : decode (sk_cc m_X_output) 38 = .ok (.aload_n 0, 1) := by decide +kernel
theorem d_X_output_39 : decode (sk_cc m_X_output) 39 = .ok (.getfield 53, 3) := by decide +kernel
theorem d_X_output_42 : decode (sk_cc m_X_output) 42 = .ok (.invokevirtual 60, 3) := by decide +kernel
theorem d_X_output_45 : decode (sk_cc m_X_output) 45 = .ok (.aload_n 0, 1) := by decide +kernel
theorem d_X_output_46 : decode (sk_cc m_X_output) 46 = .ok (.getfield 12, 3) := by decide +kernel
theorem d_X_output_49 : decode (sk_cc m_X_output) 49 = .ok (.iload_n 1, 1) := by decide +kernel
theorem d_X_output_50 : decode (sk_cc m_X_output) 50 = .ok (.invokevirtual 108, 3) := by decide +kernel
theorem d_X_output_53 : decode (sk_cc m_X_output) 53 = .ok (.ireturn, 1) := by decide +kernel
theorem d_C_isOutput_0 : decode (sk_cc m_C_isOutput) 0 = .ok (.iconst 0, 1) := by decide +kernel
theorem d_C_isOutput_1 : decode (sk_cc m_C_isOutput) 1 = .ok (.istore_n 2, 1) := by decide +kernel
theorem d_C_isOutput_2 : decode (sk_cc m_C_isOutput) 2 = .ok (.iload_n 2, 1) := by decide +kernel
theorem d_C_isOutput_3 : decode (sk_cc m_C_isOutput) 3 = .ok (.aload_n 0, 1) := by decide +kernel
theorem d_C_isOutput_4 : decode (sk_cc m_C_isOutput) 4 = .ok (.getfield 21, 3) := by decide +kernel
theorem d_C_isOutput_7 : decode (sk_cc m_C_isOutput) 7 = .ok (.if_icmp .ge 21, 3) := by decide +kernel
theorem d_C_isOutput_10 : decode (sk_cc m_C_isOutput) 10 = .ok (.aload_n 0, 1) := by decide +kernel
theorem d_C_isOutput_11 : decode (sk_cc m_C_isOutput) 11 = .ok (.getfield 56, 3) := by decide +kernel
theorem d_C_isOutput_14 : decode (sk_cc m_C_isOutput) 14 = .ok (.iload_n 2, 1) := by decide +kernel
theorem d_C_isOutput_15 : decode (sk_cc m_C_isOutput) 15 = .ok (.iaload, 1) := by decide +kernel
theorem d_C_isOutput_16 : decode (sk_cc m_C_isOutput) 16 = .ok (.iload_n 1, 1) := by decide +kernel
theorem d_C_isOutput_17 : decode (sk_cc m_C_isOutput) 17 = .ok (.if_icmp .ne 5, 3) := by decide +kernel
theorem d_C_isOutput_20 : decode (sk_cc m_C_isOutput) 20 = .ok (.iconst 1, 1) := by decide +kernel
theorem d_C_isOutput_21 : decode (sk_cc m_C_isOutput) 21 = .ok (.ireturn, 1) := by decide +kernel
theorem d_C_isOutput_22 : decode (sk_cc m_C_isOutput) 22 = .ok (.iinc 2 1, 3) := by decide +kernel
theorem d_C_isOutput_25 : decode (sk_cc m_C_isOutput) 25 = .ok (.goto (-23), 3) := by decide +kernel
theorem d_C_isOutput_28 : decode (sk_cc m_C_isOutput) 28 = .ok (.iconst 0, 1) := by decide +kernel
theorem d_C_isOutput_29 : decode (sk_cc m_C_isOutput) 29 = .ok (.ireturn, 1) := by decide +kernel
theorem d_C_addOutput_0 : decode (sk_cc m_C_addOutput) 0 = .ok (.aload_n 0, 1) := by decide +kernel
theorem d_C_addOutput_1 : decode (sk_cc m_C_addOutput) 1 = .ok (.getfield 56, 3) := by decide +kernel
theorem d_C_addOutput_4 : decode (sk_cc m_C_addOutput) 4 = .ok (.aload_n 0, 1) := by decide +kernel
theorem d_C_addOutput_5 : decode (sk_cc m_C_addOutput) 5 = .ok (.getfield 21, 3) := by decide +kernel
theorem d_C_addOutput_8 : decode (sk_cc m_C_addOutput) 8 = .ok (.iload_n 1, 1) := by decide +kernel
theorem d_C_addOutput_9 : decode (sk_cc m_C_addOutput) 9 = .ok (.iastore, 1) := by decide +kernel
theorem d_C_addOutput_10 : decode (sk_cc m_C_addOutput) 10 = .ok (.aload_n 0, 1) := by decide +kernel
theorem d_C_addOutput_11 : decode (sk_cc m_C_addOutput) 11 = .ok (.dup, 1) := by decide +kernel
theorem d_C_addOutput_12 : decode (sk_cc m_C_addOutput) 12 = .ok (.getfield 21, 3) := by decide +kernel
theorem d_C_addOutput_15 : decode (sk_cc m_C_addOutput) 15 = .ok (.iconst 1, 1) := by decide +kernel
theorem d_C_addOutput_16 : decode (sk_cc m_C_addOutput) 16 = .ok (.iadd, 1) := by decide +kernel
theorem d_C_addOutput_17 : decode (sk_cc m_C_addOutput) 17 = .ok (.putfield 21, 3) := by decide +kernel
theorem d_C_addOutput_20 : decode (sk_cc m_C_addOutput) 20 = .ok (.aload_n 0, 1) := by decide +kernel
theorem d_C_addOutput_21 : decode (sk_cc m_C_addOutput) 21 = .ok (.invokevirtual 67, 3) := by decide +kernel
theorem d_C_addOutput_24 : decode (sk_cc m_C_addOutput) 24 = .ok (.aload_n 0, 1) := by decide +kernel
theorem d_C_addOutput_25 : decode (sk_cc m_C_addOutput) 25 = .ok (.getfield 21, 3) := by decide +kernel
theorem d_C_addOutput_28 : decode (sk_cc m_C_addOutput) 28 = .ok (.ireturn, 1) := by decide +kernel
theorem d_C_gatherObserved_0 : decode (sk_cc m_C_gatherObserved) 0 = .ok (.aload_n 0, 1) := by decide +kernel
theorem d_C_gatherObserved_1 : decode (sk_cc m_C_gatherObserved) 1 = .ok (.iconst 0, 1) := by decide +kernel
theorem d_C_gatherObserved_2 : decode (sk_cc m_C_gatherObserved) 2 = .ok (.putfield 24, 3) := by decide +kernel
theorem d_C_gatherObserved_5 : decode (sk_cc m_C_gatherObserved) 5 = .ok (.iconst 0, 1) := by decide +kernel
theorem d_C_gatherObserved_6 : decode (sk_cc m_C_gatherObserved) 6 = .ok (.istore_n 1, 1) := by decide +kernel
theorem d_C_gatherObserved_7 : decode (sk_cc m_C_gatherObserved) 7 = .ok (.iload_n 1, 1) := by decide +kernel
theorem d_C_gatherObserved_8 : decode (sk_cc m_C_gatherObserved) 8 = .ok (.aload_n 0, 1) := by decide +kernel
theorem d_C_gatherObserved_9 : decode (sk_cc m_C_gatherObserved) 9 = .ok (.getfield 21, 3) := by decide +kernel
theorem d_C_gatherObserved_12 : decode (sk_cc m_C_gatherObserved) 12 = .ok (.if_icmp .ge 19, 3) := by decide +kernel
theorem d_C_gatherObserved_15 : decode (sk_cc m_C_gatherObserved) 15 = .ok (.aload_n 0, 1) := by decide +kernel
theorem d_C_gatherObserved_16 : decode (sk_cc m_C_gatherObserved) 16 = .ok (.aload_n 0, 1) := by decide +kernel
theorem d_C_gatherObserved_17 : decode (sk_cc m_C_gatherObserved) 17 = .ok (.getfield 56, 3) := by decide +kernel
theorem d_C_gatherObserved_20 : decode (sk_cc m_C_gatherObserved) 20 = .ok (.iload_n 1, 1) := by decide +kernel
theorem d_C_gatherObserved_21 : decode (sk_cc m_C_gatherObserved) 21 = .ok (.iaload, 1) := by decide +kernel
theorem d_C_gatherObserved_22 : decode (sk_cc m_C_gatherObserved) 22 = .ok (.invokevirtual 70, 3) := by decide +kernel
theorem d_C_gatherObserved_25 : decode (sk_cc m_C_gatherObserved) 25 = .ok (.iinc 1 1, 3) := by decide +kernel
theorem d_C_gatherObserved_28 : decode (sk_cc m_C_gatherObserved) 28 = .ok (.goto (-21), 3) := by decide +kernel
theorem d_C_gatherObserved_31 : decode (sk_cc m_C_gatherObserved) 31 = .ok (.iconst 0, 1) := by decide +kernel
theorem d_C_gatherObserved_32 : decode (sk_cc m_C_gatherObserved) 32 = .ok (.istore_n 1, 1) := by decide +kernel
theorem d_C_gatherObserved_33 : decode (sk_cc m_C_gatherObserved) 33 = .ok (.iload_n 1, 1) := by decide +kernel
theorem d_C_gatherObserved_34 : decode (sk_cc m_C_gatherObserved) 34 = .ok (.aload_n 0, 1) := by decide +kernel
theorem d_C_gatherObserved_35 : decode (sk_cc m_C_gatherObserved) 35 = .ok (.getfield 15, 3) := by decide +kernel
theorem d_C_gatherObserved_38 : decode (sk_cc m_C_gatherObserved) 38 = .ok (.if_icmp .ge 19, 3) := by decide +kernel
theorem d_C_gatherObserved_41 : decode (sk_cc m_C_gatherObserved) 41 = .ok (.aload_n 0, 1) := by decide +kernel
theorem d_C_gatherObserved_42 : decode (sk_cc m_C_gatherObserved) 42 = .ok (.aload_n 0, 1) := by decide +kernel
theorem d_C_gatherObserved_43 : decode (sk_cc m_C_gatherObserved) 43 = .ok (.getfield 53, 3) := by decide +kernel
theorem d_C_gatherObserved_46 : decode (sk_cc m_C_gatherObserved) 46 = .ok (.iload_n 1, 1) := by decide +kernel
theorem d_C_gatherObserved_47 : decode (sk_cc m_C_gatherObserved) 47 = .ok (.iaload, 1) := by decide +kernel
theorem d_C_gatherObserved_48 : decode (sk_cc m_C_gatherObserved) 48 = .ok (.invokevirtual 70, 3) := by decide +kernel
theorem d_C_gatherObserved_51 : decode (sk_cc m_C_gatherObserved) 51 = .ok (.iinc 1 1, 3) := by decide +kernel
theorem d_C_gatherObserved_54 : decode (sk_cc m_C_gatherObserved) 54 = .ok (.goto (-21), 3) := by decide +kernel
theorem d_C_gatherObserved_57 : decode (sk_cc m_C_gatherObserved) 57 = .ok (.aload_n 0, 1) := by decide +kernel
theorem d_C_gatherObserved_58 : decode (sk_cc m_C_gatherObserved) 58 = .ok (.dup, 1) := by decide +kernel
theorem d_C_gatherObserved_59 : decode (sk_cc m_C_gatherObserved) 59 = .ok (.getfield 9, 3) := by decide +kernel
theorem d_C_gatherObserved_62 : decode (sk_cc m_C_gatherObserved) 62 = .ok (.iconst 1, 1) := by decide +kernel
theorem d_C_gatherObserved_63 : decode (sk_cc m_C_gatherObserved) 63 = .ok (.iadd, 1) := by decide +kernel
theorem d_C_gatherObserved_64 : decode (sk_cc m_C_gatherObserved) 64 = .ok (.putfield 9, 3) := by decide +kernel
theorem d_C_gatherObserved_67 : decode (sk_cc m_C_gatherObserved) 67 = .ok (.return_, 1) := by decide +kernel
theorem d_C_observe_0 : decode (sk_cc m_C_observe) 0 = .ok (.iload_n 1, 1) := by decide +kernel
theorem d_C_observe_1 : decode (sk_cc m_C_observe) 1 = .ok (.iconst (-1), 1) := by decide +kernel
theorem d_C_observe_2 : decode (sk_cc m_C_observe) 2 = .ok (.if_icmp .eq 23, 3) := by decide +kernel
theorem d_C_observe_5 : decode (sk_cc m_C_observe) 5 = .ok (.aload_n 0, 1) := by decide +kernel
theorem d_C_observe_6 : decode (sk_cc m_C_observe) 6 = .ok (.getfield 50, 3) := by decide +kernel
theorem d_C_observe_9 : decode (sk_cc m_C_observe) 9 = .ok (.aload_n 0, 1) := by decide +kernel
theorem d_C_observe_10 : decode (sk_cc m_C_observe) 10 = .ok (.getfield 24, 3) := by decide +kernel
theorem d_C_observe_13 : decode (sk_cc m_C_observe) 13 = .ok (.iload_n 1, 1) := by decide +kernel
theorem d_C_observe_14 : decode (sk_cc m_C_observe) 14 = .ok (.iastore, 1) := by decide +kernel
theorem d_C_observe_15 : decode (sk_cc m_C_observe) 15 = .ok (.aload_n 0, 1) := by decide +kernel
theorem d_C_observe_16 : decode (sk_cc m_C_observe) 16 = .ok (.dup, 1) := by decide +kernel
theorem d_C_observe_17 : decode (sk_cc m_C_observe) 17 = .ok (.getfield 24, 3) := by decide +kernel
theorem d_C_observe_20 : decode (sk_cc m_C_observe) 20 = .ok (.iconst 1, 1) := by decide +kernel
theorem d_C_observe_21 : decode (sk_cc m_C_observe) 21 = .ok (.iadd, 1) := by decide +kernel
theorem d_C_observe_22 : decode (sk_cc m_C_observe) 22 = .ok (.putfield 24, 3) := by decide +kernel
theorem d_C_observe_25 : decode (sk_cc m_C_observe) 25 = .ok (.return_, 1) := by decide +kernel
theorem d_L_data_0 : decode (sk_cc m_L_data) 0 = .ok (.aload_n 0, 1) := by decide +kernel
theorem d_L_data_1 : decode (sk_cc m_L_data) 1 = .ok (.iload_n 1, 1) := by decide +kernel
theorem d_L_data_2 : decode (sk_cc m_L_data) 2 = .ok (.iload_n 2, 1) := by decide +kernel
theorem d_L_data_3 : decode (sk_cc m_L_data) 3 = .ok (.invokevirtual 27, 3) := by decide +kernel
theorem d_L_data_6 : decode (sk_cc m_L_data) 6 = .ok (.goto 9, 3) := by decide +kernel
theorem d_L_data_9 : decode (sk_cc m_L_data) 9 = .ok (.astore_n 3, 1) := by decide +kernel
theorem d_L_data_10 : decode (sk_cc m_L_data) 10 = .ok (.iconst 1, 1) := by decide +kernel
theorem d_L_data_11 : decode (sk_cc m_L_data) 11 = .ok (.ireturn, 1) := by decide +kernel
theorem d_L_data_12 : decode (sk_cc m_L_data) 12 = .ok (.astore_n 3, 1) := by decide +kernel
theorem d_L_data_13 : decode (sk_cc m_L_data) 13 = .ok (.iconst 2, 1) := by decide +kernel
theorem d_L_data_14 : decode (sk_cc m_L_data) 14 = .ok (.ireturn, 1) := by decide +kernel
theorem d_L_data_15 : decode (sk_cc m_L_data) 15 = .ok (.iconst 0, 1) := by decide +kernel
theorem d_L_data_16 : decode (sk_cc m_L_data) 16 = .ok (.ireturn, 1) := by decide +kernel
theorem d_X_data_0 : decode (sk_cc m_X_data) 0 = .ok (.aload_n 0, 1) := by decide +kernel
theorem d_X_data_1 : decode (sk_cc m_X_data) 1 = .ok (.iload_n 1, 1) := by decide +kernel
theorem d_X_data_2 : decode (sk_cc m_X_data) 2 = .ok (.invokevirtual 86, 3) := by decide +kernel
theorem d_X_data_5 : decode (sk_cc m_X_data) 5 = .ok (.aload_n 0, 1) := by decide +kernel
theorem d_X_data_6 : decode (sk_cc m_X_data) 6 = .ok (.iload_n 2, 1) := by decide +kernel
theorem d_X_data_7 : decode (sk_cc m_X_data) 7 = .ok (.invokevirtual 86, 3) := by decide +kernel
theorem d_X_data_10 : decode (sk_cc m_X_data) 10 = .ok (.aload_n 0, 1) := by decide +kernel
theorem d_X_data_11 : decode (sk_cc m_X_data) 11 = .ok (.getfield 12, 3) := by decide +kernel
theorem d_X_data_14 : decode (sk_cc m_X_data) 14 = .ok (.getfield 112, 3) := by decide +kernel
theorem d_X_data_17 : decode (sk_cc m_X_data) 17 = .ok (.iload_n 1, 1) := by decide +kernel
theorem d_X_data_18 : decode (sk_cc m_X_data) 18 = .ok (.baload, 1) := by decide +kernel
theorem d_X_data_19 : decode (sk_cc m_X_data) 19 = .ok (.ifCond .ne 13, 3) := by decide +kernel
theorem d_X_data_22 : decode (sk_cc m_X_data) 22 = .ok (.new 79, 3) := by decide +kernel
theorem d_X_data_25 : decode (sk_cc m_X_data) 25 = .ok (.dup, 1) := by decide +kernel
theorem d_X_data_26 : decode (sk_cc m_X_data) 26 = .ok (.ldc 116, 2) := by decide +kernel
theorem d_X_data_28 : decode (sk_cc m_X_data) 28 = .ok (.invokespecial 83, 3) := by decide +kernel
theorem d_X_data_31 : decode (sk_cc m_X_data) 31 = .ok (.athrow, 1) := by decide +kernel
theorem d_X_data_32 : decode (sk_cc m_X_data) 32 = .ok (.aload_n 0, 1) := by decide +kernel
theorem d_X_data_33 : decode (sk_cc m_X_data) 33 = .ok (.getfield 53, 3) := by decide +kernel
theorem d_X_data_36 : decode (sk_cc m_X_data) 36 = .ok (.invokevirtual 60, 3) := by decide +kernel
theorem d_X_data_39 : decode (sk_cc m_X_data) 39 = .ok (.aload_n 0, 1) := by decide +kernel
theorem d_X_data_40 : decode (sk_cc m_X_data) 40 = .ok (.getfield 12, 3) := by decide +kernel
theorem d_X_data_43 : decode (sk_cc m_X_data) 43 = .ok (.iload_n 1, 1) := by decide +kernel
theorem d_X_data_44 : decode (sk_cc m_X_data) 44 = .ok (.iload_n 2, 1) := by decide +kernel
theorem d_X_data_45 : decode (sk_cc m_X_data) 45 = .ok (.invokevirtual 118, 3) := by decide +kernel
theorem d_X_data_48 : decode (sk_cc m_X_data) 48 = .ok (.return_, 1) := by decide +kernel
theorem d_C_connectData_0 : decode (sk_cc m_C_connectData) 0 = .ok (.aload_n 0, 1) := by decide +kernel
theorem d_C_connectData_1 : decode (sk_cc m_C_connectData) 1 = .ok (.getfield 53, 3) := by decide +kernel
theorem d_C_connectData_4 : decode (sk_cc m_C_connectData) 4 = .ok (.iload_n 1, 1) := by decide +kernel
theorem d_C_connectData_5 : decode (sk_cc m_C_connectData) 5 = .ok (.iload_n 2, 1) := by decide +kernel
theorem d_C_connectData_6 : decode (sk_cc m_C_connectData) 6 = .ok (.iastore, 1) := by decide +kernel
theorem d_C_connectData_7 : decode (sk_cc m_C_connectData) 7 = .ok (.aload_n 0, 1) := by decide +kernel
theorem d_C_connectData_8 : decode (sk_cc m_C_connectData) 8 = .ok (.invokevirtual 67, 3) := by decide +kernel
theorem d_C_connectData_11 : decode (sk_cc m_C_connectData) 11 = .ok (.return_, 1) := by decide +kernel
theorem d_L_count_0 : decode (sk_cc m_L_count) 0 = .ok (.aload_n 2, 1) := by decide +kernel
theorem d_L_count_1 : decode (sk_cc m_L_count) 1 = .ok (.iconst 0, 1) := by decide +kernel
theorem d_L_count_2 : decode (sk_cc m_L_count) 2 = .ok (.aload_n 0, 1) := by decide +kernel
theorem d_L_count_3 : decode (sk_cc m_L_count) 3 = .ok (.iload_n 1, 1) := by decide +kernel
theorem d_L_count_4 : decode (sk_cc m_L_count) 4 = .ok (.invokevirtual 31, 3) := by decide +kernel
theorem d_L_count_7 : decode (sk_cc m_L_count) 7 = .ok (.i2l, 1) := by decide +kernel
theorem d_L_count_8 : decode (sk_cc m_L_count) 8 = .ok (.lastore, 1) := by decide +kernel
theorem d_L_count_9 : decode (sk_cc m_L_count) 9 = .ok (.goto 6, 3) := by decide +kernel
theorem d_L_count_12 : decode (sk_cc m_L_count) 12 = .ok (.astore_n 3, 1) := by decide +kernel
theorem d_L_count_13 : decode (sk_cc m_L_count) 13 = .ok (.iconst 1, 1) := by decide +kernel
theorem d_L_count_14 : decode (sk_cc m_L_count) 14 = .ok (.ireturn, 1) := by decide +kernel
theorem d_L_count_15 : decode (sk_cc m_L_count) 15 = .ok (.iconst 0, 1) := by decide +kernel
theorem d_L_count_16 : decode (sk_cc m_L_count) 16 = .ok (.ireturn, 1) := by decide +kernel
theorem d_X_count_0 : decode (sk_cc m_X_count) 0 = .ok (.iload_n 1, 1) := by decide +kernel
theorem d_X_count_1 : decode (sk_cc m_X_count) 1 = .ok (.tableswitch 101 0 5 #[39, 47, 55, 63, 71, 86], 39) := by decide +kernel
theorem d_X_count_40 : decode (sk_cc m_X_count) 40 = .ok (.aload_n 0, 1) := by decide +kernel
theorem d_X_count_41 : decode (sk_cc m_X_count) 41 = .ok (.getfield 12, 3) := by decide +kernel
theorem d_X_count_44 : decode (sk_cc m_X_count) 44 = .ok (.getfield 65, 3) := by decide +kernel
theorem d_X_count_47 : decode (sk_cc m_X_count) 47 = .ok (.ireturn, 1) := by decide +kernel
theorem d_X_count_48 : decode (sk_cc m_X_count) 48 = .ok (.aload_n 0, 1) := by decide +kernel
theorem d_X_count_49 : decode (sk_cc m_X_count) 49 = .ok (.getfield 12, 3) := by decide +kernel
theorem d_X_count_52 : decode (sk_cc m_X_count) 52 = .ok (.getfield 61, 3) := by decide +kernel
theorem d_X_count_55 : decode (sk_cc m_X_count) 55 = .ok (.ireturn, 1) := by decide +kernel
theorem d_X_count_56 : decode (sk_cc m_X_count) 56 = .ok (.aload_n 0, 1) := by decide +kernel
theorem d_X_count_57 : decode (sk_cc m_X_count) 57 = .ok (.getfield 12, 3) := by decide +kernel
theorem d_X_count_60 : decode (sk_cc m_X_count) 60 = .ok (.getfield 122, 3) := by decide +kernel
theorem d_X_count_63 : decode (sk_cc m_X_count) 63 = .ok (.ireturn, 1) := by decide +kernel
theorem d_X_count_64 : decode (sk_cc m_X_count) 64 = .ok (.aload_n 0, 1) := by decide +kernel
theorem d_X_count_65 : decode (sk_cc m_X_count) 65 = .ok (.getfield 12, 3) := by decide +kernel
theorem d_X_count_68 : decode (sk_cc m_X_count) 68 = .ok (.invokevirtual 125, 3) := by decide +kernel
theorem d_X_count_71 : decode (sk_cc m_X_count) 71 = .ok (.ireturn, 1) := by decide +kernel
theorem d_X_count_72 : decode (sk_cc m_X_count) 72 = .ok (.aload_n 0, 1) := by decide +kernel
theorem d_X_count_73 : decode (sk_cc m_X_count) 73 = .ok (.getfield 28, 3) := by decide +kernel
theorem d_X_count_76 : decode (sk_cc m_X_count) 76 = .ok (.invokevirtual 129, 3) := by decide +kernel
theorem d_X_count_79 : decode (sk_cc m_X_count) 79 = .ok (.aload_n 0, 1) := by decide +kernel
theorem d_X_count_80 : decode (sk_cc m_X_count) 80 = .ok (.getfield 28, 3) := by decide +kernel
theorem d_X_count_83 : decode (sk_cc m_X_count) 83 = .ok (.invokevirtual 132, 3) := by decide +kernel
theorem d_X_count_86 : decode (sk_cc m_X_count) 86 = .ok (.ireturn, 1) := by decide +kernel
theorem d_X_count_87 : decode (sk_cc m_X_count) 87 = .ok (.aload_n 0, 1) := by decide +kernel
theorem d_X_count_88 : decode (sk_cc m_X_count) 88 = .ok (.getfield 28, 3) := by decide +kernel
theorem d_X_count_91 : decode (sk_cc m_X_count) 91 = .ok (.invokevirtual 129, 3) := by decide +kernel
theorem d_X_count_94 : decode (sk_cc m_X_count) 94 = .ok (.aload_n 0, 1) := by decide +kernel
theorem d_X_count_95 : decode (sk_cc m_X_count) 95 = .ok (.getfield 28, 3) := by decide +kernel
theorem d_X_count_98 : decode (sk_cc m_X_count) 98 = .ok (.invokevirtual 135, 3) := by decide +kernel
theorem d_X_count_101 : decode (sk_cc m_X_count) 101 = .ok (.ireturn, 1) := by decide +kernel
theorem d_X_count_102 : decode (sk_cc m_X_count) 102 = .ok (.new 79, 3) := by decide +kernel
theorem d_X_count_105 : decode (sk_cc m_X_count) 105 = .ok (.dup, 1) := by decide +kernel
theorem d_X_count_106 : decode (sk_cc m_X_count) 106 = .ok (.ldc 138, 2) := by decide +kernel
theorem d_X_count_108 : decode (sk_cc m_X_count) 108 = .ok (.invokespecial 83, 3) := by decide +kernel
theorem d_X_count_111 : decode (sk_cc m_X_count) 111 = .ok (.athrow, 1) := by decide +kernel
theorem d_R_shownFaults_0 : decode (sk_cc m_R_shownFaults) 0 = .ok (.iconst 0, 1) := by decide +kernel
theorem d_R_shownFaults_1 : decode (sk_cc m_R_shownFaults) 1 = .ok (.istore_n 1, 1) := by decide +kernel
theorem d_R_shownFaults_2 : decode (sk_cc m_R_shownFaults) 2 = .ok (.iconst 0, 1) := by decide +kernel
theorem d_R_shownFaults_3 : decode (sk_cc m_R_shownFaults) 3 = .ok (.istore_n 2, 1) := by decide +kernel
theorem d_R_shownFaults_4 : decode (sk_cc m_R_shownFaults) 4 = .ok (.iload_n 2, 1) := by decide +kernel
theorem d_R_shownFaults_5 : decode (sk_cc m_R_shownFaults) 5 = .ok (.aload_n 0, 1) := by decide +kernel
theorem d_R_shownFaults_6 : decode (sk_cc m_R_shownFaults) 6 = .ok (.getfield 22, 3) := by decide +kernel
theorem d_R_shownFaults_9 : decode (sk_cc m_R_shownFaults) 9 = .ok (.invokevirtual 35, 3) := by decide +kernel
theorem d_R_shownFaults_12 : decode (sk_cc m_R_shownFaults) 12 = .ok (.if_icmp .ge 22, 3) := by decide +kernel
theorem d_R_shownFaults_15 : decode (sk_cc m_R_shownFaults) 15 = .ok (.aload_n 0, 1) := by decide +kernel
theorem d_R_shownFaults_16 : decode (sk_cc m_R_shownFaults) 16 = .ok (.iload_n 2, 1) := by decide +kernel
theorem d_R_shownFaults_17 : decode (sk_cc m_R_shownFaults) 17 = .ok (.invokevirtual 67, 3) := by decide +kernel
theorem d_R_shownFaults_20 : decode (sk_cc m_R_shownFaults) 20 = .ok (.lconst 0, 1) := by decide +kernel
theorem d_R_shownFaults_21 : decode (sk_cc m_R_shownFaults) 21 = .ok (.lcmp, 1) := by decide +kernel
theorem d_R_shownFaults_22 : decode (sk_cc m_R_shownFaults) 22 = .ok (.ifCond .eq 6, 3) := by decide +kernel
theorem d_R_shownFaults_25 : decode (sk_cc m_R_shownFaults) 25 = .ok (.iinc 1 1, 3) := by decide +kernel
theorem d_R_shownFaults_28 : decode (sk_cc m_R_shownFaults) 28 = .ok (.iinc 2 1, 3) := by decide +kernel
theorem d_R_shownFaults_31 : decode (sk_cc m_R_shownFaults) 31 = .ok (.goto (-27), 3) := by decide +kernel
theorem d_R_shownFaults_34 : decode (sk_cc m_R_shownFaults) 34 = .ok (.iload_n 1, 1) := by decide +kernel
theorem d_R_shownFaults_35 : decode (sk_cc m_R_shownFaults) 35 = .ok (.ireturn, 1) := by decide +kernel
theorem d_R_classesOfAlike_0 : decode (sk_cc m_R_classesOfAlike) 0 = .ok (.iconst 0, 1) := by decide +kernel
theorem d_R_classesOfAlike_1 : decode (sk_cc m_R_classesOfAlike) 1 = .ok (.istore_n 1, 1) := by decide +kernel
theorem d_R_classesOfAlike_2 : decode (sk_cc m_R_classesOfAlike) 2 = .ok (.iconst 0, 1) := by decide +kernel
theorem d_R_classesOfAlike_3 : decode (sk_cc m_R_classesOfAlike) 3 = .ok (.istore_n 2, 1) := by decide +kernel
theorem d_R_classesOfAlike_4 : decode (sk_cc m_R_classesOfAlike) 4 = .ok (.iload_n 2, 1) := by decide +kernel
theorem d_R_classesOfAlike_5 : decode (sk_cc m_R_classesOfAlike) 5 = .ok (.aload_n 0, 1) := by decide +kernel
theorem d_R_classesOfAlike_6 : decode (sk_cc m_R_classesOfAlike) 6 = .ok (.getfield 22, 3) := by decide +kernel
theorem d_R_classesOfAlike_9 : decode (sk_cc m_R_classesOfAlike) 9 = .ok (.invokevirtual 35, 3) := by decide +kernel
theorem d_R_classesOfAlike_12 : decode (sk_cc m_R_classesOfAlike) 12 = .ok (.if_icmp .ge 21, 3) := by decide +kernel
theorem d_R_classesOfAlike_15 : decode (sk_cc m_R_classesOfAlike) 15 = .ok (.aload_n 0, 1) := by decide +kernel
theorem d_R_classesOfAlike_16 : decode (sk_cc m_R_classesOfAlike) 16 = .ok (.iload_n 2, 1) := by decide +kernel
theorem d_R_classesOfAlike_17 : decode (sk_cc m_R_classesOfAlike) 17 = .ok (.invokevirtual 74, 3) := by decide +kernel
theorem d_R_classesOfAlike_20 : decode (sk_cc m_R_classesOfAlike) 20 = .ok (.iload_n 2, 1) := by decide +kernel
theorem d_R_classesOfAlike_21 : decode (sk_cc m_R_classesOfAlike) 21 = .ok (.if_icmp .ne 6, 3) := by decide +kernel
theorem d_R_classesOfAlike_24 : decode (sk_cc m_R_classesOfAlike) 24 = .ok (.iinc 1 1, 3) := by decide +kernel
theorem d_R_classesOfAlike_27 : decode (sk_cc m_R_classesOfAlike) 27 = .ok (.iinc 2 1, 3) := by decide +kernel
theorem d_R_classesOfAlike_30 : decode (sk_cc m_R_classesOfAlike) 30 = .ok (.goto (-26), 3) := by decide +kernel
theorem d_R_classesOfAlike_33 : decode (sk_cc m_R_classesOfAlike) 33 = .ok (.iload_n 1, 1) := by decide +kernel
theorem d_R_classesOfAlike_34 : decode (sk_cc m_R_classesOfAlike) 34 = .ok (.ireturn, 1) := by decide +kernel
theorem d_R_firstAlike_0 : decode (sk_cc m_R_firstAlike) 0 = .ok (.iconst 0, 1) := by decide +kernel
theorem d_R_firstAlike_1 : decode (sk_cc m_R_firstAlike) 1 = .ok (.istore_n 2, 1) := by decide +kernel
theorem d_R_firstAlike_2 : decode (sk_cc m_R_firstAlike) 2 = .ok (.iload_n 2, 1) := by decide +kernel
theorem d_R_firstAlike_3 : decode (sk_cc m_R_firstAlike) 3 = .ok (.iload_n 1, 1) := by decide +kernel
theorem d_R_firstAlike_4 : decode (sk_cc m_R_firstAlike) 4 = .ok (.if_icmp .ge 20, 3) := by decide +kernel
theorem d_R_firstAlike_7 : decode (sk_cc m_R_firstAlike) 7 = .ok (.aload_n 0, 1) := by decide +kernel
theorem d_R_firstAlike_8 : decode (sk_cc m_R_firstAlike) 8 = .ok (.iload_n 2, 1) := by decide +kernel
theorem d_R_firstAlike_9 : decode (sk_cc m_R_firstAlike) 9 = .ok (.iload_n 1, 1) := by decide +kernel
theorem d_R_firstAlike_10 : decode (sk_cc m_R_firstAlike) 10 = .ok (.invokevirtual 70, 3) := by decide +kernel
theorem d_R_firstAlike_13 : decode (sk_cc m_R_firstAlike) 13 = .ok (.ifCond .eq 5, 3) := by decide +kernel
theorem d_R_firstAlike_16 : decode (sk_cc m_R_firstAlike) 16 = .ok (.iload_n 2, 1) := by decide +kernel
theorem d_R_firstAlike_17 : decode (sk_cc m_R_firstAlike) 17 = .ok (.ireturn, 1) := by decide +kernel
theorem d_R_firstAlike_18 : decode (sk_cc m_R_firstAlike) 18 = .ok (.iinc 2 1, 3) := by decide +kernel
theorem d_R_firstAlike_21 : decode (sk_cc m_R_firstAlike) 21 = .ok (.goto (-19), 3) := by decide +kernel
theorem d_R_firstAlike_24 : decode (sk_cc m_R_firstAlike) 24 = .ok (.iload_n 1, 1) := by decide +kernel
theorem d_R_firstAlike_25 : decode (sk_cc m_R_firstAlike) 25 = .ok (.ireturn, 1) := by decide +kernel
theorem d_R_areAlike_0 : decode (sk_cc m_R_areAlike) 0 = .ok (.aload_n 0, 1) := by decide +kernel
theorem d_R_areAlike_1 : decode (sk_cc m_R_areAlike) 1 = .ok (.iload_n 1, 1) := by decide +kernel
theorem d_R_areAlike_2 : decode (sk_cc m_R_areAlike) 2 = .ok (.invokevirtual 67, 3) := by decide +kernel
theorem d_R_areAlike_5 : decode (sk_cc m_R_areAlike) 5 = .ok (.aload_n 0, 1) := by decide +kernel
theorem d_R_areAlike_6 : decode (sk_cc m_R_areAlike) 6 = .ok (.iload_n 2, 1) := by decide +kernel
theorem d_R_areAlike_7 : decode (sk_cc m_R_areAlike) 7 = .ok (.invokevirtual 67, 3) := by decide +kernel
theorem d_R_areAlike_10 : decode (sk_cc m_R_areAlike) 10 = .ok (.lcmp, 1) := by decide +kernel
theorem d_R_areAlike_11 : decode (sk_cc m_R_areAlike) 11 = .ok (.ifCond .eq 5, 3) := by decide +kernel
theorem d_R_areAlike_14 : decode (sk_cc m_R_areAlike) 14 = .ok (.iconst 0, 1) := by decide +kernel
theorem d_R_areAlike_15 : decode (sk_cc m_R_areAlike) 15 = .ok (.ireturn, 1) := by decide +kernel
theorem d_R_areAlike_16 : decode (sk_cc m_R_areAlike) 16 = .ok (.iload_n 1, 1) := by decide +kernel
theorem d_R_areAlike_17 : decode (sk_cc m_R_areAlike) 17 = .ok (.iconst 1, 1) := by decide +kernel
theorem d_R_areAlike_18 : decode (sk_cc m_R_areAlike) 18 = .ok (.iadd, 1) := by decide +kernel
theorem d_R_areAlike_19 : decode (sk_cc m_R_areAlike) 19 = .ok (.bipush 12, 2) := by decide +kernel
theorem d_R_areAlike_21 : decode (sk_cc m_R_areAlike) 21 = .ok (.imul, 1) := by decide +kernel
theorem d_R_areAlike_22 : decode (sk_cc m_R_areAlike) 22 = .ok (.istore_n 3, 1) := by decide +kernel
theorem d_R_areAlike_23 : decode (sk_cc m_R_areAlike) 23 = .ok (.iload_n 2, 1) := by decide +kernel
theorem d_R_areAlike_24 : decode (sk_cc m_R_areAlike) 24 = .ok (.iconst 1, 1) := by decide +kernel
theorem d_R_areAlike_25 : decode (sk_cc m_R_areAlike) 25 = .ok (.iadd, 1) := by decide +kernel
theorem d_R_areAlike_26 : decode (sk_cc m_R_areAlike) 26 = .ok (.bipush 12, 2) := by decide +kernel
theorem d_R_areAlike_28 : decode (sk_cc m_R_areAlike) 28 = .ok (.imul, 1) := by decide +kernel
theorem d_R_areAlike_29 : decode (sk_cc m_R_areAlike) 29 = .ok (.istore 4, 2) := by decide +kernel
theorem d_R_areAlike_31 : decode (sk_cc m_R_areAlike) 31 = .ok (.iconst 0, 1) := by decide +kernel
theorem d_R_areAlike_32 : decode (sk_cc m_R_areAlike) 32 = .ok (.istore 5, 2) := by decide +kernel
theorem d_R_areAlike_34 : decode (sk_cc m_R_areAlike) 34 = .ok (.iload 5, 2) := by decide +kernel
theorem d_R_areAlike_36 : decode (sk_cc m_R_areAlike) 36 = .ok (.aload_n 0, 1) := by decide +kernel
theorem d_R_areAlike_37 : decode (sk_cc m_R_areAlike) 37 = .ok (.getfield 22, 3) := by decide +kernel
theorem d_R_areAlike_40 : decode (sk_cc m_R_areAlike) 40 = .ok (.getfield 57, 3) := by decide +kernel
theorem d_R_areAlike_43 : decode (sk_cc m_R_areAlike) 43 = .ok (.if_icmp .ge 34, 3) := by decide +kernel
theorem d_R_areAlike_46 : decode (sk_cc m_R_areAlike) 46 = .ok (.aload_n 0, 1) := by decide +kernel
theorem d_R_areAlike_47 : decode (sk_cc m_R_areAlike) 47 = .ok (.getfield 9, 3) := by decide +kernel
theorem d_R_areAlike_50 : decode (sk_cc m_R_areAlike) 50 = .ok (.iload_n 3, 1) := by decide +kernel
theorem d_R_areAlike_51 : decode (sk_cc m_R_areAlike) 51 = .ok (.iload 5, 2) := by decide +kernel
theorem d_R_areAlike_53 : decode (sk_cc m_R_areAlike) 53 = .ok (.iadd, 1) := by decide +kernel
theorem d_R_areAlike_54 : decode (sk_cc m_R_areAlike) 54 = .ok (.laload, 1) := by decide +kernel
