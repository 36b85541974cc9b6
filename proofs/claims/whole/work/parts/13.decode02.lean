/-! decode rows -/
theorem d_R_areAlike_55 : decode (sk_cc m_R_areAlike) 55 = .ok (.aload_n 0, 1) := by decide +kernel
theorem d_R_areAlike_56 : decode (sk_cc m_R_areAlike) 56 = .ok (.getfield 9, 3) := by decide +kernel
theorem d_R_areAlike_59 : decode (sk_cc m_R_areAlike) 59 = .ok (.iload 4, 2) := by decide +kernel
theorem d_R_areAlike_61 : decode (sk_cc m_R_areAlike) 61 = .ok (.iload 5, 2) := by decide +kernel
theorem d_R_areAlike_63 : decode (sk_cc m_R_areAlike) 63 = .ok (.iadd, 1) := by decide +kernel
theorem d_R_areAlike_64 : decode (sk_cc m_R_areAlike) 64 = .ok (.laload, 1) := by decide +kernel
theorem d_R_areAlike_65 : decode (sk_cc m_R_areAlike) 65 = .ok (.lcmp, 1) := by decide +kernel
theorem d_R_areAlike_66 : decode (sk_cc m_R_areAlike) 66 = .ok (.ifCond .eq 5, 3) := by decide +kernel
theorem d_R_areAlike_69 : decode (sk_cc m_R_areAlike) 69 = .ok (.iconst 0, 1) := by decide +kernel
theorem d_R_areAlike_70 : decode (sk_cc m_R_areAlike) 70 = .ok (.ireturn, 1) := by decide +kernel
theorem d_R_areAlike_71 : decode (sk_cc m_R_areAlike) 71 = .ok (.iinc 5 1, 3) := by decide +kernel
theorem d_R_areAlike_74 : decode (sk_cc m_R_areAlike) 74 = .ok (.goto (-40), 3) := by decide +kernel
theorem d_R_areAlike_77 : decode (sk_cc m_R_areAlike) 77 = .ok (.iconst 1, 1) := by decide +kernel
theorem d_R_areAlike_78 : decode (sk_cc m_R_areAlike) 78 = .ok (.ireturn, 1) := by decide +kernel
theorem d_L_value_0 : decode (sk_cc m_L_value) 0 = .ok (.aload 4, 2) := by decide +kernel
theorem d_L_value_2 : decode (sk_cc m_L_value) 2 = .ok (.iconst 0, 1) := by decide +kernel
theorem d_L_value_3 : decode (sk_cc m_L_value) 3 = .ok (.aload_n 0, 1) := by decide +kernel
theorem d_L_value_4 : decode (sk_cc m_L_value) 4 = .ok (.iload_n 1, 1) := by decide +kernel
theorem d_L_value_5 : decode (sk_cc m_L_value) 5 = .ok (.iload_n 2, 1) := by decide +kernel
theorem d_L_value_6 : decode (sk_cc m_L_value) 6 = .ok (.iload_n 3, 1) := by decide +kernel
theorem d_L_value_7 : decode (sk_cc m_L_value) 7 = .ok (.invokevirtual 34, 3) := by decide +kernel
theorem d_L_value_10 : decode (sk_cc m_L_value) 10 = .ok (.i2l, 1) := by decide +kernel
theorem d_L_value_11 : decode (sk_cc m_L_value) 11 = .ok (.lastore, 1) := by decide +kernel
theorem d_L_value_12 : decode (sk_cc m_L_value) 12 = .ok (.goto 7, 3) := by decide +kernel
theorem d_L_value_15 : decode (sk_cc m_L_value) 15 = .ok (.astore 5, 2) := by decide +kernel
theorem d_L_value_17 : decode (sk_cc m_L_value) 17 = .ok (.iconst 1, 1) := by decide +kernel
theorem d_L_value_18 : decode (sk_cc m_L_value) 18 = .ok (.ireturn, 1) := by decide +kernel
theorem d_L_value_19 : decode (sk_cc m_L_value) 19 = .ok (.iconst 0, 1) := by decide +kernel
theorem d_L_value_20 : decode (sk_cc m_L_value) 20 = .ok (.ireturn, 1) := by decide +kernel
theorem d_X_value_0 : decode (sk_cc m_X_value) 0 = .ok (.aload_n 0, 1) := by decide +kernel
theorem d_X_value_1 : decode (sk_cc m_X_value) 1 = .ok (.iload_n 2, 1) := by decide +kernel
theorem d_X_value_2 : decode (sk_cc m_X_value) 2 = .ok (.invokevirtual 86, 3) := by decide +kernel
theorem d_X_value_5 : decode (sk_cc m_X_value) 5 = .ok (.aload_n 0, 1) := by decide +kernel
theorem d_X_value_6 : decode (sk_cc m_X_value) 6 = .ok (.iload_n 1, 1) := by decide +kernel
theorem d_X_value_7 : decode (sk_cc m_X_value) 7 = .ok (.invokevirtual 140, 3) := by decide +kernel
theorem d_X_value_10 : decode (sk_cc m_X_value) 10 = .ok (.aload_n 0, 1) := by decide +kernel
theorem d_X_value_11 : decode (sk_cc m_X_value) 11 = .ok (.iload_n 3, 1) := by decide +kernel
theorem d_X_value_12 : decode (sk_cc m_X_value) 12 = .ok (.invokevirtual 143, 3) := by decide +kernel
theorem d_X_value_15 : decode (sk_cc m_X_value) 15 = .ok (.aload_n 0, 1) := by decide +kernel
theorem d_X_value_16 : decode (sk_cc m_X_value) 16 = .ok (.getfield 21, 3) := by decide +kernel
theorem d_X_value_19 : decode (sk_cc m_X_value) 19 = .ok (.iload_n 3, 1) := by decide +kernel
theorem d_X_value_20 : decode (sk_cc m_X_value) 20 = .ok (.invokevirtual 146, 3) := by decide +kernel
theorem d_X_value_23 : decode (sk_cc m_X_value) 23 = .ok (.aload_n 0, 1) := by decide +kernel
theorem d_X_value_24 : decode (sk_cc m_X_value) 24 = .ok (.getfield 21, 3) := by decide +kernel
theorem d_X_value_27 : decode (sk_cc m_X_value) 27 = .ok (.iload_n 2, 1) := by decide +kernel
theorem d_X_value_28 : decode (sk_cc m_X_value) 28 = .ok (.iload_n 1, 1) := by decide +kernel
theorem d_X_value_29 : decode (sk_cc m_X_value) 29 = .ok (.invokevirtual 149, 3) := by decide +kernel
theorem d_X_value_32 : decode (sk_cc m_X_value) 32 = .ok (.ireturn, 1) := by decide +kernel
theorem d_X_requireVector_0 : decode (sk_cc m_X_requireVector) 0 = .ok (.iload_n 1, 1) := by decide +kernel
theorem d_X_requireVector_1 : decode (sk_cc m_X_requireVector) 1 = .ok (.ifCond .lt 14, 3) := by decide +kernel
theorem d_X_requireVector_4 : decode (sk_cc m_X_requireVector) 4 = .ok (.iload_n 1, 1) := by decide +kernel
theorem d_X_requireVector_5 : decode (sk_cc m_X_requireVector) 5 = .ok (.aload_n 0, 1) := by decide +kernel
theorem d_X_requireVector_6 : decode (sk_cc m_X_requireVector) 6 = .ok (.getfield 12, 3) := by decide +kernel
theorem d_X_requireVector_9 : decode (sk_cc m_X_requireVector) 9 = .ok (.invokevirtual 228, 3) := by decide +kernel
theorem d_X_requireVector_12 : decode (sk_cc m_X_requireVector) 12 = .ok (.if_icmp .lt 13, 3) := by decide +kernel
theorem d_X_requireVector_15 : decode (sk_cc m_X_requireVector) 15 = .ok (.new 223, 3) := by decide +kernel
theorem d_X_requireVector_18 : decode (sk_cc m_X_requireVector) 18 = .ok (.dup, 1) := by decide +kernel
theorem d_X_requireVector_19 : decode (sk_cc m_X_requireVector) 19 = .ok (.ldc 231, 2) := by decide +kernel
theorem d_X_requireVector_21 : decode (sk_cc m_X_requireVector) 21 = .ok (.invokespecial 227, 3) := by decide +kernel
theorem d_X_requireVector_24 : decode (sk_cc m_X_requireVector) 24 = .ok (.athrow, 1) := by decide +kernel
theorem d_X_requireVector_25 : decode (sk_cc m_X_requireVector) 25 = .ok (.return_, 1) := by decide +kernel
theorem d_X_requireFaultOrNone_0 : decode (sk_cc m_X_requireFaultOrNone) 0 = .ok (.iload_n 1, 1) := by decide +kernel
theorem d_X_requireFaultOrNone_1 : decode (sk_cc m_X_requireFaultOrNone) 1 = .ok (.iconst (-1), 1) := by decide +kernel
theorem d_X_requireFaultOrNone_2 : decode (sk_cc m_X_requireFaultOrNone) 2 = .ok (.if_icmp .eq 8, 3) := by decide +kernel
theorem d_X_requireFaultOrNone_5 : decode (sk_cc m_X_requireFaultOrNone) 5 = .ok (.aload_n 0, 1) := by decide +kernel
theorem d_X_requireFaultOrNone_6 : decode (sk_cc m_X_requireFaultOrNone) 6 = .ok (.iload_n 1, 1) := by decide +kernel
theorem d_X_requireFaultOrNone_7 : decode (sk_cc m_X_requireFaultOrNone) 7 = .ok (.invokevirtual 169, 3) := by decide +kernel
theorem d_X_requireFaultOrNone_10 : decode (sk_cc m_X_requireFaultOrNone) 10 = .ok (.return_, 1) := by decide +kernel
theorem d_X_requireFault_0 : decode (sk_cc m_X_requireFault) 0 = .ok (.iload_n 1, 1) := by decide +kernel
theorem d_X_requireFault_1 : decode (sk_cc m_X_requireFault) 1 = .ok (.ifCond .lt 14, 3) := by decide +kernel
theorem d_X_requireFault_4 : decode (sk_cc m_X_requireFault) 4 = .ok (.iload_n 1, 1) := by decide +kernel
theorem d_X_requireFault_5 : decode (sk_cc m_X_requireFault) 5 = .ok (.aload_n 0, 1) := by decide +kernel
theorem d_X_requireFault_6 : decode (sk_cc m_X_requireFault) 6 = .ok (.getfield 12, 3) := by decide +kernel
theorem d_X_requireFault_9 : decode (sk_cc m_X_requireFault) 9 = .ok (.invokevirtual 125, 3) := by decide +kernel
theorem d_X_requireFault_12 : decode (sk_cc m_X_requireFault) 12 = .ok (.if_icmp .lt 13, 3) := by decide +kernel
theorem d_X_requireFault_15 : decode (sk_cc m_X_requireFault) 15 = .ok (.new 223, 3) := by decide +kernel
theorem d_X_requireFault_18 : decode (sk_cc m_X_requireFault) 18 = .ok (.dup, 1) := by decide +kernel
theorem d_X_requireFault_19 : decode (sk_cc m_X_requireFault) 19 = .ok (.ldc 233, 2) := by decide +kernel
theorem d_X_requireFault_21 : decode (sk_cc m_X_requireFault) 21 = .ok (.invokespecial 227, 3) := by decide +kernel
theorem d_X_requireFault_24 : decode (sk_cc m_X_requireFault) 24 = .ok (.athrow, 1) := by decide +kernel
theorem d_X_requireFault_25 : decode (sk_cc m_X_requireFault) 25 = .ok (.return_, 1) := by decide +kernel
theorem d_S_stateOf_0 : decode (sk_cc m_S_stateOf) 0 = .ok (.aload_n 0, 1) := by decide +kernel
theorem d_S_stateOf_1 : decode (sk_cc m_S_stateOf) 1 = .ok (.getfield 18, 3) := by decide +kernel
theorem d_S_stateOf_4 : decode (sk_cc m_S_stateOf) 4 = .ok (.iload_n 1, 1) := by decide +kernel
theorem d_S_stateOf_5 : decode (sk_cc m_S_stateOf) 5 = .ok (.laload, 1) := by decide +kernel
theorem d_S_stateOf_6 : decode (sk_cc m_S_stateOf) 6 = .ok (.iload_n 2, 1) := by decide +kernel
theorem d_S_stateOf_7 : decode (sk_cc m_S_stateOf) 7 = .ok (.lushr, 1) := by decide +kernel
theorem d_S_stateOf_8 : decode (sk_cc m_S_stateOf) 8 = .ok (.lconst 1, 1) := by decide +kernel
theorem d_S_stateOf_9 : decode (sk_cc m_S_stateOf) 9 = .ok (.land, 1) := by decide +kernel
theorem d_S_stateOf_10 : decode (sk_cc m_S_stateOf) 10 = .ok (.lconst 1, 1) := by decide +kernel
theorem d_S_stateOf_11 : decode (sk_cc m_S_stateOf) 11 = .ok (.lcmp, 1) := by decide +kernel
theorem d_S_stateOf_12 : decode (sk_cc m_S_stateOf) 12 = .ok (.ifCond .ne 5, 3) := by decide +kernel
theorem d_S_stateOf_15 : decode (sk_cc m_S_stateOf) 15 = .ok (.iconst 1, 1) := by decide +kernel
theorem d_S_stateOf_16 : decode (sk_cc m_S_stateOf) 16 = .ok (.ireturn, 1) := by decide +kernel
theorem d_S_stateOf_17 : decode (sk_cc m_S_stateOf) 17 = .ok (.aload_n 0, 1) := by decide +kernel
theorem d_S_stateOf_18 : decode (sk_cc m_S_stateOf) 18 = .ok (.getfield 21, 3) := by decide +kernel
theorem d_S_stateOf_21 : decode (sk_cc m_S_stateOf) 21 = .ok (.iload_n 1, 1) := by decide +kernel
theorem d_S_stateOf_22 : decode (sk_cc m_S_stateOf) 22 = .ok (.laload, 1) := by decide +kernel
theorem d_S_stateOf_23 : decode (sk_cc m_S_stateOf) 23 = .ok (.iload_n 2, 1) := by decide +kernel
theorem d_S_stateOf_24 : decode (sk_cc m_S_stateOf) 24 = .ok (.lushr, 1) := by decide +kernel
theorem d_S_stateOf_25 : decode (sk_cc m_S_stateOf) 25 = .ok (.lconst 1, 1) := by decide +kernel
theorem d_S_stateOf_26 : decode (sk_cc m_S_stateOf) 26 = .ok (.land, 1) := by decide +kernel
theorem d_S_stateOf_27 : decode (sk_cc m_S_stateOf) 27 = .ok (.lconst 1, 1) := by decide +kernel
theorem d_S_stateOf_28 : decode (sk_cc m_S_stateOf) 28 = .ok (.lcmp, 1) := by decide +kernel
theorem d_S_stateOf_29 : decode (sk_cc m_S_stateOf) 29 = .ok (.ifCond .ne 7, 3) := by decide +kernel
theorem d_S_stateOf_32 : decode (sk_cc m_S_stateOf) 32 = .ok (.iconst 0, 1) := by decide +kernel
theorem d_S_stateOf_33 : decode (sk_cc m_S_stateOf) 33 = .ok (.goto 4, 3) := by decide +kernel
theorem d_S_stateOf_36 : decode (sk_cc m_S_stateOf) 36 = .ok (.iconst 2, 1) := by decide +kernel
theorem d_S_stateOf_37 : decode (sk_cc m_S_stateOf) 37 = .ok (.ireturn, 1) := by decide +kernel
theorem d_L_response_0 : decode (sk_cc m_L_response) 0 = .ok (.aload_n 3, 1) := by decide +kernel
theorem d_L_response_1 : decode (sk_cc m_L_response) 1 = .ok (.iconst 0, 1) := by decide +kernel
theorem d_L_response_2 : decode (sk_cc m_L_response) 2 = .ok (.aload_n 0, 1) := by decide +kernel
theorem d_L_response_3 : decode (sk_cc m_L_response) 3 = .ok (.iload_n 1, 1) := by decide +kernel
theorem d_L_response_4 : decode (sk_cc m_L_response) 4 = .ok (.iload_n 2, 1) := by decide +kernel
theorem d_L_response_5 : decode (sk_cc m_L_response) 5 = .ok (.invokevirtual 38, 3) := by decide +kernel
theorem d_L_response_8 : decode (sk_cc m_L_response) 8 = .ok (.i2l, 1) := by decide +kernel
theorem d_L_response_9 : decode (sk_cc m_L_response) 9 = .ok (.lastore, 1) := by decide +kernel
theorem d_L_response_10 : decode (sk_cc m_L_response) 10 = .ok (.goto 7, 3) := by decide +kernel
theorem d_L_response_13 : decode (sk_cc m_L_response) 13 = .ok (.astore 4, 2) := by decide +kernel
theorem d_L_response_15 : decode (sk_cc m_L_response) 15 = .ok (.iconst 1, 1) := by decide +kernel
theorem d_L_response_16 : decode (sk_cc m_L_response) 16 = .ok (.ireturn, 1) := by decide +kernel
theorem d_L_response_17 : decode (sk_cc m_L_response) 17 = .ok (.iconst 0, 1) := by decide +kernel
theorem d_L_response_18 : decode (sk_cc m_L_response) 18 = .ok (.ireturn, 1) := by decide +kernel
theorem d_X_response_0 : decode (sk_cc m_X_response) 0 = .ok (.aload_n 0, 1) := by decide +kernel
theorem d_X_response_1 : decode (sk_cc m_X_response) 1 = .ok (.iload_n 1, 1) := by decide +kernel
theorem d_X_response_2 : decode (sk_cc m_X_response) 2 = .ok (.invokevirtual 140, 3) := by decide +kernel
theorem d_X_response_5 : decode (sk_cc m_X_response) 5 = .ok (.aload_n 0, 1) := by decide +kernel
theorem d_X_response_6 : decode (sk_cc m_X_response) 6 = .ok (.iload_n 2, 1) := by decide +kernel
theorem d_X_response_7 : decode (sk_cc m_X_response) 7 = .ok (.invokevirtual 143, 3) := by decide +kernel
theorem d_X_response_10 : decode (sk_cc m_X_response) 10 = .ok (.aload_n 0, 1) := by decide +kernel
theorem d_X_response_11 : decode (sk_cc m_X_response) 11 = .ok (.getfield 28, 3) := by decide +kernel
theorem d_X_response_14 : decode (sk_cc m_X_response) 14 = .ok (.iload_n 2, 1) := by decide +kernel
theorem d_X_response_15 : decode (sk_cc m_X_response) 15 = .ok (.invokevirtual 153, 3) := by decide +kernel
theorem d_X_response_18 : decode (sk_cc m_X_response) 18 = .ok (.aload_n 0, 1) := by decide +kernel
theorem d_X_response_19 : decode (sk_cc m_X_response) 19 = .ok (.getfield 28, 3) := by decide +kernel
theorem d_X_response_22 : decode (sk_cc m_X_response) 22 = .ok (.iload_n 1, 1) := by decide +kernel
theorem d_X_response_23 : decode (sk_cc m_X_response) 23 = .ok (.iload_n 2, 1) := by decide +kernel
theorem d_X_response_24 : decode (sk_cc m_X_response) 24 = .ok (.invokevirtual 156, 3) := by decide +kernel
theorem d_X_response_27 : decode (sk_cc m_X_response) 27 = .ok (.ireturn, 1) := by decide +kernel
theorem d_L_faultAt_0 : decode (sk_cc m_L_faultAt) 0 = .ok (.aload_n 3, 1) := by decide +kernel
theorem d_L_faultAt_1 : decode (sk_cc m_L_faultAt) 1 = .ok (.iconst 0, 1) := by decide +kernel
theorem d_L_faultAt_2 : decode (sk_cc m_L_faultAt) 2 = .ok (.aload_n 0, 1) := by decide +kernel
theorem d_L_faultAt_3 : decode (sk_cc m_L_faultAt) 3 = .ok (.iload_n 1, 1) := by decide +kernel
theorem d_L_faultAt_4 : decode (sk_cc m_L_faultAt) 4 = .ok (.iload_n 2, 1) := by decide +kernel
theorem d_L_faultAt_5 : decode (sk_cc m_L_faultAt) 5 = .ok (.invokevirtual 42, 3) := by decide +kernel
theorem d_L_faultAt_8 : decode (sk_cc m_L_faultAt) 8 = .ok (.i2l, 1) := by decide +kernel
theorem d_L_faultAt_9 : decode (sk_cc m_L_faultAt) 9 = .ok (.lastore, 1) := by decide +kernel
theorem d_L_faultAt_10 : decode (sk_cc m_L_faultAt) 10 = .ok (.goto 11, 3) := by decide +kernel
theorem d_L_faultAt_13 : decode (sk_cc m_L_faultAt) 13 = .ok (.astore 4, 2) := by decide +kernel
theorem d_L_faultAt_15 : decode (sk_cc m_L_faultAt) 15 = .ok (.iconst 1, 1) := by decide +kernel
theorem d_L_faultAt_16 : decode (sk_cc m_L_faultAt) 16 = .ok (.ireturn, 1) := by decide +kernel
theorem d_L_faultAt_17 : decode (sk_cc m_L_faultAt) 17 = .ok (.astore 4, 2) := by decide +kernel
theorem d_L_faultAt_19 : decode (sk_cc m_L_faultAt) 19 = .ok (.iconst 2, 1) := by decide +kernel
theorem d_L_faultAt_20 : decode (sk_cc m_L_faultAt) 20 = .ok (.ireturn, 1) := by decide +kernel
theorem d_L_faultAt_21 : decode (sk_cc m_L_faultAt) 21 = .ok (.iconst 0, 1) := by decide +kernel
theorem d_L_faultAt_22 : decode (sk_cc m_L_faultAt) 22 = .ok (.ireturn, 1) := by decide +kernel
theorem d_X_faultAt_0 : decode (sk_cc m_X_faultAt) 0 = .ok (.aload_n 0, 1) := by decide +kernel
theorem d_X_faultAt_1 : decode (sk_cc m_X_faultAt) 1 = .ok (.iload_n 1, 1) := by decide +kernel
theorem d_X_faultAt_2 : decode (sk_cc m_X_faultAt) 2 = .ok (.invokevirtual 169, 3) := by decide +kernel
theorem d_X_faultAt_5 : decode (sk_cc m_X_faultAt) 5 = .ok (.aload_n 0, 1) := by decide +kernel
theorem d_X_faultAt_6 : decode (sk_cc m_X_faultAt) 6 = .ok (.getfield 12, 3) := by decide +kernel
theorem d_X_faultAt_9 : decode (sk_cc m_X_faultAt) 9 = .ok (.iload_n 1, 1) := by decide +kernel
theorem d_X_faultAt_10 : decode (sk_cc m_X_faultAt) 10 = .ok (.invokevirtual 172, 3) := by decide +kernel
theorem d_X_faultAt_13 : decode (sk_cc m_X_faultAt) 13 = .ok (.istore_n 3, 1) := by decide +kernel
theorem d_X_faultAt_14 : decode (sk_cc m_X_faultAt) 14 = .ok (.aload_n 0, 1) := by decide +kernel
theorem d_X_faultAt_15 : decode (sk_cc m_X_faultAt) 15 = .ok (.getfield 12, 3) := by decide +kernel
theorem d_X_faultAt_18 : decode (sk_cc m_X_faultAt) 18 = .ok (.iload_n 1, 1) := by decide +kernel
theorem d_X_faultAt_19 : decode (sk_cc m_X_faultAt) 19 = .ok (.invokevirtual 175, 3) := by decide +kernel
theorem d_X_faultAt_22 : decode (sk_cc m_X_faultAt) 22 = .ok (.istore 4, 2) := by decide +kernel
theorem d_X_faultAt_24 : decode (sk_cc m_X_faultAt) 24 = .ok (.iload_n 2, 1) := by decide +kernel
theorem d_X_faultAt_25 : decode (sk_cc m_X_faultAt) 25 = .ok (.tableswitch 84 0 2 #[27, 48, 80], 27) := by decide +kernel
theorem d_X_faultAt_52 : decode (sk_cc m_X_faultAt) 52 = .ok (.iload 4, 2) := by decide +kernel
theorem d_X_faultAt_54 : decode (sk_cc m_X_faultAt) 54 = .ok (.iconst (-1), 1) := by decide +kernel
theorem d_X_faultAt_55 : decode (sk_cc m_X_faultAt) 55 = .ok (.if_icmp .ne 7, 3) := by decide +kernel
theorem d_X_faultAt_58 : decode (sk_cc m_X_faultAt) 58 = .ok (.iload_n 3, 1) := by decide +kernel
theorem d_X_faultAt_59 : decode (sk_cc m_X_faultAt) 59 = .ok (.goto 13, 3) := by decide +kernel
theorem d_X_faultAt_62 : decode (sk_cc m_X_faultAt) 62 = .ok (.aload_n 0, 1) := by decide +kernel
theorem d_X_faultAt_63 : decode (sk_cc m_X_faultAt) 63 = .ok (.getfield 12, 3) := by decide +kernel
theorem d_X_faultAt_66 : decode (sk_cc m_X_faultAt) 66 = .ok (.getfield 178, 3) := by decide +kernel
theorem d_X_faultAt_69 : decode (sk_cc m_X_faultAt) 69 = .ok (.iload 4, 2) := by decide +kernel
theorem d_X_faultAt_71 : decode (sk_cc m_X_faultAt) 71 = .ok (.iaload, 1) := by decide +kernel
theorem d_X_faultAt_72 : decode (sk_cc m_X_faultAt) 72 = .ok (.ireturn, 1) := by decide +kernel
theorem d_X_faultAt_73 : decode (sk_cc m_X_faultAt) 73 = .ok (.iload 4, 2) := by decide +kernel
theorem d_X_faultAt_75 : decode (sk_cc m_X_faultAt) 75 = .ok (.iconst (-1), 1) := by decide +kernel
theorem d_X_faultAt_76 : decode (sk_cc m_X_faultAt) 76 = .ok (.if_icmp .ne 7, 3) := by decide +kernel
theorem d_X_faultAt_79 : decode (sk_cc m_X_faultAt) 79 = .ok (.iconst (-1), 1) := by decide +kernel
theorem d_X_faultAt_80 : decode (sk_cc m_X_faultAt) 80 = .ok (.goto 24, 3) := by decide +kernel
theorem d_X_faultAt_83 : decode (sk_cc m_X_faultAt) 83 = .ok (.iload 4, 2) := by decide +kernel
theorem d_X_faultAt_85 : decode (sk_cc m_X_faultAt) 85 = .ok (.aload_n 0, 1) := by decide +kernel
theorem d_X_faultAt_86 : decode (sk_cc m_X_faultAt) 86 = .ok (.getfield 12, 3) := by decide +kernel
theorem d_X_faultAt_89 : decode (sk_cc m_X_faultAt) 89 = .ok (.getfield 165, 3) := by decide +kernel
theorem d_X_faultAt_92 : decode (sk_cc m_X_faultAt) 92 = .ok (.aload_n 0, 1) := by decide +kernel
theorem d_X_faultAt_93 : decode (sk_cc m_X_faultAt) 93 = .ok (.getfield 12, 3) := by decide +kernel
theorem d_X_faultAt_96 : decode (sk_cc m_X_faultAt) 96 = .ok (.getfield 178, 3) := by decide +kernel
theorem d_X_faultAt_99 : decode (sk_cc m_X_faultAt) 99 = .ok (.iload 4, 2) := by decide +kernel
theorem d_X_faultAt_101 : decode (sk_cc m_X_faultAt) 101 = .ok (.iaload, 1) := by decide +kernel
theorem d_X_faultAt_102 : decode (sk_cc m_X_faultAt) 102 = .ok (.iaload, 1) := by decide +kernel
theorem d_X_faultAt_103 : decode (sk_cc m_X_faultAt) 103 = .ok (.isub, 1) := by decide +kernel
theorem d_X_faultAt_104 : decode (sk_cc m_X_faultAt) 104 = .ok (.ireturn, 1) := by decide +kernel
theorem d_X_faultAt_105 : decode (sk_cc m_X_faultAt) 105 = .ok (.iload_n 1, 1) := by decide +kernel
theorem d_X_faultAt_106 : decode (sk_cc m_X_faultAt) 106 = .ok (.iconst 1, 1) := by decide +kernel
theorem d_X_faultAt_107 : decode (sk_cc m_X_faultAt) 107 = .ok (.iand, 1) := by decide +kernel
theorem d_X_faultAt_108 : decode (sk_cc m_X_faultAt) 108 = .ok (.ireturn, 1) := by decide +kernel
theorem d_X_faultAt_109 : decode (sk_cc m_X_faultAt) 109 = .ok (.new 79, 3) := by decide +kernel
theorem d_X_faultAt_112 : decode (sk_cc m_X_faultAt) 112 = .ok (.dup, 1) := by decide +kernel
theorem d_X_faultAt_113 : decode (sk_cc m_X_faultAt) 113 = .ok (.ldc 181, 2) := by decide +kernel
theorem d_X_faultAt_115 : decode (sk_cc m_X_faultAt) 115 = .ok (.invokespecial 83, 3) := by decide +kernel
theorem d_X_faultAt_118 : decode (sk_cc m_X_faultAt) 118 = .ok (.athrow, 1) := by decide +kernel
theorem d_L_least_0 : decode (sk_cc m_L_least) 0 = .ok (.aload_n 2, 1) := by decide +kernel
theorem d_L_least_1 : decode (sk_cc m_L_least) 1 = .ok (.iconst 0, 1) := by decide +kernel
theorem d_L_least_2 : decode (sk_cc m_L_least) 2 = .ok (.aload_n 0, 1) := by decide +kernel
theorem d_L_least_3 : decode (sk_cc m_L_least) 3 = .ok (.iload_n 1, 1) := by decide +kernel
theorem d_L_least_4 : decode (sk_cc m_L_least) 4 = .ok (.invokevirtual 45, 3) := by decide +kernel
theorem d_L_least_7 : decode (sk_cc m_L_least) 7 = .ok (.i2l, 1) := by decide +kernel
theorem d_L_least_8 : decode (sk_cc m_L_least) 8 = .ok (.lastore, 1) := by decide +kernel
theorem d_L_least_9 : decode (sk_cc m_L_least) 9 = .ok (.goto 6, 3) := by decide +kernel
theorem d_L_least_12 : decode (sk_cc m_L_least) 12 = .ok (.astore_n 3, 1) := by decide +kernel
theorem d_L_least_13 : decode (sk_cc m_L_least) 13 = .ok (.iconst 1, 1) := by decide +kernel
theorem d_L_least_14 : decode (sk_cc m_L_least) 14 = .ok (.ireturn, 1) := by decide +kernel
theorem d_L_least_15 : decode (sk_cc m_L_least) 15 = .ok (.iconst 0, 1) := by decide +kernel
theorem d_L_least_16 : decode (sk_cc m_L_least) 16 = .ok (.ireturn, 1) := by decide +kernel
theorem d_X_least_0 : decode (sk_cc m_X_least) 0 = .ok (.aload_n 0, 1) := by decide +kernel
theorem d_X_least_1 : decode (sk_cc m_X_least) 1 = .ok (.iload_n 1, 1) := by decide +kernel
theorem d_X_least_2 : decode (sk_cc m_X_least) 2 = .ok (.invokevirtual 169, 3) := by decide +kernel
theorem d_X_least_5 : decode (sk_cc m_X_least) 5 = .ok (.aload_n 0, 1) := by decide +kernel
theorem d_X_least_6 : decode (sk_cc m_X_least) 6 = .ok (.getfield 28, 3) := by decide +kernel
theorem d_X_least_9 : decode (sk_cc m_X_least) 9 = .ok (.iload_n 1, 1) := by decide +kernel
theorem d_X_least_10 : decode (sk_cc m_X_least) 10 = .ok (.invokevirtual 153, 3) := by decide +kernel
theorem d_X_least_13 : decode (sk_cc m_X_least) 13 = .ok (.aload_n 0, 1) := by decide +kernel
theorem d_X_least_14 : decode (sk_cc m_X_least) 14 = .ok (.getfield 28, 3) := by decide +kernel
theorem d_X_least_17 : decode (sk_cc m_X_least) 17 = .ok (.iload_n 1, 1) := by decide +kernel
theorem d_X_least_18 : decode (sk_cc m_X_least) 18 = .ok (.invokevirtual 183, 3) := by decide +kernel
theorem d_X_least_21 : decode (sk_cc m_X_least) 21 = .ok (.ireturn, 1) := by decide +kernel
theorem d_L_showing_0 : decode (sk_cc m_L_showing) 0 = .ok (.aload_n 2, 1) := by decide +kernel
theorem d_L_showing_1 : decode (sk_cc m_L_showing) 1 = .ok (.iconst 0, 1) := by decide +kernel
theorem d_L_showing_2 : decode (sk_cc m_L_showing) 2 = .ok (.aload_n 0, 1) := by decide +kernel
theorem d_L_showing_3 : decode (sk_cc m_L_showing) 3 = .ok (.iload_n 1, 1) := by decide +kernel
theorem d_L_showing_4 : decode (sk_cc m_L_showing) 4 = .ok (.invokevirtual 48, 3) := by decide +kernel
theorem d_L_showing_7 : decode (sk_cc m_L_showing) 7 = .ok (.lastore, 1) := by decide +kernel
theorem d_L_showing_8 : decode (sk_cc m_L_showing) 8 = .ok (.goto 6, 3) := by decide +kernel
theorem d_L_showing_11 : decode (sk_cc m_L_showing) 11 = .ok (.astore_n 3, 1) := by decide +kernel
theorem d_L_showing_12 : decode (sk_cc m_L_showing) 12 = .ok (.iconst 1, 1) := by decide +kernel
theorem d_L_showing_13 : decode (sk_cc m_L_showing) 13 = .ok (.ireturn, 1) := by decide +kernel
theorem d_L_showing_14 : decode (sk_cc m_L_showing) 14 = .ok (.iconst 0, 1) := by decide +kernel
theorem d_L_showing_15 : decode (sk_cc m_L_showing) 15 = .ok (.ireturn, 1) := by decide +kernel
theorem d_X_showing_0 : decode (sk_cc m_X_showing) 0 = .ok (.aload_n 0, 1) := by decide +kernel
theorem d_X_showing_1 : decode (sk_cc m_X_showing) 1 = .ok (.iload_n 1, 1) := by decide +kernel
theorem d_X_showing_2 : decode (sk_cc m_X_showing) 2 = .ok (.invokevirtual 169, 3) := by decide +kernel
theorem d_X_showing_5 : decode (sk_cc m_X_showing) 5 = .ok (.aload_n 0, 1) := by decide +kernel
theorem d_X_showing_6 : decode (sk_cc m_X_showing) 6 = .ok (.getfield 28, 3) := by decide +kernel
theorem d_X_showing_9 : decode (sk_cc m_X_showing) 9 = .ok (.iload_n 1, 1) := by decide +kernel
theorem d_X_showing_10 : decode (sk_cc m_X_showing) 10 = .ok (.invokevirtual 153, 3) := by decide +kernel
theorem d_X_showing_13 : decode (sk_cc m_X_showing) 13 = .ok (.aload_n 0, 1) := by decide +kernel
theorem d_X_showing_14 : decode (sk_cc m_X_showing) 14 = .ok (.getfield 28, 3) := by decide +kernel
theorem d_X_showing_17 : decode (sk_cc m_X_showing) 17 = .ok (.iload_n 1, 1) := by decide +kernel
theorem d_X_showing_18 : decode (sk_cc m_X_showing) 18 = .ok (.invokevirtual 186, 3) := by decide +kernel
theorem d_X_showing_21 : decode (sk_cc m_X_showing) 21 = .ok (.lreturn, 1) := by decide +kernel
theorem d_L_alike_0 : decode (sk_cc m_L_alike) 0 = .ok (.aload_n 2, 1) := by decide +kernel
theorem d_L_alike_1 : decode (sk_cc m_L_alike) 1 = .ok (.iconst 0, 1) := by decide +kernel
theorem d_L_alike_2 : decode (sk_cc m_L_alike) 2 = .ok (.aload_n 0, 1) := by decide +kernel
theorem d_L_alike_3 : decode (sk_cc m_L_alike) 3 = .ok (.iload_n 1, 1) := by decide +kernel
theorem d_L_alike_4 : decode (sk_cc m_L_alike) 4 = .ok (.invokevirtual 52, 3) := by decide +kernel
theorem d_L_alike_7 : decode (sk_cc m_L_alike) 7 = .ok (.i2l, 1) := by decide +kernel
theorem d_L_alike_8 : decode (sk_cc m_L_alike) 8 = .ok (.lastore, 1) := by decide +kernel
theorem d_L_alike_9 : decode (sk_cc m_L_alike) 9 = .ok (.goto 6, 3) := by decide +kernel
theorem d_L_alike_12 : decode (sk_cc m_L_alike) 12 = .ok (.astore_n 3, 1) := by decide +kernel
theorem d_L_alike_13 : decode (sk_cc m_L_alike) 13 = .ok (.iconst 1, 1) := by decide +kernel
theorem d_L_alike_14 : decode (sk_cc m_L_alike) 14 = .ok (.ireturn, 1) := by decide +kernel
theorem d_L_alike_15 : decode (sk_cc m_L_alike) 15 = .ok (.iconst 0, 1) := by decide +kernel
theorem d_L_alike_16 : decode (sk_cc m_L_alike) 16 = .ok (.ireturn, 1) := by decide +kernel
theorem d_X_alike_0 : decode (sk_cc m_X_alike) 0 = .ok (.aload_n 0, 1) := by decide +kernel
theorem d_X_alike_1 : decode (sk_cc m_X_alike) 1 = .ok (.iload_n 1, 1) := by decide +kernel
theorem d_X_alike_2 : decode (sk_cc m_X_alike) 2 = .ok (.invokevirtual 169, 3) := by decide +kernel
theorem d_X_alike_5 : decode (sk_cc m_X_alike) 5 = .ok (.aload_n 0, 1) := by decide +kernel
theorem d_X_alike_6 : decode (sk_cc m_X_alike) 6 = .ok (.getfield 28, 3) := by decide +kernel
theorem d_X_alike_9 : decode (sk_cc m_X_alike) 9 = .ok (.invokevirtual 129, 3) := by decide +kernel
theorem d_X_alike_12 : decode (sk_cc m_X_alike) 12 = .ok (.aload_n 0, 1) := by decide +kernel
theorem d_X_alike_13 : decode (sk_cc m_X_alike) 13 = .ok (.getfield 28, 3) := by decide +kernel
theorem d_X_alike_16 : decode (sk_cc m_X_alike) 16 = .ok (.iload_n 1, 1) := by decide +kernel
theorem d_X_alike_17 : decode (sk_cc m_X_alike) 17 = .ok (.invokevirtual 190, 3) := by decide +kernel
theorem d_X_alike_20 : decode (sk_cc m_X_alike) 20 = .ok (.ireturn, 1) := by decide +kernel
theorem d_L_ternary_0 : decode (sk_cc m_L_ternary) 0 = .ok (.aload 5, 2) := by decide +kernel
theorem d_L_ternary_2 : decode (sk_cc m_L_ternary) 2 = .ok (.iconst 0, 1) := by decide +kernel
theorem d_L_ternary_3 : decode (sk_cc m_L_ternary) 3 = .ok (.aload_n 0, 1) := by decide +kernel
theorem d_L_ternary_4 : decode (sk_cc m_L_ternary) 4 = .ok (.iload_n 1, 1) := by decide +kernel
theorem d_L_ternary_5 : decode (sk_cc m_L_ternary) 5 = .ok (.iload_n 2, 1) := by decide +kernel
theorem d_L_ternary_6 : decode (sk_cc m_L_ternary) 6 = .ok (.iload_n 3, 1) := by decide +kernel
theorem d_L_ternary_7 : decode (sk_cc m_L_ternary) 7 = .ok (.iload 4, 2) := by decide +kernel
theorem d_L_ternary_9 : decode (sk_cc m_L_ternary) 9 = .ok (.invokevirtual 55, 3) := by decide +kernel
theorem d_L_ternary_12 : decode (sk_cc m_L_ternary) 12 = .ok (.i2l, 1) := by decide +kernel
theorem d_L_ternary_13 : decode (sk_cc m_L_ternary) 13 = .ok (.lastore, 1) := by decide +kernel
theorem d_L_ternary_14 : decode (sk_cc m_L_ternary) 14 = .ok (.goto 11, 3) := by decide +kernel
theorem d_L_ternary_17 : decode (sk_cc m_L_ternary) 17 = .ok (.astore 6, 2) := by decide +kernel
theorem d_L_ternary_19 : decode (sk_cc m_L_ternary) 19 = .ok (.iconst 1, 1) := by decide +kernel
theorem d_L_ternary_20 : decode (sk_cc m_L_ternary) 20 = .ok (.ireturn, 1) := by decide +kernel
theorem d_L_ternary_21 : decode (sk_cc m_L_ternary) 21 = .ok (.astore 6, 2) := by decide +kernel
theorem d_L_ternary_23 : decode (sk_cc m_L_ternary) 23 = .ok (.iconst 2, 1) := by decide +kernel
theorem d_L_ternary_24 : decode (sk_cc m_L_ternary) 24 = .ok (.ireturn, 1) := by decide +kernel
theorem d_L_ternary_25 : decode (sk_cc m_L_ternary) 25 = .ok (.iconst 0, 1) := by decide +kernel
theorem d_L_ternary_26 : decode (sk_cc m_L_ternary) 26 = .ok (.ireturn, 1) := by decide +kernel
theorem d_X_ternary_0 : decode (sk_cc m_X_ternary) 0 = .ok (.aload_n 0, 1) := by decide +kernel
theorem d_X_ternary_1 : decode (sk_cc m_X_ternary) 1 = .ok (.iload_n 3, 1) := by decide +kernel
theorem d_X_ternary_2 : decode (sk_cc m_X_ternary) 2 = .ok (.invokevirtual 86, 3) := by decide +kernel
theorem d_X_ternary_5 : decode (sk_cc m_X_ternary) 5 = .ok (.aload_n 0, 1) := by decide +kernel
theorem d_X_ternary_6 : decode (sk_cc m_X_ternary) 6 = .ok (.iload 4, 2) := by decide +kernel
theorem d_X_ternary_8 : decode (sk_cc m_X_ternary) 8 = .ok (.invokevirtual 143, 3) := by decide +kernel
theorem d_X_ternary_11 : decode (sk_cc m_X_ternary) 11 = .ok (.aload_n 0, 1) := by decide +kernel
theorem d_X_ternary_12 : decode (sk_cc m_X_ternary) 12 = .ok (.getfield 12, 3) := by decide +kernel
theorem d_X_ternary_15 : decode (sk_cc m_X_ternary) 15 = .ok (.iload_n 1, 1) := by decide +kernel
theorem d_X_ternary_16 : decode (sk_cc m_X_ternary) 16 = .ok (.invokevirtual 193, 3) := by decide +kernel
theorem d_X_ternary_19 : decode (sk_cc m_X_ternary) 19 = .ok (.ifCond .eq 14, 3) := by decide +kernel
theorem d_X_ternary_22 : decode (sk_cc m_X_ternary) 22 = .ok (.aload_n 0, 1) := by decide +kernel
theorem d_X_ternary_23 : decode (sk_cc m_X_ternary) 23 = .ok (.getfield 12, 3) := by decide +kernel
theorem d_X_ternary_26 : decode (sk_cc m_X_ternary) 26 = .ok (.iload_n 2, 1) := by decide +kernel
theorem d_X_ternary_27 : decode (sk_cc m_X_ternary) 27 = .ok (.invokevirtual 193, 3) := by decide +kernel
theorem d_X_ternary_30 : decode (sk_cc m_X_ternary) 30 = .ok (.ifCond .ne 13, 3) := by decide +kernel
theorem d_X_ternary_33 : decode (sk_cc m_X_ternary) 33 = .ok (.new 79, 3) := by decide +kernel
theorem d_X_ternary_36 : decode (sk_cc m_X_ternary) 36 = .ok (.dup, 1) := by decide +kernel
theorem d_X_ternary_37 : decode (sk_cc m_X_ternary) 37 = .ok (.ldc 196, 2) := by decide +kernel
theorem d_X_ternary_39 : decode (sk_cc m_X_ternary) 39 = .ok (.invokespecial 83, 3) := by decide +kernel
theorem d_X_ternary_42 : decode (sk_cc m_X_ternary) 42 = .ok (.athrow, 1) := by decide +kernel
theorem d_X_ternary_43 : decode (sk_cc m_X_ternary) 43 = .ok (.iload_n 1, 1) := by decide +kernel
theorem d_X_ternary_44 : decode (sk_cc m_X_ternary) 44 = .ok (.iload_n 2, 1) := by decide +kernel
theorem d_X_ternary_45 : decode (sk_cc m_X_ternary) 45 = .ok (.iand, 1) := by decide +kernel
theorem d_X_ternary_46 : decode (sk_cc m_X_ternary) 46 = .ok (.ifCond .eq 13, 3) := by decide +kernel
theorem d_X_ternary_49 : decode (sk_cc m_X_ternary) 49 = .ok (.new 79, 3) := by decide +kernel
theorem d_X_ternary_52 : decode (sk_cc m_X_ternary) 52 = .ok (.dup, 1) := by decide +kernel
theorem d_X_ternary_53 : decode (sk_cc m_X_ternary) 53 = .ok (.ldc 198, 2) := by decide +kernel
theorem d_X_ternary_55 : decode (sk_cc m_X_ternary) 55 = .ok (.invokespecial 83, 3) := by decide +kernel
theorem d_X_ternary_58 : decode (sk_cc m_X_ternary) 58 = .ok (.athrow, 1) := by decide +kernel
theorem d_X_ternary_59 : decode (sk_cc m_X_ternary) 59 = .ok (.aload_n 0, 1) := by decide +kernel
theorem d_X_ternary_60 : decode (sk_cc m_X_ternary) 60 = .ok (.getfield 21, 3) := by decide +kernel
theorem d_X_ternary_63 : decode (sk_cc m_X_ternary) 63 = .ok (.iload_n 1, 1) := by decide +kernel
theorem d_X_ternary_64 : decode (sk_cc m_X_ternary) 64 = .ok (.iload_n 2, 1) := by decide +kernel
theorem d_X_ternary_65 : decode (sk_cc m_X_ternary) 65 = .ok (.iload 4, 2) := by decide +kernel
theorem d_X_ternary_67 : decode (sk_cc m_X_ternary) 67 = .ok (.invokevirtual 200, 3) := by decide +kernel
theorem d_X_ternary_70 : decode (sk_cc m_X_ternary) 70 = .ok (.aload_n 0, 1) := by decide +kernel
theorem d_X_ternary_71 : decode (sk_cc m_X_ternary) 71 = .ok (.getfield 21, 3) := by decide +kernel
theorem d_X_ternary_74 : decode (sk_cc m_X_ternary) 74 = .ok (.iload_n 3, 1) := by decide +kernel
theorem d_X_ternary_75 : decode (sk_cc m_X_ternary) 75 = .ok (.iconst 0, 1) := by decide +kernel
theorem d_X_ternary_76 : decode (sk_cc m_X_ternary) 76 = .ok (.invokevirtual 149, 3) := by decide +kernel
theorem d_X_ternary_79 : decode (sk_cc m_X_ternary) 79 = .ok (.ireturn, 1) := by decide +kernel
theorem d_C_isSumOfSources_0 : decode (sk_cc m_C_isSumOfSources) 0 = .ok (.iload_n 1, 1) := by decide +kernel
theorem d_C_isSumOfSources_1 : decode (sk_cc m_C_isSumOfSources) 1 = .ok (.ifCond .lt 15, 3) := by decide +kernel
theorem d_C_isSumOfSources_4 : decode (sk_cc m_C_isSumOfSources) 4 = .ok (.iload_n 1, 1) := by decide +kernel
theorem d_C_isSumOfSources_5 : decode (sk_cc m_C_isSumOfSources) 5 = .ok (.aload_n 0, 1) := by decide +kernel
theorem d_C_isSumOfSources_6 : decode (sk_cc m_C_isSumOfSources) 6 = .ok (.invokevirtual 74, 3) := by decide +kernel
theorem d_C_isSumOfSources_9 : decode (sk_cc m_C_isSumOfSources) 9 = .ok (.if_icmp .ge 7, 3) := by decide +kernel
theorem d_C_isSumOfSources_12 : decode (sk_cc m_C_isSumOfSources) 12 = .ok (.iconst 1, 1) := by decide +kernel
theorem d_C_isSumOfSources_13 : decode (sk_cc m_C_isSumOfSources) 13 = .ok (.goto 4, 3) := by decide +kernel
theorem d_C_isSumOfSources_16 : decode (sk_cc m_C_isSumOfSources) 16 = .ok (.iconst 0, 1) := by decide +kernel
theorem d_C_isSumOfSources_17 : decode (sk_cc m_C_isSumOfSources) 17 = .ok (.ireturn, 1) := by decide +kernel
theorem d_S_settleCube_0 : decode (sk_cc m_S_settleCube) 0 = .ok (.iconst 0, 1) := by decide +kernel
theorem d_S_settleCube_1 : decode (sk_cc m_S_settleCube) 1 = .ok (.istore 4, 2) := by decide +kernel
theorem d_S_settleCube_3 : decode (sk_cc m_S_settleCube) 3 = .ok (.iload 4, 2) := by decide +kernel
theorem d_S_settleCube_5 : decode (sk_cc m_S_settleCube) 5 = .ok (.bipush 6, 2) := by decide +kernel
theorem d_S_settleCube_7 : decode (sk_cc m_S_settleCube) 7 = .ok (.if_icmp .ge 91, 3) := by decide +kernel
theorem d_S_settleCube_10 : decode (sk_cc m_S_settleCube) 10 = .ok (.iload_n 1, 1) := by decide +kernel
theorem d_S_settleCube_11 : decode (sk_cc m_S_settleCube) 11 = .ok (.iload 4, 2) := by decide +kernel
theorem d_S_settleCube_13 : decode (sk_cc m_S_settleCube) 13 = .ok (.ishr, 1) := by decide +kernel
theorem d_S_settleCube_14 : decode (sk_cc m_S_settleCube) 14 = .ok (.iconst 1, 1) := by decide +kernel
theorem d_S_settleCube_15 : decode (sk_cc m_S_settleCube) 15 = .ok (.iand, 1) := by decide +kernel
theorem d_S_settleCube_16 : decode (sk_cc m_S_settleCube) 16 = .ok (.iconst 1, 1) := by decide +kernel
theorem d_S_settleCube_17 : decode (sk_cc m_S_settleCube) 17 = .ok (.if_icmp .ne 7, 3) := by decide +kernel
theorem d_S_settleCube_20 : decode (sk_cc m_S_settleCube) 20 = .ok (.iconst 1, 1) := by decide +kernel
theorem d_S_settleCube_21 : decode (sk_cc m_S_settleCube) 21 = .ok (.goto 4, 3) := by decide +kernel
theorem d_S_settleCube_24 : decode (sk_cc m_S_settleCube) 24 = .ok (.iconst 0, 1) := by decide +kernel
theorem d_S_settleCube_25 : decode (sk_cc m_S_settleCube) 25 = .ok (.istore 5, 2) := by decide +kernel
theorem d_S_settleCube_27 : decode (sk_cc m_S_settleCube) 27 = .ok (.iload_n 2, 1) := by decide +kernel
theorem d_S_settleCube_28 : decode (sk_cc m_S_settleCube) 28 = .ok (.iload 4, 2) := by decide +kernel
theorem d_S_settleCube_30 : decode (sk_cc m_S_settleCube) 30 = .ok (.ishr, 1) := by decide +kernel
theorem d_S_settleCube_31 : decode (sk_cc m_S_settleCube) 31 = .ok (.iconst 1, 1) := by decide +kernel
theorem d_S_settleCube_32 : decode (sk_cc m_S_settleCube) 32 = .ok (.iand, 1) := by decide +kernel
theorem d_S_settleCube_33 : decode (sk_cc m_S_settleCube) 33 = .ok (.iconst 1, 1) := by decide +kernel
theorem d_S_settleCube_34 : decode (sk_cc m_S_settleCube) 34 = .ok (.if_icmp .ne 7, 3) := by decide +kernel
theorem d_S_settleCube_37 : decode (sk_cc m_S_settleCube) 37 = .ok (.iconst 1, 1) := by decide +kernel
theorem d_S_settleCube_38 : decode (sk_cc m_S_settleCube) 38 = .ok (.goto 4, 3) := by decide +kernel
theorem d_S_settleCube_41 : decode (sk_cc m_S_settleCube) 41 = .ok (.iconst 0, 1) := by decide +kernel
theorem d_S_settleCube_42 : decode (sk_cc m_S_settleCube) 42 = .ok (.istore 6, 2) := by decide +kernel
theorem d_S_settleCube_44 : decode (sk_cc m_S_settleCube) 44 = .ok (.aload_n 0, 1) := by decide +kernel
theorem d_S_settleCube_45 : decode (sk_cc m_S_settleCube) 45 = .ok (.getfield 9, 3) := by decide +kernel
theorem d_S_settleCube_48 : decode (sk_cc m_S_settleCube) 48 = .ok (.iload 4, 2) := by decide +kernel
theorem d_S_settleCube_50 : decode (sk_cc m_S_settleCube) 50 = .ok (.iload 5, 2) := by decide +kernel
theorem d_S_settleCube_52 : decode (sk_cc m_S_settleCube) 52 = .ok (.ifCond .ne 14, 3) := by decide +kernel
theorem d_S_settleCube_55 : decode (sk_cc m_S_settleCube) 55 = .ok (.iload 6, 2) := by decide +kernel
theorem d_S_settleCube_57 : decode (sk_cc m_S_settleCube) 57 = .ok (.ifCond .eq 9, 3) := by decide +kernel
theorem d_S_settleCube_60 : decode (sk_cc m_S_settleCube) 60 = .ok (.ldc2_w 39, 3) := by decide +kernel
theorem d_S_settleCube_63 : decode (sk_cc m_S_settleCube) 63 = .ok (.goto 4, 3) := by decide +kernel
theorem d_S_settleCube_66 : decode (sk_cc m_S_settleCube) 66 = .ok (.lconst 0, 1) := by decide +kernel
theorem d_S_settleCube_67 : decode (sk_cc m_S_settleCube) 67 = .ok (.lastore, 1) := by decide +kernel
theorem d_S_settleCube_68 : decode (sk_cc m_S_settleCube) 68 = .ok (.aload_n 0, 1) := by decide +kernel
theorem d_S_settleCube_69 : decode (sk_cc m_S_settleCube) 69 = .ok (.getfield 15, 3) := by decide +kernel
theorem d_S_settleCube_72 : decode (sk_cc m_S_settleCube) 72 = .ok (.iload 4, 2) := by decide +kernel
theorem d_S_settleCube_74 : decode (sk_cc m_S_settleCube) 74 = .ok (.iload 5, 2) := by decide +kernel
theorem d_S_settleCube_76 : decode (sk_cc m_S_settleCube) 76 = .ok (.ifCond .ne 14, 3) := by decide +kernel
theorem d_S_settleCube_79 : decode (sk_cc m_S_settleCube) 79 = .ok (.iload 6, 2) := by decide +kernel
theorem d_S_settleCube_81 : decode (sk_cc m_S_settleCube) 81 = .ok (.ifCond .ne 9, 3) := by decide +kernel
theorem d_S_settleCube_84 : decode (sk_cc m_S_settleCube) 84 = .ok (.ldc2_w 39, 3) := by decide +kernel
theorem d_S_settleCube_87 : decode (sk_cc m_S_settleCube) 87 = .ok (.goto 4, 3) := by decide +kernel
theorem d_S_settleCube_90 : decode (sk_cc m_S_settleCube) 90 = .ok (.lconst 0, 1) := by decide +kernel
theorem d_S_settleCube_91 : decode (sk_cc m_S_settleCube) 91 = .ok (.lastore, 1) := by decide +kernel
theorem d_S_settleCube_92 : decode (sk_cc m_S_settleCube) 92 = .ok (.iinc 4 1, 3) := by decide +kernel
theorem d_S_settleCube_95 : decode (sk_cc m_S_settleCube) 95 = .ok (.goto (-92), 3) := by decide +kernel
theorem d_S_settleCube_98 : decode (sk_cc m_S_settleCube) 98 = .ok (.aload_n 0, 1) := by decide +kernel
theorem d_S_settleCube_99 : decode (sk_cc m_S_settleCube) 99 = .ok (.iload_n 3, 1) := by decide +kernel
theorem d_S_settleCube_100 : decode (sk_cc m_S_settleCube) 100 = .ok (.invokevirtual 41, 3) := by decide +kernel
theorem d_S_settleCube_103 : decode (sk_cc m_S_settleCube) 103 = .ok (.return_, 1) := by decide +kernel
theorem d_L_cube_0 : decode (sk_cc m_L_cube) 0 = .ok (.aload_n 2, 1) := by decide +kernel
theorem d_L_cube_1 : decode (sk_cc m_L_cube) 1 = .ok (.iconst 0, 1) := by decide +kernel
theorem d_L_cube_2 : decode (sk_cc m_L_cube) 2 = .ok (.aload_n 0, 1) := by decide +kernel
theorem d_L_cube_3 : decode (sk_cc m_L_cube) 3 = .ok (.iload_n 1, 1) := by decide +kernel
theorem d_L_cube_4 : decode (sk_cc m_L_cube) 4 = .ok (.invokevirtual 58, 3) := by decide +kernel
theorem d_L_cube_7 : decode (sk_cc m_L_cube) 7 = .ok (.i2l, 1) := by decide +kernel
theorem d_L_cube_8 : decode (sk_cc m_L_cube) 8 = .ok (.lastore, 1) := by decide +kernel
theorem d_L_cube_9 : decode (sk_cc m_L_cube) 9 = .ok (.goto 6, 3) := by decide +kernel
theorem d_L_cube_12 : decode (sk_cc m_L_cube) 12 = .ok (.astore_n 3, 1) := by decide +kernel
theorem d_L_cube_13 : decode (sk_cc m_L_cube) 13 = .ok (.iconst 1, 1) := by decide +kernel
theorem d_L_cube_14 : decode (sk_cc m_L_cube) 14 = .ok (.ireturn, 1) := by decide +kernel
theorem d_L_cube_15 : decode (sk_cc m_L_cube) 15 = .ok (.iconst 0, 1) := by decide +kernel
theorem d_L_cube_16 : decode (sk_cc m_L_cube) 16 = .ok (.ireturn, 1) := by decide +kernel
theorem d_X_cube_0 : decode (sk_cc m_X_cube) 0 = .ok (.aload_n 0, 1) := by decide +kernel
theorem d_X_cube_1 : decode (sk_cc m_X_cube) 1 = .ok (.iload_n 1, 1) := by decide +kernel
theorem d_X_cube_2 : decode (sk_cc m_X_cube) 2 = .ok (.invokevirtual 169, 3) := by decide +kernel
theorem d_X_cube_5 : decode (sk_cc m_X_cube) 5 = .ok (.aload_n 0, 1) := by decide +kernel
theorem d_X_cube_6 : decode (sk_cc m_X_cube) 6 = .ok (.getfield 28, 3) := by decide +kernel
theorem d_X_cube_9 : decode (sk_cc m_X_cube) 9 = .ok (.iload_n 1, 1) := by decide +kernel
theorem d_X_cube_10 : decode (sk_cc m_X_cube) 10 = .ok (.invokevirtual 153, 3) := by decide +kernel
theorem d_X_cube_13 : decode (sk_cc m_X_cube) 13 = .ok (.aload_n 0, 1) := by decide +kernel
theorem d_X_cube_14 : decode (sk_cc m_X_cube) 14 = .ok (.getfield 28, 3) := by decide +kernel
theorem d_X_cube_17 : decode (sk_cc m_X_cube) 17 = .ok (.iload_n 1, 1) := by decide +kernel
theorem d_X_cube_18 : decode (sk_cc m_X_cube) 18 = .ok (.invokevirtual 183, 3) := by decide +kernel
theorem d_X_cube_21 : decode (sk_cc m_X_cube) 21 = .ok (.istore_n 2, 1) := by decide +kernel
theorem d_X_cube_22 : decode (sk_cc m_X_cube) 22 = .ok (.iload_n 2, 1) := by decide +kernel
theorem d_X_cube_23 : decode (sk_cc m_X_cube) 23 = .ok (.iconst (-1), 1) := by decide +kernel
theorem d_X_cube_24 : decode (sk_cc m_X_cube) 24 = .ok (.if_icmp .ne 7, 3) := by decide +kernel
theorem d_X_cube_27 : decode (sk_cc m_X_cube) 27 = .ok (.iconst (-1), 1) := by decide +kernel
theorem d_X_cube_28 : decode (sk_cc m_X_cube) 28 = .ok (.goto 12, 3) := by decide +kernel
theorem d_X_cube_31 : decode (sk_cc m_X_cube) 31 = .ok (.aload_n 0, 1) := by decide +kernel
theorem d_X_cube_32 : decode (sk_cc m_X_cube) 32 = .ok (.getfield 35, 3) := by decide +kernel
theorem d_X_cube_35 : decode (sk_cc m_X_cube) 35 = .ok (.iload_n 2, 1) := by decide +kernel
theorem d_X_cube_36 : decode (sk_cc m_X_cube) 36 = .ok (.iload_n 1, 1) := by decide +kernel
theorem d_X_cube_37 : decode (sk_cc m_X_cube) 37 = .ok (.invokevirtual 204, 3) := by decide +kernel
theorem d_X_cube_40 : decode (sk_cc m_X_cube) 40 = .ok (.ireturn, 1) := by decide +kernel
theorem d_U_widen_0 : decode (sk_cc m_U_widen) 0 = .ok (.iconst 0, 1) := by decide +kernel
theorem d_U_widen_1 : decode (sk_cc m_U_widen) 1 = .ok (.istore_n 3, 1) := by decide +kernel
theorem d_U_widen_2 : decode (sk_cc m_U_widen) 2 = .ok (.iload_n 1, 1) := by decide +kernel
theorem d_U_widen_3 : decode (sk_cc m_U_widen) 3 = .ok (.istore 4, 2) := by decide +kernel
theorem d_U_widen_5 : decode (sk_cc m_U_widen) 5 = .ok (.iconst 0, 1) := by decide +kernel
theorem d_U_widen_6 : decode (sk_cc m_U_widen) 6 = .ok (.istore 5, 2) := by decide +kernel
theorem d_U_widen_8 : decode (sk_cc m_U_widen) 8 = .ok (.iload 5, 2) := by decide +kernel
theorem d_U_widen_10 : decode (sk_cc m_U_widen) 10 = .ok (.aload_n 0, 1) := by decide +kernel
theorem d_U_widen_11 : decode (sk_cc m_U_widen) 11 = .ok (.getfield 9, 3) := by decide +kernel
theorem d_U_widen_14 : decode (sk_cc m_U_widen) 14 = .ok (.getfield 27, 3) := by decide +kernel
theorem d_U_widen_17 : decode (sk_cc m_U_widen) 17 = .ok (.if_icmp .ge 48, 3) := by decide +kernel
theorem d_U_widen_20 : decode (sk_cc m_U_widen) 20 = .ok (.iconst 1, 1) := by decide +kernel
theorem d_U_widen_21 : decode (sk_cc m_U_widen) 21 = .ok (.iload 5, 2) := by decide +kernel
theorem d_U_widen_23 : decode (sk_cc m_U_widen) 23 = .ok (.ishl, 1) := by decide +kernel
theorem d_U_widen_24 : decode (sk_cc m_U_widen) 24 = .ok (.istore 6, 2) := by decide +kernel
theorem d_U_widen_26 : decode (sk_cc m_U_widen) 26 = .ok (.aload_n 0, 1) := by decide +kernel
theorem d_U_widen_27 : decode (sk_cc m_U_widen) 27 = .ok (.iload_n 3, 1) := by decide +kernel
theorem d_U_widen_28 : decode (sk_cc m_U_widen) 28 = .ok (.iload 6, 2) := by decide +kernel
theorem d_U_widen_30 : decode (sk_cc m_U_widen) 30 = .ok (.ior, 1) := by decide +kernel
theorem d_U_widen_31 : decode (sk_cc m_U_widen) 31 = .ok (.iload 4, 2) := by decide +kernel
theorem d_U_widen_33 : decode (sk_cc m_U_widen) 33 = .ok (.iload 6, 2) := by decide +kernel
theorem d_U_widen_35 : decode (sk_cc m_U_widen) 35 = .ok (.iconst (-1), 1) := by decide +kernel
theorem d_U_widen_36 : decode (sk_cc m_U_widen) 36 = .ok (.ixor, 1) := by decide +kernel
theorem d_U_widen_37 : decode (sk_cc m_U_widen) 37 = .ok (.iand, 1) := by decide +kernel
theorem d_U_widen_38 : decode (sk_cc m_U_widen) 38 = .ok (.iload_n 2, 1) := by decide +kernel
theorem d_U_widen_39 : decode (sk_cc m_U_widen) 39 = .ok (.invokevirtual 33, 3) := by decide +kernel
theorem d_U_widen_42 : decode (sk_cc m_U_widen) 42 = .ok (.ifCond .eq 17, 3) := by decide +kernel
theorem d_U_widen_45 : decode (sk_cc m_U_widen) 45 = .ok (.iload_n 3, 1) := by decide +kernel
theorem d_U_widen_46 : decode (sk_cc m_U_widen) 46 = .ok (.iload 6, 2) := by decide +kernel
theorem d_U_widen_48 : decode (sk_cc m_U_widen) 48 = .ok (.ior, 1) := by decide +kernel
theorem d_U_widen_49 : decode (sk_cc m_U_widen) 49 = .ok (.istore_n 3, 1) := by decide +kernel
theorem d_U_widen_50 : decode (sk_cc m_U_widen) 50 = .ok (.iload 4, 2) := by decide +kernel
theorem d_U_widen_52 : decode (sk_cc m_U_widen) 52 = .ok (.iload 6, 2) := by decide +kernel
theorem d_U_widen_54 : decode (sk_cc m_U_widen) 54 = .ok (.iconst (-1), 1) := by decide +kernel
theorem d_U_widen_55 : decode (sk_cc m_U_widen) 55 = .ok (.ixor, 1) := by decide +kernel
theorem d_U_widen_56 : decode (sk_cc m_U_widen) 56 = .ok (.iand, 1) := by decide +kernel
theorem d_U_widen_57 : decode (sk_cc m_U_widen) 57 = .ok (.istore 4, 2) := by decide +kernel
theorem d_U_widen_59 : decode (sk_cc m_U_widen) 59 = .ok (.iinc 5 1, 3) := by decide +kernel
theorem d_U_widen_62 : decode (sk_cc m_U_widen) 62 = .ok (.goto (-54), 3) := by decide +kernel
theorem d_U_widen_65 : decode (sk_cc m_U_widen) 65 = .ok (.bipush 64, 2) := by decide +kernel
theorem d_U_widen_67 : decode (sk_cc m_U_widen) 67 = .ok (.iload_n 3, 1) := by decide +kernel
theorem d_U_widen_68 : decode (sk_cc m_U_widen) 68 = .ok (.imul, 1) := by decide +kernel
theorem d_U_widen_69 : decode (sk_cc m_U_widen) 69 = .ok (.iload 4, 2) := by decide +kernel
theorem d_U_widen_71 : decode (sk_cc m_U_widen) 71 = .ok (.iadd, 1) := by decide +kernel
theorem d_U_widen_72 : decode (sk_cc m_U_widen) 72 = .ok (.ireturn, 1) := by decide +kernel
theorem d_U_shows_0 : decode (sk_cc m_U_shows) 0 = .ok (.aload_n 0, 1) := by decide +kernel
theorem d_U_shows_1 : decode (sk_cc m_U_shows) 1 = .ok (.getfield 20, 3) := by decide +kernel
theorem d_U_shows_4 : decode (sk_cc m_U_shows) 4 = .ok (.iload_n 1, 1) := by decide +kernel
theorem d_U_shows_5 : decode (sk_cc m_U_shows) 5 = .ok (.iload_n 2, 1) := by decide +kernel
theorem d_U_shows_6 : decode (sk_cc m_U_shows) 6 = .ok (.iconst (-1), 1) := by decide +kernel
theorem d_U_shows_7 : decode (sk_cc m_U_shows) 7 = .ok (.invokevirtual 37, 3) := by decide +kernel
theorem d_U_shows_10 : decode (sk_cc m_U_shows) 10 = .ok (.aload_n 0, 1) := by decide +kernel
theorem d_U_shows_11 : decode (sk_cc m_U_shows) 11 = .ok (.getfield 24, 3) := by decide +kernel
theorem d_U_shows_14 : decode (sk_cc m_U_shows) 14 = .ok (.iload_n 1, 1) := by decide +kernel
theorem d_U_shows_15 : decode (sk_cc m_U_shows) 15 = .ok (.iload_n 2, 1) := by decide +kernel
theorem d_U_shows_16 : decode (sk_cc m_U_shows) 16 = .ok (.iload_n 3, 1) := by decide +kernel
theorem d_U_shows_17 : decode (sk_cc m_U_shows) 17 = .ok (.invokevirtual 37, 3) := by decide +kernel
theorem d_U_shows_20 : decode (sk_cc m_U_shows) 20 = .ok (.aload_n 0, 1) := by decide +kernel
theorem d_U_shows_21 : decode (sk_cc m_U_shows) 21 = .ok (.getfield 20, 3) := by decide +kernel
theorem d_U_shows_24 : decode (sk_cc m_U_shows) 24 = .ok (.aload_n 0, 1) := by decide +kernel
theorem d_U_shows_25 : decode (sk_cc m_U_shows) 25 = .ok (.getfield 24, 3) := by decide +kernel
theorem d_U_shows_28 : decode (sk_cc m_U_shows) 28 = .ok (.invokevirtual 41, 3) := by decide +kernel
theorem d_U_shows_31 : decode (sk_cc m_U_shows) 31 = .ok (.ireturn, 1) := by decide +kernel
theorem d_S_isContraryTo_0 : decode (sk_cc m_S_isContraryTo) 0 = .ok (.iconst 0, 1) := by decide +kernel
theorem d_S_isContraryTo_1 : decode (sk_cc m_S_isContraryTo) 1 = .ok (.istore_n 2, 1) := by decide +kernel
theorem d_S_isContraryTo_2 : decode (sk_cc m_S_isContraryTo) 2 = .ok (.iload_n 2, 1) := by decide +kernel
theorem d_S_isContraryTo_3 : decode (sk_cc m_S_isContraryTo) 3 = .ok (.aload_n 0, 1) := by decide +kernel
theorem d_S_isContraryTo_4 : decode (sk_cc m_S_isContraryTo) 4 = .ok (.getfield 32, 3) := by decide +kernel
theorem d_S_isContraryTo_7 : decode (sk_cc m_S_isContraryTo) 7 = .ok (.getfield 72, 3) := by decide +kernel
theorem d_S_isContraryTo_10 : decode (sk_cc m_S_isContraryTo) 10 = .ok (.if_icmp .ge 53, 3) := by decide +kernel
theorem d_S_isContraryTo_13 : decode (sk_cc m_S_isContraryTo) 13 = .ok (.aload_n 0, 1) := by decide +kernel
theorem d_S_isContraryTo_14 : decode (sk_cc m_S_isContraryTo) 14 = .ok (.getfield 32, 3) := by decide +kernel
theorem d_S_isContraryTo_17 : decode (sk_cc m_S_isContraryTo) 17 = .ok (.getfield 75, 3) := by decide +kernel
theorem d_S_isContraryTo_20 : decode (sk_cc m_S_isContraryTo) 20 = .ok (.iload_n 2, 1) := by decide +kernel
theorem d_S_isContraryTo_21 : decode (sk_cc m_S_isContraryTo) 21 = .ok (.iaload, 1) := by decide +kernel
theorem d_S_isContraryTo_22 : decode (sk_cc m_S_isContraryTo) 22 = .ok (.istore_n 3, 1) := by decide +kernel
theorem d_S_isContraryTo_23 : decode (sk_cc m_S_isContraryTo) 23 = .ok (.aload_n 0, 1) := by decide +kernel
theorem d_S_isContraryTo_24 : decode (sk_cc m_S_isContraryTo) 24 = .ok (.getfield 18, 3) := by decide +kernel
theorem d_S_isContraryTo_27 : decode (sk_cc m_S_isContraryTo) 27 = .ok (.iload_n 3, 1) := by decide +kernel
theorem d_S_isContraryTo_28 : decode (sk_cc m_S_isContraryTo) 28 = .ok (.laload, 1) := by decide +kernel
theorem d_S_isContraryTo_29 : decode (sk_cc m_S_isContraryTo) 29 = .ok (.aload_n 1, 1) := by decide +kernel
theorem d_S_isContraryTo_30 : decode (sk_cc m_S_isContraryTo) 30 = .ok (.getfield 21, 3) := by decide +kernel
theorem d_S_isContraryTo_33 : decode (sk_cc m_S_isContraryTo) 33 = .ok (.iload_n 3, 1) := by decide +kernel
theorem d_S_isContraryTo_34 : decode (sk_cc m_S_isContraryTo) 34 = .ok (.laload, 1) := by decide +kernel
theorem d_S_isContraryTo_35 : decode (sk_cc m_S_isContraryTo) 35 = .ok (.land, 1) := by decide +kernel
theorem d_S_isContraryTo_36 : decode (sk_cc m_S_isContraryTo) 36 = .ok (.aload_n 0, 1) := by decide +kernel
theorem d_S_isContraryTo_37 : decode (sk_cc m_S_isContraryTo) 37 = .ok (.getfield 21, 3) := by decide +kernel
theorem d_S_isContraryTo_40 : decode (sk_cc m_S_isContraryTo) 40 = .ok (.iload_n 3, 1) := by decide +kernel
theorem d_S_isContraryTo_41 : decode (sk_cc m_S_isContraryTo) 41 = .ok (.laload, 1) := by decide +kernel
theorem d_S_isContraryTo_42 : decode (sk_cc m_S_isContraryTo) 42 = .ok (.aload_n 1, 1) := by decide +kernel
theorem d_S_isContraryTo_43 : decode (sk_cc m_S_isContraryTo) 43 = .ok (.getfield 18, 3) := by decide +kernel
theorem d_S_isContraryTo_46 : decode (sk_cc m_S_isContraryTo) 46 = .ok (.iload_n 3, 1) := by decide +kernel
theorem d_S_isContraryTo_47 : decode (sk_cc m_S_isContraryTo) 47 = .ok (.laload, 1) := by decide +kernel
theorem d_S_isContraryTo_48 : decode (sk_cc m_S_isContraryTo) 48 = .ok (.land, 1) := by decide +kernel
theorem d_S_isContraryTo_49 : decode (sk_cc m_S_isContraryTo) 49 = .ok (.lor, 1) := by decide +kernel
theorem d_S_isContraryTo_50 : decode (sk_cc m_S_isContraryTo) 50 = .ok (.lconst 0, 1) := by decide +kernel
theorem d_S_isContraryTo_51 : decode (sk_cc m_S_isContraryTo) 51 = .ok (.lcmp, 1) := by decide +kernel
theorem d_S_isContraryTo_52 : decode (sk_cc m_S_isContraryTo) 52 = .ok (.ifCond .eq 5, 3) := by decide +kernel
theorem d_S_isContraryTo_55 : decode (sk_cc m_S_isContraryTo) 55 = .ok (.iconst 1, 1) := by decide +kernel
theorem d_S_isContraryTo_56 : decode (sk_cc m_S_isContraryTo) 56 = .ok (.ireturn, 1) := by decide +kernel
theorem d_S_isContraryTo_57 : decode (sk_cc m_S_isContraryTo) 57 = .ok (.iinc 2 1, 3) := by decide +kernel
theorem d_S_isContraryTo_60 : decode (sk_cc m_S_isContraryTo) 60 = .ok (.goto (-58), 3) := by decide +kernel
theorem d_S_isContraryTo_63 : decode (sk_cc m_S_isContraryTo) 63 = .ok (.iconst 0, 1) := by decide +kernel
theorem d_S_isContraryTo_64 : decode (sk_cc m_S_isContraryTo) 64 = .ok (.ireturn, 1) := by decide +kernel
theorem d_L_log_0 : decode (sk_cc m_L_log) 0 = .ok (.aload_n 3, 1) := by decide +kernel
theorem d_L_log_1 : decode (sk_cc m_L_log) 1 = .ok (.iconst 0, 1) := by decide +kernel
theorem d_L_log_2 : decode (sk_cc m_L_log) 2 = .ok (.aload_n 0, 1) := by decide +kernel
theorem d_L_log_3 : decode (sk_cc m_L_log) 3 = .ok (.iload_n 1, 1) := by decide +kernel
theorem d_L_log_4 : decode (sk_cc m_L_log) 4 = .ok (.iload_n 2, 1) := by decide +kernel
theorem d_L_log_5 : decode (sk_cc m_L_log) 5 = .ok (.invokevirtual 61, 3) := by decide +kernel
theorem d_L_log_8 : decode (sk_cc m_L_log) 8 = .ok (.i2l, 1) := by decide +kernel
theorem d_L_log_9 : decode (sk_cc m_L_log) 9 = .ok (.lastore, 1) := by decide +kernel
theorem d_L_log_10 : decode (sk_cc m_L_log) 10 = .ok (.goto 15, 3) := by decide +kernel
theorem d_L_log_13 : decode (sk_cc m_L_log) 13 = .ok (.astore 4, 2) := by decide +kernel
theorem d_L_log_15 : decode (sk_cc m_L_log) 15 = .ok (.iconst 1, 1) := by decide +kernel
theorem d_L_log_16 : decode (sk_cc m_L_log) 16 = .ok (.ireturn, 1) := by decide +kernel
theorem d_L_log_17 : decode (sk_cc m_L_log) 17 = .ok (.astore 4, 2) := by decide +kernel
theorem d_L_log_19 : decode (sk_cc m_L_log) 19 = .ok (.iconst 2, 1) := by decide +kernel
theorem d_L_log_20 : decode (sk_cc m_L_log) 20 = .ok (.ireturn, 1) := by decide +kernel
theorem d_L_log_21 : decode (sk_cc m_L_log) 21 = .ok (.astore 4, 2) := by decide +kernel
theorem d_L_log_23 : decode (sk_cc m_L_log) 23 = .ok (.iconst 3, 1) := by decide +kernel
theorem d_L_log_24 : decode (sk_cc m_L_log) 24 = .ok (.ireturn, 1) := by decide +kernel
theorem d_L_log_25 : decode (sk_cc m_L_log) 25 = .ok (.iconst 0, 1) := by decide +kernel
theorem d_L_log_26 : decode (sk_cc m_L_log) 26 = .ok (.ireturn, 1) := by decide +kernel
theorem d_X_log_0 : decode (sk_cc m_X_log) 0 = .ok (.aload_n 0, 1) := by decide +kernel
theorem d_X_log_1 : decode (sk_cc m_X_log) 1 = .ok (.iload_n 1, 1) := by decide +kernel
theorem d_X_log_2 : decode (sk_cc m_X_log) 2 = .ok (.invokevirtual 140, 3) := by decide +kernel
theorem d_X_log_5 : decode (sk_cc m_X_log) 5 = .ok (.iload_n 2, 1) := by decide +kernel
theorem d_X_log_6 : decode (sk_cc m_X_log) 6 = .ok (.ifCond .lt 10, 3) := by decide +kernel
theorem d_X_log_9 : decode (sk_cc m_X_log) 9 = .ok (.iload_n 2, 1) := by decide +kernel
theorem d_X_log_10 : decode (sk_cc m_X_log) 10 = .ok (.sipush 4096, 3) := by decide +kernel
theorem d_X_log_13 : decode (sk_cc m_X_log) 13 = .ok (.if_icmp .lt 13, 3) := by decide +kernel
theorem d_X_log_16 : decode (sk_cc m_X_log) 16 = .ok (.new 79, 3) := by decide +kernel
theorem d_X_log_19 : decode (sk_cc m_X_log) 19 = .ok (.dup, 1) := by decide +kernel
theorem d_X_log_20 : decode (sk_cc m_X_log) 20 = .ok (.ldc 210, 2) := by decide +kernel
theorem d_X_log_22 : decode (sk_cc m_X_log) 22 = .ok (.invokespecial 83, 3) := by decide +kernel
theorem d_X_log_25 : decode (sk_cc m_X_log) 25 = .ok (.athrow, 1) := by decide +kernel
theorem d_X_log_26 : decode (sk_cc m_X_log) 26 = .ok (.aload_n 0, 1) := by decide +kernel
theorem d_X_log_27 : decode (sk_cc m_X_log) 27 = .ok (.getfield 53, 3) := by decide +kernel
theorem d_X_log_30 : decode (sk_cc m_X_log) 30 = .ok (.getfield 212, 3) := by decide +kernel
theorem d_X_log_33 : decode (sk_cc m_X_log) 33 = .ok (.bipush 16, 2) := by decide +kernel
theorem d_X_log_35 : decode (sk_cc m_X_log) 35 = .ok (.if_icmp .lt 13, 3) := by decide +kernel
theorem d_X_log_38 : decode (sk_cc m_X_log) 38 = .ok (.new 68, 3) := by decide +kernel
theorem d_X_log_41 : decode (sk_cc m_X_log) 41 = .ok (.dup, 1) := by decide +kernel
theorem d_X_log_42 : decode (sk_cc m_X_log) 42 = .ok (.ldc 215, 2) := by decide +kernel
theorem d_X_log_44 : decode (sk_cc m_X_log) 44 = .ok (.invokespecial 72, 3) := by decide +kernel
theorem d_X_log_47 : decode (sk_cc m_X_log) 47 = .ok (.athrow, 1) := by decide +kernel
theorem d_X_log_48 : decode (sk_cc m_X_log) 48 = .ok (.aload_n 0, 1) := by decide +kernel
theorem d_X_log_49 : decode (sk_cc m_X_log) 49 = .ok (.getfield 53, 3) := by decide +kernel
theorem d_X_log_52 : decode (sk_cc m_X_log) 52 = .ok (.iload_n 1, 1) := by decide +kernel
theorem d_X_log_53 : decode (sk_cc m_X_log) 53 = .ok (.iload_n 2, 1) := by decide +kernel
theorem d_X_log_54 : decode (sk_cc m_X_log) 54 = .ok (.invokevirtual 217, 3) := by decide +kernel
theorem d_X_log_57 : decode (sk_cc m_X_log) 57 = .ok (.ireturn, 1) := by decide +kernel
theorem d_G_add_0 : decode (sk_cc m_G_add) 0 = .ok (.aload_n 0, 1) := by decide +kernel
theorem d_G_add_1 : decode (sk_cc m_G_add) 1 = .ok (.getfield 9, 3) := by decide +kernel
theorem d_G_add_4 : decode (sk_cc m_G_add) 4 = .ok (.aload_n 0, 1) := by decide +kernel
theorem d_G_add_5 : decode (sk_cc m_G_add) 5 = .ok (.getfield 18, 3) := by decide +kernel
theorem d_G_add_8 : decode (sk_cc m_G_add) 8 = .ok (.iload_n 1, 1) := by decide +kernel
theorem d_G_add_9 : decode (sk_cc m_G_add) 9 = .ok (.iastore, 1) := by decide +kernel
theorem d_G_add_10 : decode (sk_cc m_G_add) 10 = .ok (.aload_n 0, 1) := by decide +kernel
theorem d_G_add_11 : decode (sk_cc m_G_add) 11 = .ok (.getfield 15, 3) := by decide +kernel
theorem d_G_add_14 : decode (sk_cc m_G_add) 14 = .ok (.aload_n 0, 1) := by decide +kernel
theorem d_G_add_15 : decode (sk_cc m_G_add) 15 = .ok (.getfield 18, 3) := by decide +kernel
theorem d_G_add_18 : decode (sk_cc m_G_add) 18 = .ok (.iload_n 2, 1) := by decide +kernel
theorem d_G_add_19 : decode (sk_cc m_G_add) 19 = .ok (.iastore, 1) := by decide +kernel
theorem d_G_add_20 : decode (sk_cc m_G_add) 20 = .ok (.aload_n 0, 1) := by decide +kernel
theorem d_G_add_21 : decode (sk_cc m_G_add) 21 = .ok (.dup, 1) := by decide +kernel
theorem d_G_add_22 : decode (sk_cc m_G_add) 22 = .ok (.getfield 18, 3) := by decide +kernel
theorem d_G_add_25 : decode (sk_cc m_G_add) 25 = .ok (.iconst 1, 1) := by decide +kernel
theorem d_G_add_26 : decode (sk_cc m_G_add) 26 = .ok (.iadd, 1) := by decide +kernel
theorem d_G_add_27 : decode (sk_cc m_G_add) 27 = .ok (.putfield 18, 3) := by decide +kernel
theorem d_G_add_30 : decode (sk_cc m_G_add) 30 = .ok (.aload_n 0, 1) := by decide +kernel
theorem d_G_add_31 : decode (sk_cc m_G_add) 31 = .ok (.getfield 18, 3) := by decide +kernel
theorem d_G_add_34 : decode (sk_cc m_G_add) 34 = .ok (.ireturn, 1) := by decide +kernel
theorem d_M_init_0 : decode (sk_cc m_M_init) 0 = .ok (.aload_n 0, 1) := by decide +kernel
theorem d_M_init_1 : decode (sk_cc m_M_init) 1 = .ok (.invokespecial 1, 3) := by decide +kernel
theorem d_M_init_4 : decode (sk_cc m_M_init) 4 = .ok (.aload_n 0, 1) := by decide +kernel
theorem d_M_init_5 : decode (sk_cc m_M_init) 5 = .ok (.bipush 26, 2) := by decide +kernel
theorem d_M_init_7 : decode (sk_cc m_M_init) 7 = .ok (.newarray .int, 2) := by decide +kernel
theorem d_M_init_9 : decode (sk_cc m_M_init) 9 = .ok (.putfield 7, 3) := by decide +kernel
theorem d_M_init_12 : decode (sk_cc m_M_init) 12 = .ok (.aload_n 0, 1) := by decide +kernel
theorem d_M_init_13 : decode (sk_cc m_M_init) 13 = .ok (.bipush 26, 2) := by decide +kernel
theorem d_M_init_15 : decode (sk_cc m_M_init) 15 = .ok (.newarray .int, 2) := by decide +kernel
theorem d_M_init_17 : decode (sk_cc m_M_init) 17 = .ok (.putfield 13, 3) := by decide +kernel
theorem d_M_init_20 : decode (sk_cc m_M_init) 20 = .ok (.aload_n 0, 1) := by decide +kernel
theorem d_M_init_21 : decode (sk_cc m_M_init) 21 = .ok (.bipush 78, 2) := by decide +kernel
theorem d_M_init_23 : decode (sk_cc m_M_init) 23 = .ok (.newarray .int, 2) := by decide +kernel
theorem d_M_init_25 : decode (sk_cc m_M_init) 25 = .ok (.putfield 16, 3) := by decide +kernel
theorem d_M_init_28 : decode (sk_cc m_M_init) 28 = .ok (.aload_n 0, 1) := by decide +kernel
theorem d_M_init_29 : decode (sk_cc m_M_init) 29 = .ok (.bipush 26, 2) := by decide +kernel
theorem d_M_init_31 : decode (sk_cc m_M_init) 31 = .ok (.newarray .int, 2) := by decide +kernel
theorem d_M_init_33 : decode (sk_cc m_M_init) 33 = .ok (.putfield 19, 3) := by decide +kernel
theorem d_M_init_36 : decode (sk_cc m_M_init) 36 = .ok (.aload_n 0, 1) := by decide +kernel
theorem d_M_init_37 : decode (sk_cc m_M_init) 37 = .ok (.bipush 6, 2) := by decide +kernel
theorem d_M_init_39 : decode (sk_cc m_M_init) 39 = .ok (.newarray .int, 2) := by decide +kernel
theorem d_M_init_41 : decode (sk_cc m_M_init) 41 = .ok (.putfield 22, 3) := by decide +kernel
theorem d_M_init_44 : decode (sk_cc m_M_init) 44 = .ok (.aload_n 0, 1) := by decide +kernel
theorem d_M_init_45 : decode (sk_cc m_M_init) 45 = .ok (.bipush 6, 2) := by decide +kernel
theorem d_M_init_47 : decode (sk_cc m_M_init) 47 = .ok (.newarray .boolean, 2) := by decide +kernel
theorem d_M_init_49 : decode (sk_cc m_M_init) 49 = .ok (.putfield 25, 3) := by decide +kernel
theorem d_M_init_52 : decode (sk_cc m_M_init) 52 = .ok (.aload_n 0, 1) := by decide +kernel
theorem d_M_init_53 : decode (sk_cc m_M_init) 53 = .ok (.bipush 6, 2) := by decide +kernel
theorem d_M_init_55 : decode (sk_cc m_M_init) 55 = .ok (.newarray .int, 2) := by decide +kernel
theorem d_M_init_57 : decode (sk_cc m_M_init) 57 = .ok (.putfield 29, 3) := by decide +kernel
theorem d_M_init_60 : decode (sk_cc m_M_init) 60 = .ok (.aload_n 0, 1) := by decide +kernel
theorem d_M_init_61 : decode (sk_cc m_M_init) 61 = .ok (.bipush 6, 2) := by decide +kernel
theorem d_M_init_63 : decode (sk_cc m_M_init) 63 = .ok (.newarray .int, 2) := by decide +kernel
theorem d_M_init_65 : decode (sk_cc m_M_init) 65 = .ok (.putfield 32, 3) := by decide +kernel
theorem d_M_init_68 : decode (sk_cc m_M_init) 68 = .ok (.aload_n 0, 1) := by decide +kernel
theorem d_M_init_69 : decode (sk_cc m_M_init) 69 = .ok (.bipush 12, 2) := by decide +kernel
theorem d_M_init_71 : decode (sk_cc m_M_init) 71 = .ok (.newarray .int, 2) := by decide +kernel
theorem d_M_init_73 : decode (sk_cc m_M_init) 73 = .ok (.putfield 35, 3) := by decide +kernel
theorem d_M_init_76 : decode (sk_cc m_M_init) 76 = .ok (.aload_n 0, 1) := by decide +kernel
theorem d_M_init_77 : decode (sk_cc m_M_init) 77 = .ok (.bipush 104, 2) := by decide +kernel
theorem d_M_init_79 : decode (sk_cc m_M_init) 79 = .ok (.newarray .int, 2) := by decide +kernel
theorem d_M_init_81 : decode (sk_cc m_M_init) 81 = .ok (.putfield 38, 3) := by decide +kernel
theorem d_M_init_84 : decode (sk_cc m_M_init) 84 = .ok (.aload_n 0, 1) := by decide +kernel
theorem d_M_init_85 : decode (sk_cc m_M_init) 85 = .ok (.bipush 104, 2) := by decide +kernel
theorem d_M_init_87 : decode (sk_cc m_M_init) 87 = .ok (.newarray .int, 2) := by decide +kernel
theorem d_M_init_89 : decode (sk_cc m_M_init) 89 = .ok (.putfield 41, 3) := by decide +kernel
theorem d_M_init_92 : decode (sk_cc m_M_init) 92 = .ok (.aload_n 0, 1) := by decide +kernel
theorem d_M_init_93 : decode (sk_cc m_M_init) 93 = .ok (.bipush 26, 2) := by decide +kernel
theorem d_M_init_95 : decode (sk_cc m_M_init) 95 = .ok (.newarray .int, 2) := by decide +kernel
theorem d_M_init_97 : decode (sk_cc m_M_init) 97 = .ok (.putfield 44, 3) := by decide +kernel
theorem d_M_init_100 : decode (sk_cc m_M_init) 100 = .ok (.aload_n 0, 1) := by decide +kernel
theorem d_M_init_101 : decode (sk_cc m_M_init) 101 = .ok (.bipush 12, 2) := by decide +kernel
theorem d_M_init_103 : decode (sk_cc m_M_init) 103 = .ok (.newarray .int, 2) := by decide +kernel
theorem d_M_init_105 : decode (sk_cc m_M_init) 105 = .ok (.putfield 47, 3) := by decide +kernel
theorem d_M_init_108 : decode (sk_cc m_M_init) 108 = .ok (.aload_n 0, 1) := by decide +kernel
theorem d_M_init_109 : decode (sk_cc m_M_init) 109 = .ok (.sipush 13312, 3) := by decide +kernel
theorem d_M_init_112 : decode (sk_cc m_M_init) 112 = .ok (.newarray .int, 2) := by decide +kernel
theorem d_M_init_114 : decode (sk_cc m_M_init) 114 = .ok (.putfield 50, 3) := by decide +kernel
theorem d_M_init_117 : decode (sk_cc m_M_init) 117 = .ok (.aload_n 0, 1) := by decide +kernel
theorem d_M_init_118 : decode (sk_cc m_M_init) 118 = .ok (.bipush 64, 2) := by decide +kernel
theorem d_M_init_120 : decode (sk_cc m_M_init) 120 = .ok (.newarray .int, 2) := by decide +kernel
theorem d_M_init_122 : decode (sk_cc m_M_init) 122 = .ok (.putfield 53, 3) := by decide +kernel
theorem d_M_init_125 : decode (sk_cc m_M_init) 125 = .ok (.aload_n 0, 1) := by decide +kernel
theorem d_M_init_126 : decode (sk_cc m_M_init) 126 = .ok (.bipush 64, 2) := by decide +kernel
theorem d_M_init_128 : decode (sk_cc m_M_init) 128 = .ok (.newarray .int, 2) := by decide +kernel
theorem d_M_init_130 : decode (sk_cc m_M_init) 130 = .ok (.putfield 56, 3) := by decide +kernel
theorem d_M_init_133 : decode (sk_cc m_M_init) 133 = .ok (.aload_n 0, 1) := by decide +kernel
theorem d_M_init_134 : decode (sk_cc m_M_init) 134 = .ok (.bipush 64, 2) := by decide +kernel
theorem d_M_init_136 : decode (sk_cc m_M_init) 136 = .ok (.newarray .boolean, 2) := by decide +kernel
theorem d_M_init_138 : decode (sk_cc m_M_init) 138 = .ok (.putfield 59, 3) := by decide +kernel
theorem d_M_init_141 : decode (sk_cc m_M_init) 141 = .ok (.aload_n 0, 1) := by decide +kernel
theorem d_M_init_142 : decode (sk_cc m_M_init) 142 = .ok (.bipush 16, 2) := by decide +kernel
theorem d_M_init_144 : decode (sk_cc m_M_init) 144 = .ok (.newarray .int, 2) := by decide +kernel
theorem d_M_init_146 : decode (sk_cc m_M_init) 146 = .ok (.putfield 62, 3) := by decide +kernel
theorem d_M_init_149 : decode (sk_cc m_M_init) 149 = .ok (.aload_n 0, 1) := by decide +kernel
theorem d_M_init_150 : decode (sk_cc m_M_init) 150 = .ok (.bipush 16, 2) := by decide +kernel
theorem d_M_init_152 : decode (sk_cc m_M_init) 152 = .ok (.newarray .int, 2) := by decide +kernel
theorem d_M_init_154 : decode (sk_cc m_M_init) 154 = .ok (.putfield 65, 3) := by decide +kernel
theorem d_M_init_157 : decode (sk_cc m_M_init) 157 = .ok (.return_, 1) := by decide +kernel
theorem d_M_thrown_0 : decode (sk_cc m_M_thrown) 0 = .ok (.aload_n 0, 1) := by decide +kernel
theorem d_M_thrown_1 : decode (sk_cc m_M_thrown) 1 = .ok (.getfield 68, 3) := by decide +kernel
theorem d_M_thrown_4 : decode (sk_cc m_M_thrown) 4 = .ok (.ireturn, 1) := by decide +kernel
theorem d_M_clear_0 : decode (sk_cc m_M_clear) 0 = .ok (.aload_n 0, 1) := by decide +kernel
theorem d_M_clear_1 : decode (sk_cc m_M_clear) 1 = .ok (.iconst 0, 1) := by decide +kernel
theorem d_M_clear_2 : decode (sk_cc m_M_clear) 2 = .ok (.putfield 68, 3) := by decide +kernel
theorem d_M_clear_5 : decode (sk_cc m_M_clear) 5 = .ok (.aload_n 0, 1) := by decide +kernel
theorem d_M_clear_6 : decode (sk_cc m_M_clear) 6 = .ok (.iconst 0, 1) := by decide +kernel
theorem d_M_clear_7 : decode (sk_cc m_M_clear) 7 = .ok (.putfield 72, 3) := by decide +kernel
theorem d_M_clear_10 : decode (sk_cc m_M_clear) 10 = .ok (.aload_n 0, 1) := by decide +kernel
theorem d_M_clear_11 : decode (sk_cc m_M_clear) 11 = .ok (.iconst 0, 1) := by decide +kernel
theorem d_M_clear_12 : decode (sk_cc m_M_clear) 12 = .ok (.putfield 75, 3) := by decide +kernel
theorem d_M_clear_15 : decode (sk_cc m_M_clear) 15 = .ok (.aload_n 0, 1) := by decide +kernel
theorem d_M_clear_16 : decode (sk_cc m_M_clear) 16 = .ok (.iconst 0, 1) := by decide +kernel
theorem d_M_clear_17 : decode (sk_cc m_M_clear) 17 = .ok (.putfield 94, 3) := by decide +kernel
theorem d_M_clear_20 : decode (sk_cc m_M_clear) 20 = .ok (.aload_n 0, 1) := by decide +kernel
theorem d_M_clear_21 : decode (sk_cc m_M_clear) 21 = .ok (.invokevirtual 97, 3) := by decide +kernel
theorem d_M_clear_24 : decode (sk_cc m_M_clear) 24 = .ok (.return_, 1) := by decide +kernel
theorem d_M_built_0 : decode (sk_cc m_M_built) 0 = .ok (.aload_n 0, 1) := by decide +kernel
theorem d_M_built_1 : decode (sk_cc m_M_built) 1 = .ok (.iconst 0, 1) := by decide +kernel
theorem d_M_built_2 : decode (sk_cc m_M_built) 2 = .ok (.putfield 81, 3) := by decide +kernel
theorem d_M_built_5 : decode (sk_cc m_M_built) 5 = .ok (.aload_n 0, 1) := by decide +kernel
theorem d_M_built_6 : decode (sk_cc m_M_built) 6 = .ok (.iconst 0, 1) := by decide +kernel
theorem d_M_built_7 : decode (sk_cc m_M_built) 7 = .ok (.putfield 85, 3) := by decide +kernel
theorem d_M_built_10 : decode (sk_cc m_M_built) 10 = .ok (.aload_n 0, 1) := by decide +kernel
theorem d_M_built_11 : decode (sk_cc m_M_built) 11 = .ok (.iconst 0, 1) := by decide +kernel
theorem d_M_built_12 : decode (sk_cc m_M_built) 12 = .ok (.putfield 88, 3) := by decide +kernel
theorem d_M_built_15 : decode (sk_cc m_M_built) 15 = .ok (.aload_n 0, 1) := by decide +kernel
theorem d_M_built_16 : decode (sk_cc m_M_built) 16 = .ok (.iconst 0, 1) := by decide +kernel
theorem d_M_built_17 : decode (sk_cc m_M_built) 17 = .ok (.putfield 91, 3) := by decide +kernel
theorem d_M_built_20 : decode (sk_cc m_M_built) 20 = .ok (.iconst 0, 1) := by decide +kernel
theorem d_M_built_21 : decode (sk_cc m_M_built) 21 = .ok (.istore_n 1, 1) := by decide +kernel
theorem d_M_built_22 : decode (sk_cc m_M_built) 22 = .ok (.iload_n 1, 1) := by decide +kernel
theorem d_M_built_23 : decode (sk_cc m_M_built) 23 = .ok (.aload_n 0, 1) := by decide +kernel
theorem d_M_built_24 : decode (sk_cc m_M_built) 24 = .ok (.getfield 94, 3) := by decide +kernel
theorem d_M_built_27 : decode (sk_cc m_M_built) 27 = .ok (.if_icmp .ge 34, 3) := by decide +kernel
theorem d_M_built_30 : decode (sk_cc m_M_built) 30 = .ok (.aload_n 0, 1) := by decide +kernel
theorem d_M_built_31 : decode (sk_cc m_M_built) 31 = .ok (.getfield 35, 3) := by decide +kernel
theorem d_M_built_34 : decode (sk_cc m_M_built) 34 = .ok (.aload_n 0, 1) := by decide +kernel
theorem d_M_built_35 : decode (sk_cc m_M_built) 35 = .ok (.getfield 91, 3) := by decide +kernel
theorem d_M_built_38 : decode (sk_cc m_M_built) 38 = .ok (.aload_n 0, 1) := by decide +kernel
theorem d_M_built_39 : decode (sk_cc m_M_built) 39 = .ok (.getfield 32, 3) := by decide +kernel
theorem d_M_built_42 : decode (sk_cc m_M_built) 42 = .ok (.iload_n 1, 1) := by decide +kernel
theorem d_M_built_43 : decode (sk_cc m_M_built) 43 = .ok (.iaload, 1) := by decide +kernel
theorem d_M_built_44 : decode (sk_cc m_M_built) 44 = .ok (.iastore, 1) := by decide +kernel
theorem d_M_built_45 : decode (sk_cc m_M_built) 45 = .ok (.aload_n 0, 1) := by decide +kernel
theorem d_M_built_46 : decode (sk_cc m_M_built) 46 = .ok (.dup, 1) := by decide +kernel
theorem d_M_built_47 : decode (sk_cc m_M_built) 47 = .ok (.getfield 91, 3) := by decide +kernel
theorem d_M_built_50 : decode (sk_cc m_M_built) 50 = .ok (.iconst 1, 1) := by decide +kernel
theorem d_M_built_51 : decode (sk_cc m_M_built) 51 = .ok (.iadd, 1) := by decide +kernel
theorem d_M_built_52 : decode (sk_cc m_M_built) 52 = .ok (.putfield 91, 3) := by decide +kernel
theorem d_M_built_55 : decode (sk_cc m_M_built) 55 = .ok (.iinc 1 1, 3) := by decide +kernel
theorem d_M_built_58 : decode (sk_cc m_M_built) 58 = .ok (.goto (-36), 3) := by decide +kernel
theorem d_M_built_61 : decode (sk_cc m_M_built) 61 = .ok (.iconst 0, 1) := by decide +kernel
theorem d_M_built_62 : decode (sk_cc m_M_built) 62 = .ok (.istore_n 1, 1) := by decide +kernel
theorem d_M_built_63 : decode (sk_cc m_M_built) 63 = .ok (.iload_n 1, 1) := by decide +kernel
theorem d_M_built_64 : decode (sk_cc m_M_built) 64 = .ok (.aload_n 0, 1) := by decide +kernel
theorem d_M_built_65 : decode (sk_cc m_M_built) 65 = .ok (.getfield 75, 3) := by decide +kernel
theorem d_M_built_68 : decode (sk_cc m_M_built) 68 = .ok (.if_icmp .ge 52, 3) := by decide +kernel
theorem d_M_built_71 : decode (sk_cc m_M_built) 71 = .ok (.aload_n 0, 1) := by decide +kernel
theorem d_M_built_72 : decode (sk_cc m_M_built) 72 = .ok (.getfield 25, 3) := by decide +kernel
theorem d_M_built_75 : decode (sk_cc m_M_built) 75 = .ok (.iload_n 1, 1) := by decide +kernel
theorem d_M_built_76 : decode (sk_cc m_M_built) 76 = .ok (.baload, 1) := by decide +kernel
theorem d_M_built_77 : decode (sk_cc m_M_built) 77 = .ok (.ifCond .eq 37, 3) := by decide +kernel
theorem d_M_built_80 : decode (sk_cc m_M_built) 80 = .ok (.aload_n 0, 1) := by decide +kernel
theorem d_M_built_81 : decode (sk_cc m_M_built) 81 = .ok (.getfield 29, 3) := by decide +kernel
theorem d_M_built_84 : decode (sk_cc m_M_built) 84 = .ok (.iload_n 1, 1) := by decide +kernel
theorem d_M_built_85 : decode (sk_cc m_M_built) 85 = .ok (.iaload, 1) := by decide +kernel
theorem d_M_built_86 : decode (sk_cc m_M_built) 86 = .ok (.ifCond .lt 28, 3) := by decide +kernel
theorem d_M_built_89 : decode (sk_cc m_M_built) 89 = .ok (.aload_n 0, 1) := by decide +kernel
theorem d_M_built_90 : decode (sk_cc m_M_built) 90 = .ok (.getfield 35, 3) := by decide +kernel
theorem d_M_built_93 : decode (sk_cc m_M_built) 93 = .ok (.aload_n 0, 1) := by decide +kernel
theorem d_M_built_94 : decode (sk_cc m_M_built) 94 = .ok (.getfield 91, 3) := by decide +kernel
theorem d_M_built_97 : decode (sk_cc m_M_built) 97 = .ok (.aload_n 0, 1) := by decide +kernel
theorem d_M_built_98 : decode (sk_cc m_M_built) 98 = .ok (.getfield 29, 3) := by decide +kernel
theorem d_M_built_101 : decode (sk_cc m_M_built) 101 = .ok (.iload_n 1, 1) := by decide +kernel
theorem d_M_built_102 : decode (sk_cc m_M_built) 102 = .ok (.iaload, 1) := by decide +kernel
theorem d_M_built_103 : decode (sk_cc m_M_built) 103 = .ok (.iastore, 1) := by decide +kernel
theorem d_M_built_104 : decode (sk_cc m_M_built) 104 = .ok (.aload_n 0, 1) := by decide +kernel
theorem d_M_built_105 : decode (sk_cc m_M_built) 105 = .ok (.dup, 1) := by decide +kernel
theorem d_M_built_106 : decode (sk_cc m_M_built) 106 = .ok (.getfield 91, 3) := by decide +kernel
theorem d_M_built_109 : decode (sk_cc m_M_built) 109 = .ok (.iconst 1, 1) := by decide +kernel
theorem d_M_built_110 : decode (sk_cc m_M_built) 110 = .ok (.iadd, 1) := by decide +kernel
theorem d_M_built_111 : decode (sk_cc m_M_built) 111 = .ok (.putfield 91, 3) := by decide +kernel
theorem d_M_built_114 : decode (sk_cc m_M_built) 114 = .ok (.iinc 1 1, 3) := by decide +kernel
theorem d_M_built_117 : decode (sk_cc m_M_built) 117 = .ok (.goto (-54), 3) := by decide +kernel
theorem d_M_built_120 : decode (sk_cc m_M_built) 120 = .ok (.aload_n 0, 1) := by decide +kernel
theorem d_M_built_121 : decode (sk_cc m_M_built) 121 = .ok (.iconst 0, 1) := by decide +kernel
theorem d_M_built_122 : decode (sk_cc m_M_built) 122 = .ok (.putfield 78, 3) := by decide +kernel
theorem d_M_built_125 : decode (sk_cc m_M_built) 125 = .ok (.iconst 0, 1) := by decide +kernel
theorem d_M_built_126 : decode (sk_cc m_M_built) 126 = .ok (.istore_n 1, 1) := by decide +kernel
theorem d_M_built_127 : decode (sk_cc m_M_built) 127 = .ok (.iload_n 1, 1) := by decide +kernel
theorem d_M_built_128 : decode (sk_cc m_M_built) 128 = .ok (.aload_n 0, 1) := by decide +kernel
theorem d_M_built_129 : decode (sk_cc m_M_built) 129 = .ok (.getfield 72, 3) := by decide +kernel
theorem d_M_built_132 : decode (sk_cc m_M_built) 132 = .ok (.if_icmp .ge 39, 3) := by decide +kernel
theorem d_M_built_135 : decode (sk_cc m_M_built) 135 = .ok (.aload_n 0, 1) := by decide +kernel
theorem d_M_built_136 : decode (sk_cc m_M_built) 136 = .ok (.getfield 38, 3) := by decide +kernel
theorem d_M_built_139 : decode (sk_cc m_M_built) 139 = .ok (.aload_n 0, 1) := by decide +kernel
theorem d_M_built_140 : decode (sk_cc m_M_built) 140 = .ok (.getfield 78, 3) := by decide +kernel
theorem d_M_built_143 : decode (sk_cc m_M_built) 143 = .ok (.iload_n 1, 1) := by decide +kernel
theorem d_M_built_144 : decode (sk_cc m_M_built) 144 = .ok (.iastore, 1) := by decide +kernel
theorem d_M_built_145 : decode (sk_cc m_M_built) 145 = .ok (.aload_n 0, 1) := by decide +kernel
theorem d_M_built_146 : decode (sk_cc m_M_built) 146 = .ok (.getfield 41, 3) := by decide +kernel
theorem d_M_built_149 : decode (sk_cc m_M_built) 149 = .ok (.aload_n 0, 1) := by decide +kernel
