/-! decode rows -/
theorem d_M_firstAlike_61 : decode (sk_cc m_M_firstAlike) 61 = .ok (.goto (-49), 3) := by decide +kernel
theorem d_M_firstAlike_64 : decode (sk_cc m_M_firstAlike) 64 = .ok (.iload_n 3, 1) := by decide +kernel
theorem d_M_firstAlike_65 : decode (sk_cc m_M_firstAlike) 65 = .ok (.ifCond .eq 5, 3) := by decide +kernel
theorem d_M_firstAlike_68 : decode (sk_cc m_M_firstAlike) 68 = .ok (.iload_n 2, 1) := by decide +kernel
theorem d_M_firstAlike_69 : decode (sk_cc m_M_firstAlike) 69 = .ok (.ireturn, 1) := by decide +kernel
theorem d_M_firstAlike_70 : decode (sk_cc m_M_firstAlike) 70 = .ok (.iinc 2 1, 3) := by decide +kernel
theorem d_M_firstAlike_73 : decode (sk_cc m_M_firstAlike) 73 = .ok (.goto (-71), 3) := by decide +kernel
theorem d_M_firstAlike_76 : decode (sk_cc m_M_firstAlike) 76 = .ok (.iload_n 1, 1) := by decide +kernel
theorem d_M_firstAlike_77 : decode (sk_cc m_M_firstAlike) 77 = .ok (.ireturn, 1) := by decide +kernel
theorem d_M_value_0 : decode (sk_cc m_M_value) 0 = .ok (.aload_n 0, 1) := by decide +kernel
theorem d_M_value_1 : decode (sk_cc m_M_value) 1 = .ok (.iload_n 1, 1) := by decide +kernel
theorem d_M_value_2 : decode (sk_cc m_M_value) 2 = .ok (.ifCond .lt 32, 3) := by decide +kernel
theorem d_M_value_5 : decode (sk_cc m_M_value) 5 = .ok (.iload_n 1, 1) := by decide +kernel
theorem d_M_value_6 : decode (sk_cc m_M_value) 6 = .ok (.aload_n 0, 1) := by decide +kernel
theorem d_M_value_7 : decode (sk_cc m_M_value) 7 = .ok (.invokevirtual 108, 3) := by decide +kernel
theorem d_M_value_10 : decode (sk_cc m_M_value) 10 = .ok (.if_icmp .ge 24, 3) := by decide +kernel
theorem d_M_value_13 : decode (sk_cc m_M_value) 13 = .ok (.aload_n 0, 1) := by decide +kernel
theorem d_M_value_14 : decode (sk_cc m_M_value) 14 = .ok (.iload_n 2, 1) := by decide +kernel
theorem d_M_value_15 : decode (sk_cc m_M_value) 15 = .ok (.invokevirtual 100, 3) := by decide +kernel
theorem d_M_value_18 : decode (sk_cc m_M_value) 18 = .ok (.ifCond .ne 16, 3) := by decide +kernel
theorem d_M_value_21 : decode (sk_cc m_M_value) 21 = .ok (.iload_n 3, 1) := by decide +kernel
theorem d_M_value_22 : decode (sk_cc m_M_value) 22 = .ok (.iconst (-1), 1) := by decide +kernel
theorem d_M_value_23 : decode (sk_cc m_M_value) 23 = .ok (.if_icmp .eq 15, 3) := by decide +kernel
theorem d_M_value_26 : decode (sk_cc m_M_value) 26 = .ok (.aload_n 0, 1) := by decide +kernel
theorem d_M_value_27 : decode (sk_cc m_M_value) 27 = .ok (.iload_n 3, 1) := by decide +kernel
theorem d_M_value_28 : decode (sk_cc m_M_value) 28 = .ok (.invokevirtual 129, 3) := by decide +kernel
theorem d_M_value_31 : decode (sk_cc m_M_value) 31 = .ok (.ifCond .eq 7, 3) := by decide +kernel
theorem d_M_value_34 : decode (sk_cc m_M_value) 34 = .ok (.iconst 1, 1) := by decide +kernel
theorem d_M_value_35 : decode (sk_cc m_M_value) 35 = .ok (.goto 4, 3) := by decide +kernel
theorem d_M_value_38 : decode (sk_cc m_M_value) 38 = .ok (.iconst 0, 1) := by decide +kernel
theorem d_M_value_39 : decode (sk_cc m_M_value) 39 = .ok (.putfield 68, 3) := by decide +kernel
theorem d_M_value_42 : decode (sk_cc m_M_value) 42 = .ok (.aload_n 0, 1) := by decide +kernel
theorem d_M_value_43 : decode (sk_cc m_M_value) 43 = .ok (.getfield 68, 3) := by decide +kernel
theorem d_M_value_46 : decode (sk_cc m_M_value) 46 = .ok (.ifCond .le 5, 3) := by decide +kernel
theorem d_M_value_49 : decode (sk_cc m_M_value) 49 = .ok (.iconst 0, 1) := by decide +kernel
theorem d_M_value_50 : decode (sk_cc m_M_value) 50 = .ok (.ireturn, 1) := by decide +kernel
theorem d_M_value_51 : decode (sk_cc m_M_value) 51 = .ok (.aload_n 0, 1) := by decide +kernel
theorem d_M_value_52 : decode (sk_cc m_M_value) 52 = .ok (.iconst 0, 1) := by decide +kernel
theorem d_M_value_53 : decode (sk_cc m_M_value) 53 = .ok (.iload_n 1, 1) := by decide +kernel
theorem d_M_value_54 : decode (sk_cc m_M_value) 54 = .ok (.iload_n 3, 1) := by decide +kernel
theorem d_M_value_55 : decode (sk_cc m_M_value) 55 = .ok (.invokevirtual 112, 3) := by decide +kernel
theorem d_M_value_58 : decode (sk_cc m_M_value) 58 = .ok (.aload_n 0, 1) := by decide +kernel
theorem d_M_value_59 : decode (sk_cc m_M_value) 59 = .ok (.getfield 44, 3) := by decide +kernel
theorem d_M_value_62 : decode (sk_cc m_M_value) 62 = .ok (.iload_n 2, 1) := by decide +kernel
theorem d_M_value_63 : decode (sk_cc m_M_value) 63 = .ok (.iaload, 1) := by decide +kernel
theorem d_M_value_64 : decode (sk_cc m_M_value) 64 = .ok (.ireturn, 1) := by decide +kernel
theorem d_M_noFault_0 : decode (sk_cc m_M_noFault) 0 = .ok (.iload_n 1, 1) := by decide +kernel
theorem d_M_noFault_1 : decode (sk_cc m_M_noFault) 1 = .ok (.ifCond .lt 13, 3) := by decide +kernel
theorem d_M_noFault_4 : decode (sk_cc m_M_noFault) 4 = .ok (.iload_n 1, 1) := by decide +kernel
theorem d_M_noFault_5 : decode (sk_cc m_M_noFault) 5 = .ok (.iconst 2, 1) := by decide +kernel
theorem d_M_noFault_6 : decode (sk_cc m_M_noFault) 6 = .ok (.aload_n 0, 1) := by decide +kernel
theorem d_M_noFault_7 : decode (sk_cc m_M_noFault) 7 = .ok (.getfield 78, 3) := by decide +kernel
theorem d_M_noFault_10 : decode (sk_cc m_M_noFault) 10 = .ok (.imul, 1) := by decide +kernel
theorem d_M_noFault_11 : decode (sk_cc m_M_noFault) 11 = .ok (.if_icmp .lt 7, 3) := by decide +kernel
theorem d_M_noFault_14 : decode (sk_cc m_M_noFault) 14 = .ok (.iconst 1, 1) := by decide +kernel
theorem d_M_noFault_15 : decode (sk_cc m_M_noFault) 15 = .ok (.goto 4, 3) := by decide +kernel
theorem d_M_noFault_18 : decode (sk_cc m_M_noFault) 18 = .ok (.iconst 0, 1) := by decide +kernel
theorem d_M_noFault_19 : decode (sk_cc m_M_noFault) 19 = .ok (.ireturn, 1) := by decide +kernel
theorem d_M_response_0 : decode (sk_cc m_M_response) 0 = .ok (.aload_n 0, 1) := by decide +kernel
theorem d_M_response_1 : decode (sk_cc m_M_response) 1 = .ok (.iload_n 1, 1) := by decide +kernel
theorem d_M_response_2 : decode (sk_cc m_M_response) 2 = .ok (.ifCond .lt 24, 3) := by decide +kernel
theorem d_M_response_5 : decode (sk_cc m_M_response) 5 = .ok (.iload_n 1, 1) := by decide +kernel
theorem d_M_response_6 : decode (sk_cc m_M_response) 6 = .ok (.aload_n 0, 1) := by decide +kernel
theorem d_M_response_7 : decode (sk_cc m_M_response) 7 = .ok (.invokevirtual 108, 3) := by decide +kernel
theorem d_M_response_10 : decode (sk_cc m_M_response) 10 = .ok (.if_icmp .ge 16, 3) := by decide +kernel
theorem d_M_response_13 : decode (sk_cc m_M_response) 13 = .ok (.iload_n 2, 1) := by decide +kernel
theorem d_M_response_14 : decode (sk_cc m_M_response) 14 = .ok (.iconst (-1), 1) := by decide +kernel
theorem d_M_response_15 : decode (sk_cc m_M_response) 15 = .ok (.if_icmp .eq 15, 3) := by decide +kernel
theorem d_M_response_18 : decode (sk_cc m_M_response) 18 = .ok (.aload_n 0, 1) := by decide +kernel
theorem d_M_response_19 : decode (sk_cc m_M_response) 19 = .ok (.iload_n 2, 1) := by decide +kernel
theorem d_M_response_20 : decode (sk_cc m_M_response) 20 = .ok (.invokevirtual 129, 3) := by decide +kernel
theorem d_M_response_23 : decode (sk_cc m_M_response) 23 = .ok (.ifCond .eq 7, 3) := by decide +kernel
theorem d_M_response_26 : decode (sk_cc m_M_response) 26 = .ok (.iconst 1, 1) := by decide +kernel
theorem d_M_response_27 : decode (sk_cc m_M_response) 27 = .ok (.goto 4, 3) := by decide +kernel
theorem d_M_response_30 : decode (sk_cc m_M_response) 30 = .ok (.iconst 0, 1) := by decide +kernel
theorem d_M_response_31 : decode (sk_cc m_M_response) 31 = .ok (.putfield 68, 3) := by decide +kernel
theorem d_M_response_34 : decode (sk_cc m_M_response) 34 = .ok (.aload_n 0, 1) := by decide +kernel
theorem d_M_response_35 : decode (sk_cc m_M_response) 35 = .ok (.getfield 68, 3) := by decide +kernel
theorem d_M_response_38 : decode (sk_cc m_M_response) 38 = .ok (.ifCond .le 5, 3) := by decide +kernel
theorem d_M_response_41 : decode (sk_cc m_M_response) 41 = .ok (.iconst 0, 1) := by decide +kernel
theorem d_M_response_42 : decode (sk_cc m_M_response) 42 = .ok (.ireturn, 1) := by decide +kernel
theorem d_M_response_43 : decode (sk_cc m_M_response) 43 = .ok (.aload_n 0, 1) := by decide +kernel
theorem d_M_response_44 : decode (sk_cc m_M_response) 44 = .ok (.iconst 0, 1) := by decide +kernel
theorem d_M_response_45 : decode (sk_cc m_M_response) 45 = .ok (.iload_n 1, 1) := by decide +kernel
theorem d_M_response_46 : decode (sk_cc m_M_response) 46 = .ok (.iload_n 2, 1) := by decide +kernel
theorem d_M_response_47 : decode (sk_cc m_M_response) 47 = .ok (.invokevirtual 112, 3) := by decide +kernel
theorem d_M_response_50 : decode (sk_cc m_M_response) 50 = .ok (.aload_n 0, 1) := by decide +kernel
theorem d_M_response_51 : decode (sk_cc m_M_response) 51 = .ok (.invokevirtual 116, 3) := by decide +kernel
theorem d_M_response_54 : decode (sk_cc m_M_response) 54 = .ok (.ireturn, 1) := by decide +kernel
theorem d_M_fault_0 : decode (sk_cc m_M_fault) 0 = .ok (.aload_n 0, 1) := by decide +kernel
theorem d_M_fault_1 : decode (sk_cc m_M_fault) 1 = .ok (.iconst 0, 1) := by decide +kernel
theorem d_M_fault_2 : decode (sk_cc m_M_fault) 2 = .ok (.putfield 68, 3) := by decide +kernel
theorem d_M_fault_5 : decode (sk_cc m_M_fault) 5 = .ok (.iload_n 3, 1) := by decide +kernel
theorem d_M_fault_6 : decode (sk_cc m_M_fault) 6 = .ok (.ifCond .lt 8, 3) := by decide +kernel
theorem d_M_fault_9 : decode (sk_cc m_M_fault) 9 = .ok (.iload_n 3, 1) := by decide +kernel
theorem d_M_fault_10 : decode (sk_cc m_M_fault) 10 = .ok (.iconst 1, 1) := by decide +kernel
theorem d_M_fault_11 : decode (sk_cc m_M_fault) 11 = .ok (.if_icmp .le 5, 3) := by decide +kernel
theorem d_M_fault_14 : decode (sk_cc m_M_fault) 14 = .ok (.iconst (-1), 1) := by decide +kernel
theorem d_M_fault_15 : decode (sk_cc m_M_fault) 15 = .ok (.ireturn, 1) := by decide +kernel
theorem d_M_fault_16 : decode (sk_cc m_M_fault) 16 = .ok (.iconst 0, 1) := by decide +kernel
theorem d_M_fault_17 : decode (sk_cc m_M_fault) 17 = .ok (.istore 4, 2) := by decide +kernel
theorem d_M_fault_19 : decode (sk_cc m_M_fault) 19 = .ok (.iload 4, 2) := by decide +kernel
theorem d_M_fault_21 : decode (sk_cc m_M_fault) 21 = .ok (.aload_n 0, 1) := by decide +kernel
theorem d_M_fault_22 : decode (sk_cc m_M_fault) 22 = .ok (.getfield 78, 3) := by decide +kernel
theorem d_M_fault_25 : decode (sk_cc m_M_fault) 25 = .ok (.if_icmp .ge 38, 3) := by decide +kernel
theorem d_M_fault_28 : decode (sk_cc m_M_fault) 28 = .ok (.aload_n 0, 1) := by decide +kernel
theorem d_M_fault_29 : decode (sk_cc m_M_fault) 29 = .ok (.getfield 38, 3) := by decide +kernel
theorem d_M_fault_32 : decode (sk_cc m_M_fault) 32 = .ok (.iload 4, 2) := by decide +kernel
theorem d_M_fault_34 : decode (sk_cc m_M_fault) 34 = .ok (.iaload, 1) := by decide +kernel
theorem d_M_fault_35 : decode (sk_cc m_M_fault) 35 = .ok (.iload_n 1, 1) := by decide +kernel
theorem d_M_fault_36 : decode (sk_cc m_M_fault) 36 = .ok (.if_icmp .ne 21, 3) := by decide +kernel
theorem d_M_fault_39 : decode (sk_cc m_M_fault) 39 = .ok (.aload_n 0, 1) := by decide +kernel
theorem d_M_fault_40 : decode (sk_cc m_M_fault) 40 = .ok (.getfield 41, 3) := by decide +kernel
theorem d_M_fault_43 : decode (sk_cc m_M_fault) 43 = .ok (.iload 4, 2) := by decide +kernel
theorem d_M_fault_45 : decode (sk_cc m_M_fault) 45 = .ok (.iaload, 1) := by decide +kernel
theorem d_M_fault_46 : decode (sk_cc m_M_fault) 46 = .ok (.iload_n 2, 1) := by decide +kernel
theorem d_M_fault_47 : decode (sk_cc m_M_fault) 47 = .ok (.if_icmp .ne 10, 3) := by decide +kernel
theorem d_M_fault_50 : decode (sk_cc m_M_fault) 50 = .ok (.iconst 2, 1) := by decide +kernel
theorem d_M_fault_51 : decode (sk_cc m_M_fault) 51 = .ok (.iload 4, 2) := by decide +kernel
theorem d_M_fault_53 : decode (sk_cc m_M_fault) 53 = .ok (.imul, 1) := by decide +kernel
theorem d_M_fault_54 : decode (sk_cc m_M_fault) 54 = .ok (.iload_n 3, 1) := by decide +kernel
theorem d_M_fault_55 : decode (sk_cc m_M_fault) 55 = .ok (.iadd, 1) := by decide +kernel
theorem d_M_fault_56 : decode (sk_cc m_M_fault) 56 = .ok (.ireturn, 1) := by decide +kernel
theorem d_M_fault_57 : decode (sk_cc m_M_fault) 57 = .ok (.iinc 4 1, 3) := by decide +kernel
theorem d_M_fault_60 : decode (sk_cc m_M_fault) 60 = .ok (.goto (-41), 3) := by decide +kernel
theorem d_M_fault_63 : decode (sk_cc m_M_fault) 63 = .ok (.iconst (-1), 1) := by decide +kernel
theorem d_M_fault_64 : decode (sk_cc m_M_fault) 64 = .ok (.ireturn, 1) := by decide +kernel
theorem d_M_faultAt_0 : decode (sk_cc m_M_faultAt) 0 = .ok (.aload_n 0, 1) := by decide +kernel
theorem d_M_faultAt_1 : decode (sk_cc m_M_faultAt) 1 = .ok (.aload_n 0, 1) := by decide +kernel
theorem d_M_faultAt_2 : decode (sk_cc m_M_faultAt) 2 = .ok (.iload_n 1, 1) := by decide +kernel
theorem d_M_faultAt_3 : decode (sk_cc m_M_faultAt) 3 = .ok (.invokevirtual 129, 3) := by decide +kernel
theorem d_M_faultAt_6 : decode (sk_cc m_M_faultAt) 6 = .ok (.ifCond .eq 7, 3) := by decide +kernel
theorem d_M_faultAt_9 : decode (sk_cc m_M_faultAt) 9 = .ok (.iconst 1, 1) := by decide +kernel
theorem d_M_faultAt_10 : decode (sk_cc m_M_faultAt) 10 = .ok (.goto 17, 3) := by decide +kernel
theorem d_M_faultAt_13 : decode (sk_cc m_M_faultAt) 13 = .ok (.iload_n 2, 1) := by decide +kernel
theorem d_M_faultAt_14 : decode (sk_cc m_M_faultAt) 14 = .ok (.ifCond .lt 8, 3) := by decide +kernel
theorem d_M_faultAt_17 : decode (sk_cc m_M_faultAt) 17 = .ok (.iload_n 2, 1) := by decide +kernel
theorem d_M_faultAt_18 : decode (sk_cc m_M_faultAt) 18 = .ok (.iconst 2, 1) := by decide +kernel
theorem d_M_faultAt_19 : decode (sk_cc m_M_faultAt) 19 = .ok (.if_icmp .le 7, 3) := by decide +kernel
theorem d_M_faultAt_22 : decode (sk_cc m_M_faultAt) 22 = .ok (.iconst 2, 1) := by decide +kernel
theorem d_M_faultAt_23 : decode (sk_cc m_M_faultAt) 23 = .ok (.goto 4, 3) := by decide +kernel
theorem d_M_faultAt_26 : decode (sk_cc m_M_faultAt) 26 = .ok (.iconst 0, 1) := by decide +kernel
theorem d_M_faultAt_27 : decode (sk_cc m_M_faultAt) 27 = .ok (.putfield 68, 3) := by decide +kernel
theorem d_M_faultAt_30 : decode (sk_cc m_M_faultAt) 30 = .ok (.aload_n 0, 1) := by decide +kernel
theorem d_M_faultAt_31 : decode (sk_cc m_M_faultAt) 31 = .ok (.getfield 68, 3) := by decide +kernel
theorem d_M_faultAt_34 : decode (sk_cc m_M_faultAt) 34 = .ok (.ifCond .le 5, 3) := by decide +kernel
theorem d_M_faultAt_37 : decode (sk_cc m_M_faultAt) 37 = .ok (.iconst 0, 1) := by decide +kernel
theorem d_M_faultAt_38 : decode (sk_cc m_M_faultAt) 38 = .ok (.ireturn, 1) := by decide +kernel
theorem d_M_faultAt_39 : decode (sk_cc m_M_faultAt) 39 = .ok (.iload_n 2, 1) := by decide +kernel
theorem d_M_faultAt_40 : decode (sk_cc m_M_faultAt) 40 = .ok (.ifCond .ne 14, 3) := by decide +kernel
theorem d_M_faultAt_43 : decode (sk_cc m_M_faultAt) 43 = .ok (.aload_n 0, 1) := by decide +kernel
theorem d_M_faultAt_44 : decode (sk_cc m_M_faultAt) 44 = .ok (.getfield 38, 3) := by decide +kernel
theorem d_M_faultAt_47 : decode (sk_cc m_M_faultAt) 47 = .ok (.iload_n 1, 1) := by decide +kernel
theorem d_M_faultAt_48 : decode (sk_cc m_M_faultAt) 48 = .ok (.iconst 2, 1) := by decide +kernel
theorem d_M_faultAt_49 : decode (sk_cc m_M_faultAt) 49 = .ok (.idiv, 1) := by decide +kernel
theorem d_M_faultAt_50 : decode (sk_cc m_M_faultAt) 50 = .ok (.iaload, 1) := by decide +kernel
theorem d_M_faultAt_51 : decode (sk_cc m_M_faultAt) 51 = .ok (.goto 22, 3) := by decide +kernel
theorem d_M_faultAt_54 : decode (sk_cc m_M_faultAt) 54 = .ok (.iload_n 2, 1) := by decide +kernel
theorem d_M_faultAt_55 : decode (sk_cc m_M_faultAt) 55 = .ok (.iconst 1, 1) := by decide +kernel
theorem d_M_faultAt_56 : decode (sk_cc m_M_faultAt) 56 = .ok (.if_icmp .ne 14, 3) := by decide +kernel
theorem d_M_faultAt_59 : decode (sk_cc m_M_faultAt) 59 = .ok (.aload_n 0, 1) := by decide +kernel
theorem d_M_faultAt_60 : decode (sk_cc m_M_faultAt) 60 = .ok (.getfield 41, 3) := by decide +kernel
theorem d_M_faultAt_63 : decode (sk_cc m_M_faultAt) 63 = .ok (.iload_n 1, 1) := by decide +kernel
theorem d_M_faultAt_64 : decode (sk_cc m_M_faultAt) 64 = .ok (.iconst 2, 1) := by decide +kernel
theorem d_M_faultAt_65 : decode (sk_cc m_M_faultAt) 65 = .ok (.idiv, 1) := by decide +kernel
theorem d_M_faultAt_66 : decode (sk_cc m_M_faultAt) 66 = .ok (.iaload, 1) := by decide +kernel
theorem d_M_faultAt_67 : decode (sk_cc m_M_faultAt) 67 = .ok (.goto 6, 3) := by decide +kernel
theorem d_M_faultAt_70 : decode (sk_cc m_M_faultAt) 70 = .ok (.iload_n 1, 1) := by decide +kernel
theorem d_M_faultAt_71 : decode (sk_cc m_M_faultAt) 71 = .ok (.iconst 2, 1) := by decide +kernel
theorem d_M_faultAt_72 : decode (sk_cc m_M_faultAt) 72 = .ok (.irem, 1) := by decide +kernel
theorem d_M_faultAt_73 : decode (sk_cc m_M_faultAt) 73 = .ok (.ireturn, 1) := by decide +kernel
theorem d_M_least_0 : decode (sk_cc m_M_least) 0 = .ok (.aload_n 0, 1) := by decide +kernel
theorem d_M_least_1 : decode (sk_cc m_M_least) 1 = .ok (.aload_n 0, 1) := by decide +kernel
theorem d_M_least_2 : decode (sk_cc m_M_least) 2 = .ok (.iload_n 1, 1) := by decide +kernel
theorem d_M_least_3 : decode (sk_cc m_M_least) 3 = .ok (.invokevirtual 129, 3) := by decide +kernel
theorem d_M_least_6 : decode (sk_cc m_M_least) 6 = .ok (.ifCond .eq 7, 3) := by decide +kernel
theorem d_M_least_9 : decode (sk_cc m_M_least) 9 = .ok (.iconst 1, 1) := by decide +kernel
theorem d_M_least_10 : decode (sk_cc m_M_least) 10 = .ok (.goto 4, 3) := by decide +kernel
theorem d_M_least_13 : decode (sk_cc m_M_least) 13 = .ok (.iconst 0, 1) := by decide +kernel
theorem d_M_least_14 : decode (sk_cc m_M_least) 14 = .ok (.putfield 68, 3) := by decide +kernel
theorem d_M_least_17 : decode (sk_cc m_M_least) 17 = .ok (.aload_n 0, 1) := by decide +kernel
theorem d_M_least_18 : decode (sk_cc m_M_least) 18 = .ok (.getfield 68, 3) := by decide +kernel
theorem d_M_least_21 : decode (sk_cc m_M_least) 21 = .ok (.ifCond .le 5, 3) := by decide +kernel
theorem d_M_least_24 : decode (sk_cc m_M_least) 24 = .ok (.iconst 0, 1) := by decide +kernel
theorem d_M_least_25 : decode (sk_cc m_M_least) 25 = .ok (.ireturn, 1) := by decide +kernel
theorem d_M_least_26 : decode (sk_cc m_M_least) 26 = .ok (.aload_n 0, 1) := by decide +kernel
theorem d_M_least_27 : decode (sk_cc m_M_least) 27 = .ok (.invokevirtual 119, 3) := by decide +kernel
theorem d_M_least_30 : decode (sk_cc m_M_least) 30 = .ok (.aload_n 0, 1) := by decide +kernel
theorem d_M_least_31 : decode (sk_cc m_M_least) 31 = .ok (.iload_n 1, 1) := by decide +kernel
theorem d_M_least_32 : decode (sk_cc m_M_least) 32 = .ok (.invokevirtual 122, 3) := by decide +kernel
theorem d_M_least_35 : decode (sk_cc m_M_least) 35 = .ok (.ireturn, 1) := by decide +kernel
theorem d_M_showing_0 : decode (sk_cc m_M_showing) 0 = .ok (.aload_n 0, 1) := by decide +kernel
theorem d_M_showing_1 : decode (sk_cc m_M_showing) 1 = .ok (.aload_n 0, 1) := by decide +kernel
theorem d_M_showing_2 : decode (sk_cc m_M_showing) 2 = .ok (.iload_n 1, 1) := by decide +kernel
theorem d_M_showing_3 : decode (sk_cc m_M_showing) 3 = .ok (.invokevirtual 129, 3) := by decide +kernel
theorem d_M_showing_6 : decode (sk_cc m_M_showing) 6 = .ok (.ifCond .eq 7, 3) := by decide +kernel
theorem d_M_showing_9 : decode (sk_cc m_M_showing) 9 = .ok (.iconst 1, 1) := by decide +kernel
theorem d_M_showing_10 : decode (sk_cc m_M_showing) 10 = .ok (.goto 4, 3) := by decide +kernel
theorem d_M_showing_13 : decode (sk_cc m_M_showing) 13 = .ok (.iconst 0, 1) := by decide +kernel
theorem d_M_showing_14 : decode (sk_cc m_M_showing) 14 = .ok (.putfield 68, 3) := by decide +kernel
theorem d_M_showing_17 : decode (sk_cc m_M_showing) 17 = .ok (.aload_n 0, 1) := by decide +kernel
theorem d_M_showing_18 : decode (sk_cc m_M_showing) 18 = .ok (.getfield 68, 3) := by decide +kernel
theorem d_M_showing_21 : decode (sk_cc m_M_showing) 21 = .ok (.ifCond .le 5, 3) := by decide +kernel
theorem d_M_showing_24 : decode (sk_cc m_M_showing) 24 = .ok (.lconst 0, 1) := by decide +kernel
theorem d_M_showing_25 : decode (sk_cc m_M_showing) 25 = .ok (.lreturn, 1) := by decide +kernel
theorem d_M_showing_26 : decode (sk_cc m_M_showing) 26 = .ok (.aload_n 0, 1) := by decide +kernel
theorem d_M_showing_27 : decode (sk_cc m_M_showing) 27 = .ok (.invokevirtual 119, 3) := by decide +kernel
theorem d_M_showing_30 : decode (sk_cc m_M_showing) 30 = .ok (.lconst 0, 1) := by decide +kernel
theorem d_M_showing_31 : decode (sk_cc m_M_showing) 31 = .ok (.lstore_n 2, 1) := by decide +kernel
theorem d_M_showing_32 : decode (sk_cc m_M_showing) 32 = .ok (.iconst 0, 1) := by decide +kernel
theorem d_M_showing_33 : decode (sk_cc m_M_showing) 33 = .ok (.istore 4, 2) := by decide +kernel
theorem d_M_showing_35 : decode (sk_cc m_M_showing) 35 = .ok (.iload 4, 2) := by decide +kernel
theorem d_M_showing_37 : decode (sk_cc m_M_showing) 37 = .ok (.aload_n 0, 1) := by decide +kernel
theorem d_M_showing_38 : decode (sk_cc m_M_showing) 38 = .ok (.invokevirtual 108, 3) := by decide +kernel
theorem d_M_showing_41 : decode (sk_cc m_M_showing) 41 = .ok (.if_icmp .ge 42, 3) := by decide +kernel
theorem d_M_showing_44 : decode (sk_cc m_M_showing) 44 = .ok (.aload_n 0, 1) := by decide +kernel
theorem d_M_showing_45 : decode (sk_cc m_M_showing) 45 = .ok (.getfield 50, 3) := by decide +kernel
theorem d_M_showing_48 : decode (sk_cc m_M_showing) 48 = .ok (.bipush 64, 2) := by decide +kernel
theorem d_M_showing_50 : decode (sk_cc m_M_showing) 50 = .ok (.iload_n 1, 1) := by decide +kernel
theorem d_M_showing_51 : decode (sk_cc m_M_showing) 51 = .ok (.imul, 1) := by decide +kernel
theorem d_M_showing_52 : decode (sk_cc m_M_showing) 52 = .ok (.iload 4, 2) := by decide +kernel
theorem d_M_showing_54 : decode (sk_cc m_M_showing) 54 = .ok (.iadd, 1) := by decide +kernel
theorem d_M_showing_55 : decode (sk_cc m_M_showing) 55 = .ok (.iaload, 1) := by decide +kernel
theorem d_M_showing_56 : decode (sk_cc m_M_showing) 56 = .ok (.aload_n 0, 1) := by decide +kernel
theorem d_M_showing_57 : decode (sk_cc m_M_showing) 57 = .ok (.getfield 53, 3) := by decide +kernel
theorem d_M_showing_60 : decode (sk_cc m_M_showing) 60 = .ok (.iload 4, 2) := by decide +kernel
theorem d_M_showing_62 : decode (sk_cc m_M_showing) 62 = .ok (.iaload, 1) := by decide +kernel
theorem d_M_showing_63 : decode (sk_cc m_M_showing) 63 = .ok (.if_icmp .eq 12, 3) := by decide +kernel
theorem d_M_showing_66 : decode (sk_cc m_M_showing) 66 = .ok (.lload_n 2, 1) := by decide +kernel
theorem d_M_showing_67 : decode (sk_cc m_M_showing) 67 = .ok (.lconst 1, 1) := by decide +kernel
theorem d_M_showing_68 : decode (sk_cc m_M_showing) 68 = .ok (.iload 4, 2) := by decide +kernel
theorem d_M_showing_70 : decode (sk_cc m_M_showing) 70 = .ok (.lshl, 1) := by decide +kernel
theorem d_M_showing_71 : decode (sk_cc m_M_showing) 71 = .ok (.lor, 1) := by decide +kernel
theorem d_M_showing_72 : decode (sk_cc m_M_showing) 72 = .ok (.goto 4, 3) := by decide +kernel
theorem d_M_showing_75 : decode (sk_cc m_M_showing) 75 = .ok (.lload_n 2, 1) := by decide +kernel
theorem d_M_showing_76 : decode (sk_cc m_M_showing) 76 = .ok (.lstore_n 2, 1) := by decide +kernel
theorem d_M_showing_77 : decode (sk_cc m_M_showing) 77 = .ok (.iinc 4 1, 3) := by decide +kernel
theorem d_M_showing_80 : decode (sk_cc m_M_showing) 80 = .ok (.goto (-45), 3) := by decide +kernel
theorem d_M_showing_83 : decode (sk_cc m_M_showing) 83 = .ok (.lload_n 2, 1) := by decide +kernel
theorem d_M_showing_84 : decode (sk_cc m_M_showing) 84 = .ok (.lreturn, 1) := by decide +kernel
theorem d_M_alike_0 : decode (sk_cc m_M_alike) 0 = .ok (.aload_n 0, 1) := by decide +kernel
theorem d_M_alike_1 : decode (sk_cc m_M_alike) 1 = .ok (.aload_n 0, 1) := by decide +kernel
theorem d_M_alike_2 : decode (sk_cc m_M_alike) 2 = .ok (.iload_n 1, 1) := by decide +kernel
theorem d_M_alike_3 : decode (sk_cc m_M_alike) 3 = .ok (.invokevirtual 129, 3) := by decide +kernel
theorem d_M_alike_6 : decode (sk_cc m_M_alike) 6 = .ok (.ifCond .eq 7, 3) := by decide +kernel
theorem d_M_alike_9 : decode (sk_cc m_M_alike) 9 = .ok (.iconst 1, 1) := by decide +kernel
theorem d_M_alike_10 : decode (sk_cc m_M_alike) 10 = .ok (.goto 4, 3) := by decide +kernel
theorem d_M_alike_13 : decode (sk_cc m_M_alike) 13 = .ok (.iconst 0, 1) := by decide +kernel
theorem d_M_alike_14 : decode (sk_cc m_M_alike) 14 = .ok (.putfield 68, 3) := by decide +kernel
theorem d_M_alike_17 : decode (sk_cc m_M_alike) 17 = .ok (.aload_n 0, 1) := by decide +kernel
theorem d_M_alike_18 : decode (sk_cc m_M_alike) 18 = .ok (.getfield 68, 3) := by decide +kernel
theorem d_M_alike_21 : decode (sk_cc m_M_alike) 21 = .ok (.ifCond .le 5, 3) := by decide +kernel
theorem d_M_alike_24 : decode (sk_cc m_M_alike) 24 = .ok (.iconst 0, 1) := by decide +kernel
theorem d_M_alike_25 : decode (sk_cc m_M_alike) 25 = .ok (.ireturn, 1) := by decide +kernel
theorem d_M_alike_26 : decode (sk_cc m_M_alike) 26 = .ok (.aload_n 0, 1) := by decide +kernel
theorem d_M_alike_27 : decode (sk_cc m_M_alike) 27 = .ok (.invokevirtual 119, 3) := by decide +kernel
theorem d_M_alike_30 : decode (sk_cc m_M_alike) 30 = .ok (.aload_n 0, 1) := by decide +kernel
theorem d_M_alike_31 : decode (sk_cc m_M_alike) 31 = .ok (.iload_n 1, 1) := by decide +kernel
theorem d_M_alike_32 : decode (sk_cc m_M_alike) 32 = .ok (.invokevirtual 126, 3) := by decide +kernel
theorem d_M_alike_35 : decode (sk_cc m_M_alike) 35 = .ok (.ireturn, 1) := by decide +kernel
theorem d_M_ternary_0 : decode (sk_cc m_M_ternary) 0 = .ok (.aload_n 0, 1) := by decide +kernel
theorem d_M_ternary_1 : decode (sk_cc m_M_ternary) 1 = .ok (.iload_n 3, 1) := by decide +kernel
theorem d_M_ternary_2 : decode (sk_cc m_M_ternary) 2 = .ok (.invokevirtual 100, 3) := by decide +kernel
theorem d_M_ternary_5 : decode (sk_cc m_M_ternary) 5 = .ok (.ifCond .ne 18, 3) := by decide +kernel
theorem d_M_ternary_8 : decode (sk_cc m_M_ternary) 8 = .ok (.iload 4, 2) := by decide +kernel
theorem d_M_ternary_10 : decode (sk_cc m_M_ternary) 10 = .ok (.iconst (-1), 1) := by decide +kernel
theorem d_M_ternary_11 : decode (sk_cc m_M_ternary) 11 = .ok (.if_icmp .eq 16, 3) := by decide +kernel
theorem d_M_ternary_14 : decode (sk_cc m_M_ternary) 14 = .ok (.aload_n 0, 1) := by decide +kernel
theorem d_M_ternary_15 : decode (sk_cc m_M_ternary) 15 = .ok (.iload 4, 2) := by decide +kernel
theorem d_M_ternary_17 : decode (sk_cc m_M_ternary) 17 = .ok (.invokevirtual 129, 3) := by decide +kernel
theorem d_M_ternary_20 : decode (sk_cc m_M_ternary) 20 = .ok (.ifCond .eq 7, 3) := by decide +kernel
theorem d_M_ternary_23 : decode (sk_cc m_M_ternary) 23 = .ok (.iconst 1, 1) := by decide +kernel
theorem d_M_ternary_24 : decode (sk_cc m_M_ternary) 24 = .ok (.goto 4, 3) := by decide +kernel
theorem d_M_ternary_27 : decode (sk_cc m_M_ternary) 27 = .ok (.iconst 0, 1) := by decide +kernel
theorem d_M_ternary_28 : decode (sk_cc m_M_ternary) 28 = .ok (.istore 5, 2) := by decide +kernel
theorem d_M_ternary_30 : decode (sk_cc m_M_ternary) 30 = .ok (.iload_n 1, 1) := by decide +kernel
theorem d_M_ternary_31 : decode (sk_cc m_M_ternary) 31 = .ok (.ifCond .lt 29, 3) := by decide +kernel
theorem d_M_ternary_34 : decode (sk_cc m_M_ternary) 34 = .ok (.iload_n 1, 1) := by decide +kernel
theorem d_M_ternary_35 : decode (sk_cc m_M_ternary) 35 = .ok (.aload_n 0, 1) := by decide +kernel
theorem d_M_ternary_36 : decode (sk_cc m_M_ternary) 36 = .ok (.invokevirtual 108, 3) := by decide +kernel
theorem d_M_ternary_39 : decode (sk_cc m_M_ternary) 39 = .ok (.if_icmp .ge 21, 3) := by decide +kernel
theorem d_M_ternary_42 : decode (sk_cc m_M_ternary) 42 = .ok (.iload_n 2, 1) := by decide +kernel
theorem d_M_ternary_43 : decode (sk_cc m_M_ternary) 43 = .ok (.ifCond .lt 17, 3) := by decide +kernel
theorem d_M_ternary_46 : decode (sk_cc m_M_ternary) 46 = .ok (.iload_n 2, 1) := by decide +kernel
theorem d_M_ternary_47 : decode (sk_cc m_M_ternary) 47 = .ok (.aload_n 0, 1) := by decide +kernel
theorem d_M_ternary_48 : decode (sk_cc m_M_ternary) 48 = .ok (.invokevirtual 108, 3) := by decide +kernel
theorem d_M_ternary_51 : decode (sk_cc m_M_ternary) 51 = .ok (.if_icmp .ge 9, 3) := by decide +kernel
theorem d_M_ternary_54 : decode (sk_cc m_M_ternary) 54 = .ok (.iload_n 1, 1) := by decide +kernel
theorem d_M_ternary_55 : decode (sk_cc m_M_ternary) 55 = .ok (.iload_n 2, 1) := by decide +kernel
theorem d_M_ternary_56 : decode (sk_cc m_M_ternary) 56 = .ok (.iand, 1) := by decide +kernel
theorem d_M_ternary_57 : decode (sk_cc m_M_ternary) 57 = .ok (.ifCond .eq 7, 3) := by decide +kernel
theorem d_M_ternary_60 : decode (sk_cc m_M_ternary) 60 = .ok (.iconst 1, 1) := by decide +kernel
theorem d_M_ternary_61 : decode (sk_cc m_M_ternary) 61 = .ok (.goto 4, 3) := by decide +kernel
theorem d_M_ternary_64 : decode (sk_cc m_M_ternary) 64 = .ok (.iconst 0, 1) := by decide +kernel
theorem d_M_ternary_65 : decode (sk_cc m_M_ternary) 65 = .ok (.istore 6, 2) := by decide +kernel
theorem d_M_ternary_67 : decode (sk_cc m_M_ternary) 67 = .ok (.aload_n 0, 1) := by decide +kernel
theorem d_M_ternary_68 : decode (sk_cc m_M_ternary) 68 = .ok (.iload 5, 2) := by decide +kernel
theorem d_M_ternary_70 : decode (sk_cc m_M_ternary) 70 = .ok (.ifCond .eq 7, 3) := by decide +kernel
theorem d_M_ternary_73 : decode (sk_cc m_M_ternary) 73 = .ok (.iconst 1, 1) := by decide +kernel
theorem d_M_ternary_74 : decode (sk_cc m_M_ternary) 74 = .ok (.goto 13, 3) := by decide +kernel
theorem d_M_ternary_77 : decode (sk_cc m_M_ternary) 77 = .ok (.iload 6, 2) := by decide +kernel
theorem d_M_ternary_79 : decode (sk_cc m_M_ternary) 79 = .ok (.ifCond .eq 7, 3) := by decide +kernel
theorem d_M_ternary_82 : decode (sk_cc m_M_ternary) 82 = .ok (.iconst 2, 1) := by decide +kernel
theorem d_M_ternary_83 : decode (sk_cc m_M_ternary) 83 = .ok (.goto 4, 3) := by decide +kernel
theorem d_M_ternary_86 : decode (sk_cc m_M_ternary) 86 = .ok (.iconst 0, 1) := by decide +kernel
theorem d_M_ternary_87 : decode (sk_cc m_M_ternary) 87 = .ok (.putfield 68, 3) := by decide +kernel
theorem d_M_ternary_90 : decode (sk_cc m_M_ternary) 90 = .ok (.aload_n 0, 1) := by decide +kernel
theorem d_M_ternary_91 : decode (sk_cc m_M_ternary) 91 = .ok (.getfield 68, 3) := by decide +kernel
theorem d_M_ternary_94 : decode (sk_cc m_M_ternary) 94 = .ok (.ifCond .le 5, 3) := by decide +kernel
theorem d_M_ternary_97 : decode (sk_cc m_M_ternary) 97 = .ok (.iconst 0, 1) := by decide +kernel
theorem d_M_ternary_98 : decode (sk_cc m_M_ternary) 98 = .ok (.ireturn, 1) := by decide +kernel
theorem d_M_ternary_99 : decode (sk_cc m_M_ternary) 99 = .ok (.aload_n 0, 1) := by decide +kernel
theorem d_M_ternary_100 : decode (sk_cc m_M_ternary) 100 = .ok (.iload_n 1, 1) := by decide +kernel
theorem d_M_ternary_101 : decode (sk_cc m_M_ternary) 101 = .ok (.iload_n 2, 1) := by decide +kernel
theorem d_M_ternary_102 : decode (sk_cc m_M_ternary) 102 = .ok (.iload 4, 2) := by decide +kernel
theorem d_M_ternary_104 : decode (sk_cc m_M_ternary) 104 = .ok (.invokevirtual 112, 3) := by decide +kernel
theorem d_M_ternary_107 : decode (sk_cc m_M_ternary) 107 = .ok (.aload_n 0, 1) := by decide +kernel
theorem d_M_ternary_108 : decode (sk_cc m_M_ternary) 108 = .ok (.getfield 44, 3) := by decide +kernel
theorem d_M_ternary_111 : decode (sk_cc m_M_ternary) 111 = .ok (.iload_n 3, 1) := by decide +kernel
theorem d_M_ternary_112 : decode (sk_cc m_M_ternary) 112 = .ok (.iaload, 1) := by decide +kernel
theorem d_M_ternary_113 : decode (sk_cc m_M_ternary) 113 = .ok (.ireturn, 1) := by decide +kernel
theorem d_M_cube_0 : decode (sk_cc m_M_cube) 0 = .ok (.aload_n 0, 1) := by decide +kernel
theorem d_M_cube_1 : decode (sk_cc m_M_cube) 1 = .ok (.aload_n 0, 1) := by decide +kernel
theorem d_M_cube_2 : decode (sk_cc m_M_cube) 2 = .ok (.iload_n 1, 1) := by decide +kernel
theorem d_M_cube_3 : decode (sk_cc m_M_cube) 3 = .ok (.invokevirtual 129, 3) := by decide +kernel
theorem d_M_cube_6 : decode (sk_cc m_M_cube) 6 = .ok (.ifCond .eq 7, 3) := by decide +kernel
theorem d_M_cube_9 : decode (sk_cc m_M_cube) 9 = .ok (.iconst 1, 1) := by decide +kernel
theorem d_M_cube_10 : decode (sk_cc m_M_cube) 10 = .ok (.goto 4, 3) := by decide +kernel
theorem d_M_cube_13 : decode (sk_cc m_M_cube) 13 = .ok (.iconst 0, 1) := by decide +kernel
theorem d_M_cube_14 : decode (sk_cc m_M_cube) 14 = .ok (.putfield 68, 3) := by decide +kernel
theorem d_M_cube_17 : decode (sk_cc m_M_cube) 17 = .ok (.aload_n 0, 1) := by decide +kernel
theorem d_M_cube_18 : decode (sk_cc m_M_cube) 18 = .ok (.getfield 68, 3) := by decide +kernel
theorem d_M_cube_21 : decode (sk_cc m_M_cube) 21 = .ok (.ifCond .le 5, 3) := by decide +kernel
theorem d_M_cube_24 : decode (sk_cc m_M_cube) 24 = .ok (.iconst 0, 1) := by decide +kernel
theorem d_M_cube_25 : decode (sk_cc m_M_cube) 25 = .ok (.ireturn, 1) := by decide +kernel
theorem d_M_cube_26 : decode (sk_cc m_M_cube) 26 = .ok (.aload_n 0, 1) := by decide +kernel
theorem d_M_cube_27 : decode (sk_cc m_M_cube) 27 = .ok (.invokevirtual 119, 3) := by decide +kernel
theorem d_M_cube_30 : decode (sk_cc m_M_cube) 30 = .ok (.aload_n 0, 1) := by decide +kernel
theorem d_M_cube_31 : decode (sk_cc m_M_cube) 31 = .ok (.iload_n 1, 1) := by decide +kernel
theorem d_M_cube_32 : decode (sk_cc m_M_cube) 32 = .ok (.invokevirtual 122, 3) := by decide +kernel
theorem d_M_cube_35 : decode (sk_cc m_M_cube) 35 = .ok (.istore_n 2, 1) := by decide +kernel
theorem d_M_cube_36 : decode (sk_cc m_M_cube) 36 = .ok (.iload_n 2, 1) := by decide +kernel
theorem d_M_cube_37 : decode (sk_cc m_M_cube) 37 = .ok (.ifCond .ge 5, 3) := by decide +kernel
theorem d_M_cube_40 : decode (sk_cc m_M_cube) 40 = .ok (.iconst (-1), 1) := by decide +kernel
theorem d_M_cube_41 : decode (sk_cc m_M_cube) 41 = .ok (.ireturn, 1) := by decide +kernel
theorem d_M_cube_42 : decode (sk_cc m_M_cube) 42 = .ok (.iconst 0, 1) := by decide +kernel
theorem d_M_cube_43 : decode (sk_cc m_M_cube) 43 = .ok (.istore_n 3, 1) := by decide +kernel
theorem d_M_cube_44 : decode (sk_cc m_M_cube) 44 = .ok (.iconst 0, 1) := by decide +kernel
theorem d_M_cube_45 : decode (sk_cc m_M_cube) 45 = .ok (.istore 4, 2) := by decide +kernel
theorem d_M_cube_47 : decode (sk_cc m_M_cube) 47 = .ok (.iload 4, 2) := by decide +kernel
theorem d_M_cube_49 : decode (sk_cc m_M_cube) 49 = .ok (.aload_n 0, 1) := by decide +kernel
theorem d_M_cube_50 : decode (sk_cc m_M_cube) 50 = .ok (.getfield 75, 3) := by decide +kernel
theorem d_M_cube_53 : decode (sk_cc m_M_cube) 53 = .ok (.if_icmp .ge 45, 3) := by decide +kernel
theorem d_M_cube_56 : decode (sk_cc m_M_cube) 56 = .ok (.iconst 1, 1) := by decide +kernel
theorem d_M_cube_57 : decode (sk_cc m_M_cube) 57 = .ok (.iload 4, 2) := by decide +kernel
theorem d_M_cube_59 : decode (sk_cc m_M_cube) 59 = .ok (.ishl, 1) := by decide +kernel
theorem d_M_cube_60 : decode (sk_cc m_M_cube) 60 = .ok (.istore 5, 2) := by decide +kernel
theorem d_M_cube_62 : decode (sk_cc m_M_cube) 62 = .ok (.aload_n 0, 1) := by decide +kernel
theorem d_M_cube_63 : decode (sk_cc m_M_cube) 63 = .ok (.iload_n 3, 1) := by decide +kernel
theorem d_M_cube_64 : decode (sk_cc m_M_cube) 64 = .ok (.iload 5, 2) := by decide +kernel
theorem d_M_cube_66 : decode (sk_cc m_M_cube) 66 = .ok (.ior, 1) := by decide +kernel
theorem d_M_cube_67 : decode (sk_cc m_M_cube) 67 = .ok (.iload_n 2, 1) := by decide +kernel
theorem d_M_cube_68 : decode (sk_cc m_M_cube) 68 = .ok (.iload 5, 2) := by decide +kernel
theorem d_M_cube_70 : decode (sk_cc m_M_cube) 70 = .ok (.iconst (-1), 1) := by decide +kernel
theorem d_M_cube_71 : decode (sk_cc m_M_cube) 71 = .ok (.ixor, 1) := by decide +kernel
theorem d_M_cube_72 : decode (sk_cc m_M_cube) 72 = .ok (.iand, 1) := by decide +kernel
theorem d_M_cube_73 : decode (sk_cc m_M_cube) 73 = .ok (.iload_n 1, 1) := by decide +kernel
theorem d_M_cube_74 : decode (sk_cc m_M_cube) 74 = .ok (.invokevirtual 132, 3) := by decide +kernel
theorem d_M_cube_77 : decode (sk_cc m_M_cube) 77 = .ok (.ifCond .eq 15, 3) := by decide +kernel
theorem d_M_cube_80 : decode (sk_cc m_M_cube) 80 = .ok (.iload_n 3, 1) := by decide +kernel
theorem d_M_cube_81 : decode (sk_cc m_M_cube) 81 = .ok (.iload 5, 2) := by decide +kernel
theorem d_M_cube_83 : decode (sk_cc m_M_cube) 83 = .ok (.ior, 1) := by decide +kernel
theorem d_M_cube_84 : decode (sk_cc m_M_cube) 84 = .ok (.istore_n 3, 1) := by decide +kernel
theorem d_M_cube_85 : decode (sk_cc m_M_cube) 85 = .ok (.iload_n 2, 1) := by decide +kernel
theorem d_M_cube_86 : decode (sk_cc m_M_cube) 86 = .ok (.iload 5, 2) := by decide +kernel
theorem d_M_cube_88 : decode (sk_cc m_M_cube) 88 = .ok (.iconst (-1), 1) := by decide +kernel
theorem d_M_cube_89 : decode (sk_cc m_M_cube) 89 = .ok (.ixor, 1) := by decide +kernel
theorem d_M_cube_90 : decode (sk_cc m_M_cube) 90 = .ok (.iand, 1) := by decide +kernel
theorem d_M_cube_91 : decode (sk_cc m_M_cube) 91 = .ok (.istore_n 2, 1) := by decide +kernel
theorem d_M_cube_92 : decode (sk_cc m_M_cube) 92 = .ok (.iinc 4 1, 3) := by decide +kernel
theorem d_M_cube_95 : decode (sk_cc m_M_cube) 95 = .ok (.goto (-48), 3) := by decide +kernel
theorem d_M_cube_98 : decode (sk_cc m_M_cube) 98 = .ok (.bipush 64, 2) := by decide +kernel
theorem d_M_cube_100 : decode (sk_cc m_M_cube) 100 = .ok (.iload_n 3, 1) := by decide +kernel
theorem d_M_cube_101 : decode (sk_cc m_M_cube) 101 = .ok (.imul, 1) := by decide +kernel
theorem d_M_cube_102 : decode (sk_cc m_M_cube) 102 = .ok (.iload_n 2, 1) := by decide +kernel
theorem d_M_cube_103 : decode (sk_cc m_M_cube) 103 = .ok (.iadd, 1) := by decide +kernel
theorem d_M_cube_104 : decode (sk_cc m_M_cube) 104 = .ok (.ireturn, 1) := by decide +kernel
theorem d_M_tells_0 : decode (sk_cc m_M_tells) 0 = .ok (.aload_n 0, 1) := by decide +kernel
theorem d_M_tells_1 : decode (sk_cc m_M_tells) 1 = .ok (.iload_n 1, 1) := by decide +kernel
theorem d_M_tells_2 : decode (sk_cc m_M_tells) 2 = .ok (.iload_n 2, 1) := by decide +kernel
theorem d_M_tells_3 : decode (sk_cc m_M_tells) 3 = .ok (.iconst (-1), 1) := by decide +kernel
theorem d_M_tells_4 : decode (sk_cc m_M_tells) 4 = .ok (.invokevirtual 112, 3) := by decide +kernel
theorem d_M_tells_7 : decode (sk_cc m_M_tells) 7 = .ok (.iconst 0, 1) := by decide +kernel
theorem d_M_tells_8 : decode (sk_cc m_M_tells) 8 = .ok (.istore 4, 2) := by decide +kernel
theorem d_M_tells_10 : decode (sk_cc m_M_tells) 10 = .ok (.iload 4, 2) := by decide +kernel
theorem d_M_tells_12 : decode (sk_cc m_M_tells) 12 = .ok (.aload_n 0, 1) := by decide +kernel
theorem d_M_tells_13 : decode (sk_cc m_M_tells) 13 = .ok (.getfield 91, 3) := by decide +kernel
theorem d_M_tells_16 : decode (sk_cc m_M_tells) 16 = .ok (.if_icmp .ge 28, 3) := by decide +kernel
theorem d_M_tells_19 : decode (sk_cc m_M_tells) 19 = .ok (.aload_n 0, 1) := by decide +kernel
theorem d_M_tells_20 : decode (sk_cc m_M_tells) 20 = .ok (.getfield 47, 3) := by decide +kernel
theorem d_M_tells_23 : decode (sk_cc m_M_tells) 23 = .ok (.iload 4, 2) := by decide +kernel
theorem d_M_tells_25 : decode (sk_cc m_M_tells) 25 = .ok (.aload_n 0, 1) := by decide +kernel
theorem d_M_tells_26 : decode (sk_cc m_M_tells) 26 = .ok (.getfield 44, 3) := by decide +kernel
theorem d_M_tells_29 : decode (sk_cc m_M_tells) 29 = .ok (.aload_n 0, 1) := by decide +kernel
theorem d_M_tells_30 : decode (sk_cc m_M_tells) 30 = .ok (.getfield 35, 3) := by decide +kernel
theorem d_M_tells_33 : decode (sk_cc m_M_tells) 33 = .ok (.iload 4, 2) := by decide +kernel
theorem d_M_tells_35 : decode (sk_cc m_M_tells) 35 = .ok (.iaload, 1) := by decide +kernel
theorem d_M_tells_36 : decode (sk_cc m_M_tells) 36 = .ok (.iaload, 1) := by decide +kernel
theorem d_M_tells_37 : decode (sk_cc m_M_tells) 37 = .ok (.iastore, 1) := by decide +kernel
theorem d_M_tells_38 : decode (sk_cc m_M_tells) 38 = .ok (.iinc 4 1, 3) := by decide +kernel
theorem d_M_tells_41 : decode (sk_cc m_M_tells) 41 = .ok (.goto (-31), 3) := by decide +kernel
theorem d_M_tells_44 : decode (sk_cc m_M_tells) 44 = .ok (.aload_n 0, 1) := by decide +kernel
theorem d_M_tells_45 : decode (sk_cc m_M_tells) 45 = .ok (.iload_n 1, 1) := by decide +kernel
theorem d_M_tells_46 : decode (sk_cc m_M_tells) 46 = .ok (.iload_n 2, 1) := by decide +kernel
theorem d_M_tells_47 : decode (sk_cc m_M_tells) 47 = .ok (.iload_n 3, 1) := by decide +kernel
theorem d_M_tells_48 : decode (sk_cc m_M_tells) 48 = .ok (.invokevirtual 112, 3) := by decide +kernel
theorem d_M_tells_51 : decode (sk_cc m_M_tells) 51 = .ok (.iconst 0, 1) := by decide +kernel
theorem d_M_tells_52 : decode (sk_cc m_M_tells) 52 = .ok (.istore 4, 2) := by decide +kernel
theorem d_M_tells_54 : decode (sk_cc m_M_tells) 54 = .ok (.iconst 0, 1) := by decide +kernel
theorem d_M_tells_55 : decode (sk_cc m_M_tells) 55 = .ok (.istore 5, 2) := by decide +kernel
theorem d_M_tells_57 : decode (sk_cc m_M_tells) 57 = .ok (.iload 5, 2) := by decide +kernel
theorem d_M_tells_59 : decode (sk_cc m_M_tells) 59 = .ok (.aload_n 0, 1) := by decide +kernel
theorem d_M_tells_60 : decode (sk_cc m_M_tells) 60 = .ok (.getfield 91, 3) := by decide +kernel
theorem d_M_tells_63 : decode (sk_cc m_M_tells) 63 = .ok (.if_icmp .ge 55, 3) := by decide +kernel
theorem d_M_tells_66 : decode (sk_cc m_M_tells) 66 = .ok (.aload_n 0, 1) := by decide +kernel
theorem d_M_tells_67 : decode (sk_cc m_M_tells) 67 = .ok (.getfield 44, 3) := by decide +kernel
theorem d_M_tells_70 : decode (sk_cc m_M_tells) 70 = .ok (.aload_n 0, 1) := by decide +kernel
theorem d_M_tells_71 : decode (sk_cc m_M_tells) 71 = .ok (.getfield 35, 3) := by decide +kernel
theorem d_M_tells_74 : decode (sk_cc m_M_tells) 74 = .ok (.iload 5, 2) := by decide +kernel
theorem d_M_tells_76 : decode (sk_cc m_M_tells) 76 = .ok (.iaload, 1) := by decide +kernel
theorem d_M_tells_77 : decode (sk_cc m_M_tells) 77 = .ok (.iaload, 1) := by decide +kernel
theorem d_M_tells_78 : decode (sk_cc m_M_tells) 78 = .ok (.istore 6, 2) := by decide +kernel
theorem d_M_tells_80 : decode (sk_cc m_M_tells) 80 = .ok (.iload 4, 2) := by decide +kernel
theorem d_M_tells_82 : decode (sk_cc m_M_tells) 82 = .ok (.ifCond .ne 23, 3) := by decide +kernel
theorem d_M_tells_85 : decode (sk_cc m_M_tells) 85 = .ok (.iload 6, 2) := by decide +kernel
theorem d_M_tells_87 : decode (sk_cc m_M_tells) 87 = .ok (.iconst 2, 1) := by decide +kernel
theorem d_M_tells_88 : decode (sk_cc m_M_tells) 88 = .ok (.if_icmp .ge 21, 3) := by decide +kernel
theorem d_M_tells_91 : decode (sk_cc m_M_tells) 91 = .ok (.aload_n 0, 1) := by decide +kernel
theorem d_M_tells_92 : decode (sk_cc m_M_tells) 92 = .ok (.getfield 47, 3) := by decide +kernel
theorem d_M_tells_95 : decode (sk_cc m_M_tells) 95 = .ok (.iload 5, 2) := by decide +kernel
theorem d_M_tells_97 : decode (sk_cc m_M_tells) 97 = .ok (.iaload, 1) := by decide +kernel
theorem d_M_tells_98 : decode (sk_cc m_M_tells) 98 = .ok (.iconst 1, 1) := by decide +kernel
theorem d_M_tells_99 : decode (sk_cc m_M_tells) 99 = .ok (.iload 6, 2) := by decide +kernel
theorem d_M_tells_101 : decode (sk_cc m_M_tells) 101 = .ok (.isub, 1) := by decide +kernel
theorem d_M_tells_102 : decode (sk_cc m_M_tells) 102 = .ok (.if_icmp .ne 7, 3) := by decide +kernel
theorem d_M_tells_105 : decode (sk_cc m_M_tells) 105 = .ok (.iconst 1, 1) := by decide +kernel
theorem d_M_tells_106 : decode (sk_cc m_M_tells) 106 = .ok (.goto 4, 3) := by decide +kernel
theorem d_M_tells_109 : decode (sk_cc m_M_tells) 109 = .ok (.iconst 0, 1) := by decide +kernel
theorem d_M_tells_110 : decode (sk_cc m_M_tells) 110 = .ok (.istore 4, 2) := by decide +kernel
theorem d_M_tells_112 : decode (sk_cc m_M_tells) 112 = .ok (.iinc 5 1, 3) := by decide +kernel
theorem d_M_tells_115 : decode (sk_cc m_M_tells) 115 = .ok (.goto (-58), 3) := by decide +kernel
theorem d_M_tells_118 : decode (sk_cc m_M_tells) 118 = .ok (.iload 4, 2) := by decide +kernel
theorem d_M_tells_120 : decode (sk_cc m_M_tells) 120 = .ok (.ireturn, 1) := by decide +kernel
theorem d_M_packed_0 : decode (sk_cc m_M_packed) 0 = .ok (.aload_n 0, 1) := by decide +kernel
theorem d_M_packed_1 : decode (sk_cc m_M_packed) 1 = .ok (.iconst 0, 1) := by decide +kernel
theorem d_M_packed_2 : decode (sk_cc m_M_packed) 2 = .ok (.putfield 68, 3) := by decide +kernel
theorem d_M_packed_5 : decode (sk_cc m_M_packed) 5 = .ok (.aload_n 0, 1) := by decide +kernel
theorem d_M_packed_6 : decode (sk_cc m_M_packed) 6 = .ok (.invokevirtual 143, 3) := by decide +kernel
theorem d_M_packed_9 : decode (sk_cc m_M_packed) 9 = .ok (.iconst 0, 1) := by decide +kernel
theorem d_M_packed_10 : decode (sk_cc m_M_packed) 10 = .ok (.istore_n 2, 1) := by decide +kernel
theorem d_M_packed_11 : decode (sk_cc m_M_packed) 11 = .ok (.iconst 0, 1) := by decide +kernel
theorem d_M_packed_12 : decode (sk_cc m_M_packed) 12 = .ok (.istore_n 3, 1) := by decide +kernel
theorem d_M_packed_13 : decode (sk_cc m_M_packed) 13 = .ok (.iload_n 3, 1) := by decide +kernel
theorem d_M_packed_14 : decode (sk_cc m_M_packed) 14 = .ok (.aload_n 0, 1) := by decide +kernel
theorem d_M_packed_15 : decode (sk_cc m_M_packed) 15 = .ok (.getfield 136, 3) := by decide +kernel
theorem d_M_packed_18 : decode (sk_cc m_M_packed) 18 = .ok (.if_icmp .ge 33, 3) := by decide +kernel
theorem d_M_packed_21 : decode (sk_cc m_M_packed) 21 = .ok (.aload_n 0, 1) := by decide +kernel
theorem d_M_packed_22 : decode (sk_cc m_M_packed) 22 = .ok (.getfield 59, 3) := by decide +kernel
theorem d_M_packed_25 : decode (sk_cc m_M_packed) 25 = .ok (.iload_n 3, 1) := by decide +kernel
theorem d_M_packed_26 : decode (sk_cc m_M_packed) 26 = .ok (.baload, 1) := by decide +kernel
theorem d_M_packed_27 : decode (sk_cc m_M_packed) 27 = .ok (.ifCond .ne 18, 3) := by decide +kernel
theorem d_M_packed_30 : decode (sk_cc m_M_packed) 30 = .ok (.iload_n 2, 1) := by decide +kernel
theorem d_M_packed_31 : decode (sk_cc m_M_packed) 31 = .ok (.iload_n 1, 1) := by decide +kernel
theorem d_M_packed_32 : decode (sk_cc m_M_packed) 32 = .ok (.if_icmp .ne 10, 3) := by decide +kernel
theorem d_M_packed_35 : decode (sk_cc m_M_packed) 35 = .ok (.aload_n 0, 1) := by decide +kernel
theorem d_M_packed_36 : decode (sk_cc m_M_packed) 36 = .ok (.getfield 56, 3) := by decide +kernel
theorem d_M_packed_39 : decode (sk_cc m_M_packed) 39 = .ok (.iload_n 3, 1) := by decide +kernel
theorem d_M_packed_40 : decode (sk_cc m_M_packed) 40 = .ok (.iaload, 1) := by decide +kernel
theorem d_M_packed_41 : decode (sk_cc m_M_packed) 41 = .ok (.ireturn, 1) := by decide +kernel
theorem d_M_packed_42 : decode (sk_cc m_M_packed) 42 = .ok (.iinc 2 1, 3) := by decide +kernel
theorem d_M_packed_45 : decode (sk_cc m_M_packed) 45 = .ok (.iinc 3 1, 3) := by decide +kernel
theorem d_M_packed_48 : decode (sk_cc m_M_packed) 48 = .ok (.goto (-35), 3) := by decide +kernel
theorem d_M_packed_51 : decode (sk_cc m_M_packed) 51 = .ok (.iconst (-1), 1) := by decide +kernel
theorem d_M_packed_52 : decode (sk_cc m_M_packed) 52 = .ok (.ireturn, 1) := by decide +kernel
theorem d_M_pack_0 : decode (sk_cc m_M_pack) 0 = .ok (.aload_n 0, 1) := by decide +kernel
theorem d_M_pack_1 : decode (sk_cc m_M_pack) 1 = .ok (.getfield 85, 3) := by decide +kernel
theorem d_M_pack_4 : decode (sk_cc m_M_pack) 4 = .ok (.ifCond .eq 4, 3) := by decide +kernel
theorem d_M_pack_7 : decode (sk_cc m_M_pack) 7 = .ok (.return_, 1) := by decide +kernel
theorem d_M_pack_8 : decode (sk_cc m_M_pack) 8 = .ok (.aload_n 0, 1) := by decide +kernel
theorem d_M_pack_9 : decode (sk_cc m_M_pack) 9 = .ok (.iconst 1, 1) := by decide +kernel
theorem d_M_pack_10 : decode (sk_cc m_M_pack) 10 = .ok (.putfield 85, 3) := by decide +kernel
theorem d_M_pack_13 : decode (sk_cc m_M_pack) 13 = .ok (.aload_n 0, 1) := by decide +kernel
theorem d_M_pack_14 : decode (sk_cc m_M_pack) 14 = .ok (.invokevirtual 119, 3) := by decide +kernel
theorem d_M_pack_17 : decode (sk_cc m_M_pack) 17 = .ok (.aload_n 0, 1) := by decide +kernel
theorem d_M_pack_18 : decode (sk_cc m_M_pack) 18 = .ok (.iconst 0, 1) := by decide +kernel
theorem d_M_pack_19 : decode (sk_cc m_M_pack) 19 = .ok (.putfield 136, 3) := by decide +kernel
theorem d_M_pack_22 : decode (sk_cc m_M_pack) 22 = .ok (.iconst 0, 1) := by decide +kernel
theorem d_M_pack_23 : decode (sk_cc m_M_pack) 23 = .ok (.istore_n 1, 1) := by decide +kernel
theorem d_M_pack_24 : decode (sk_cc m_M_pack) 24 = .ok (.iload_n 1, 1) := by decide +kernel
theorem d_M_pack_25 : decode (sk_cc m_M_pack) 25 = .ok (.iconst 2, 1) := by decide +kernel
theorem d_M_pack_26 : decode (sk_cc m_M_pack) 26 = .ok (.aload_n 0, 1) := by decide +kernel
theorem d_M_pack_27 : decode (sk_cc m_M_pack) 27 = .ok (.getfield 78, 3) := by decide +kernel
theorem d_M_pack_30 : decode (sk_cc m_M_pack) 30 = .ok (.imul, 1) := by decide +kernel
theorem d_M_pack_31 : decode (sk_cc m_M_pack) 31 = .ok (.if_icmp .ge 58, 3) := by decide +kernel
theorem d_M_pack_34 : decode (sk_cc m_M_pack) 34 = .ok (.aload_n 0, 1) := by decide +kernel
theorem d_M_pack_35 : decode (sk_cc m_M_pack) 35 = .ok (.iload_n 1, 1) := by decide +kernel
theorem d_M_pack_36 : decode (sk_cc m_M_pack) 36 = .ok (.invokevirtual 122, 3) := by decide +kernel
theorem d_M_pack_39 : decode (sk_cc m_M_pack) 39 = .ok (.istore_n 2, 1) := by decide +kernel
theorem d_M_pack_40 : decode (sk_cc m_M_pack) 40 = .ok (.iload_n 2, 1) := by decide +kernel
theorem d_M_pack_41 : decode (sk_cc m_M_pack) 41 = .ok (.ifCond .lt 42, 3) := by decide +kernel
theorem d_M_pack_44 : decode (sk_cc m_M_pack) 44 = .ok (.aload_n 0, 1) := by decide +kernel
theorem d_M_pack_45 : decode (sk_cc m_M_pack) 45 = .ok (.iload_n 1, 1) := by decide +kernel
theorem d_M_pack_46 : decode (sk_cc m_M_pack) 46 = .ok (.iconst (-1), 1) := by decide +kernel
theorem d_M_pack_47 : decode (sk_cc m_M_pack) 47 = .ok (.invokevirtual 139, 3) := by decide +kernel
theorem d_M_pack_50 : decode (sk_cc m_M_pack) 50 = .ok (.ifCond .ne 33, 3) := by decide +kernel
theorem d_M_pack_53 : decode (sk_cc m_M_pack) 53 = .ok (.aload_n 0, 1) := by decide +kernel
theorem d_M_pack_54 : decode (sk_cc m_M_pack) 54 = .ok (.getfield 56, 3) := by decide +kernel
theorem d_M_pack_57 : decode (sk_cc m_M_pack) 57 = .ok (.aload_n 0, 1) := by decide +kernel
theorem d_M_pack_58 : decode (sk_cc m_M_pack) 58 = .ok (.getfield 136, 3) := by decide +kernel
theorem d_M_pack_61 : decode (sk_cc m_M_pack) 61 = .ok (.iload_n 2, 1) := by decide +kernel
theorem d_M_pack_62 : decode (sk_cc m_M_pack) 62 = .ok (.iastore, 1) := by decide +kernel
theorem d_M_pack_63 : decode (sk_cc m_M_pack) 63 = .ok (.aload_n 0, 1) := by decide +kernel
theorem d_M_pack_64 : decode (sk_cc m_M_pack) 64 = .ok (.getfield 59, 3) := by decide +kernel
theorem d_M_pack_67 : decode (sk_cc m_M_pack) 67 = .ok (.aload_n 0, 1) := by decide +kernel
theorem d_M_pack_68 : decode (sk_cc m_M_pack) 68 = .ok (.getfield 136, 3) := by decide +kernel
theorem d_M_pack_71 : decode (sk_cc m_M_pack) 71 = .ok (.iconst 0, 1) := by decide +kernel
theorem d_M_pack_72 : decode (sk_cc m_M_pack) 72 = .ok (.bastore, 1) := by decide +kernel
theorem d_M_pack_73 : decode (sk_cc m_M_pack) 73 = .ok (.aload_n 0, 1) := by decide +kernel
theorem d_M_pack_74 : decode (sk_cc m_M_pack) 74 = .ok (.dup, 1) := by decide +kernel
theorem d_M_pack_75 : decode (sk_cc m_M_pack) 75 = .ok (.getfield 136, 3) := by decide +kernel
theorem d_M_pack_78 : decode (sk_cc m_M_pack) 78 = .ok (.iconst 1, 1) := by decide +kernel
theorem d_M_pack_79 : decode (sk_cc m_M_pack) 79 = .ok (.iadd, 1) := by decide +kernel
theorem d_M_pack_80 : decode (sk_cc m_M_pack) 80 = .ok (.putfield 136, 3) := by decide +kernel
theorem d_M_pack_83 : decode (sk_cc m_M_pack) 83 = .ok (.iinc 1 1, 3) := by decide +kernel
theorem d_M_pack_86 : decode (sk_cc m_M_pack) 86 = .ok (.goto (-62), 3) := by decide +kernel
theorem d_M_pack_89 : decode (sk_cc m_M_pack) 89 = .ok (.aload_n 0, 1) := by decide +kernel
theorem d_M_pack_90 : decode (sk_cc m_M_pack) 90 = .ok (.getfield 136, 3) := by decide +kernel
theorem d_M_pack_93 : decode (sk_cc m_M_pack) 93 = .ok (.iconst 1, 1) := by decide +kernel
theorem d_M_pack_94 : decode (sk_cc m_M_pack) 94 = .ok (.isub, 1) := by decide +kernel
theorem d_M_pack_95 : decode (sk_cc m_M_pack) 95 = .ok (.istore_n 1, 1) := by decide +kernel
theorem d_M_pack_96 : decode (sk_cc m_M_pack) 96 = .ok (.iload_n 1, 1) := by decide +kernel
theorem d_M_pack_97 : decode (sk_cc m_M_pack) 97 = .ok (.ifCond .lt 63, 3) := by decide +kernel
theorem d_M_pack_100 : decode (sk_cc m_M_pack) 100 = .ok (.iconst 1, 1) := by decide +kernel
theorem d_M_pack_101 : decode (sk_cc m_M_pack) 101 = .ok (.istore_n 2, 1) := by decide +kernel
theorem d_M_pack_102 : decode (sk_cc m_M_pack) 102 = .ok (.iconst 0, 1) := by decide +kernel
theorem d_M_pack_103 : decode (sk_cc m_M_pack) 103 = .ok (.istore_n 3, 1) := by decide +kernel
theorem d_M_pack_104 : decode (sk_cc m_M_pack) 104 = .ok (.iload_n 3, 1) := by decide +kernel
theorem d_M_pack_105 : decode (sk_cc m_M_pack) 105 = .ok (.iconst 2, 1) := by decide +kernel
theorem d_M_pack_106 : decode (sk_cc m_M_pack) 106 = .ok (.aload_n 0, 1) := by decide +kernel
theorem d_M_pack_107 : decode (sk_cc m_M_pack) 107 = .ok (.getfield 78, 3) := by decide +kernel
theorem d_M_pack_110 : decode (sk_cc m_M_pack) 110 = .ok (.imul, 1) := by decide +kernel
theorem d_M_pack_111 : decode (sk_cc m_M_pack) 111 = .ok (.if_icmp .ge 36, 3) := by decide +kernel
theorem d_M_pack_114 : decode (sk_cc m_M_pack) 114 = .ok (.iload_n 2, 1) := by decide +kernel
theorem d_M_pack_115 : decode (sk_cc m_M_pack) 115 = .ok (.ifCond .eq 24, 3) := by decide +kernel
theorem d_M_pack_118 : decode (sk_cc m_M_pack) 118 = .ok (.aload_n 0, 1) := by decide +kernel
theorem d_M_pack_119 : decode (sk_cc m_M_pack) 119 = .ok (.iload_n 3, 1) := by decide +kernel
theorem d_M_pack_120 : decode (sk_cc m_M_pack) 120 = .ok (.invokevirtual 122, 3) := by decide +kernel
theorem d_M_pack_123 : decode (sk_cc m_M_pack) 123 = .ok (.ifCond .lt 12, 3) := by decide +kernel
theorem d_M_pack_126 : decode (sk_cc m_M_pack) 126 = .ok (.aload_n 0, 1) := by decide +kernel
theorem d_M_pack_127 : decode (sk_cc m_M_pack) 127 = .ok (.iload_n 3, 1) := by decide +kernel
theorem d_M_pack_128 : decode (sk_cc m_M_pack) 128 = .ok (.iload_n 1, 1) := by decide +kernel
theorem d_M_pack_129 : decode (sk_cc m_M_pack) 129 = .ok (.invokevirtual 139, 3) := by decide +kernel
theorem d_M_pack_132 : decode (sk_cc m_M_pack) 132 = .ok (.ifCond .eq 7, 3) := by decide +kernel
theorem d_M_pack_135 : decode (sk_cc m_M_pack) 135 = .ok (.iconst 1, 1) := by decide +kernel
theorem d_M_pack_136 : decode (sk_cc m_M_pack) 136 = .ok (.goto 4, 3) := by decide +kernel
theorem d_M_pack_139 : decode (sk_cc m_M_pack) 139 = .ok (.iconst 0, 1) := by decide +kernel
theorem d_M_pack_140 : decode (sk_cc m_M_pack) 140 = .ok (.istore_n 2, 1) := by decide +kernel
theorem d_M_pack_141 : decode (sk_cc m_M_pack) 141 = .ok (.iinc 3 1, 3) := by decide +kernel
theorem d_M_pack_144 : decode (sk_cc m_M_pack) 144 = .ok (.goto (-40), 3) := by decide +kernel
theorem d_M_pack_147 : decode (sk_cc m_M_pack) 147 = .ok (.aload_n 0, 1) := by decide +kernel
theorem d_M_pack_148 : decode (sk_cc m_M_pack) 148 = .ok (.getfield 59, 3) := by decide +kernel
theorem d_M_pack_151 : decode (sk_cc m_M_pack) 151 = .ok (.iload_n 1, 1) := by decide +kernel
theorem d_M_pack_152 : decode (sk_cc m_M_pack) 152 = .ok (.iload_n 2, 1) := by decide +kernel
theorem d_M_pack_153 : decode (sk_cc m_M_pack) 153 = .ok (.bastore, 1) := by decide +kernel
theorem d_M_pack_154 : decode (sk_cc m_M_pack) 154 = .ok (.iinc 1 (-1), 3) := by decide +kernel
theorem d_M_pack_157 : decode (sk_cc m_M_pack) 157 = .ok (.goto (-61), 3) := by decide +kernel
theorem d_M_pack_160 : decode (sk_cc m_M_pack) 160 = .ok (.return_, 1) := by decide +kernel
theorem d_M_covered_0 : decode (sk_cc m_M_covered) 0 = .ok (.iconst 0, 1) := by decide +kernel
theorem d_M_covered_1 : decode (sk_cc m_M_covered) 1 = .ok (.istore_n 3, 1) := by decide +kernel
theorem d_M_covered_2 : decode (sk_cc m_M_covered) 2 = .ok (.iconst 0, 1) := by decide +kernel
theorem d_M_covered_3 : decode (sk_cc m_M_covered) 3 = .ok (.istore 4, 2) := by decide +kernel
theorem d_M_covered_5 : decode (sk_cc m_M_covered) 5 = .ok (.iload 4, 2) := by decide +kernel
theorem d_M_covered_7 : decode (sk_cc m_M_covered) 7 = .ok (.aload_n 0, 1) := by decide +kernel
theorem d_M_covered_8 : decode (sk_cc m_M_covered) 8 = .ok (.getfield 136, 3) := by decide +kernel
theorem d_M_covered_11 : decode (sk_cc m_M_covered) 11 = .ok (.if_icmp .ge 67, 3) := by decide +kernel
theorem d_M_covered_14 : decode (sk_cc m_M_covered) 14 = .ok (.iload_n 3, 1) := by decide +kernel
theorem d_M_covered_15 : decode (sk_cc m_M_covered) 15 = .ok (.ifCond .ne 51, 3) := by decide +kernel
theorem d_M_covered_18 : decode (sk_cc m_M_covered) 18 = .ok (.iload 4, 2) := by decide +kernel
theorem d_M_covered_20 : decode (sk_cc m_M_covered) 20 = .ok (.iload_n 2, 1) := by decide +kernel
theorem d_M_covered_21 : decode (sk_cc m_M_covered) 21 = .ok (.if_icmp .eq 49, 3) := by decide +kernel
theorem d_M_covered_24 : decode (sk_cc m_M_covered) 24 = .ok (.aload_n 0, 1) := by decide +kernel
theorem d_M_covered_25 : decode (sk_cc m_M_covered) 25 = .ok (.getfield 59, 3) := by decide +kernel
theorem d_M_covered_28 : decode (sk_cc m_M_covered) 28 = .ok (.iload 4, 2) := by decide +kernel
theorem d_M_covered_30 : decode (sk_cc m_M_covered) 30 = .ok (.baload, 1) := by decide +kernel
theorem d_M_covered_31 : decode (sk_cc m_M_covered) 31 = .ok (.ifCond .ne 39, 3) := by decide +kernel
theorem d_M_covered_34 : decode (sk_cc m_M_covered) 34 = .ok (.aload_n 0, 1) := by decide +kernel
theorem d_M_covered_35 : decode (sk_cc m_M_covered) 35 = .ok (.getfield 50, 3) := by decide +kernel
theorem d_M_covered_38 : decode (sk_cc m_M_covered) 38 = .ok (.bipush 64, 2) := by decide +kernel
theorem d_M_covered_40 : decode (sk_cc m_M_covered) 40 = .ok (.iload_n 1, 1) := by decide +kernel
theorem d_M_covered_41 : decode (sk_cc m_M_covered) 41 = .ok (.imul, 1) := by decide +kernel
theorem d_M_covered_42 : decode (sk_cc m_M_covered) 42 = .ok (.aload_n 0, 1) := by decide +kernel
theorem d_M_covered_43 : decode (sk_cc m_M_covered) 43 = .ok (.getfield 56, 3) := by decide +kernel
theorem d_M_covered_46 : decode (sk_cc m_M_covered) 46 = .ok (.iload 4, 2) := by decide +kernel
theorem d_M_covered_48 : decode (sk_cc m_M_covered) 48 = .ok (.iaload, 1) := by decide +kernel
theorem d_M_covered_49 : decode (sk_cc m_M_covered) 49 = .ok (.iadd, 1) := by decide +kernel
theorem d_M_covered_50 : decode (sk_cc m_M_covered) 50 = .ok (.iaload, 1) := by decide +kernel
theorem d_M_covered_51 : decode (sk_cc m_M_covered) 51 = .ok (.aload_n 0, 1) := by decide +kernel
theorem d_M_covered_52 : decode (sk_cc m_M_covered) 52 = .ok (.getfield 53, 3) := by decide +kernel
theorem d_M_covered_55 : decode (sk_cc m_M_covered) 55 = .ok (.aload_n 0, 1) := by decide +kernel
theorem d_M_covered_56 : decode (sk_cc m_M_covered) 56 = .ok (.getfield 56, 3) := by decide +kernel
theorem d_M_covered_59 : decode (sk_cc m_M_covered) 59 = .ok (.iload 4, 2) := by decide +kernel
theorem d_M_covered_61 : decode (sk_cc m_M_covered) 61 = .ok (.iaload, 1) := by decide +kernel
theorem d_M_covered_62 : decode (sk_cc m_M_covered) 62 = .ok (.iaload, 1) := by decide +kernel
theorem d_M_covered_63 : decode (sk_cc m_M_covered) 63 = .ok (.if_icmp .eq 7, 3) := by decide +kernel
theorem d_M_covered_66 : decode (sk_cc m_M_covered) 66 = .ok (.iconst 1, 1) := by decide +kernel
theorem d_M_covered_67 : decode (sk_cc m_M_covered) 67 = .ok (.goto 4, 3) := by decide +kernel
theorem d_M_covered_70 : decode (sk_cc m_M_covered) 70 = .ok (.iconst 0, 1) := by decide +kernel
theorem d_M_covered_71 : decode (sk_cc m_M_covered) 71 = .ok (.istore_n 3, 1) := by decide +kernel
theorem d_M_covered_72 : decode (sk_cc m_M_covered) 72 = .ok (.iinc 4 1, 3) := by decide +kernel
theorem d_M_covered_75 : decode (sk_cc m_M_covered) 75 = .ok (.goto (-70), 3) := by decide +kernel
theorem d_M_covered_78 : decode (sk_cc m_M_covered) 78 = .ok (.iload_n 3, 1) := by decide +kernel
theorem d_M_covered_79 : decode (sk_cc m_M_covered) 79 = .ok (.ireturn, 1) := by decide +kernel
theorem d_M_log_0 : decode (sk_cc m_M_log) 0 = .ok (.aload_n 0, 1) := by decide +kernel
theorem d_M_log_1 : decode (sk_cc m_M_log) 1 = .ok (.iload_n 1, 1) := by decide +kernel
theorem d_M_log_2 : decode (sk_cc m_M_log) 2 = .ok (.ifCond .lt 11, 3) := by decide +kernel
theorem d_M_log_5 : decode (sk_cc m_M_log) 5 = .ok (.iload_n 1, 1) := by decide +kernel
theorem d_M_log_6 : decode (sk_cc m_M_log) 6 = .ok (.aload_n 0, 1) := by decide +kernel
theorem d_M_log_7 : decode (sk_cc m_M_log) 7 = .ok (.invokevirtual 108, 3) := by decide +kernel
theorem d_M_log_10 : decode (sk_cc m_M_log) 10 = .ok (.if_icmp .lt 7, 3) := by decide +kernel
theorem d_M_log_13 : decode (sk_cc m_M_log) 13 = .ok (.iconst 1, 1) := by decide +kernel
theorem d_M_log_14 : decode (sk_cc m_M_log) 14 = .ok (.goto 32, 3) := by decide +kernel
theorem d_M_log_17 : decode (sk_cc m_M_log) 17 = .ok (.iload_n 2, 1) := by decide +kernel
theorem d_M_log_18 : decode (sk_cc m_M_log) 18 = .ok (.ifCond .lt 10, 3) := by decide +kernel
theorem d_M_log_21 : decode (sk_cc m_M_log) 21 = .ok (.iload_n 2, 1) := by decide +kernel
theorem d_M_log_22 : decode (sk_cc m_M_log) 22 = .ok (.sipush 4095, 3) := by decide +kernel
theorem d_M_log_25 : decode (sk_cc m_M_log) 25 = .ok (.if_icmp .le 7, 3) := by decide +kernel
theorem d_M_log_28 : decode (sk_cc m_M_log) 28 = .ok (.iconst 2, 1) := by decide +kernel
theorem d_M_log_29 : decode (sk_cc m_M_log) 29 = .ok (.goto 17, 3) := by decide +kernel
theorem d_M_log_32 : decode (sk_cc m_M_log) 32 = .ok (.aload_n 0, 1) := by decide +kernel
theorem d_M_log_33 : decode (sk_cc m_M_log) 33 = .ok (.getfield 88, 3) := by decide +kernel
theorem d_M_log_36 : decode (sk_cc m_M_log) 36 = .ok (.bipush 16, 2) := by decide +kernel
theorem d_M_log_38 : decode (sk_cc m_M_log) 38 = .ok (.if_icmp .ne 7, 3) := by decide +kernel
theorem d_M_log_41 : decode (sk_cc m_M_log) 41 = .ok (.iconst 3, 1) := by decide +kernel
theorem d_M_log_42 : decode (sk_cc m_M_log) 42 = .ok (.goto 4, 3) := by decide +kernel
theorem d_M_log_45 : decode (sk_cc m_M_log) 45 = .ok (.iconst 0, 1) := by decide +kernel
theorem d_M_log_46 : decode (sk_cc m_M_log) 46 = .ok (.putfield 68, 3) := by decide +kernel
theorem d_M_log_49 : decode (sk_cc m_M_log) 49 = .ok (.aload_n 0, 1) := by decide +kernel
theorem d_M_log_50 : decode (sk_cc m_M_log) 50 = .ok (.getfield 68, 3) := by decide +kernel
theorem d_M_log_53 : decode (sk_cc m_M_log) 53 = .ok (.ifCond .le 5, 3) := by decide +kernel
theorem d_M_log_56 : decode (sk_cc m_M_log) 56 = .ok (.iconst 0, 1) := by decide +kernel
theorem d_M_log_57 : decode (sk_cc m_M_log) 57 = .ok (.ireturn, 1) := by decide +kernel
theorem d_M_log_58 : decode (sk_cc m_M_log) 58 = .ok (.aload_n 0, 1) := by decide +kernel
theorem d_M_log_59 : decode (sk_cc m_M_log) 59 = .ok (.getfield 62, 3) := by decide +kernel
theorem d_M_log_62 : decode (sk_cc m_M_log) 62 = .ok (.aload_n 0, 1) := by decide +kernel
theorem d_M_log_63 : decode (sk_cc m_M_log) 63 = .ok (.getfield 88, 3) := by decide +kernel
theorem d_M_log_66 : decode (sk_cc m_M_log) 66 = .ok (.iload_n 1, 1) := by decide +kernel
theorem d_M_log_67 : decode (sk_cc m_M_log) 67 = .ok (.iastore, 1) := by decide +kernel
theorem d_M_log_68 : decode (sk_cc m_M_log) 68 = .ok (.aload_n 0, 1) := by decide +kernel
theorem d_M_log_69 : decode (sk_cc m_M_log) 69 = .ok (.getfield 65, 3) := by decide +kernel
theorem d_M_log_72 : decode (sk_cc m_M_log) 72 = .ok (.aload_n 0, 1) := by decide +kernel
theorem d_M_log_73 : decode (sk_cc m_M_log) 73 = .ok (.getfield 88, 3) := by decide +kernel
theorem d_M_log_76 : decode (sk_cc m_M_log) 76 = .ok (.iload_n 2, 1) := by decide +kernel
theorem d_M_log_77 : decode (sk_cc m_M_log) 77 = .ok (.iastore, 1) := by decide +kernel
theorem d_M_log_78 : decode (sk_cc m_M_log) 78 = .ok (.aload_n 0, 1) := by decide +kernel
theorem d_M_log_79 : decode (sk_cc m_M_log) 79 = .ok (.dup, 1) := by decide +kernel
theorem d_M_log_80 : decode (sk_cc m_M_log) 80 = .ok (.getfield 88, 3) := by decide +kernel
theorem d_M_log_83 : decode (sk_cc m_M_log) 83 = .ok (.iconst 1, 1) := by decide +kernel
theorem d_M_log_84 : decode (sk_cc m_M_log) 84 = .ok (.iadd, 1) := by decide +kernel
theorem d_M_log_85 : decode (sk_cc m_M_log) 85 = .ok (.putfield 88, 3) := by decide +kernel
theorem d_M_log_88 : decode (sk_cc m_M_log) 88 = .ok (.aload_n 0, 1) := by decide +kernel
theorem d_M_log_89 : decode (sk_cc m_M_log) 89 = .ok (.getfield 88, 3) := by decide +kernel
theorem d_M_log_92 : decode (sk_cc m_M_log) 92 = .ok (.ireturn, 1) := by decide +kernel
theorem d_M_forget_0 : decode (sk_cc m_M_forget) 0 = .ok (.aload_n 0, 1) := by decide +kernel
theorem d_M_forget_1 : decode (sk_cc m_M_forget) 1 = .ok (.iconst 0, 1) := by decide +kernel
theorem d_M_forget_2 : decode (sk_cc m_M_forget) 2 = .ok (.putfield 68, 3) := by decide +kernel
theorem d_M_forget_5 : decode (sk_cc m_M_forget) 5 = .ok (.aload_n 0, 1) := by decide +kernel
theorem d_M_forget_6 : decode (sk_cc m_M_forget) 6 = .ok (.getfield 88, 3) := by decide +kernel
theorem d_M_forget_9 : decode (sk_cc m_M_forget) 9 = .ok (.istore_n 1, 1) := by decide +kernel
theorem d_M_forget_10 : decode (sk_cc m_M_forget) 10 = .ok (.aload_n 0, 1) := by decide +kernel
theorem d_M_forget_11 : decode (sk_cc m_M_forget) 11 = .ok (.iconst 0, 1) := by decide +kernel
theorem d_M_forget_12 : decode (sk_cc m_M_forget) 12 = .ok (.putfield 88, 3) := by decide +kernel
theorem d_M_forget_15 : decode (sk_cc m_M_forget) 15 = .ok (.iload_n 1, 1) := by decide +kernel
theorem d_M_forget_16 : decode (sk_cc m_M_forget) 16 = .ok (.ireturn, 1) := by decide +kernel
theorem d_M_explains_0 : decode (sk_cc m_M_explains) 0 = .ok (.aload_n 0, 1) := by decide +kernel
theorem d_M_explains_1 : decode (sk_cc m_M_explains) 1 = .ok (.iconst 0, 1) := by decide +kernel
theorem d_M_explains_2 : decode (sk_cc m_M_explains) 2 = .ok (.putfield 68, 3) := by decide +kernel
theorem d_M_explains_5 : decode (sk_cc m_M_explains) 5 = .ok (.aload_n 0, 1) := by decide +kernel
theorem d_M_explains_6 : decode (sk_cc m_M_explains) 6 = .ok (.invokevirtual 119, 3) := by decide +kernel
theorem d_M_explains_9 : decode (sk_cc m_M_explains) 9 = .ok (.iload_n 1, 1) := by decide +kernel
theorem d_M_explains_10 : decode (sk_cc m_M_explains) 10 = .ok (.iconst (-1), 1) := by decide +kernel
theorem d_M_explains_11 : decode (sk_cc m_M_explains) 11 = .ok (.if_icmp .ne 17, 3) := by decide +kernel
theorem d_M_explains_14 : decode (sk_cc m_M_explains) 14 = .ok (.aload_n 0, 1) := by decide +kernel
theorem d_M_explains_15 : decode (sk_cc m_M_explains) 15 = .ok (.iconst (-1), 1) := by decide +kernel
theorem d_M_explains_16 : decode (sk_cc m_M_explains) 16 = .ok (.invokevirtual 146, 3) := by decide +kernel
theorem d_M_explains_19 : decode (sk_cc m_M_explains) 19 = .ok (.ifCond .eq 7, 3) := by decide +kernel
theorem d_M_explains_22 : decode (sk_cc m_M_explains) 22 = .ok (.iconst 1, 1) := by decide +kernel
theorem d_M_explains_23 : decode (sk_cc m_M_explains) 23 = .ok (.goto 4, 3) := by decide +kernel
theorem d_M_explains_26 : decode (sk_cc m_M_explains) 26 = .ok (.iconst 0, 1) := by decide +kernel
theorem d_M_explains_27 : decode (sk_cc m_M_explains) 27 = .ok (.ireturn, 1) := by decide +kernel
theorem d_M_explains_28 : decode (sk_cc m_M_explains) 28 = .ok (.iconst 0, 1) := by decide +kernel
theorem d_M_explains_29 : decode (sk_cc m_M_explains) 29 = .ok (.istore_n 2, 1) := by decide +kernel
theorem d_M_explains_30 : decode (sk_cc m_M_explains) 30 = .ok (.iconst 0, 1) := by decide +kernel
theorem d_M_explains_31 : decode (sk_cc m_M_explains) 31 = .ok (.istore_n 3, 1) := by decide +kernel
theorem d_M_explains_32 : decode (sk_cc m_M_explains) 32 = .ok (.iload_n 3, 1) := by decide +kernel
theorem d_M_explains_33 : decode (sk_cc m_M_explains) 33 = .ok (.iconst 2, 1) := by decide +kernel
theorem d_M_explains_34 : decode (sk_cc m_M_explains) 34 = .ok (.aload_n 0, 1) := by decide +kernel
theorem d_M_explains_35 : decode (sk_cc m_M_explains) 35 = .ok (.getfield 78, 3) := by decide +kernel
theorem d_M_explains_38 : decode (sk_cc m_M_explains) 38 = .ok (.imul, 1) := by decide +kernel
theorem d_M_explains_39 : decode (sk_cc m_M_explains) 39 = .ok (.if_icmp .ge 27, 3) := by decide +kernel
theorem d_M_explains_42 : decode (sk_cc m_M_explains) 42 = .ok (.aload_n 0, 1) := by decide +kernel
theorem d_M_explains_43 : decode (sk_cc m_M_explains) 43 = .ok (.iload_n 3, 1) := by decide +kernel
theorem d_M_explains_44 : decode (sk_cc m_M_explains) 44 = .ok (.invokevirtual 146, 3) := by decide +kernel
theorem d_M_explains_47 : decode (sk_cc m_M_explains) 47 = .ok (.ifCond .eq 13, 3) := by decide +kernel
theorem d_M_explains_50 : decode (sk_cc m_M_explains) 50 = .ok (.iload_n 2, 1) := by decide +kernel
theorem d_M_explains_51 : decode (sk_cc m_M_explains) 51 = .ok (.iload_n 1, 1) := by decide +kernel
theorem d_M_explains_52 : decode (sk_cc m_M_explains) 52 = .ok (.if_icmp .ne 5, 3) := by decide +kernel
theorem d_M_explains_55 : decode (sk_cc m_M_explains) 55 = .ok (.iload_n 3, 1) := by decide +kernel
theorem d_M_explains_56 : decode (sk_cc m_M_explains) 56 = .ok (.ireturn, 1) := by decide +kernel
theorem d_M_explains_57 : decode (sk_cc m_M_explains) 57 = .ok (.iinc 2 1, 3) := by decide +kernel
theorem d_M_explains_60 : decode (sk_cc m_M_explains) 60 = .ok (.iinc 3 1, 3) := by decide +kernel
theorem d_M_explains_63 : decode (sk_cc m_M_explains) 63 = .ok (.goto (-31), 3) := by decide +kernel
theorem d_M_explains_66 : decode (sk_cc m_M_explains) 66 = .ok (.iconst (-1), 1) := by decide +kernel
theorem d_M_explains_67 : decode (sk_cc m_M_explains) 67 = .ok (.ireturn, 1) := by decide +kernel
theorem d_M_gives_0 : decode (sk_cc m_M_gives) 0 = .ok (.iconst 1, 1) := by decide +kernel
theorem d_M_gives_1 : decode (sk_cc m_M_gives) 1 = .ok (.istore_n 2, 1) := by decide +kernel
theorem d_M_gives_2 : decode (sk_cc m_M_gives) 2 = .ok (.iconst 0, 1) := by decide +kernel
theorem d_M_gives_3 : decode (sk_cc m_M_gives) 3 = .ok (.istore_n 3, 1) := by decide +kernel
theorem d_M_gives_4 : decode (sk_cc m_M_gives) 4 = .ok (.iload_n 3, 1) := by decide +kernel
theorem d_M_gives_5 : decode (sk_cc m_M_gives) 5 = .ok (.aload_n 0, 1) := by decide +kernel
theorem d_M_gives_6 : decode (sk_cc m_M_gives) 6 = .ok (.getfield 88, 3) := by decide +kernel
theorem d_M_gives_9 : decode (sk_cc m_M_gives) 9 = .ok (.if_icmp .ge 66, 3) := by decide +kernel
theorem d_M_gives_12 : decode (sk_cc m_M_gives) 12 = .ok (.iload_n 1, 1) := by decide +kernel
theorem d_M_gives_13 : decode (sk_cc m_M_gives) 13 = .ok (.ifCond .ge 17, 3) := by decide +kernel
theorem d_M_gives_16 : decode (sk_cc m_M_gives) 16 = .ok (.aload_n 0, 1) := by decide +kernel
theorem d_M_gives_17 : decode (sk_cc m_M_gives) 17 = .ok (.getfield 53, 3) := by decide +kernel
theorem d_M_gives_20 : decode (sk_cc m_M_gives) 20 = .ok (.aload_n 0, 1) := by decide +kernel
theorem d_M_gives_21 : decode (sk_cc m_M_gives) 21 = .ok (.getfield 62, 3) := by decide +kernel
theorem d_M_gives_24 : decode (sk_cc m_M_gives) 24 = .ok (.iload_n 3, 1) := by decide +kernel
theorem d_M_gives_25 : decode (sk_cc m_M_gives) 25 = .ok (.iaload, 1) := by decide +kernel
theorem d_M_gives_26 : decode (sk_cc m_M_gives) 26 = .ok (.iaload, 1) := by decide +kernel
theorem d_M_gives_27 : decode (sk_cc m_M_gives) 27 = .ok (.goto 19, 3) := by decide +kernel
theorem d_M_gives_30 : decode (sk_cc m_M_gives) 30 = .ok (.aload_n 0, 1) := by decide +kernel
theorem d_M_gives_31 : decode (sk_cc m_M_gives) 31 = .ok (.getfield 50, 3) := by decide +kernel
theorem d_M_gives_34 : decode (sk_cc m_M_gives) 34 = .ok (.bipush 64, 2) := by decide +kernel
theorem d_M_gives_36 : decode (sk_cc m_M_gives) 36 = .ok (.iload_n 1, 1) := by decide +kernel
theorem d_M_gives_37 : decode (sk_cc m_M_gives) 37 = .ok (.imul, 1) := by decide +kernel
theorem d_M_gives_38 : decode (sk_cc m_M_gives) 38 = .ok (.aload_n 0, 1) := by decide +kernel
theorem d_M_gives_39 : decode (sk_cc m_M_gives) 39 = .ok (.getfield 62, 3) := by decide +kernel
theorem d_M_gives_42 : decode (sk_cc m_M_gives) 42 = .ok (.iload_n 3, 1) := by decide +kernel
theorem d_M_gives_43 : decode (sk_cc m_M_gives) 43 = .ok (.iaload, 1) := by decide +kernel
theorem d_M_gives_44 : decode (sk_cc m_M_gives) 44 = .ok (.iadd, 1) := by decide +kernel
theorem d_M_gives_45 : decode (sk_cc m_M_gives) 45 = .ok (.iaload, 1) := by decide +kernel
theorem d_M_gives_46 : decode (sk_cc m_M_gives) 46 = .ok (.istore 4, 2) := by decide +kernel
theorem d_M_gives_48 : decode (sk_cc m_M_gives) 48 = .ok (.iload_n 2, 1) := by decide +kernel
theorem d_M_gives_49 : decode (sk_cc m_M_gives) 49 = .ok (.ifCond .eq 18, 3) := by decide +kernel
theorem d_M_gives_52 : decode (sk_cc m_M_gives) 52 = .ok (.iload 4, 2) := by decide +kernel
theorem d_M_gives_54 : decode (sk_cc m_M_gives) 54 = .ok (.aload_n 0, 1) := by decide +kernel
theorem d_M_gives_55 : decode (sk_cc m_M_gives) 55 = .ok (.getfield 65, 3) := by decide +kernel
theorem d_M_gives_58 : decode (sk_cc m_M_gives) 58 = .ok (.iload_n 3, 1) := by decide +kernel
theorem d_M_gives_59 : decode (sk_cc m_M_gives) 59 = .ok (.iaload, 1) := by decide +kernel
theorem d_M_gives_60 : decode (sk_cc m_M_gives) 60 = .ok (.if_icmp .ne 7, 3) := by decide +kernel
theorem d_M_gives_63 : decode (sk_cc m_M_gives) 63 = .ok (.iconst 1, 1) := by decide +kernel
theorem d_M_gives_64 : decode (sk_cc m_M_gives) 64 = .ok (.goto 4, 3) := by decide +kernel
theorem d_M_gives_67 : decode (sk_cc m_M_gives) 67 = .ok (.iconst 0, 1) := by decide +kernel
theorem d_M_gives_68 : decode (sk_cc m_M_gives) 68 = .ok (.istore_n 2, 1) := by decide +kernel
theorem d_M_gives_69 : decode (sk_cc m_M_gives) 69 = .ok (.iinc 3 1, 3) := by decide +kernel
theorem d_M_gives_72 : decode (sk_cc m_M_gives) 72 = .ok (.goto (-68), 3) := by decide +kernel
theorem d_M_gives_75 : decode (sk_cc m_M_gives) 75 = .ok (.iload_n 2, 1) := by decide +kernel
theorem d_M_gives_76 : decode (sk_cc m_M_gives) 76 = .ok (.ireturn, 1) := by decide +kernel
theorem d_law_0 : decode (sk_cc m_law) 0 = .ok (.new 8, 3) := by decide +kernel
theorem d_law_3 : decode (sk_cc m_law) 3 = .ok (.dup, 1) := by decide +kernel
theorem d_law_4 : decode (sk_cc m_law) 4 = .ok (.invokespecial 64, 3) := by decide +kernel
theorem d_law_7 : decode (sk_cc m_law) 7 = .ok (.astore_n 1, 1) := by decide +kernel
theorem d_law_8 : decode (sk_cc m_law) 8 = .ok (.new 65, 3) := by decide +kernel
theorem d_law_11 : decode (sk_cc m_law) 11 = .ok (.dup, 1) := by decide +kernel
theorem d_law_12 : decode (sk_cc m_law) 12 = .ok (.invokespecial 67, 3) := by decide +kernel
theorem d_law_15 : decode (sk_cc m_law) 15 = .ok (.astore_n 2, 1) := by decide +kernel
theorem d_law_16 : decode (sk_cc m_law) 16 = .ok (.iconst 1, 1) := by decide +kernel
theorem d_law_17 : decode (sk_cc m_law) 17 = .ok (.newarray .long, 2) := by decide +kernel
theorem d_law_19 : decode (sk_cc m_law) 19 = .ok (.astore_n 3, 1) := by decide +kernel
theorem d_law_20 : decode (sk_cc m_law) 20 = .ok (.iconst 0, 1) := by decide +kernel
theorem d_law_21 : decode (sk_cc m_law) 21 = .ok (.istore 4, 2) := by decide +kernel
theorem d_law_23 : decode (sk_cc m_law) 23 = .ok (.iload 4, 2) := by decide +kernel
theorem d_law_25 : decode (sk_cc m_law) 25 = .ok (.aload_n 0, 1) := by decide +kernel
theorem d_law_26 : decode (sk_cc m_law) 26 = .ok (.arraylength, 1) := by decide +kernel
theorem d_law_27 : decode (sk_cc m_law) 27 = .ok (.iconst 5, 1) := by decide +kernel
theorem d_law_28 : decode (sk_cc m_law) 28 = .ok (.isub, 1) := by decide +kernel
theorem d_law_29 : decode (sk_cc m_law) 29 = .ok (.if_icmp .gt 1151, 3) := by decide +kernel
theorem d_law_32 : decode (sk_cc m_law) 32 = .ok (.aload_n 0, 1) := by decide +kernel
theorem d_law_33 : decode (sk_cc m_law) 33 = .ok (.iload 4, 2) := by decide +kernel
theorem d_law_35 : decode (sk_cc m_law) 35 = .ok (.iaload, 1) := by decide +kernel
theorem d_law_36 : decode (sk_cc m_law) 36 = .ok (.bipush 31, 2) := by decide +kernel
theorem d_law_38 : decode (sk_cc m_law) 38 = .ok (.iand, 1) := by decide +kernel
theorem d_law_39 : decode (sk_cc m_law) 39 = .ok (.tableswitch 1135 0 18 #[89, 100, 172, 264, 320, 368, 424, 504, 572, 621, 689, 745, 800, 856, 948, 1004, 1029, 1097, 1110], 89) := by decide +kernel
theorem d_law_128 : decode (sk_cc m_law) 128 = .ok (.aload_n 1, 1) := by decide +kernel
theorem d_law_129 : decode (sk_cc m_law) 129 = .ok (.invokevirtual 68, 3) := by decide +kernel
theorem d_law_132 : decode (sk_cc m_law) 132 = .ok (.aload_n 2, 1) := by decide +kernel
theorem d_law_133 : decode (sk_cc m_law) 133 = .ok (.invokevirtual 71, 3) := by decide +kernel
theorem d_law_136 : decode (sk_cc m_law) 136 = .ok (.goto 1038, 3) := by decide +kernel
theorem d_law_139 : decode (sk_cc m_law) 139 = .ok (.aload_n 1, 1) := by decide +kernel
