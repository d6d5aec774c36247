/-! Decode rows (by program). -/
theorem d_H_init_0 : decode b_H_init 0 = .ok (.aload_n 0, 1) := by decide +kernel
theorem d_H_init_1 : decode b_H_init 1 = .ok (.invokespecial 1, 3) := by decide +kernel
theorem d_H_init_4 : decode b_H_init 4 = .ok (.aload_n 0, 1) := by decide +kernel
theorem d_H_init_5 : decode b_H_init 5 = .ok (.new 7, 3) := by decide +kernel
theorem d_H_init_8 : decode b_H_init 8 = .ok (.dup, 1) := by decide +kernel
theorem d_H_init_9 : decode b_H_init 9 = .ok (.invokespecial 9, 3) := by decide +kernel
theorem d_H_init_12 : decode b_H_init 12 = .ok (.putfield 10, 3) := by decide +kernel
theorem d_H_init_15 : decode b_H_init 15 = .ok (.aload_n 0, 1) := by decide +kernel
theorem d_H_init_16 : decode b_H_init 16 = .ok (.new 16, 3) := by decide +kernel
theorem d_H_init_19 : decode b_H_init 19 = .ok (.dup, 1) := by decide +kernel
theorem d_H_init_20 : decode b_H_init 20 = .ok (.invokespecial 18, 3) := by decide +kernel
theorem d_H_init_23 : decode b_H_init 23 = .ok (.putfield 19, 3) := by decide +kernel
theorem d_H_init_26 : decode b_H_init 26 = .ok (.aload_n 0, 1) := by decide +kernel
theorem d_H_init_27 : decode b_H_init 27 = .ok (.sipush 200, 3) := by decide +kernel
theorem d_H_init_30 : decode b_H_init 30 = .ok (.anewarray 23, 3) := by decide +kernel
theorem d_H_init_33 : decode b_H_init 33 = .ok (.putfield 25, 3) := by decide +kernel
theorem d_H_init_36 : decode b_H_init 36 = .ok (.aload_n 0, 1) := by decide +kernel
theorem d_H_init_37 : decode b_H_init 37 = .ok (.sipush 200, 3) := by decide +kernel
theorem d_H_init_40 : decode b_H_init 40 = .ok (.newarray .int, 2) := by decide +kernel
theorem d_H_init_42 : decode b_H_init 42 = .ok (.putfield 29, 3) := by decide +kernel
theorem d_H_init_45 : decode b_H_init 45 = .ok (.aload_n 0, 1) := by decide +kernel
theorem d_H_init_46 : decode b_H_init 46 = .ok (.sipush 200, 3) := by decide +kernel
theorem d_H_init_49 : decode b_H_init 49 = .ok (.newarray .int, 2) := by decide +kernel
theorem d_H_init_51 : decode b_H_init 51 = .ok (.putfield 33, 3) := by decide +kernel
theorem d_H_init_54 : decode b_H_init 54 = .ok (.aload_n 0, 1) := by decide +kernel
theorem d_H_init_55 : decode b_H_init 55 = .ok (.sipush 200, 3) := by decide +kernel
theorem d_H_init_58 : decode b_H_init 58 = .ok (.newarray .int, 2) := by decide +kernel
theorem d_H_init_60 : decode b_H_init 60 = .ok (.putfield 36, 3) := by decide +kernel
theorem d_H_init_63 : decode b_H_init 63 = .ok (.iconst 0, 1) := by decide +kernel
theorem d_H_init_64 : decode b_H_init 64 = .ok (.istore_n 1, 1) := by decide +kernel
theorem d_H_init_65 : decode b_H_init 65 = .ok (.iload_n 1, 1) := by decide +kernel
theorem d_H_init_66 : decode b_H_init 66 = .ok (.aload_n 0, 1) := by decide +kernel
theorem d_H_init_67 : decode b_H_init 67 = .ok (.getfield 25, 3) := by decide +kernel
theorem d_H_init_70 : decode b_H_init 70 = .ok (.arraylength, 1) := by decide +kernel
theorem d_H_init_71 : decode b_H_init 71 = .ok (.if_icmp .ge 23, 3) := by decide +kernel
theorem d_H_init_74 : decode b_H_init 74 = .ok (.aload_n 0, 1) := by decide +kernel
theorem d_H_init_75 : decode b_H_init 75 = .ok (.getfield 25, 3) := by decide +kernel
theorem d_H_init_78 : decode b_H_init 78 = .ok (.iload_n 1, 1) := by decide +kernel
theorem d_H_init_79 : decode b_H_init 79 = .ok (.new 23, 3) := by decide +kernel
theorem d_H_init_82 : decode b_H_init 82 = .ok (.dup, 1) := by decide +kernel
theorem d_H_init_83 : decode b_H_init 83 = .ok (.iload_n 1, 1) := by decide +kernel
theorem d_H_init_84 : decode b_H_init 84 = .ok (.invokespecial 39, 3) := by decide +kernel
theorem d_H_init_87 : decode b_H_init 87 = .ok (.aastore, 1) := by decide +kernel
theorem d_H_init_88 : decode b_H_init 88 = .ok (.iinc 1 1, 3) := by decide +kernel
theorem d_H_init_91 : decode b_H_init 91 = .ok (.goto (-26), 3) := by decide +kernel
theorem d_H_init_94 : decode b_H_init 94 = .ok (.aload_n 0, 1) := by decide +kernel
theorem d_H_init_95 : decode b_H_init 95 = .ok (.getfield 29, 3) := by decide +kernel
theorem d_H_init_98 : decode b_H_init 98 = .ok (.iconst (-1), 1) := by decide +kernel
theorem d_H_init_99 : decode b_H_init 99 = .ok (.invokestatic 42, 3) := by decide +kernel
theorem d_H_init_102 : decode b_H_init 102 = .ok (.return_, 1) := by decide +kernel
theorem d_EL_init_0 : decode b_EL_init 0 = .ok (.aload_n 0, 1) := by decide +kernel
theorem d_EL_init_1 : decode b_EL_init 1 = .ok (.invokespecial 3, 3) := by decide +kernel
theorem d_EL_init_4 : decode b_EL_init 4 = .ok (.aload_n 0, 1) := by decide +kernel
theorem d_EL_init_5 : decode b_EL_init 5 = .ok (.new 9, 3) := by decide +kernel
theorem d_EL_init_8 : decode b_EL_init 8 = .ok (.dup, 1) := by decide +kernel
theorem d_EL_init_9 : decode b_EL_init 9 = .ok (.invokespecial 11, 3) := by decide +kernel
theorem d_EL_init_12 : decode b_EL_init 12 = .ok (.putfield 12, 3) := by decide +kernel
theorem d_EL_init_15 : decode b_EL_init 15 = .ok (.return_, 1) := by decide +kernel
theorem d_Door_init_0 : decode b_Door_init 0 = .ok (.aload_n 0, 1) := by decide +kernel
theorem d_Door_init_1 : decode b_Door_init 1 = .ok (.invokespecial 3, 3) := by decide +kernel
theorem d_Door_init_4 : decode b_Door_init 4 = .ok (.aload_n 0, 1) := by decide +kernel
theorem d_Door_init_5 : decode b_Door_init 5 = .ok (.iconst 0, 1) := by decide +kernel
theorem d_Door_init_6 : decode b_Door_init 6 = .ok (.putfield 9, 3) := by decide +kernel
theorem d_Door_init_9 : decode b_Door_init 9 = .ok (.aload_n 0, 1) := by decide +kernel
theorem d_Door_init_10 : decode b_Door_init 10 = .ok (.iconst 0, 1) := by decide +kernel
theorem d_Door_init_11 : decode b_Door_init 11 = .ok (.putfield 15, 3) := by decide +kernel
theorem d_Door_init_14 : decode b_Door_init 14 = .ok (.aload_n 0, 1) := by decide +kernel
theorem d_Door_init_15 : decode b_Door_init 15 = .ok (.iconst 0, 1) := by decide +kernel
theorem d_Door_init_16 : decode b_Door_init 16 = .ok (.putfield 18, 3) := by decide +kernel
theorem d_Door_init_19 : decode b_Door_init 19 = .ok (.aload_n 0, 1) := by decide +kernel
theorem d_Door_init_20 : decode b_Door_init 20 = .ok (.iconst 0, 1) := by decide +kernel
theorem d_Door_init_21 : decode b_Door_init 21 = .ok (.putfield 21, 3) := by decide +kernel
theorem d_Door_init_24 : decode b_Door_init 24 = .ok (.aload_n 0, 1) := by decide +kernel
theorem d_Door_init_25 : decode b_Door_init 25 = .ok (.iload_n 1, 1) := by decide +kernel
theorem d_Door_init_26 : decode b_Door_init 26 = .ok (.putfield 25, 3) := by decide +kernel
theorem d_Door_init_29 : decode b_Door_init 29 = .ok (.return_, 1) := by decide +kernel
theorem d_H_cards_0 : decode b_H_cards 0 = .ok (.aload_n 0, 1) := by decide +kernel
theorem d_H_cards_1 : decode b_H_cards 1 = .ok (.getfield 10, 3) := by decide +kernel
theorem d_H_cards_4 : decode b_H_cards 4 = .ok (.invokevirtual 48, 3) := by decide +kernel
theorem d_H_cards_7 : decode b_H_cards 7 = .ok (.ireturn, 1) := by decide +kernel
theorem d_H_entries_0 : decode b_H_entries 0 = .ok (.aload_n 0, 1) := by decide +kernel
theorem d_H_entries_1 : decode b_H_entries 1 = .ok (.getfield 19, 3) := by decide +kernel
theorem d_H_entries_4 : decode b_H_entries 4 = .ok (.invokevirtual 76, 3) := by decide +kernel
theorem d_H_entries_7 : decode b_H_entries 7 = .ok (.ireturn, 1) := by decide +kernel
theorem d_EL_made_0 : decode b_EL_made 0 = .ok (.aload_n 0, 1) := by decide +kernel
theorem d_EL_made_1 : decode b_EL_made 1 = .ok (.getfield 12, 3) := by decide +kernel
theorem d_EL_made_4 : decode b_EL_made 4 = .ok (.invokevirtual 18, 3) := by decide +kernel
theorem d_EL_made_7 : decode b_EL_made 7 = .ok (.ireturn, 1) := by decide +kernel
theorem d_H_issue_0 : decode b_H_issue 0 = .ok (.aload_n 0, 1) := by decide +kernel
theorem d_H_issue_1 : decode b_H_issue 1 = .ok (.getfield 10, 3) := by decide +kernel
theorem d_H_issue_4 : decode b_H_issue 4 = .ok (.invokevirtual 48, 3) := by decide +kernel
theorem d_H_issue_7 : decode b_H_issue 7 = .ok (.sipush 4000, 3) := by decide +kernel
theorem d_H_issue_10 : decode b_H_issue 10 = .ok (.if_icmp .lt 13, 3) := by decide +kernel
theorem d_H_issue_13 : decode b_H_issue 13 = .ok (.new 52, 3) := by decide +kernel
theorem d_H_issue_16 : decode b_H_issue 16 = .ok (.dup, 1) := by decide +kernel
theorem d_H_issue_17 : decode b_H_issue 17 = .ok (.ldc 54, 2) := by decide +kernel
theorem d_H_issue_19 : decode b_H_issue 19 = .ok (.invokespecial 56, 3) := by decide +kernel
theorem d_H_issue_22 : decode b_H_issue 22 = .ok (.athrow, 1) := by decide +kernel
theorem d_H_issue_23 : decode b_H_issue 23 = .ok (.aload_n 0, 1) := by decide +kernel
theorem d_H_issue_24 : decode b_H_issue 24 = .ok (.getfield 10, 3) := by decide +kernel
theorem d_H_issue_27 : decode b_H_issue 27 = .ok (.new 59, 3) := by decide +kernel
theorem d_H_issue_30 : decode b_H_issue 30 = .ok (.dup, 1) := by decide +kernel
theorem d_H_issue_31 : decode b_H_issue 31 = .ok (.iload_n 1, 1) := by decide +kernel
theorem d_H_issue_32 : decode b_H_issue 32 = .ok (.iload_n 2, 1) := by decide +kernel
theorem d_H_issue_33 : decode b_H_issue 33 = .ok (.invokespecial 61, 3) := by decide +kernel
theorem d_H_issue_36 : decode b_H_issue 36 = .ok (.invokevirtual 64, 3) := by decide +kernel
theorem d_H_issue_39 : decode b_H_issue 39 = .ok (.pop, 1) := by decide +kernel
theorem d_H_issue_40 : decode b_H_issue 40 = .ok (.aload_n 0, 1) := by decide +kernel
theorem d_H_issue_41 : decode b_H_issue 41 = .ok (.getfield 10, 3) := by decide +kernel
theorem d_H_issue_44 : decode b_H_issue 44 = .ok (.invokevirtual 48, 3) := by decide +kernel
theorem d_H_issue_47 : decode b_H_issue 47 = .ok (.iconst 1, 1) := by decide +kernel
theorem d_H_issue_48 : decode b_H_issue 48 = .ok (.isub, 1) := by decide +kernel
theorem d_H_issue_49 : decode b_H_issue 49 = .ok (.ireturn, 1) := by decide +kernel
theorem d_Card_init_0 : decode b_Card_init 0 = .ok (.aload_n 0, 1) := by decide +kernel
theorem d_Card_init_1 : decode b_Card_init 1 = .ok (.invokespecial 1, 3) := by decide +kernel
theorem d_Card_init_4 : decode b_Card_init 4 = .ok (.aload_n 0, 1) := by decide +kernel
theorem d_Card_init_5 : decode b_Card_init 5 = .ok (.new 7, 3) := by decide +kernel
theorem d_Card_init_8 : decode b_Card_init 8 = .ok (.dup, 1) := by decide +kernel
theorem d_Card_init_9 : decode b_Card_init 9 = .ok (.invokespecial 9, 3) := by decide +kernel
theorem d_Card_init_12 : decode b_Card_init 12 = .ok (.putfield 10, 3) := by decide +kernel
theorem d_Card_init_15 : decode b_Card_init 15 = .ok (.aload_n 0, 1) := by decide +kernel
theorem d_Card_init_16 : decode b_Card_init 16 = .ok (.new 7, 3) := by decide +kernel
theorem d_Card_init_19 : decode b_Card_init 19 = .ok (.dup, 1) := by decide +kernel
theorem d_Card_init_20 : decode b_Card_init 20 = .ok (.invokespecial 9, 3) := by decide +kernel
theorem d_Card_init_23 : decode b_Card_init 23 = .ok (.putfield 16, 3) := by decide +kernel
theorem d_Card_init_26 : decode b_Card_init 26 = .ok (.aload_n 0, 1) := by decide +kernel
theorem d_Card_init_27 : decode b_Card_init 27 = .ok (.iconst 0, 1) := by decide +kernel
theorem d_Card_init_28 : decode b_Card_init 28 = .ok (.putfield 19, 3) := by decide +kernel
theorem d_Card_init_31 : decode b_Card_init 31 = .ok (.aload_n 0, 1) := by decide +kernel
theorem d_Card_init_32 : decode b_Card_init 32 = .ok (.iconst (-1), 1) := by decide +kernel
theorem d_Card_init_33 : decode b_Card_init 33 = .ok (.putfield 23, 3) := by decide +kernel
theorem d_Card_init_36 : decode b_Card_init 36 = .ok (.aload_n 0, 1) := by decide +kernel
theorem d_Card_init_37 : decode b_Card_init 37 = .ok (.iconst 0, 1) := by decide +kernel
theorem d_Card_init_38 : decode b_Card_init 38 = .ok (.putfield 26, 3) := by decide +kernel
theorem d_Card_init_41 : decode b_Card_init 41 = .ok (.aload_n 0, 1) := by decide +kernel
theorem d_Card_init_42 : decode b_Card_init 42 = .ok (.iconst 0, 1) := by decide +kernel
theorem d_Card_init_43 : decode b_Card_init 43 = .ok (.putfield 29, 3) := by decide +kernel
theorem d_Card_init_46 : decode b_Card_init 46 = .ok (.aload_n 0, 1) := by decide +kernel
theorem d_Card_init_47 : decode b_Card_init 47 = .ok (.iload_n 1, 1) := by decide +kernel
theorem d_Card_init_48 : decode b_Card_init 48 = .ok (.putfield 32, 3) := by decide +kernel
theorem d_Card_init_51 : decode b_Card_init 51 = .ok (.aload_n 0, 1) := by decide +kernel
theorem d_Card_init_52 : decode b_Card_init 52 = .ok (.iload_n 2, 1) := by decide +kernel
theorem d_Card_init_53 : decode b_Card_init 53 = .ok (.putfield 35, 3) := by decide +kernel
theorem d_Card_init_56 : decode b_Card_init 56 = .ok (.return_, 1) := by decide +kernel
theorem d_Im_init_0 : decode b_Im_init 0 = .ok (.aload_n 0, 1) := by decide +kernel
theorem d_Im_init_1 : decode b_Im_init 1 = .ok (.invokespecial 1, 3) := by decide +kernel
theorem d_Im_init_4 : decode b_Im_init 4 = .ok (.aload_n 0, 1) := by decide +kernel
theorem d_Im_init_5 : decode b_Im_init 5 = .ok (.bipush 44, 2) := by decide +kernel
theorem d_Im_init_7 : decode b_Im_init 7 = .ok (.newarray .short, 2) := by decide +kernel
theorem d_Im_init_9 : decode b_Im_init 9 = .ok (.putfield 9, 3) := by decide +kernel
theorem d_Im_init_12 : decode b_Im_init 12 = .ok (.return_, 1) := by decide +kernel
theorem d_H_revoke_0 : decode b_H_revoke 0 = .ok (.aload_n 0, 1) := by decide +kernel
theorem d_H_revoke_1 : decode b_H_revoke 1 = .ok (.iload_n 1, 1) := by decide +kernel
theorem d_H_revoke_2 : decode b_H_revoke 2 = .ok (.invokevirtual 68, 3) := by decide +kernel
theorem d_H_revoke_5 : decode b_H_revoke 5 = .ok (.astore_n 2, 1) := by decide +kernel
theorem d_H_revoke_6 : decode b_H_revoke 6 = .ok (.aload_n 2, 1) := by decide +kernel
theorem d_H_revoke_7 : decode b_H_revoke 7 = .ok (.getfield 72, 3) := by decide +kernel
theorem d_H_revoke_10 : decode b_H_revoke 10 = .ok (.ifCond .eq 5, 3) := by decide +kernel
theorem d_H_revoke_13 : decode b_H_revoke 13 = .ok (.iconst (-1), 1) := by decide +kernel
theorem d_H_revoke_14 : decode b_H_revoke 14 = .ok (.ireturn, 1) := by decide +kernel
theorem d_H_revoke_15 : decode b_H_revoke 15 = .ok (.aload_n 0, 1) := by decide +kernel
theorem d_H_revoke_16 : decode b_H_revoke 16 = .ok (.getfield 19, 3) := by decide +kernel
theorem d_H_revoke_19 : decode b_H_revoke 19 = .ok (.invokevirtual 76, 3) := by decide +kernel
theorem d_H_revoke_22 : decode b_H_revoke 22 = .ok (.sipush 3000, 3) := by decide +kernel
theorem d_H_revoke_25 : decode b_H_revoke 25 = .ok (.if_icmp .lt 13, 3) := by decide +kernel
theorem d_H_revoke_28 : decode b_H_revoke 28 = .ok (.new 52, 3) := by decide +kernel
theorem d_H_revoke_31 : decode b_H_revoke 31 = .ok (.dup, 1) := by decide +kernel
theorem d_H_revoke_32 : decode b_H_revoke 32 = .ok (.ldc 79, 2) := by decide +kernel
theorem d_H_revoke_34 : decode b_H_revoke 34 = .ok (.invokespecial 56, 3) := by decide +kernel
theorem d_H_revoke_37 : decode b_H_revoke 37 = .ok (.athrow, 1) := by decide +kernel
theorem d_H_revoke_38 : decode b_H_revoke 38 = .ok (.aload_n 2, 1) := by decide +kernel
theorem d_H_revoke_39 : decode b_H_revoke 39 = .ok (.aload_n 0, 1) := by decide +kernel
theorem d_H_revoke_40 : decode b_H_revoke 40 = .ok (.getfield 19, 3) := by decide +kernel
theorem d_H_revoke_43 : decode b_H_revoke 43 = .ok (.iload_n 1, 1) := by decide +kernel
theorem d_H_revoke_44 : decode b_H_revoke 44 = .ok (.invokevirtual 81, 3) := by decide +kernel
theorem d_H_revoke_47 : decode b_H_revoke 47 = .ok (.putfield 72, 3) := by decide +kernel
theorem d_H_revoke_50 : decode b_H_revoke 50 = .ok (.aload_n 2, 1) := by decide +kernel
theorem d_H_revoke_51 : decode b_H_revoke 51 = .ok (.getfield 72, 3) := by decide +kernel
theorem d_H_revoke_54 : decode b_H_revoke 54 = .ok (.ireturn, 1) := by decide +kernel
theorem d_H_cardAt_0 : decode b_H_cardAt 0 = .ok (.aload_n 0, 1) := by decide +kernel
theorem d_H_cardAt_1 : decode b_H_cardAt 1 = .ok (.iload_n 1, 1) := by decide +kernel
theorem d_H_cardAt_2 : decode b_H_cardAt 2 = .ok (.invokevirtual 192, 3) := by decide +kernel
theorem d_H_cardAt_5 : decode b_H_cardAt 5 = .ok (.ifCond .ne 13, 3) := by decide +kernel
theorem d_H_cardAt_8 : decode b_H_cardAt 8 = .ok (.new 127, 3) := by decide +kernel
theorem d_H_cardAt_11 : decode b_H_cardAt 11 = .ok (.dup, 1) := by decide +kernel
theorem d_H_cardAt_12 : decode b_H_cardAt 12 = .ok (.ldc 207, 2) := by decide +kernel
theorem d_H_cardAt_14 : decode b_H_cardAt 14 = .ok (.invokespecial 131, 3) := by decide +kernel
theorem d_H_cardAt_17 : decode b_H_cardAt 17 = .ok (.athrow, 1) := by decide +kernel
theorem d_H_cardAt_18 : decode b_H_cardAt 18 = .ok (.aload_n 0, 1) := by decide +kernel
theorem d_H_cardAt_19 : decode b_H_cardAt 19 = .ok (.getfield 10, 3) := by decide +kernel
theorem d_H_cardAt_22 : decode b_H_cardAt 22 = .ok (.iload_n 1, 1) := by decide +kernel
theorem d_H_cardAt_23 : decode b_H_cardAt 23 = .ok (.invokevirtual 203, 3) := by decide +kernel
theorem d_H_cardAt_26 : decode b_H_cardAt 26 = .ok (.checkcast 59, 3) := by decide +kernel
theorem d_H_cardAt_29 : decode b_H_cardAt 29 = .ok (.areturn, 1) := by decide +kernel
theorem d_H_isCard_0 : decode b_H_isCard 0 = .ok (.iload_n 1, 1) := by decide +kernel
theorem d_H_isCard_1 : decode b_H_isCard 1 = .ok (.ifCond .lt 18, 3) := by decide +kernel
theorem d_H_isCard_4 : decode b_H_isCard 4 = .ok (.iload_n 1, 1) := by decide +kernel
theorem d_H_isCard_5 : decode b_H_isCard 5 = .ok (.aload_n 0, 1) := by decide +kernel
theorem d_H_isCard_6 : decode b_H_isCard 6 = .ok (.getfield 10, 3) := by decide +kernel
theorem d_H_isCard_9 : decode b_H_isCard 9 = .ok (.invokevirtual 48, 3) := by decide +kernel
theorem d_H_isCard_12 : decode b_H_isCard 12 = .ok (.if_icmp .ge 7, 3) := by decide +kernel
theorem d_H_isCard_15 : decode b_H_isCard 15 = .ok (.iconst 1, 1) := by decide +kernel
theorem d_H_isCard_16 : decode b_H_isCard 16 = .ok (.goto 4, 3) := by decide +kernel
theorem d_H_isCard_19 : decode b_H_isCard 19 = .ok (.iconst 0, 1) := by decide +kernel
theorem d_H_isCard_20 : decode b_H_isCard 20 = .ok (.ireturn, 1) := by decide +kernel
theorem d_EL_append_0 : decode b_EL_append 0 = .ok (.aload_n 0, 1) := by decide +kernel
theorem d_EL_append_1 : decode b_EL_append 1 = .ok (.getfield 12, 3) := by decide +kernel
theorem d_EL_append_4 : decode b_EL_append 4 = .ok (.new 22, 3) := by decide +kernel
theorem d_EL_append_7 : decode b_EL_append 7 = .ok (.dup, 1) := by decide +kernel
theorem d_EL_append_8 : decode b_EL_append 8 = .ok (.iload_n 1, 1) := by decide +kernel
theorem d_EL_append_9 : decode b_EL_append 9 = .ok (.invokespecial 24, 3) := by decide +kernel
theorem d_EL_append_12 : decode b_EL_append 12 = .ok (.invokevirtual 27, 3) := by decide +kernel
theorem d_EL_append_15 : decode b_EL_append 15 = .ok (.pop, 1) := by decide +kernel
theorem d_EL_append_16 : decode b_EL_append 16 = .ok (.aload_n 0, 1) := by decide +kernel
theorem d_EL_append_17 : decode b_EL_append 17 = .ok (.getfield 12, 3) := by decide +kernel
theorem d_EL_append_20 : decode b_EL_append 20 = .ok (.invokevirtual 18, 3) := by decide +kernel
theorem d_EL_append_23 : decode b_EL_append 23 = .ok (.ireturn, 1) := by decide +kernel
theorem d_Entry_init_0 : decode b_Entry_init 0 = .ok (.aload_n 0, 1) := by decide +kernel
theorem d_Entry_init_1 : decode b_Entry_init 1 = .ok (.invokespecial 3, 3) := by decide +kernel
theorem d_Entry_init_4 : decode b_Entry_init 4 = .ok (.aload_n 0, 1) := by decide +kernel
theorem d_Entry_init_5 : decode b_Entry_init 5 = .ok (.sipush 200, 3) := by decide +kernel
theorem d_Entry_init_8 : decode b_Entry_init 8 = .ok (.newarray .boolean, 2) := by decide +kernel
theorem d_Entry_init_10 : decode b_Entry_init 10 = .ok (.putfield 9, 3) := by decide +kernel
theorem d_Entry_init_13 : decode b_Entry_init 13 = .ok (.aload_n 0, 1) := by decide +kernel
theorem d_Entry_init_14 : decode b_Entry_init 14 = .ok (.iload_n 1, 1) := by decide +kernel
theorem d_Entry_init_15 : decode b_Entry_init 15 = .ok (.putfield 15, 3) := by decide +kernel
theorem d_Entry_init_18 : decode b_Entry_init 18 = .ok (.return_, 1) := by decide +kernel
theorem d_H_gate_0 : decode b_H_gate 0 = .ok (.aload_n 0, 1) := by decide +kernel
theorem d_H_gate_1 : decode b_H_gate 1 = .ok (.iload_n 1, 1) := by decide +kernel
theorem d_H_gate_2 : decode b_H_gate 2 = .ok (.invokevirtual 68, 3) := by decide +kernel
theorem d_H_gate_5 : decode b_H_gate 5 = .ok (.astore_n 2, 1) := by decide +kernel
theorem d_H_gate_6 : decode b_H_gate 6 = .ok (.aload_n 0, 1) := by decide +kernel
theorem d_H_gate_7 : decode b_H_gate 7 = .ok (.getfield 19, 3) := by decide +kernel
theorem d_H_gate_10 : decode b_H_gate 10 = .ok (.invokevirtual 76, 3) := by decide +kernel
theorem d_H_gate_13 : decode b_H_gate 13 = .ok (.istore_n 3, 1) := by decide +kernel
theorem d_H_gate_14 : decode b_H_gate 14 = .ok (.iload_n 3, 1) := by decide +kernel
theorem d_H_gate_15 : decode b_H_gate 15 = .ok (.bipush 40, 2) := by decide +kernel
theorem d_H_gate_17 : decode b_H_gate 17 = .ok (.invokestatic 85, 3) := by decide +kernel
theorem d_H_gate_20 : decode b_H_gate 20 = .ok (.istore 4, 2) := by decide +kernel
theorem d_H_gate_22 : decode b_H_gate 22 = .ok (.iload 4, 2) := by decide +kernel
theorem d_H_gate_24 : decode b_H_gate 24 = .ok (.ifCond .ne 7, 3) := by decide +kernel
theorem d_H_gate_27 : decode b_H_gate 27 = .ok (.iconst 0, 1) := by decide +kernel
theorem d_H_gate_28 : decode b_H_gate 28 = .ok (.goto 9, 3) := by decide +kernel
theorem d_H_gate_31 : decode b_H_gate 31 = .ok (.iload_n 3, 1) := by decide +kernel
theorem d_H_gate_32 : decode b_H_gate 32 = .ok (.iload 4, 2) := by decide +kernel
theorem d_H_gate_34 : decode b_H_gate 34 = .ok (.isub, 1) := by decide +kernel
theorem d_H_gate_35 : decode b_H_gate 35 = .ok (.iconst 1, 1) := by decide +kernel
theorem d_H_gate_36 : decode b_H_gate 36 = .ok (.iadd, 1) := by decide +kernel
theorem d_H_gate_37 : decode b_H_gate 37 = .ok (.istore 5, 2) := by decide +kernel
theorem d_H_gate_39 : decode b_H_gate 39 = .ok (.aload_n 2, 1) := by decide +kernel
theorem d_H_gate_40 : decode b_H_gate 40 = .ok (.iload 5, 2) := by decide +kernel
theorem d_H_gate_42 : decode b_H_gate 42 = .ok (.iload 4, 2) := by decide +kernel
theorem d_H_gate_44 : decode b_H_gate 44 = .ok (.iload_n 3, 1) := by decide +kernel
theorem d_H_gate_45 : decode b_H_gate 45 = .ok (.aload_n 0, 1) := by decide +kernel
theorem d_H_gate_46 : decode b_H_gate 46 = .ok (.getfield 19, 3) := by decide +kernel
theorem d_H_gate_49 : decode b_H_gate 49 = .ok (.invokevirtual 91, 3) := by decide +kernel
theorem d_H_gate_52 : decode b_H_gate 52 = .ok (.return_, 1) := by decide +kernel
theorem d_Card_store_0 : decode b_Card_store 0 = .ok (.aload_n 0, 1) := by decide +kernel
theorem d_Card_store_1 : decode b_Card_store 1 = .ok (.invokevirtual 46, 3) := by decide +kernel
theorem d_Card_store_4 : decode b_Card_store 4 = .ok (.istore 5, 2) := by decide +kernel
theorem d_Card_store_6 : decode b_Card_store 6 = .ok (.aload_n 0, 1) := by decide +kernel
theorem d_Card_store_7 : decode b_Card_store 7 = .ok (.iload 5, 2) := by decide +kernel
theorem d_Card_store_9 : decode b_Card_store 9 = .ok (.invokevirtual 49, 3) := by decide +kernel
theorem d_Card_store_12 : decode b_Card_store 12 = .ok (.iload_n 1, 1) := by decide +kernel
theorem d_Card_store_13 : decode b_Card_store 13 = .ok (.iload_n 2, 1) := by decide +kernel
theorem d_Card_store_14 : decode b_Card_store 14 = .ok (.iload_n 3, 1) := by decide +kernel
theorem d_Card_store_15 : decode b_Card_store 15 = .ok (.invokevirtual 53, 3) := by decide +kernel
theorem d_Card_store_18 : decode b_Card_store 18 = .ok (.ifCond .eq 4, 3) := by decide +kernel
theorem d_Card_store_21 : decode b_Card_store 21 = .ok (.return_, 1) := by decide +kernel
theorem d_Card_store_22 : decode b_Card_store 22 = .ok (.aload_n 0, 1) := by decide +kernel
theorem d_Card_store_23 : decode b_Card_store 23 = .ok (.iload 5, 2) := by decide +kernel
theorem d_Card_store_25 : decode b_Card_store 25 = .ok (.invokevirtual 49, 3) := by decide +kernel
theorem d_Card_store_28 : decode b_Card_store 28 = .ok (.invokevirtual 42, 3) := by decide +kernel
theorem d_Card_store_31 : decode b_Card_store 31 = .ok (.iconst 1, 1) := by decide +kernel
theorem d_Card_store_32 : decode b_Card_store 32 = .ok (.iadd, 1) := by decide +kernel
theorem d_Card_store_33 : decode b_Card_store 33 = .ok (.sipush 255, 3) := by decide +kernel
theorem d_Card_store_36 : decode b_Card_store 36 = .ok (.iand, 1) := by decide +kernel
theorem d_Card_store_37 : decode b_Card_store 37 = .ok (.istore 6, 2) := by decide +kernel
theorem d_Card_store_39 : decode b_Card_store 39 = .ok (.sipush 256, 3) := by decide +kernel
theorem d_Card_store_42 : decode b_Card_store 42 = .ok (.iload 6, 2) := by decide +kernel
theorem d_Card_store_44 : decode b_Card_store 44 = .ok (.imul, 1) := by decide +kernel
theorem d_Card_store_45 : decode b_Card_store 45 = .ok (.iload_n 2, 1) := by decide +kernel
theorem d_Card_store_46 : decode b_Card_store 46 = .ok (.iadd, 1) := by decide +kernel
theorem d_Card_store_47 : decode b_Card_store 47 = .ok (.istore 7, 2) := by decide +kernel
theorem d_Card_store_49 : decode b_Card_store 49 = .ok (.aload_n 0, 1) := by decide +kernel
theorem d_Card_store_50 : decode b_Card_store 50 = .ok (.iconst 1, 1) := by decide +kernel
theorem d_Card_store_51 : decode b_Card_store 51 = .ok (.iload 5, 2) := by decide +kernel
theorem d_Card_store_53 : decode b_Card_store 53 = .ok (.isub, 1) := by decide +kernel
theorem d_Card_store_54 : decode b_Card_store 54 = .ok (.invokevirtual 49, 3) := by decide +kernel
theorem d_Card_store_57 : decode b_Card_store 57 = .ok (.astore 8, 2) := by decide +kernel
theorem d_Card_store_59 : decode b_Card_store 59 = .ok (.aload_n 0, 1) := by decide +kernel
theorem d_Card_store_60 : decode b_Card_store 60 = .ok (.aload_n 0, 1) := by decide +kernel
theorem d_Card_store_61 : decode b_Card_store 61 = .ok (.getfield 23, 3) := by decide +kernel
theorem d_Card_store_64 : decode b_Card_store 64 = .ok (.iconst (-1), 1) := by decide +kernel
theorem d_Card_store_65 : decode b_Card_store 65 = .ok (.if_icmp .ne 8, 3) := by decide +kernel
theorem d_Card_store_68 : decode b_Card_store 68 = .ok (.bipush 44, 2) := by decide +kernel
theorem d_Card_store_70 : decode b_Card_store 70 = .ok (.goto 7, 3) := by decide +kernel
theorem d_Card_store_73 : decode b_Card_store 73 = .ok (.aload_n 0, 1) := by decide +kernel
theorem d_Card_store_74 : decode b_Card_store 74 = .ok (.getfield 23, 3) := by decide +kernel
theorem d_Card_store_77 : decode b_Card_store 77 = .ok (.putfield 26, 3) := by decide +kernel
theorem d_Card_store_80 : decode b_Card_store 80 = .ok (.aload_n 0, 1) := by decide +kernel
theorem d_Card_store_81 : decode b_Card_store 81 = .ok (.iconst (-1), 1) := by decide +kernel
theorem d_Card_store_82 : decode b_Card_store 82 = .ok (.putfield 23, 3) := by decide +kernel
theorem d_Card_store_85 : decode b_Card_store 85 = .ok (.aload_n 0, 1) := by decide +kernel
theorem d_Card_store_86 : decode b_Card_store 86 = .ok (.aload 8, 2) := by decide +kernel
theorem d_Card_store_88 : decode b_Card_store 88 = .ok (.iconst 0, 1) := by decide +kernel
theorem d_Card_store_89 : decode b_Card_store 89 = .ok (.iload 7, 2) := by decide +kernel
theorem d_Card_store_91 : decode b_Card_store 91 = .ok (.invokevirtual 57, 3) := by decide +kernel
theorem d_Card_store_94 : decode b_Card_store 94 = .ok (.aload_n 0, 1) := by decide +kernel
theorem d_Card_store_95 : decode b_Card_store 95 = .ok (.aload 8, 2) := by decide +kernel
theorem d_Card_store_97 : decode b_Card_store 97 = .ok (.iconst 1, 1) := by decide +kernel
theorem d_Card_store_98 : decode b_Card_store 98 = .ok (.iload_n 1, 1) := by decide +kernel
theorem d_Card_store_99 : decode b_Card_store 99 = .ok (.invokevirtual 57, 3) := by decide +kernel
theorem d_Card_store_102 : decode b_Card_store 102 = .ok (.aload_n 0, 1) := by decide +kernel
theorem d_Card_store_103 : decode b_Card_store 103 = .ok (.aload 8, 2) := by decide +kernel
theorem d_Card_store_105 : decode b_Card_store 105 = .ok (.iconst 2, 1) := by decide +kernel
theorem d_Card_store_106 : decode b_Card_store 106 = .ok (.iload_n 3, 1) := by decide +kernel
theorem d_Card_store_107 : decode b_Card_store 107 = .ok (.invokevirtual 57, 3) := by decide +kernel
theorem d_Card_store_110 : decode b_Card_store 110 = .ok (.iconst 0, 1) := by decide +kernel
theorem d_Card_store_111 : decode b_Card_store 111 = .ok (.istore 9, 2) := by decide +kernel
theorem d_Card_store_113 : decode b_Card_store 113 = .ok (.iload 9, 2) := by decide +kernel
theorem d_Card_store_115 : decode b_Card_store 115 = .ok (.iload_n 2, 1) := by decide +kernel
theorem d_Card_store_116 : decode b_Card_store 116 = .ok (.if_icmp .ge 28, 3) := by decide +kernel
theorem d_Card_store_119 : decode b_Card_store 119 = .ok (.aload_n 0, 1) := by decide +kernel
theorem d_Card_store_120 : decode b_Card_store 120 = .ok (.aload 8, 2) := by decide +kernel
theorem d_Card_store_122 : decode b_Card_store 122 = .ok (.iconst 3, 1) := by decide +kernel
theorem d_Card_store_123 : decode b_Card_store 123 = .ok (.iload 9, 2) := by decide +kernel
theorem d_Card_store_125 : decode b_Card_store 125 = .ok (.iadd, 1) := by decide +kernel
theorem d_Card_store_126 : decode b_Card_store 126 = .ok (.aload 4, 2) := by decide +kernel
theorem d_Card_store_128 : decode b_Card_store 128 = .ok (.iload_n 1, 1) := by decide +kernel
theorem d_Card_store_129 : decode b_Card_store 129 = .ok (.iload 9, 2) := by decide +kernel
theorem d_Card_store_131 : decode b_Card_store 131 = .ok (.iadd, 1) := by decide +kernel
theorem d_Card_store_132 : decode b_Card_store 132 = .ok (.invokevirtual 61, 3) := by decide +kernel
theorem d_Card_store_135 : decode b_Card_store 135 = .ok (.invokevirtual 57, 3) := by decide +kernel
theorem d_Card_store_138 : decode b_Card_store 138 = .ok (.iinc 9 1, 3) := by decide +kernel
theorem d_Card_store_141 : decode b_Card_store 141 = .ok (.goto (-28), 3) := by decide +kernel
theorem d_Card_store_144 : decode b_Card_store 144 = .ok (.aload_n 0, 1) := by decide +kernel
theorem d_Card_store_145 : decode b_Card_store 145 = .ok (.aload 8, 2) := by decide +kernel
theorem d_Card_store_147 : decode b_Card_store 147 = .ok (.bipush 43, 2) := by decide +kernel
theorem d_Card_store_149 : decode b_Card_store 149 = .ok (.iload 7, 2) := by decide +kernel
theorem d_Card_store_151 : decode b_Card_store 151 = .ok (.invokevirtual 57, 3) := by decide +kernel
theorem d_Card_store_154 : decode b_Card_store 154 = .ok (.return_, 1) := by decide +kernel
theorem d_Card_currentIndex_0 : decode b_Card_currentIndex 0 = .ok (.aload_n 0, 1) := by decide +kernel
theorem d_Card_currentIndex_1 : decode b_Card_currentIndex 1 = .ok (.getfield 16, 3) := by decide +kernel
theorem d_Card_currentIndex_4 : decode b_Card_currentIndex 4 = .ok (.invokevirtual 38, 3) := by decide +kernel
theorem d_Card_currentIndex_7 : decode b_Card_currentIndex 7 = .ok (.ifCond .ne 5, 3) := by decide +kernel
theorem d_Card_currentIndex_10 : decode b_Card_currentIndex 10 = .ok (.iconst 0, 1) := by decide +kernel
theorem d_Card_currentIndex_11 : decode b_Card_currentIndex 11 = .ok (.ireturn, 1) := by decide +kernel
theorem d_Card_currentIndex_12 : decode b_Card_currentIndex 12 = .ok (.aload_n 0, 1) := by decide +kernel
theorem d_Card_currentIndex_13 : decode b_Card_currentIndex 13 = .ok (.getfield 10, 3) := by decide +kernel
theorem d_Card_currentIndex_16 : decode b_Card_currentIndex 16 = .ok (.invokevirtual 38, 3) := by decide +kernel
theorem d_Card_currentIndex_19 : decode b_Card_currentIndex 19 = .ok (.ifCond .ne 5, 3) := by decide +kernel
theorem d_Card_currentIndex_22 : decode b_Card_currentIndex 22 = .ok (.iconst 1, 1) := by decide +kernel
theorem d_Card_currentIndex_23 : decode b_Card_currentIndex 23 = .ok (.ireturn, 1) := by decide +kernel
theorem d_Card_currentIndex_24 : decode b_Card_currentIndex 24 = .ok (.aload_n 0, 1) := by decide +kernel
theorem d_Card_currentIndex_25 : decode b_Card_currentIndex 25 = .ok (.getfield 16, 3) := by decide +kernel
theorem d_Card_currentIndex_28 : decode b_Card_currentIndex 28 = .ok (.invokevirtual 42, 3) := by decide +kernel
theorem d_Card_currentIndex_31 : decode b_Card_currentIndex 31 = .ok (.aload_n 0, 1) := by decide +kernel
theorem d_Card_currentIndex_32 : decode b_Card_currentIndex 32 = .ok (.getfield 10, 3) := by decide +kernel
theorem d_Card_currentIndex_35 : decode b_Card_currentIndex 35 = .ok (.invokevirtual 42, 3) := by decide +kernel
theorem d_Card_currentIndex_38 : decode b_Card_currentIndex 38 = .ok (.isub, 1) := by decide +kernel
theorem d_Card_currentIndex_39 : decode b_Card_currentIndex 39 = .ok (.i2b, 1) := by decide +kernel
theorem d_Card_currentIndex_40 : decode b_Card_currentIndex 40 = .ok (.istore_n 1, 1) := by decide +kernel
theorem d_Card_currentIndex_41 : decode b_Card_currentIndex 41 = .ok (.iload_n 1, 1) := by decide +kernel
theorem d_Card_currentIndex_42 : decode b_Card_currentIndex 42 = .ok (.ifCond .le 7, 3) := by decide +kernel
theorem d_Card_currentIndex_45 : decode b_Card_currentIndex 45 = .ok (.iconst 1, 1) := by decide +kernel
theorem d_Card_currentIndex_46 : decode b_Card_currentIndex 46 = .ok (.goto 4, 3) := by decide +kernel
theorem d_Card_currentIndex_49 : decode b_Card_currentIndex 49 = .ok (.iconst 0, 1) := by decide +kernel
theorem d_Card_currentIndex_50 : decode b_Card_currentIndex 50 = .ok (.ireturn, 1) := by decide +kernel
theorem d_Im_isWhole_0 : decode b_Im_isWhole 0 = .ok (.aload_n 0, 1) := by decide +kernel
theorem d_Im_isWhole_1 : decode b_Im_isWhole 1 = .ok (.iconst 0, 1) := by decide +kernel
theorem d_Im_isWhole_2 : decode b_Im_isWhole 2 = .ok (.invokevirtual 13, 3) := by decide +kernel
theorem d_Im_isWhole_5 : decode b_Im_isWhole 5 = .ok (.aload_n 0, 1) := by decide +kernel
theorem d_Im_isWhole_6 : decode b_Im_isWhole 6 = .ok (.bipush 43, 2) := by decide +kernel
theorem d_Im_isWhole_8 : decode b_Im_isWhole 8 = .ok (.invokevirtual 13, 3) := by decide +kernel
theorem d_Im_isWhole_11 : decode b_Im_isWhole 11 = .ok (.if_icmp .ne 7, 3) := by decide +kernel
theorem d_Im_isWhole_14 : decode b_Im_isWhole 14 = .ok (.iconst 1, 1) := by decide +kernel
theorem d_Im_isWhole_15 : decode b_Im_isWhole 15 = .ok (.goto 4, 3) := by decide +kernel
theorem d_Im_isWhole_18 : decode b_Im_isWhole 18 = .ok (.iconst 0, 1) := by decide +kernel
theorem d_Im_isWhole_19 : decode b_Im_isWhole 19 = .ok (.ireturn, 1) := by decide +kernel
theorem d_Im_at_0 : decode b_Im_at 0 = .ok (.iload_n 1, 1) := by decide +kernel
theorem d_Im_at_1 : decode b_Im_at 1 = .ok (.ifCond .lt 21, 3) := by decide +kernel
theorem d_Im_at_4 : decode b_Im_at 4 = .ok (.iload_n 1, 1) := by decide +kernel
theorem d_Im_at_5 : decode b_Im_at 5 = .ok (.aload_n 0, 1) := by decide +kernel
theorem d_Im_at_6 : decode b_Im_at 6 = .ok (.getfield 9, 3) := by decide +kernel
theorem d_Im_at_9 : decode b_Im_at 9 = .ok (.arraylength, 1) := by decide +kernel
theorem d_Im_at_10 : decode b_Im_at 10 = .ok (.if_icmp .ge 12, 3) := by decide +kernel
theorem d_Im_at_13 : decode b_Im_at 13 = .ok (.aload_n 0, 1) := by decide +kernel
theorem d_Im_at_14 : decode b_Im_at 14 = .ok (.getfield 9, 3) := by decide +kernel
theorem d_Im_at_17 : decode b_Im_at 17 = .ok (.iload_n 1, 1) := by decide +kernel
theorem d_Im_at_18 : decode b_Im_at 18 = .ok (.saload, 1) := by decide +kernel
theorem d_Im_at_19 : decode b_Im_at 19 = .ok (.goto 4, 3) := by decide +kernel
theorem d_Im_at_22 : decode b_Im_at 22 = .ok (.iconst 0, 1) := by decide +kernel
theorem d_Im_at_23 : decode b_Im_at 23 = .ok (.ireturn, 1) := by decide +kernel
theorem d_Im_sequence_0 : decode b_Im_sequence 0 = .ok (.aload_n 0, 1) := by decide +kernel
theorem d_Im_sequence_1 : decode b_Im_sequence 1 = .ok (.iconst 0, 1) := by decide +kernel
theorem d_Im_sequence_2 : decode b_Im_sequence 2 = .ok (.invokevirtual 13, 3) := by decide +kernel
theorem d_Im_sequence_5 : decode b_Im_sequence 5 = .ok (.bipush 8, 2) := by decide +kernel
theorem d_Im_sequence_7 : decode b_Im_sequence 7 = .ok (.ishr, 1) := by decide +kernel
theorem d_Im_sequence_8 : decode b_Im_sequence 8 = .ok (.sipush 255, 3) := by decide +kernel
theorem d_Im_sequence_11 : decode b_Im_sequence 11 = .ok (.iand, 1) := by decide +kernel
theorem d_Im_sequence_12 : decode b_Im_sequence 12 = .ok (.ireturn, 1) := by decide +kernel
theorem d_Card_image_0 : decode b_Card_image 0 = .ok (.iload_n 1, 1) := by decide +kernel
theorem d_Card_image_1 : decode b_Card_image 1 = .ok (.ifCond .ne 10, 3) := by decide +kernel
theorem d_Card_image_4 : decode b_Card_image 4 = .ok (.aload_n 0, 1) := by decide +kernel
theorem d_Card_image_5 : decode b_Card_image 5 = .ok (.getfield 10, 3) := by decide +kernel
theorem d_Card_image_8 : decode b_Card_image 8 = .ok (.goto 7, 3) := by decide +kernel
theorem d_Card_image_11 : decode b_Card_image 11 = .ok (.aload_n 0, 1) := by decide +kernel
theorem d_Card_image_12 : decode b_Card_image 12 = .ok (.getfield 16, 3) := by decide +kernel
theorem d_Card_image_15 : decode b_Card_image 15 = .ok (.areturn, 1) := by decide +kernel
theorem d_Im_tells_0 : decode b_Im_tells 0 = .ok (.aload_n 0, 1) := by decide +kernel
theorem d_Im_tells_1 : decode b_Im_tells 1 = .ok (.iconst 1, 1) := by decide +kernel
theorem d_Im_tells_2 : decode b_Im_tells 2 = .ok (.invokevirtual 13, 3) := by decide +kernel
theorem d_Im_tells_5 : decode b_Im_tells 5 = .ok (.iload_n 1, 1) := by decide +kernel
theorem d_Im_tells_6 : decode b_Im_tells 6 = .ok (.if_icmp .ne 24, 3) := by decide +kernel
theorem d_Im_tells_9 : decode b_Im_tells 9 = .ok (.aload_n 0, 1) := by decide +kernel
theorem d_Im_tells_10 : decode b_Im_tells 10 = .ok (.invokevirtual 17, 3) := by decide +kernel
theorem d_Im_tells_13 : decode b_Im_tells 13 = .ok (.iload_n 2, 1) := by decide +kernel
theorem d_Im_tells_14 : decode b_Im_tells 14 = .ok (.if_icmp .ne 16, 3) := by decide +kernel
theorem d_Im_tells_17 : decode b_Im_tells 17 = .ok (.aload_n 0, 1) := by decide +kernel
theorem d_Im_tells_18 : decode b_Im_tells 18 = .ok (.iconst 2, 1) := by decide +kernel
theorem d_Im_tells_19 : decode b_Im_tells 19 = .ok (.invokevirtual 13, 3) := by decide +kernel
theorem d_Im_tells_22 : decode b_Im_tells 22 = .ok (.iload_n 3, 1) := by decide +kernel
theorem d_Im_tells_23 : decode b_Im_tells 23 = .ok (.if_icmp .ne 7, 3) := by decide +kernel
theorem d_Im_tells_26 : decode b_Im_tells 26 = .ok (.iconst 1, 1) := by decide +kernel
theorem d_Im_tells_27 : decode b_Im_tells 27 = .ok (.goto 4, 3) := by decide +kernel
theorem d_Im_tells_30 : decode b_Im_tells 30 = .ok (.iconst 0, 1) := by decide +kernel
theorem d_Im_tells_31 : decode b_Im_tells 31 = .ok (.ireturn, 1) := by decide +kernel
theorem d_Im_count_0 : decode b_Im_count 0 = .ok (.aload_n 0, 1) := by decide +kernel
theorem d_Im_count_1 : decode b_Im_count 1 = .ok (.iconst 0, 1) := by decide +kernel
theorem d_Im_count_2 : decode b_Im_count 2 = .ok (.invokevirtual 13, 3) := by decide +kernel
theorem d_Im_count_5 : decode b_Im_count 5 = .ok (.sipush 255, 3) := by decide +kernel
theorem d_Im_count_8 : decode b_Im_count 8 = .ok (.iand, 1) := by decide +kernel
theorem d_Im_count_9 : decode b_Im_count 9 = .ok (.ireturn, 1) := by decide +kernel
theorem d_Card_putNext_0 : decode b_Card_putNext 0 = .ok (.aload_n 0, 1) := by decide +kernel
theorem d_Card_putNext_1 : decode b_Card_putNext 1 = .ok (.getfield 26, 3) := by decide +kernel
theorem d_Card_putNext_4 : decode b_Card_putNext 4 = .ok (.ifCond .le 29, 3) := by decide +kernel
theorem d_Card_putNext_7 : decode b_Card_putNext 7 = .ok (.aload_n 1, 1) := by decide +kernel
theorem d_Card_putNext_8 : decode b_Card_putNext 8 = .ok (.iload_n 2, 1) := by decide +kernel
theorem d_Card_putNext_9 : decode b_Card_putNext 9 = .ok (.iload_n 3, 1) := by decide +kernel
theorem d_Card_putNext_10 : decode b_Card_putNext 10 = .ok (.invokevirtual 67, 3) := by decide +kernel
theorem d_Card_putNext_13 : decode b_Card_putNext 13 = .ok (.aload_n 0, 1) := by decide +kernel
theorem d_Card_putNext_14 : decode b_Card_putNext 14 = .ok (.dup, 1) := by decide +kernel
theorem d_Card_putNext_15 : decode b_Card_putNext 15 = .ok (.getfield 26, 3) := by decide +kernel
theorem d_Card_putNext_18 : decode b_Card_putNext 18 = .ok (.iconst 1, 1) := by decide +kernel
theorem d_Card_putNext_19 : decode b_Card_putNext 19 = .ok (.isub, 1) := by decide +kernel
theorem d_Card_putNext_20 : decode b_Card_putNext 20 = .ok (.putfield 26, 3) := by decide +kernel
theorem d_Card_putNext_23 : decode b_Card_putNext 23 = .ok (.aload_n 0, 1) := by decide +kernel
theorem d_Card_putNext_24 : decode b_Card_putNext 24 = .ok (.dup, 1) := by decide +kernel
theorem d_Card_putNext_25 : decode b_Card_putNext 25 = .ok (.getfield 29, 3) := by decide +kernel
theorem d_Card_putNext_28 : decode b_Card_putNext 28 = .ok (.iconst 1, 1) := by decide +kernel
theorem d_Card_putNext_29 : decode b_Card_putNext 29 = .ok (.iadd, 1) := by decide +kernel
theorem d_Card_putNext_30 : decode b_Card_putNext 30 = .ok (.putfield 29, 3) := by decide +kernel
theorem d_Card_putNext_33 : decode b_Card_putNext 33 = .ok (.return_, 1) := by decide +kernel
theorem d_Im_put_0 : decode b_Im_put 0 = .ok (.iload_n 1, 1) := by decide +kernel
theorem d_Im_put_1 : decode b_Im_put 1 = .ok (.ifCond .lt 20, 3) := by decide +kernel
theorem d_Im_put_4 : decode b_Im_put 4 = .ok (.iload_n 1, 1) := by decide +kernel
theorem d_Im_put_5 : decode b_Im_put 5 = .ok (.aload_n 0, 1) := by decide +kernel
theorem d_Im_put_6 : decode b_Im_put 6 = .ok (.getfield 9, 3) := by decide +kernel
theorem d_Im_put_9 : decode b_Im_put 9 = .ok (.arraylength, 1) := by decide +kernel
theorem d_Im_put_10 : decode b_Im_put 10 = .ok (.if_icmp .ge 11, 3) := by decide +kernel
theorem d_Im_put_13 : decode b_Im_put 13 = .ok (.aload_n 0, 1) := by decide +kernel
theorem d_Im_put_14 : decode b_Im_put 14 = .ok (.getfield 9, 3) := by decide +kernel
theorem d_Im_put_17 : decode b_Im_put 17 = .ok (.iload_n 1, 1) := by decide +kernel
theorem d_Im_put_18 : decode b_Im_put 18 = .ok (.iload_n 2, 1) := by decide +kernel
theorem d_Im_put_19 : decode b_Im_put 19 = .ok (.i2s, 1) := by decide +kernel
theorem d_Im_put_20 : decode b_Im_put 20 = .ok (.sastore, 1) := by decide +kernel
theorem d_Im_put_21 : decode b_Im_put 21 = .ok (.return_, 1) := by decide +kernel
theorem d_EL_cardOf_0 : decode b_EL_cardOf 0 = .ok (.aload_n 0, 1) := by decide +kernel
theorem d_EL_cardOf_1 : decode b_EL_cardOf 1 = .ok (.iload_n 1, 1) := by decide +kernel
theorem d_EL_cardOf_2 : decode b_EL_cardOf 2 = .ok (.invokevirtual 31, 3) := by decide +kernel
theorem d_EL_cardOf_5 : decode b_EL_cardOf 5 = .ok (.ifCond .eq 22, 3) := by decide +kernel
theorem d_EL_cardOf_8 : decode b_EL_cardOf 8 = .ok (.aload_n 0, 1) := by decide +kernel
theorem d_EL_cardOf_9 : decode b_EL_cardOf 9 = .ok (.getfield 12, 3) := by decide +kernel
theorem d_EL_cardOf_12 : decode b_EL_cardOf 12 = .ok (.iload_n 1, 1) := by decide +kernel
theorem d_EL_cardOf_13 : decode b_EL_cardOf 13 = .ok (.iconst 1, 1) := by decide +kernel
theorem d_EL_cardOf_14 : decode b_EL_cardOf 14 = .ok (.isub, 1) := by decide +kernel
theorem d_EL_cardOf_15 : decode b_EL_cardOf 15 = .ok (.invokevirtual 35, 3) := by decide +kernel
theorem d_EL_cardOf_18 : decode b_EL_cardOf 18 = .ok (.checkcast 22, 3) := by decide +kernel
theorem d_EL_cardOf_21 : decode b_EL_cardOf 21 = .ok (.getfield 39, 3) := by decide +kernel
theorem d_EL_cardOf_24 : decode b_EL_cardOf 24 = .ok (.goto 4, 3) := by decide +kernel
theorem d_EL_cardOf_27 : decode b_EL_cardOf 27 = .ok (.iconst (-1), 1) := by decide +kernel
theorem d_EL_cardOf_28 : decode b_EL_cardOf 28 = .ok (.ireturn, 1) := by decide +kernel
theorem d_EL_holds_0 : decode b_EL_holds 0 = .ok (.iload_n 1, 1) := by decide +kernel
theorem d_EL_holds_1 : decode b_EL_holds 1 = .ok (.iconst 1, 1) := by decide +kernel
theorem d_EL_holds_2 : decode b_EL_holds 2 = .ok (.if_icmp .lt 18, 3) := by decide +kernel
theorem d_EL_holds_5 : decode b_EL_holds 5 = .ok (.iload_n 1, 1) := by decide +kernel
theorem d_EL_holds_6 : decode b_EL_holds 6 = .ok (.aload_n 0, 1) := by decide +kernel
theorem d_EL_holds_7 : decode b_EL_holds 7 = .ok (.getfield 12, 3) := by decide +kernel
theorem d_EL_holds_10 : decode b_EL_holds 10 = .ok (.invokevirtual 18, 3) := by decide +kernel
theorem d_EL_holds_13 : decode b_EL_holds 13 = .ok (.if_icmp .gt 7, 3) := by decide +kernel
theorem d_EL_holds_16 : decode b_EL_holds 16 = .ok (.iconst 1, 1) := by decide +kernel
theorem d_EL_holds_17 : decode b_EL_holds 17 = .ok (.goto 4, 3) := by decide +kernel
theorem d_EL_holds_20 : decode b_EL_holds 20 = .ok (.iconst 0, 1) := by decide +kernel
theorem d_EL_holds_21 : decode b_EL_holds 21 = .ok (.ireturn, 1) := by decide +kernel
theorem d_H_zoneOf_0 : decode b_H_zoneOf 0 = .ok (.aload_n 0, 1) := by decide +kernel
theorem d_H_zoneOf_1 : decode b_H_zoneOf 1 = .ok (.iload_n 1, 1) := by decide +kernel
theorem d_H_zoneOf_2 : decode b_H_zoneOf 2 = .ok (.invokevirtual 95, 3) := by decide +kernel
theorem d_H_zoneOf_5 : decode b_H_zoneOf 5 = .ok (.astore_n 3, 1) := by decide +kernel
theorem d_H_zoneOf_6 : decode b_H_zoneOf 6 = .ok (.iload_n 2, 1) := by decide +kernel
theorem d_H_zoneOf_7 : decode b_H_zoneOf 7 = .ok (.ifCond .lt 9, 3) := by decide +kernel
theorem d_H_zoneOf_10 : decode b_H_zoneOf 10 = .ok (.iload_n 2, 1) := by decide +kernel
theorem d_H_zoneOf_11 : decode b_H_zoneOf 11 = .ok (.bipush 32, 2) := by decide +kernel
theorem d_H_zoneOf_13 : decode b_H_zoneOf 13 = .ok (.if_icmp .lt 13, 3) := by decide +kernel
theorem d_H_zoneOf_16 : decode b_H_zoneOf 16 = .ok (.new 99, 3) := by decide +kernel
theorem d_H_zoneOf_19 : decode b_H_zoneOf 19 = .ok (.dup, 1) := by decide +kernel
theorem d_H_zoneOf_20 : decode b_H_zoneOf 20 = .ok (.ldc 101, 2) := by decide +kernel
theorem d_H_zoneOf_22 : decode b_H_zoneOf 22 = .ok (.invokespecial 103, 3) := by decide +kernel
theorem d_H_zoneOf_25 : decode b_H_zoneOf 25 = .ok (.athrow, 1) := by decide +kernel
theorem d_H_zoneOf_26 : decode b_H_zoneOf 26 = .ok (.aload_n 3, 1) := by decide +kernel
theorem d_H_zoneOf_27 : decode b_H_zoneOf 27 = .ok (.getfield 104, 3) := by decide +kernel
theorem d_H_zoneOf_30 : decode b_H_zoneOf 30 = .ok (.ifCond .eq 13, 3) := by decide +kernel
theorem d_H_zoneOf_33 : decode b_H_zoneOf 33 = .ok (.new 52, 3) := by decide +kernel
theorem d_H_zoneOf_36 : decode b_H_zoneOf 36 = .ok (.dup, 1) := by decide +kernel
theorem d_H_zoneOf_37 : decode b_H_zoneOf 37 = .ok (.ldc 108, 2) := by decide +kernel
theorem d_H_zoneOf_39 : decode b_H_zoneOf 39 = .ok (.invokespecial 56, 3) := by decide +kernel
theorem d_H_zoneOf_42 : decode b_H_zoneOf 42 = .ok (.athrow, 1) := by decide +kernel
theorem d_H_zoneOf_43 : decode b_H_zoneOf 43 = .ok (.aload_n 3, 1) := by decide +kernel
theorem d_H_zoneOf_44 : decode b_H_zoneOf 44 = .ok (.iload_n 2, 1) := by decide +kernel
theorem d_H_zoneOf_45 : decode b_H_zoneOf 45 = .ok (.putfield 110, 3) := by decide +kernel
theorem d_H_zoneOf_48 : decode b_H_zoneOf 48 = .ok (.return_, 1) := by decide +kernel
theorem d_H_doorAt_0 : decode b_H_doorAt 0 = .ok (.aload_n 0, 1) := by decide +kernel
theorem d_H_doorAt_1 : decode b_H_doorAt 1 = .ok (.iload_n 1, 1) := by decide +kernel
theorem d_H_doorAt_2 : decode b_H_doorAt 2 = .ok (.invokevirtual 196, 3) := by decide +kernel
theorem d_H_doorAt_5 : decode b_H_doorAt 5 = .ok (.ifCond .ne 13, 3) := by decide +kernel
theorem d_H_doorAt_8 : decode b_H_doorAt 8 = .ok (.new 127, 3) := by decide +kernel
theorem d_H_doorAt_11 : decode b_H_doorAt 11 = .ok (.dup, 1) := by decide +kernel
theorem d_H_doorAt_12 : decode b_H_doorAt 12 = .ok (.ldc 209, 2) := by decide +kernel
theorem d_H_doorAt_14 : decode b_H_doorAt 14 = .ok (.invokespecial 131, 3) := by decide +kernel
theorem d_H_doorAt_17 : decode b_H_doorAt 17 = .ok (.athrow, 1) := by decide +kernel
theorem d_H_doorAt_18 : decode b_H_doorAt 18 = .ok (.aload_n 0, 1) := by decide +kernel
theorem d_H_doorAt_19 : decode b_H_doorAt 19 = .ok (.getfield 25, 3) := by decide +kernel
theorem d_H_doorAt_22 : decode b_H_doorAt 22 = .ok (.iload_n 1, 1) := by decide +kernel
theorem d_H_doorAt_23 : decode b_H_doorAt 23 = .ok (.aaload, 1) := by decide +kernel
theorem d_H_doorAt_24 : decode b_H_doorAt 24 = .ok (.areturn, 1) := by decide +kernel
theorem d_H_isDoor_0 : decode b_H_isDoor 0 = .ok (.iload_n 1, 1) := by decide +kernel
theorem d_H_isDoor_1 : decode b_H_isDoor 1 = .ok (.ifCond .lt 16, 3) := by decide +kernel
theorem d_H_isDoor_4 : decode b_H_isDoor 4 = .ok (.iload_n 1, 1) := by decide +kernel
theorem d_H_isDoor_5 : decode b_H_isDoor 5 = .ok (.aload_n 0, 1) := by decide +kernel
theorem d_H_isDoor_6 : decode b_H_isDoor 6 = .ok (.getfield 25, 3) := by decide +kernel
theorem d_H_isDoor_9 : decode b_H_isDoor 9 = .ok (.arraylength, 1) := by decide +kernel
theorem d_H_isDoor_10 : decode b_H_isDoor 10 = .ok (.if_icmp .ge 7, 3) := by decide +kernel
theorem d_H_isDoor_13 : decode b_H_isDoor 13 = .ok (.iconst 1, 1) := by decide +kernel
theorem d_H_isDoor_14 : decode b_H_isDoor 14 = .ok (.goto 4, 3) := by decide +kernel
theorem d_H_isDoor_17 : decode b_H_isDoor 17 = .ok (.iconst 0, 1) := by decide +kernel
theorem d_H_isDoor_18 : decode b_H_isDoor 18 = .ok (.ireturn, 1) := by decide +kernel
theorem d_H_show_0 : decode b_H_show 0 = .ok (.aload_n 0, 1) := by decide +kernel
theorem d_H_show_1 : decode b_H_show 1 = .ok (.iload_n 1, 1) := by decide +kernel
theorem d_H_show_2 : decode b_H_show 2 = .ok (.invokevirtual 68, 3) := by decide +kernel
theorem d_H_show_5 : decode b_H_show 5 = .ok (.astore 4, 2) := by decide +kernel
theorem d_H_show_7 : decode b_H_show 7 = .ok (.aload_n 0, 1) := by decide +kernel
theorem d_H_show_8 : decode b_H_show 8 = .ok (.iload_n 2, 1) := by decide +kernel
theorem d_H_show_9 : decode b_H_show 9 = .ok (.invokevirtual 95, 3) := by decide +kernel
theorem d_H_show_12 : decode b_H_show 12 = .ok (.astore 5, 2) := by decide +kernel
theorem d_H_show_14 : decode b_H_show 14 = .ok (.aload_n 0, 1) := by decide +kernel
theorem d_H_show_15 : decode b_H_show 15 = .ok (.aload 4, 2) := by decide +kernel
theorem d_H_show_17 : decode b_H_show 17 = .ok (.aload 5, 2) := by decide +kernel
theorem d_H_show_19 : decode b_H_show 19 = .ok (.iload_n 3, 1) := by decide +kernel
theorem d_H_show_20 : decode b_H_show 20 = .ok (.invokevirtual 113, 3) := by decide +kernel
theorem d_H_show_23 : decode b_H_show 23 = .ok (.ireturn, 1) := by decide +kernel
theorem d_H_present_0 : decode b_H_present 0 = .ok (.aload_n 2, 1) := by decide +kernel
theorem d_H_present_1 : decode b_H_present 1 = .ok (.aload_n 1, 1) := by decide +kernel
theorem d_H_present_2 : decode b_H_present 2 = .ok (.invokevirtual 142, 3) := by decide +kernel
theorem d_H_present_5 : decode b_H_present 5 = .ok (.aload_n 0, 1) := by decide +kernel
theorem d_H_present_6 : decode b_H_present 6 = .ok (.getfield 19, 3) := by decide +kernel
theorem d_H_present_9 : decode b_H_present 9 = .ok (.invokevirtual 211, 3) := by decide +kernel
theorem d_H_present_12 : decode b_H_present 12 = .ok (.aload_n 2, 1) := by decide +kernel
theorem d_H_present_13 : decode b_H_present 13 = .ok (.aload_n 1, 1) := by decide +kernel
theorem d_H_present_14 : decode b_H_present 14 = .ok (.iload_n 3, 1) := by decide +kernel
theorem d_H_present_15 : decode b_H_present 15 = .ok (.aload_n 0, 1) := by decide +kernel
theorem d_H_present_16 : decode b_H_present 16 = .ok (.getfield 19, 3) := by decide +kernel
theorem d_H_present_19 : decode b_H_present 19 = .ok (.invokevirtual 215, 3) := by decide +kernel
theorem d_H_present_22 : decode b_H_present 22 = .ok (.istore 4, 2) := by decide +kernel
theorem d_H_present_24 : decode b_H_present 24 = .ok (.aload_n 2, 1) := by decide +kernel
theorem d_H_present_25 : decode b_H_present 25 = .ok (.aload_n 1, 1) := by decide +kernel
theorem d_H_present_26 : decode b_H_present 26 = .ok (.aload_n 0, 1) := by decide +kernel
theorem d_H_present_27 : decode b_H_present 27 = .ok (.getfield 19, 3) := by decide +kernel
theorem d_H_present_30 : decode b_H_present 30 = .ok (.invokevirtual 219, 3) := by decide +kernel
theorem d_H_present_33 : decode b_H_present 33 = .ok (.iload 4, 2) := by decide +kernel
theorem d_H_present_35 : decode b_H_present 35 = .ok (.ireturn, 1) := by decide +kernel
theorem d_Card_current_0 : decode b_Card_current 0 = .ok (.aload_n 0, 1) := by decide +kernel
theorem d_Card_current_1 : decode b_Card_current 1 = .ok (.aload_n 0, 1) := by decide +kernel
theorem d_Card_current_2 : decode b_Card_current 2 = .ok (.invokevirtual 46, 3) := by decide +kernel
theorem d_Card_current_5 : decode b_Card_current 5 = .ok (.invokevirtual 49, 3) := by decide +kernel
theorem d_Card_current_8 : decode b_Card_current 8 = .ok (.areturn, 1) := by decide +kernel
theorem d_Door_take_0 : decode b_Door_take 0 = .ok (.aload_n 1, 1) := by decide +kernel
theorem d_Door_take_1 : decode b_Door_take 1 = .ok (.iconst 1, 1) := by decide +kernel
theorem d_Door_take_2 : decode b_Door_take 2 = .ok (.invokevirtual 36, 3) := by decide +kernel
theorem d_Door_take_5 : decode b_Door_take 5 = .ok (.istore_n 3, 1) := by decide +kernel
theorem d_Door_take_6 : decode b_Door_take 6 = .ok (.aload_n 1, 1) := by decide +kernel
theorem d_Door_take_7 : decode b_Door_take 7 = .ok (.invokevirtual 40, 3) := by decide +kernel
theorem d_Door_take_10 : decode b_Door_take 10 = .ok (.istore 4, 2) := by decide +kernel
theorem d_Door_take_12 : decode b_Door_take 12 = .ok (.iconst 0, 1) := by decide +kernel
theorem d_Door_take_13 : decode b_Door_take 13 = .ok (.istore 5, 2) := by decide +kernel
theorem d_Door_take_15 : decode b_Door_take 15 = .ok (.iload 5, 2) := by decide +kernel
theorem d_Door_take_17 : decode b_Door_take 17 = .ok (.iload 4, 2) := by decide +kernel
theorem d_Door_take_19 : decode b_Door_take 19 = .ok (.if_icmp .ge 21, 3) := by decide +kernel
theorem d_Door_take_22 : decode b_Door_take 22 = .ok (.aload_n 2, 1) := by decide +kernel
theorem d_Door_take_23 : decode b_Door_take 23 = .ok (.iload_n 3, 1) := by decide +kernel
theorem d_Door_take_24 : decode b_Door_take 24 = .ok (.iload 5, 2) := by decide +kernel
theorem d_Door_take_26 : decode b_Door_take 26 = .ok (.iadd, 1) := by decide +kernel
theorem d_Door_take_27 : decode b_Door_take 27 = .ok (.aload_n 0, 1) := by decide +kernel
theorem d_Door_take_28 : decode b_Door_take 28 = .ok (.getfield 25, 3) := by decide +kernel
theorem d_Door_take_31 : decode b_Door_take 31 = .ok (.invokevirtual 44, 3) := by decide +kernel
theorem d_Door_take_34 : decode b_Door_take 34 = .ok (.iinc 5 1, 3) := by decide +kernel
theorem d_Door_take_37 : decode b_Door_take 37 = .ok (.goto (-22), 3) := by decide +kernel
theorem d_Door_take_40 : decode b_Door_take 40 = .ok (.iload 4, 2) := by decide +kernel
theorem d_Door_take_42 : decode b_Door_take 42 = .ok (.ifCond .le 20, 3) := by decide +kernel
theorem d_Door_take_45 : decode b_Door_take 45 = .ok (.aload_n 0, 1) := by decide +kernel
theorem d_Door_take_46 : decode b_Door_take 46 = .ok (.aload_n 0, 1) := by decide +kernel
theorem d_Door_take_47 : decode b_Door_take 47 = .ok (.getfield 18, 3) := by decide +kernel
theorem d_Door_take_50 : decode b_Door_take 50 = .ok (.iload_n 3, 1) := by decide +kernel
theorem d_Door_take_51 : decode b_Door_take 51 = .ok (.iload 4, 2) := by decide +kernel
theorem d_Door_take_53 : decode b_Door_take 53 = .ok (.iadd, 1) := by decide +kernel
theorem d_Door_take_54 : decode b_Door_take 54 = .ok (.iconst 1, 1) := by decide +kernel
theorem d_Door_take_55 : decode b_Door_take 55 = .ok (.isub, 1) := by decide +kernel
theorem d_Door_take_56 : decode b_Door_take 56 = .ok (.invokestatic 48, 3) := by decide +kernel
theorem d_Door_take_59 : decode b_Door_take 59 = .ok (.putfield 18, 3) := by decide +kernel
theorem d_Door_take_62 : decode b_Door_take 62 = .ok (.aload_n 0, 1) := by decide +kernel
theorem d_Door_take_63 : decode b_Door_take 63 = .ok (.aload_n 0, 1) := by decide +kernel
theorem d_Door_take_64 : decode b_Door_take 64 = .ok (.getfield 15, 3) := by decide +kernel
theorem d_Door_take_67 : decode b_Door_take 67 = .ok (.aload_n 1, 1) := by decide +kernel
theorem d_Door_take_68 : decode b_Door_take 68 = .ok (.iconst 2, 1) := by decide +kernel
theorem d_Door_take_69 : decode b_Door_take 69 = .ok (.invokevirtual 36, 3) := by decide +kernel
theorem d_Door_take_72 : decode b_Door_take 72 = .ok (.invokestatic 48, 3) := by decide +kernel
theorem d_Door_take_75 : decode b_Door_take 75 = .ok (.putfield 15, 3) := by decide +kernel
theorem d_Door_take_78 : decode b_Door_take 78 = .ok (.aload_n 0, 1) := by decide +kernel
theorem d_Door_take_79 : decode b_Door_take 79 = .ok (.iconst 1, 1) := by decide +kernel
theorem d_Door_take_80 : decode b_Door_take 80 = .ok (.putfield 21, 3) := by decide +kernel
theorem d_Door_take_83 : decode b_Door_take 83 = .ok (.return_, 1) := by decide +kernel
theorem d_EL_bringTo_0 : decode b_EL_bringTo 0 = .ok (.aload_n 0, 1) := by decide +kernel
theorem d_EL_bringTo_1 : decode b_EL_bringTo 1 = .ok (.iload_n 1, 1) := by decide +kernel
theorem d_EL_bringTo_2 : decode b_EL_bringTo 2 = .ok (.invokevirtual 31, 3) := by decide +kernel
theorem d_EL_bringTo_5 : decode b_EL_bringTo 5 = .ok (.ifCond .eq 20, 3) := by decide +kernel
theorem d_EL_bringTo_8 : decode b_EL_bringTo 8 = .ok (.aload_n 0, 1) := by decide +kernel
theorem d_EL_bringTo_9 : decode b_EL_bringTo 9 = .ok (.getfield 12, 3) := by decide +kernel
theorem d_EL_bringTo_12 : decode b_EL_bringTo 12 = .ok (.iload_n 1, 1) := by decide +kernel
theorem d_EL_bringTo_13 : decode b_EL_bringTo 13 = .ok (.iconst 1, 1) := by decide +kernel
theorem d_EL_bringTo_14 : decode b_EL_bringTo 14 = .ok (.isub, 1) := by decide +kernel
theorem d_EL_bringTo_15 : decode b_EL_bringTo 15 = .ok (.invokevirtual 35, 3) := by decide +kernel
theorem d_EL_bringTo_18 : decode b_EL_bringTo 18 = .ok (.checkcast 22, 3) := by decide +kernel
theorem d_EL_bringTo_21 : decode b_EL_bringTo 21 = .ok (.iload_n 2, 1) := by decide +kernel
theorem d_EL_bringTo_22 : decode b_EL_bringTo 22 = .ok (.invokevirtual 46, 3) := by decide +kernel
theorem d_EL_bringTo_25 : decode b_EL_bringTo 25 = .ok (.return_, 1) := by decide +kernel
theorem d_Entry_bringTo_0 : decode b_Entry_bringTo 0 = .ok (.iload_n 1, 1) := by decide +kernel
theorem d_Entry_bringTo_1 : decode b_Entry_bringTo 1 = .ok (.ifCond .lt 19, 3) := by decide +kernel
theorem d_Entry_bringTo_4 : decode b_Entry_bringTo 4 = .ok (.iload_n 1, 1) := by decide +kernel
theorem d_Entry_bringTo_5 : decode b_Entry_bringTo 5 = .ok (.aload_n 0, 1) := by decide +kernel
theorem d_Entry_bringTo_6 : decode b_Entry_bringTo 6 = .ok (.getfield 9, 3) := by decide +kernel
theorem d_Entry_bringTo_9 : decode b_Entry_bringTo 9 = .ok (.arraylength, 1) := by decide +kernel
theorem d_Entry_bringTo_10 : decode b_Entry_bringTo 10 = .ok (.if_icmp .ge 10, 3) := by decide +kernel
theorem d_Entry_bringTo_13 : decode b_Entry_bringTo 13 = .ok (.aload_n 0, 1) := by decide +kernel
theorem d_Entry_bringTo_14 : decode b_Entry_bringTo 14 = .ok (.getfield 9, 3) := by decide +kernel
theorem d_Entry_bringTo_17 : decode b_Entry_bringTo 17 = .ok (.iload_n 1, 1) := by decide +kernel
theorem d_Entry_bringTo_18 : decode b_Entry_bringTo 18 = .ok (.iconst 1, 1) := by decide +kernel
theorem d_Entry_bringTo_19 : decode b_Entry_bringTo 19 = .ok (.bastore, 1) := by decide +kernel
theorem d_Entry_bringTo_20 : decode b_Entry_bringTo 20 = .ok (.return_, 1) := by decide +kernel
theorem d_Door_judge_0 : decode b_Door_judge 0 = .ok (.aload_n 0, 1) := by decide +kernel
theorem d_Door_judge_1 : decode b_Door_judge 1 = .ok (.aload_n 1, 1) := by decide +kernel
theorem d_Door_judge_2 : decode b_Door_judge 2 = .ok (.getfield 54, 3) := by decide +kernel
theorem d_Door_judge_5 : decode b_Door_judge 5 = .ok (.aload_n 3, 1) := by decide +kernel
theorem d_Door_judge_6 : decode b_Door_judge 6 = .ok (.invokevirtual 59, 3) := by decide +kernel
theorem d_Door_judge_9 : decode b_Door_judge 9 = .ok (.ifCond .eq 5, 3) := by decide +kernel
theorem d_Door_judge_12 : decode b_Door_judge 12 = .ok (.iconst 1, 1) := by decide +kernel
theorem d_Door_judge_13 : decode b_Door_judge 13 = .ok (.ireturn, 1) := by decide +kernel
theorem d_Door_judge_14 : decode b_Door_judge 14 = .ok (.aload_n 1, 1) := by decide +kernel
theorem d_Door_judge_15 : decode b_Door_judge 15 = .ok (.getfield 63, 3) := by decide +kernel
theorem d_Door_judge_18 : decode b_Door_judge 18 = .ok (.iload_n 2, 1) := by decide +kernel
theorem d_Door_judge_19 : decode b_Door_judge 19 = .ok (.if_icmp .ge 5, 3) := by decide +kernel
theorem d_Door_judge_22 : decode b_Door_judge 22 = .ok (.iconst 2, 1) := by decide +kernel
theorem d_Door_judge_23 : decode b_Door_judge 23 = .ok (.ireturn, 1) := by decide +kernel
theorem d_Door_judge_24 : decode b_Door_judge 24 = .ok (.aload_n 1, 1) := by decide +kernel
theorem d_Door_judge_25 : decode b_Door_judge 25 = .ok (.aload_n 0, 1) := by decide +kernel
theorem d_Door_judge_26 : decode b_Door_judge 26 = .ok (.getfield 9, 3) := by decide +kernel
theorem d_Door_judge_29 : decode b_Door_judge 29 = .ok (.invokevirtual 66, 3) := by decide +kernel
theorem d_Door_judge_32 : decode b_Door_judge 32 = .ok (.ifCond .eq 7, 3) := by decide +kernel
theorem d_Door_judge_35 : decode b_Door_judge 35 = .ok (.iconst 0, 1) := by decide +kernel
theorem d_Door_judge_36 : decode b_Door_judge 36 = .ok (.goto 4, 3) := by decide +kernel
theorem d_Door_judge_39 : decode b_Door_judge 39 = .ok (.iconst 3, 1) := by decide +kernel
theorem d_Door_judge_40 : decode b_Door_judge 40 = .ok (.ireturn, 1) := by decide +kernel
theorem d_Door_has_0 : decode b_Door_has 0 = .ok (.aload_n 2, 1) := by decide +kernel
theorem d_Door_has_1 : decode b_Door_has 1 = .ok (.iload_n 1, 1) := by decide +kernel
theorem d_Door_has_2 : decode b_Door_has 2 = .ok (.aload_n 0, 1) := by decide +kernel
theorem d_Door_has_3 : decode b_Door_has 3 = .ok (.getfield 25, 3) := by decide +kernel
theorem d_Door_has_6 : decode b_Door_has 6 = .ok (.invokevirtual 28, 3) := by decide +kernel
theorem d_Door_has_9 : decode b_Door_has 9 = .ok (.ireturn, 1) := by decide +kernel
theorem d_EL_isAt_0 : decode b_EL_isAt 0 = .ok (.aload_n 0, 1) := by decide +kernel
theorem d_EL_isAt_1 : decode b_EL_isAt 1 = .ok (.iload_n 1, 1) := by decide +kernel
theorem d_EL_isAt_2 : decode b_EL_isAt 2 = .ok (.invokevirtual 31, 3) := by decide +kernel
theorem d_EL_isAt_5 : decode b_EL_isAt 5 = .ok (.ifCond .eq 27, 3) := by decide +kernel
theorem d_EL_isAt_8 : decode b_EL_isAt 8 = .ok (.aload_n 0, 1) := by decide +kernel
theorem d_EL_isAt_9 : decode b_EL_isAt 9 = .ok (.getfield 12, 3) := by decide +kernel
theorem d_EL_isAt_12 : decode b_EL_isAt 12 = .ok (.iload_n 1, 1) := by decide +kernel
theorem d_EL_isAt_13 : decode b_EL_isAt 13 = .ok (.iconst 1, 1) := by decide +kernel
theorem d_EL_isAt_14 : decode b_EL_isAt 14 = .ok (.isub, 1) := by decide +kernel
theorem d_EL_isAt_15 : decode b_EL_isAt 15 = .ok (.invokevirtual 35, 3) := by decide +kernel
theorem d_EL_isAt_18 : decode b_EL_isAt 18 = .ok (.checkcast 22, 3) := by decide +kernel
theorem d_EL_isAt_21 : decode b_EL_isAt 21 = .ok (.iload_n 2, 1) := by decide +kernel
theorem d_EL_isAt_22 : decode b_EL_isAt 22 = .ok (.invokevirtual 43, 3) := by decide +kernel
theorem d_EL_isAt_25 : decode b_EL_isAt 25 = .ok (.ifCond .eq 7, 3) := by decide +kernel
theorem d_EL_isAt_28 : decode b_EL_isAt 28 = .ok (.iconst 1, 1) := by decide +kernel
theorem d_EL_isAt_29 : decode b_EL_isAt 29 = .ok (.goto 4, 3) := by decide +kernel
theorem d_EL_isAt_32 : decode b_EL_isAt 32 = .ok (.iconst 0, 1) := by decide +kernel
theorem d_EL_isAt_33 : decode b_EL_isAt 33 = .ok (.ireturn, 1) := by decide +kernel
theorem d_Entry_isAt_0 : decode b_Entry_isAt 0 = .ok (.iload_n 1, 1) := by decide +kernel
theorem d_Entry_isAt_1 : decode b_Entry_isAt 1 = .ok (.ifCond .lt 25, 3) := by decide +kernel
theorem d_Entry_isAt_4 : decode b_Entry_isAt 4 = .ok (.iload_n 1, 1) := by decide +kernel
theorem d_Entry_isAt_5 : decode b_Entry_isAt 5 = .ok (.aload_n 0, 1) := by decide +kernel
theorem d_Entry_isAt_6 : decode b_Entry_isAt 6 = .ok (.getfield 9, 3) := by decide +kernel
theorem d_Entry_isAt_9 : decode b_Entry_isAt 9 = .ok (.arraylength, 1) := by decide +kernel
theorem d_Entry_isAt_10 : decode b_Entry_isAt 10 = .ok (.if_icmp .ge 16, 3) := by decide +kernel
theorem d_Entry_isAt_13 : decode b_Entry_isAt 13 = .ok (.aload_n 0, 1) := by decide +kernel
theorem d_Entry_isAt_14 : decode b_Entry_isAt 14 = .ok (.getfield 9, 3) := by decide +kernel
theorem d_Entry_isAt_17 : decode b_Entry_isAt 17 = .ok (.iload_n 1, 1) := by decide +kernel
theorem d_Entry_isAt_18 : decode b_Entry_isAt 18 = .ok (.baload, 1) := by decide +kernel
theorem d_Entry_isAt_19 : decode b_Entry_isAt 19 = .ok (.ifCond .eq 7, 3) := by decide +kernel
theorem d_Entry_isAt_22 : decode b_Entry_isAt 22 = .ok (.iconst 1, 1) := by decide +kernel
theorem d_Entry_isAt_23 : decode b_Entry_isAt 23 = .ok (.goto 4, 3) := by decide +kernel
theorem d_Entry_isAt_26 : decode b_Entry_isAt 26 = .ok (.iconst 0, 1) := by decide +kernel
theorem d_Entry_isAt_27 : decode b_Entry_isAt 27 = .ok (.ireturn, 1) := by decide +kernel
theorem d_Card_opens_0 : decode b_Card_opens 0 = .ok (.aload_n 0, 1) := by decide +kernel
theorem d_Card_opens_1 : decode b_Card_opens 1 = .ok (.getfield 32, 3) := by decide +kernel
theorem d_Card_opens_4 : decode b_Card_opens 4 = .ok (.iload_n 1, 1) := by decide +kernel
theorem d_Card_opens_5 : decode b_Card_opens 5 = .ok (.iushr, 1) := by decide +kernel
theorem d_Card_opens_6 : decode b_Card_opens 6 = .ok (.iconst 1, 1) := by decide +kernel
theorem d_Card_opens_7 : decode b_Card_opens 7 = .ok (.iand, 1) := by decide +kernel
theorem d_Card_opens_8 : decode b_Card_opens 8 = .ok (.iconst 1, 1) := by decide +kernel
theorem d_Card_opens_9 : decode b_Card_opens 9 = .ok (.if_icmp .ne 7, 3) := by decide +kernel
theorem d_Card_opens_12 : decode b_Card_opens 12 = .ok (.iconst 1, 1) := by decide +kernel
theorem d_Card_opens_13 : decode b_Card_opens 13 = .ok (.goto 4, 3) := by decide +kernel
theorem d_Card_opens_16 : decode b_Card_opens 16 = .ok (.iconst 0, 1) := by decide +kernel
theorem d_Card_opens_17 : decode b_Card_opens 17 = .ok (.ireturn, 1) := by decide +kernel
theorem d_Door_pass_0 : decode b_Door_pass 0 = .ok (.aload_n 0, 1) := by decide +kernel
theorem d_Door_pass_1 : decode b_Door_pass 1 = .ok (.getfield 18, 3) := by decide +kernel
theorem d_Door_pass_4 : decode b_Door_pass 4 = .ok (.ifCond .ne 4, 3) := by decide +kernel
theorem d_Door_pass_7 : decode b_Door_pass 7 = .ok (.return_, 1) := by decide +kernel
theorem d_Door_pass_8 : decode b_Door_pass 8 = .ok (.iconst 1, 1) := by decide +kernel
theorem d_Door_pass_9 : decode b_Door_pass 9 = .ok (.istore_n 3, 1) := by decide +kernel
theorem d_Door_pass_10 : decode b_Door_pass 10 = .ok (.iload_n 3, 1) := by decide +kernel
theorem d_Door_pass_11 : decode b_Door_pass 11 = .ok (.bipush 40, 2) := by decide +kernel
theorem d_Door_pass_13 : decode b_Door_pass 13 = .ok (.if_icmp .ge 23, 3) := by decide +kernel
theorem d_Door_pass_16 : decode b_Door_pass 16 = .ok (.aload_n 0, 1) := by decide +kernel
theorem d_Door_pass_17 : decode b_Door_pass 17 = .ok (.aload_n 0, 1) := by decide +kernel
theorem d_Door_pass_18 : decode b_Door_pass 18 = .ok (.getfield 18, 3) := by decide +kernel
theorem d_Door_pass_21 : decode b_Door_pass 21 = .ok (.iload_n 3, 1) := by decide +kernel
theorem d_Door_pass_22 : decode b_Door_pass 22 = .ok (.isub, 1) := by decide +kernel
theorem d_Door_pass_23 : decode b_Door_pass 23 = .ok (.aload_n 2, 1) := by decide +kernel
theorem d_Door_pass_24 : decode b_Door_pass 24 = .ok (.invokevirtual 59, 3) := by decide +kernel
theorem d_Door_pass_27 : decode b_Door_pass 27 = .ok (.ifCond .eq 9, 3) := by decide +kernel
theorem d_Door_pass_30 : decode b_Door_pass 30 = .ok (.iinc 3 1, 3) := by decide +kernel
theorem d_Door_pass_33 : decode b_Door_pass 33 = .ok (.goto (-23), 3) := by decide +kernel
theorem d_Door_pass_36 : decode b_Door_pass 36 = .ok (.aload_n 1, 1) := by decide +kernel
theorem d_Door_pass_37 : decode b_Door_pass 37 = .ok (.aload_n 0, 1) := by decide +kernel
theorem d_Door_pass_38 : decode b_Door_pass 38 = .ok (.getfield 18, 3) := by decide +kernel
theorem d_Door_pass_41 : decode b_Door_pass 41 = .ok (.iload_n 3, 1) := by decide +kernel
theorem d_Door_pass_42 : decode b_Door_pass 42 = .ok (.isub, 1) := by decide +kernel
theorem d_Door_pass_43 : decode b_Door_pass 43 = .ok (.iconst 1, 1) := by decide +kernel
theorem d_Door_pass_44 : decode b_Door_pass 44 = .ok (.iadd, 1) := by decide +kernel
theorem d_Door_pass_45 : decode b_Door_pass 45 = .ok (.iload_n 3, 1) := by decide +kernel
theorem d_Door_pass_46 : decode b_Door_pass 46 = .ok (.aload_n 1, 1) := by decide +kernel
theorem d_Door_pass_47 : decode b_Door_pass 47 = .ok (.invokevirtual 70, 3) := by decide +kernel
theorem d_Door_pass_50 : decode b_Door_pass 50 = .ok (.iconst 2, 1) := by decide +kernel
theorem d_Door_pass_51 : decode b_Door_pass 51 = .ok (.invokevirtual 36, 3) := by decide +kernel
theorem d_Door_pass_54 : decode b_Door_pass 54 = .ok (.aload_n 2, 1) := by decide +kernel
theorem d_Door_pass_55 : decode b_Door_pass 55 = .ok (.invokevirtual 74, 3) := by decide +kernel
theorem d_Door_pass_58 : decode b_Door_pass 58 = .ok (.return_, 1) := by decide +kernel
theorem d_H_tear_0 : decode b_H_tear 0 = .ok (.aload_n 0, 1) := by decide +kernel
theorem d_H_tear_1 : decode b_H_tear 1 = .ok (.iload_n 1, 1) := by decide +kernel
theorem d_H_tear_2 : decode b_H_tear 2 = .ok (.invokevirtual 68, 3) := by decide +kernel
theorem d_H_tear_5 : decode b_H_tear 5 = .ok (.astore_n 3, 1) := by decide +kernel
theorem d_H_tear_6 : decode b_H_tear 6 = .ok (.iload_n 2, 1) := by decide +kernel
theorem d_H_tear_7 : decode b_H_tear 7 = .ok (.ifCond .lt 9, 3) := by decide +kernel
theorem d_H_tear_10 : decode b_H_tear 10 = .ok (.iload_n 2, 1) := by decide +kernel
theorem d_H_tear_11 : decode b_H_tear 11 = .ok (.bipush 50, 2) := by decide +kernel
theorem d_H_tear_13 : decode b_H_tear 13 = .ok (.if_icmp .le 13, 3) := by decide +kernel
theorem d_H_tear_16 : decode b_H_tear 16 = .ok (.new 99, 3) := by decide +kernel
theorem d_H_tear_19 : decode b_H_tear 19 = .ok (.dup, 1) := by decide +kernel
theorem d_H_tear_20 : decode b_H_tear 20 = .ok (.ldc 117, 2) := by decide +kernel
theorem d_H_tear_22 : decode b_H_tear 22 = .ok (.invokespecial 103, 3) := by decide +kernel
theorem d_H_tear_25 : decode b_H_tear 25 = .ok (.athrow, 1) := by decide +kernel
theorem d_H_tear_26 : decode b_H_tear 26 = .ok (.aload_n 3, 1) := by decide +kernel
theorem d_H_tear_27 : decode b_H_tear 27 = .ok (.iload_n 2, 1) := by decide +kernel
theorem d_H_tear_28 : decode b_H_tear 28 = .ok (.putfield 119, 3) := by decide +kernel
theorem d_H_tear_31 : decode b_H_tear 31 = .ok (.return_, 1) := by decide +kernel
theorem d_H_written_0 : decode b_H_written 0 = .ok (.aload_n 0, 1) := by decide +kernel
theorem d_H_written_1 : decode b_H_written 1 = .ok (.iload_n 1, 1) := by decide +kernel
theorem d_H_written_2 : decode b_H_written 2 = .ok (.invokevirtual 68, 3) := by decide +kernel
theorem d_H_written_5 : decode b_H_written 5 = .ok (.getfield 122, 3) := by decide +kernel
theorem d_H_written_8 : decode b_H_written 8 = .ok (.ireturn, 1) := by decide +kernel
theorem d_H_word_0 : decode b_H_word 0 = .ok (.aload_n 0, 1) := by decide +kernel
theorem d_H_word_1 : decode b_H_word 1 = .ok (.iload_n 1, 1) := by decide +kernel
theorem d_H_word_2 : decode b_H_word 2 = .ok (.invokevirtual 68, 3) := by decide +kernel
theorem d_H_word_5 : decode b_H_word 5 = .ok (.astore 4, 2) := by decide +kernel
theorem d_H_word_7 : decode b_H_word 7 = .ok (.iload_n 2, 1) := by decide +kernel
theorem d_H_word_8 : decode b_H_word 8 = .ok (.ifCond .lt 18, 3) := by decide +kernel
theorem d_H_word_11 : decode b_H_word 11 = .ok (.iload_n 2, 1) := by decide +kernel
theorem d_H_word_12 : decode b_H_word 12 = .ok (.iconst 1, 1) := by decide +kernel
theorem d_H_word_13 : decode b_H_word 13 = .ok (.if_icmp .gt 13, 3) := by decide +kernel
theorem d_H_word_16 : decode b_H_word 16 = .ok (.iload_n 3, 1) := by decide +kernel
theorem d_H_word_17 : decode b_H_word 17 = .ok (.ifCond .lt 9, 3) := by decide +kernel
theorem d_H_word_20 : decode b_H_word 20 = .ok (.iload_n 3, 1) := by decide +kernel
theorem d_H_word_21 : decode b_H_word 21 = .ok (.bipush 44, 2) := by decide +kernel
theorem d_H_word_23 : decode b_H_word 23 = .ok (.if_icmp .lt 13, 3) := by decide +kernel
theorem d_H_word_26 : decode b_H_word 26 = .ok (.new 127, 3) := by decide +kernel
theorem d_H_word_29 : decode b_H_word 29 = .ok (.dup, 1) := by decide +kernel
theorem d_H_word_30 : decode b_H_word 30 = .ok (.ldc 129, 2) := by decide +kernel
theorem d_H_word_32 : decode b_H_word 32 = .ok (.invokespecial 131, 3) := by decide +kernel
theorem d_H_word_35 : decode b_H_word 35 = .ok (.athrow, 1) := by decide +kernel
theorem d_H_word_36 : decode b_H_word 36 = .ok (.aload 4, 2) := by decide +kernel
theorem d_H_word_38 : decode b_H_word 38 = .ok (.iload_n 2, 1) := by decide +kernel
theorem d_H_word_39 : decode b_H_word 39 = .ok (.invokevirtual 132, 3) := by decide +kernel
theorem d_H_word_42 : decode b_H_word 42 = .ok (.iload_n 3, 1) := by decide +kernel
theorem d_H_word_43 : decode b_H_word 43 = .ok (.invokevirtual 136, 3) := by decide +kernel
theorem d_H_word_46 : decode b_H_word 46 = .ok (.ireturn, 1) := by decide +kernel
theorem d_H_carries_0 : decode b_H_carries 0 = .ok (.aload_n 0, 1) := by decide +kernel
theorem d_H_carries_1 : decode b_H_carries 1 = .ok (.iload_n 1, 1) := by decide +kernel
theorem d_H_carries_2 : decode b_H_carries 2 = .ok (.invokevirtual 68, 3) := by decide +kernel
theorem d_H_carries_5 : decode b_H_carries 5 = .ok (.astore_n 3, 1) := by decide +kernel
theorem d_H_carries_6 : decode b_H_carries 6 = .ok (.iload_n 2, 1) := by decide +kernel
theorem d_H_carries_7 : decode b_H_carries 7 = .ok (.tableswitch 60 0 3 #[29, 34, 42, 51], 29) := by decide +kernel
theorem d_H_carries_36 : decode b_H_carries 36 = .ok (.aload_n 3, 1) := by decide +kernel
theorem d_H_carries_37 : decode b_H_carries 37 = .ok (.invokevirtual 139, 3) := by decide +kernel
theorem d_H_carries_40 : decode b_H_carries 40 = .ok (.ireturn, 1) := by decide +kernel
theorem d_H_carries_41 : decode b_H_carries 41 = .ok (.aload_n 3, 1) := by decide +kernel
theorem d_H_carries_42 : decode b_H_carries 42 = .ok (.invokevirtual 142, 3) := by decide +kernel
theorem d_H_carries_45 : decode b_H_carries 45 = .ok (.invokevirtual 146, 3) := by decide +kernel
theorem d_H_carries_48 : decode b_H_carries 48 = .ok (.ireturn, 1) := by decide +kernel
theorem d_H_carries_49 : decode b_H_carries 49 = .ok (.aload_n 3, 1) := by decide +kernel
theorem d_H_carries_50 : decode b_H_carries 50 = .ok (.invokevirtual 142, 3) := by decide +kernel
theorem d_H_carries_53 : decode b_H_carries 53 = .ok (.iconst 1, 1) := by decide +kernel
theorem d_H_carries_54 : decode b_H_carries 54 = .ok (.invokevirtual 136, 3) := by decide +kernel
theorem d_H_carries_57 : decode b_H_carries 57 = .ok (.ireturn, 1) := by decide +kernel
theorem d_H_carries_58 : decode b_H_carries 58 = .ok (.aload_n 3, 1) := by decide +kernel
theorem d_H_carries_59 : decode b_H_carries 59 = .ok (.invokevirtual 142, 3) := by decide +kernel
theorem d_H_carries_62 : decode b_H_carries 62 = .ok (.iconst 2, 1) := by decide +kernel
theorem d_H_carries_63 : decode b_H_carries 63 = .ok (.invokevirtual 136, 3) := by decide +kernel
theorem d_H_carries_66 : decode b_H_carries 66 = .ok (.ireturn, 1) := by decide +kernel
theorem d_H_carries_67 : decode b_H_carries 67 = .ok (.new 99, 3) := by decide +kernel
theorem d_H_carries_70 : decode b_H_carries 70 = .ok (.dup, 1) := by decide +kernel
theorem d_H_carries_71 : decode b_H_carries 71 = .ok (.ldc 149, 2) := by decide +kernel
theorem d_H_carries_73 : decode b_H_carries 73 = .ok (.invokespecial 103, 3) := by decide +kernel
theorem d_H_carries_76 : decode b_H_carries 76 = .ok (.athrow, 1) := by decide +kernel
theorem d_H_memory_0 : decode b_H_memory 0 = .ok (.aload_n 0, 1) := by decide +kernel
theorem d_H_memory_1 : decode b_H_memory 1 = .ok (.iload_n 1, 1) := by decide +kernel
theorem d_H_memory_2 : decode b_H_memory 2 = .ok (.invokevirtual 68, 3) := by decide +kernel
theorem d_H_memory_5 : decode b_H_memory 5 = .ok (.invokevirtual 142, 3) := by decide +kernel
theorem d_H_memory_8 : decode b_H_memory 8 = .ok (.astore_n 3, 1) := by decide +kernel
theorem d_H_memory_9 : decode b_H_memory 9 = .ok (.iload_n 2, 1) := by decide +kernel
theorem d_H_memory_10 : decode b_H_memory 10 = .ok (.ifCond .lt 11, 3) := by decide +kernel
theorem d_H_memory_13 : decode b_H_memory 13 = .ok (.iload_n 2, 1) := by decide +kernel
theorem d_H_memory_14 : decode b_H_memory 14 = .ok (.aload_n 3, 1) := by decide +kernel
theorem d_H_memory_15 : decode b_H_memory 15 = .ok (.invokevirtual 146, 3) := by decide +kernel
theorem d_H_memory_18 : decode b_H_memory 18 = .ok (.if_icmp .lt 13, 3) := by decide +kernel
theorem d_H_memory_21 : decode b_H_memory 21 = .ok (.new 127, 3) := by decide +kernel
theorem d_H_memory_24 : decode b_H_memory 24 = .ok (.dup, 1) := by decide +kernel
theorem d_H_memory_25 : decode b_H_memory 25 = .ok (.ldc 151, 2) := by decide +kernel
theorem d_H_memory_27 : decode b_H_memory 27 = .ok (.invokespecial 131, 3) := by decide +kernel
theorem d_H_memory_30 : decode b_H_memory 30 = .ok (.athrow, 1) := by decide +kernel
theorem d_H_memory_31 : decode b_H_memory 31 = .ok (.aload_n 3, 1) := by decide +kernel
theorem d_H_memory_32 : decode b_H_memory 32 = .ok (.iconst 3, 1) := by decide +kernel
theorem d_H_memory_33 : decode b_H_memory 33 = .ok (.iload_n 2, 1) := by decide +kernel
theorem d_H_memory_34 : decode b_H_memory 34 = .ok (.iadd, 1) := by decide +kernel
theorem d_H_memory_35 : decode b_H_memory 35 = .ok (.invokevirtual 136, 3) := by decide +kernel
theorem d_H_memory_38 : decode b_H_memory 38 = .ok (.ireturn, 1) := by decide +kernel
theorem d_H_about_0 : decode b_H_about 0 = .ok (.aload_n 0, 1) := by decide +kernel
theorem d_H_about_1 : decode b_H_about 1 = .ok (.iload_n 1, 1) := by decide +kernel
theorem d_H_about_2 : decode b_H_about 2 = .ok (.invokevirtual 95, 3) := by decide +kernel
theorem d_H_about_5 : decode b_H_about 5 = .ok (.astore_n 3, 1) := by decide +kernel
theorem d_H_about_6 : decode b_H_about 6 = .ok (.iload_n 2, 1) := by decide +kernel
theorem d_H_about_7 : decode b_H_about 7 = .ok (.tableswitch 90 0 4 #[33, 42, 54, 72, 81], 33) := by decide +kernel
theorem d_H_about_40 : decode b_H_about 40 = .ok (.aload_n 3, 1) := by decide +kernel
theorem d_H_about_41 : decode b_H_about 41 = .ok (.aload_n 0, 1) := by decide +kernel
theorem d_H_about_42 : decode b_H_about 42 = .ok (.getfield 19, 3) := by decide +kernel
theorem d_H_about_45 : decode b_H_about 45 = .ok (.invokevirtual 153, 3) := by decide +kernel
theorem d_H_about_48 : decode b_H_about 48 = .ok (.ireturn, 1) := by decide +kernel
theorem d_H_about_49 : decode b_H_about 49 = .ok (.aload_n 3, 1) := by decide +kernel
theorem d_H_about_50 : decode b_H_about 50 = .ok (.getfield 157, 3) := by decide +kernel
theorem d_H_about_53 : decode b_H_about 53 = .ok (.aload_n 3, 1) := by decide +kernel
theorem d_H_about_54 : decode b_H_about 54 = .ok (.getfield 160, 3) := by decide +kernel
theorem d_H_about_57 : decode b_H_about 57 = .ok (.invokestatic 163, 3) := by decide +kernel
theorem d_H_about_60 : decode b_H_about 60 = .ok (.ireturn, 1) := by decide +kernel
theorem d_H_about_61 : decode b_H_about 61 = .ok (.aload_n 3, 1) := by decide +kernel
theorem d_H_about_62 : decode b_H_about 62 = .ok (.getfield 160, 3) := by decide +kernel
theorem d_H_about_65 : decode b_H_about 65 = .ok (.aload_n 3, 1) := by decide +kernel
theorem d_H_about_66 : decode b_H_about 66 = .ok (.aload_n 0, 1) := by decide +kernel
theorem d_H_about_67 : decode b_H_about 67 = .ok (.getfield 19, 3) := by decide +kernel
theorem d_H_about_70 : decode b_H_about 70 = .ok (.invokevirtual 153, 3) := by decide +kernel
theorem d_H_about_73 : decode b_H_about 73 = .ok (.isub, 1) := by decide +kernel
theorem d_H_about_74 : decode b_H_about 74 = .ok (.iconst 0, 1) := by decide +kernel
theorem d_H_about_75 : decode b_H_about 75 = .ok (.invokestatic 163, 3) := by decide +kernel
theorem d_H_about_78 : decode b_H_about 78 = .ok (.ireturn, 1) := by decide +kernel
theorem d_H_about_79 : decode b_H_about 79 = .ok (.aload_n 3, 1) := by decide +kernel
theorem d_H_about_80 : decode b_H_about 80 = .ok (.aload_n 0, 1) := by decide +kernel
theorem d_H_about_81 : decode b_H_about 81 = .ok (.getfield 19, 3) := by decide +kernel
theorem d_H_about_84 : decode b_H_about 84 = .ok (.invokevirtual 166, 3) := by decide +kernel
theorem d_H_about_87 : decode b_H_about 87 = .ok (.ireturn, 1) := by decide +kernel
theorem d_H_about_88 : decode b_H_about 88 = .ok (.aload_n 3, 1) := by decide +kernel
theorem d_H_about_89 : decode b_H_about 89 = .ok (.aload_n 0, 1) := by decide +kernel
theorem d_H_about_90 : decode b_H_about 90 = .ok (.getfield 19, 3) := by decide +kernel
theorem d_H_about_93 : decode b_H_about 93 = .ok (.invokevirtual 169, 3) := by decide +kernel
theorem d_H_about_96 : decode b_H_about 96 = .ok (.ireturn, 1) := by decide +kernel
theorem d_H_about_97 : decode b_H_about 97 = .ok (.new 99, 3) := by decide +kernel
theorem d_H_about_100 : decode b_H_about 100 = .ok (.dup, 1) := by decide +kernel
theorem d_H_about_101 : decode b_H_about 101 = .ok (.ldc 172, 2) := by decide +kernel
theorem d_H_about_103 : decode b_H_about 103 = .ok (.invokespecial 103, 3) := by decide +kernel
theorem d_H_about_106 : decode b_H_about 106 = .ok (.athrow, 1) := by decide +kernel
theorem d_Door_complete_0 : decode b_Door_complete 0 = .ok (.aload_n 0, 1) := by decide +kernel
theorem d_Door_complete_1 : decode b_Door_complete 1 = .ok (.iconst 0, 1) := by decide +kernel
theorem d_Door_complete_2 : decode b_Door_complete 2 = .ok (.aload_n 1, 1) := by decide +kernel
theorem d_Door_complete_3 : decode b_Door_complete 3 = .ok (.invokevirtual 78, 3) := by decide +kernel
theorem d_Door_complete_6 : decode b_Door_complete 6 = .ok (.ireturn, 1) := by decide +kernel
theorem d_Door_endOfRun_0 : decode b_Door_endOfRun 0 = .ok (.iload_n 1, 1) := by decide +kernel
theorem d_Door_endOfRun_1 : decode b_Door_endOfRun 1 = .ok (.istore_n 3, 1) := by decide +kernel
theorem d_Door_endOfRun_2 : decode b_Door_endOfRun 2 = .ok (.iload_n 3, 1) := by decide +kernel
theorem d_Door_endOfRun_3 : decode b_Door_endOfRun 3 = .ok (.aload_n 2, 1) := by decide +kernel
theorem d_Door_endOfRun_4 : decode b_Door_endOfRun 4 = .ok (.invokevirtual 82, 3) := by decide +kernel
theorem d_Door_endOfRun_7 : decode b_Door_endOfRun 7 = .ok (.if_icmp .ge 20, 3) := by decide +kernel
theorem d_Door_endOfRun_10 : decode b_Door_endOfRun 10 = .ok (.aload_n 0, 1) := by decide +kernel
theorem d_Door_endOfRun_11 : decode b_Door_endOfRun 11 = .ok (.iload_n 3, 1) := by decide +kernel
theorem d_Door_endOfRun_12 : decode b_Door_endOfRun 12 = .ok (.iconst 1, 1) := by decide +kernel
theorem d_Door_endOfRun_13 : decode b_Door_endOfRun 13 = .ok (.iadd, 1) := by decide +kernel
theorem d_Door_endOfRun_14 : decode b_Door_endOfRun 14 = .ok (.aload_n 2, 1) := by decide +kernel
theorem d_Door_endOfRun_15 : decode b_Door_endOfRun 15 = .ok (.invokevirtual 59, 3) := by decide +kernel
theorem d_Door_endOfRun_18 : decode b_Door_endOfRun 18 = .ok (.ifCond .eq 9, 3) := by decide +kernel
theorem d_Door_endOfRun_21 : decode b_Door_endOfRun 21 = .ok (.iinc 3 1, 3) := by decide +kernel
theorem d_Door_endOfRun_24 : decode b_Door_endOfRun 24 = .ok (.goto (-22), 3) := by decide +kernel
theorem d_Door_endOfRun_27 : decode b_Door_endOfRun 27 = .ok (.iload_n 3, 1) := by decide +kernel
theorem d_Door_endOfRun_28 : decode b_Door_endOfRun 28 = .ok (.ireturn, 1) := by decide +kernel
theorem d_Door_countEntries_0 : decode b_Door_countEntries 0 = .ok (.iconst 0, 1) := by decide +kernel
theorem d_Door_countEntries_1 : decode b_Door_countEntries 1 = .ok (.istore_n 2, 1) := by decide +kernel
theorem d_Door_countEntries_2 : decode b_Door_countEntries 2 = .ok (.iconst 1, 1) := by decide +kernel
theorem d_Door_countEntries_3 : decode b_Door_countEntries 3 = .ok (.istore_n 3, 1) := by decide +kernel
theorem d_Door_countEntries_4 : decode b_Door_countEntries 4 = .ok (.iload_n 3, 1) := by decide +kernel
theorem d_Door_countEntries_5 : decode b_Door_countEntries 5 = .ok (.aload_n 1, 1) := by decide +kernel
theorem d_Door_countEntries_6 : decode b_Door_countEntries 6 = .ok (.invokevirtual 82, 3) := by decide +kernel
theorem d_Door_countEntries_9 : decode b_Door_countEntries 9 = .ok (.if_icmp .gt 21, 3) := by decide +kernel
theorem d_Door_countEntries_12 : decode b_Door_countEntries 12 = .ok (.aload_n 0, 1) := by decide +kernel
theorem d_Door_countEntries_13 : decode b_Door_countEntries 13 = .ok (.iload_n 3, 1) := by decide +kernel
theorem d_Door_countEntries_14 : decode b_Door_countEntries 14 = .ok (.aload_n 1, 1) := by decide +kernel
theorem d_Door_countEntries_15 : decode b_Door_countEntries 15 = .ok (.invokevirtual 59, 3) := by decide +kernel
theorem d_Door_countEntries_18 : decode b_Door_countEntries 18 = .ok (.ifCond .eq 6, 3) := by decide +kernel
theorem d_Door_countEntries_21 : decode b_Door_countEntries 21 = .ok (.iinc 2 1, 3) := by decide +kernel
theorem d_Door_countEntries_24 : decode b_Door_countEntries 24 = .ok (.iinc 3 1, 3) := by decide +kernel
theorem d_Door_countEntries_27 : decode b_Door_countEntries 27 = .ok (.goto (-23), 3) := by decide +kernel
theorem d_Door_countEntries_30 : decode b_Door_countEntries 30 = .ok (.iload_n 2, 1) := by decide +kernel
theorem d_Door_countEntries_31 : decode b_Door_countEntries 31 = .ok (.ireturn, 1) := by decide +kernel
theorem d_Door_countRuns_0 : decode b_Door_countRuns 0 = .ok (.iconst 0, 1) := by decide +kernel
theorem d_Door_countRuns_1 : decode b_Door_countRuns 1 = .ok (.istore_n 2, 1) := by decide +kernel
theorem d_Door_countRuns_2 : decode b_Door_countRuns 2 = .ok (.iconst 1, 1) := by decide +kernel
theorem d_Door_countRuns_3 : decode b_Door_countRuns 3 = .ok (.istore_n 3, 1) := by decide +kernel
theorem d_Door_countRuns_4 : decode b_Door_countRuns 4 = .ok (.iload_n 3, 1) := by decide +kernel
theorem d_Door_countRuns_5 : decode b_Door_countRuns 5 = .ok (.aload_n 1, 1) := by decide +kernel
theorem d_Door_countRuns_6 : decode b_Door_countRuns 6 = .ok (.invokevirtual 82, 3) := by decide +kernel
theorem d_Door_countRuns_9 : decode b_Door_countRuns 9 = .ok (.if_icmp .gt 21, 3) := by decide +kernel
theorem d_Door_countRuns_12 : decode b_Door_countRuns 12 = .ok (.aload_n 0, 1) := by decide +kernel
theorem d_Door_countRuns_13 : decode b_Door_countRuns 13 = .ok (.iload_n 3, 1) := by decide +kernel
theorem d_Door_countRuns_14 : decode b_Door_countRuns 14 = .ok (.aload_n 1, 1) := by decide +kernel
theorem d_Door_countRuns_15 : decode b_Door_countRuns 15 = .ok (.invokevirtual 85, 3) := by decide +kernel
theorem d_Door_countRuns_18 : decode b_Door_countRuns 18 = .ok (.ifCond .eq 6, 3) := by decide +kernel
theorem d_Door_countRuns_21 : decode b_Door_countRuns 21 = .ok (.iinc 2 1, 3) := by decide +kernel
theorem d_Door_countRuns_24 : decode b_Door_countRuns 24 = .ok (.iinc 3 1, 3) := by decide +kernel
theorem d_Door_countRuns_27 : decode b_Door_countRuns 27 = .ok (.goto (-23), 3) := by decide +kernel
theorem d_Door_countRuns_30 : decode b_Door_countRuns 30 = .ok (.iload_n 2, 1) := by decide +kernel
theorem d_Door_countRuns_31 : decode b_Door_countRuns 31 = .ok (.ireturn, 1) := by decide +kernel
theorem d_Door_startsRun_0 : decode b_Door_startsRun 0 = .ok (.aload_n 0, 1) := by decide +kernel
theorem d_Door_startsRun_1 : decode b_Door_startsRun 1 = .ok (.iload_n 1, 1) := by decide +kernel
theorem d_Door_startsRun_2 : decode b_Door_startsRun 2 = .ok (.aload_n 2, 1) := by decide +kernel
theorem d_Door_startsRun_3 : decode b_Door_startsRun 3 = .ok (.invokevirtual 59, 3) := by decide +kernel
theorem d_Door_startsRun_6 : decode b_Door_startsRun 6 = .ok (.ifCond .eq 18, 3) := by decide +kernel
theorem d_Door_startsRun_9 : decode b_Door_startsRun 9 = .ok (.aload_n 0, 1) := by decide +kernel
theorem d_Door_startsRun_10 : decode b_Door_startsRun 10 = .ok (.iload_n 1, 1) := by decide +kernel
theorem d_Door_startsRun_11 : decode b_Door_startsRun 11 = .ok (.iconst 1, 1) := by decide +kernel
theorem d_Door_startsRun_12 : decode b_Door_startsRun 12 = .ok (.isub, 1) := by decide +kernel
theorem d_Door_startsRun_13 : decode b_Door_startsRun 13 = .ok (.aload_n 2, 1) := by decide +kernel
theorem d_Door_startsRun_14 : decode b_Door_startsRun 14 = .ok (.invokevirtual 59, 3) := by decide +kernel
theorem d_Door_startsRun_17 : decode b_Door_startsRun 17 = .ok (.ifCond .ne 7, 3) := by decide +kernel
theorem d_Door_startsRun_20 : decode b_Door_startsRun 20 = .ok (.iconst 1, 1) := by decide +kernel
theorem d_Door_startsRun_21 : decode b_Door_startsRun 21 = .ok (.goto 4, 3) := by decide +kernel
theorem d_Door_startsRun_24 : decode b_Door_startsRun 24 = .ok (.iconst 0, 1) := by decide +kernel
theorem d_Door_startsRun_25 : decode b_Door_startsRun 25 = .ok (.ireturn, 1) := by decide +kernel
theorem d_H_run_0 : decode b_H_run 0 = .ok (.aload_n 0, 1) := by decide +kernel
theorem d_H_run_1 : decode b_H_run 1 = .ok (.iload_n 1, 1) := by decide +kernel
theorem d_H_run_2 : decode b_H_run 2 = .ok (.invokevirtual 95, 3) := by decide +kernel
theorem d_H_run_5 : decode b_H_run 5 = .ok (.astore 4, 2) := by decide +kernel
theorem d_H_run_7 : decode b_H_run 7 = .ok (.aload 4, 2) := by decide +kernel
theorem d_H_run_9 : decode b_H_run 9 = .ok (.iload_n 2, 1) := by decide +kernel
theorem d_H_run_10 : decode b_H_run 10 = .ok (.aload_n 0, 1) := by decide +kernel
theorem d_H_run_11 : decode b_H_run 11 = .ok (.getfield 19, 3) := by decide +kernel
theorem d_H_run_14 : decode b_H_run 14 = .ok (.invokevirtual 174, 3) := by decide +kernel
theorem d_H_run_17 : decode b_H_run 17 = .ok (.istore 5, 2) := by decide +kernel
theorem d_H_run_19 : decode b_H_run 19 = .ok (.iload 5, 2) := by decide +kernel
theorem d_H_run_21 : decode b_H_run 21 = .ok (.ifCond .ne 13, 3) := by decide +kernel
theorem d_H_run_24 : decode b_H_run 24 = .ok (.new 127, 3) := by decide +kernel
theorem d_H_run_27 : decode b_H_run 27 = .ok (.dup, 1) := by decide +kernel
theorem d_H_run_28 : decode b_H_run 28 = .ok (.ldc 178, 2) := by decide +kernel
theorem d_H_run_30 : decode b_H_run 30 = .ok (.invokespecial 131, 3) := by decide +kernel
theorem d_H_run_33 : decode b_H_run 33 = .ok (.athrow, 1) := by decide +kernel
theorem d_H_run_34 : decode b_H_run 34 = .ok (.iload_n 3, 1) := by decide +kernel
theorem d_H_run_35 : decode b_H_run 35 = .ok (.ifCond .eq 8, 3) := by decide +kernel
theorem d_H_run_38 : decode b_H_run 38 = .ok (.iload 5, 2) := by decide +kernel
theorem d_H_run_40 : decode b_H_run 40 = .ok (.goto 14, 3) := by decide +kernel
theorem d_H_run_43 : decode b_H_run 43 = .ok (.aload 4, 2) := by decide +kernel
theorem d_H_run_45 : decode b_H_run 45 = .ok (.iload 5, 2) := by decide +kernel
theorem d_H_run_47 : decode b_H_run 47 = .ok (.aload_n 0, 1) := by decide +kernel
theorem d_H_run_48 : decode b_H_run 48 = .ok (.getfield 19, 3) := by decide +kernel
theorem d_H_run_51 : decode b_H_run 51 = .ok (.invokevirtual 180, 3) := by decide +kernel
theorem d_H_run_54 : decode b_H_run 54 = .ok (.ireturn, 1) := by decide +kernel
theorem d_Door_startOfRun_0 : decode b_Door_startOfRun 0 = .ok (.iconst 0, 1) := by decide +kernel
theorem d_Door_startOfRun_1 : decode b_Door_startOfRun 1 = .ok (.istore_n 3, 1) := by decide +kernel
theorem d_Door_startOfRun_2 : decode b_Door_startOfRun 2 = .ok (.iconst 1, 1) := by decide +kernel
theorem d_Door_startOfRun_3 : decode b_Door_startOfRun 3 = .ok (.istore 4, 2) := by decide +kernel
theorem d_Door_startOfRun_5 : decode b_Door_startOfRun 5 = .ok (.iload 4, 2) := by decide +kernel
theorem d_Door_startOfRun_7 : decode b_Door_startOfRun 7 = .ok (.aload_n 2, 1) := by decide +kernel
theorem d_Door_startOfRun_8 : decode b_Door_startOfRun 8 = .ok (.invokevirtual 82, 3) := by decide +kernel
theorem d_Door_startOfRun_11 : decode b_Door_startOfRun 11 = .ok (.if_icmp .gt 30, 3) := by decide +kernel
theorem d_Door_startOfRun_14 : decode b_Door_startOfRun 14 = .ok (.aload_n 0, 1) := by decide +kernel
theorem d_Door_startOfRun_15 : decode b_Door_startOfRun 15 = .ok (.iload 4, 2) := by decide +kernel
theorem d_Door_startOfRun_17 : decode b_Door_startOfRun 17 = .ok (.aload_n 2, 1) := by decide +kernel
theorem d_Door_startOfRun_18 : decode b_Door_startOfRun 18 = .ok (.invokevirtual 85, 3) := by decide +kernel
theorem d_Door_startOfRun_21 : decode b_Door_startOfRun 21 = .ok (.ifCond .eq 14, 3) := by decide +kernel
theorem d_Door_startOfRun_24 : decode b_Door_startOfRun 24 = .ok (.iload_n 3, 1) := by decide +kernel
theorem d_Door_startOfRun_25 : decode b_Door_startOfRun 25 = .ok (.iload_n 1, 1) := by decide +kernel
theorem d_Door_startOfRun_26 : decode b_Door_startOfRun 26 = .ok (.if_icmp .ne 6, 3) := by decide +kernel
theorem d_Door_startOfRun_29 : decode b_Door_startOfRun 29 = .ok (.iload 4, 2) := by decide +kernel
theorem d_Door_startOfRun_31 : decode b_Door_startOfRun 31 = .ok (.ireturn, 1) := by decide +kernel
theorem d_Door_startOfRun_32 : decode b_Door_startOfRun 32 = .ok (.iinc 3 1, 3) := by decide +kernel
theorem d_Door_startOfRun_35 : decode b_Door_startOfRun 35 = .ok (.iinc 4 1, 3) := by decide +kernel
theorem d_Door_startOfRun_38 : decode b_Door_startOfRun 38 = .ok (.goto (-33), 3) := by decide +kernel
theorem d_Door_startOfRun_41 : decode b_Door_startOfRun 41 = .ok (.iconst 0, 1) := by decide +kernel
theorem d_Door_startOfRun_42 : decode b_Door_startOfRun 42 = .ok (.ireturn, 1) := by decide +kernel
theorem d_H_refuses_0 : decode b_H_refuses 0 = .ok (.aload_n 0, 1) := by decide +kernel
theorem d_H_refuses_1 : decode b_H_refuses 1 = .ok (.iload_n 1, 1) := by decide +kernel
theorem d_H_refuses_2 : decode b_H_refuses 2 = .ok (.invokevirtual 95, 3) := by decide +kernel
theorem d_H_refuses_5 : decode b_H_refuses 5 = .ok (.astore_n 3, 1) := by decide +kernel
theorem d_H_refuses_6 : decode b_H_refuses 6 = .ok (.aload_n 3, 1) := by decide +kernel
theorem d_H_refuses_7 : decode b_H_refuses 7 = .ok (.aload_n 0, 1) := by decide +kernel
theorem d_H_refuses_8 : decode b_H_refuses 8 = .ok (.iload_n 2, 1) := by decide +kernel
theorem d_H_refuses_9 : decode b_H_refuses 9 = .ok (.invokevirtual 68, 3) := by decide +kernel
theorem d_H_refuses_12 : decode b_H_refuses 12 = .ok (.getfield 72, 3) := by decide +kernel
theorem d_H_refuses_15 : decode b_H_refuses 15 = .ok (.aload_n 0, 1) := by decide +kernel
theorem d_H_refuses_16 : decode b_H_refuses 16 = .ok (.getfield 19, 3) := by decide +kernel
theorem d_H_refuses_19 : decode b_H_refuses 19 = .ok (.invokevirtual 183, 3) := by decide +kernel
theorem d_H_refuses_22 : decode b_H_refuses 22 = .ok (.ireturn, 1) := by decide +kernel
theorem d_H_reach_0 : decode b_H_reach 0 = .ok (.iload_n 1, 1) := by decide +kernel
theorem d_H_reach_1 : decode b_H_reach 1 = .ok (.iconst 1, 1) := by decide +kernel
theorem d_H_reach_2 : decode b_H_reach 2 = .ok (.if_icmp .lt 14, 3) := by decide +kernel
theorem d_H_reach_5 : decode b_H_reach 5 = .ok (.iload_n 1, 1) := by decide +kernel
theorem d_H_reach_6 : decode b_H_reach 6 = .ok (.aload_n 0, 1) := by decide +kernel
theorem d_H_reach_7 : decode b_H_reach 7 = .ok (.getfield 19, 3) := by decide +kernel
theorem d_H_reach_10 : decode b_H_reach 10 = .ok (.invokevirtual 76, 3) := by decide +kernel
theorem d_H_reach_13 : decode b_H_reach 13 = .ok (.if_icmp .le 13, 3) := by decide +kernel
theorem d_H_reach_16 : decode b_H_reach 16 = .ok (.new 127, 3) := by decide +kernel
theorem d_H_reach_19 : decode b_H_reach 19 = .ok (.dup, 1) := by decide +kernel
theorem d_H_reach_20 : decode b_H_reach 20 = .ok (.ldc 187, 2) := by decide +kernel
theorem d_H_reach_22 : decode b_H_reach 22 = .ok (.invokespecial 131, 3) := by decide +kernel
theorem d_H_reach_25 : decode b_H_reach 25 = .ok (.athrow, 1) := by decide +kernel
theorem d_H_reach_26 : decode b_H_reach 26 = .ok (.aload_n 0, 1) := by decide +kernel
theorem d_H_reach_27 : decode b_H_reach 27 = .ok (.getfield 19, 3) := by decide +kernel
theorem d_H_reach_30 : decode b_H_reach 30 = .ok (.iload_n 1, 1) := by decide +kernel
theorem d_H_reach_31 : decode b_H_reach 31 = .ok (.invokevirtual 189, 3) := by decide +kernel
theorem d_H_reach_34 : decode b_H_reach 34 = .ok (.ireturn, 1) := by decide +kernel
theorem d_EL_countDoorsWith_0 : decode b_EL_countDoorsWith 0 = .ok (.aload_n 0, 1) := by decide +kernel
theorem d_EL_countDoorsWith_1 : decode b_EL_countDoorsWith 1 = .ok (.iload_n 1, 1) := by decide +kernel
theorem d_EL_countDoorsWith_2 : decode b_EL_countDoorsWith 2 = .ok (.invokevirtual 31, 3) := by decide +kernel
theorem d_EL_countDoorsWith_5 : decode b_EL_countDoorsWith 5 = .ok (.ifCond .eq 22, 3) := by decide +kernel
theorem d_EL_countDoorsWith_8 : decode b_EL_countDoorsWith 8 = .ok (.aload_n 0, 1) := by decide +kernel
theorem d_EL_countDoorsWith_9 : decode b_EL_countDoorsWith 9 = .ok (.getfield 12, 3) := by decide +kernel
theorem d_EL_countDoorsWith_12 : decode b_EL_countDoorsWith 12 = .ok (.iload_n 1, 1) := by decide +kernel
theorem d_EL_countDoorsWith_13 : decode b_EL_countDoorsWith 13 = .ok (.iconst 1, 1) := by decide +kernel
theorem d_EL_countDoorsWith_14 : decode b_EL_countDoorsWith 14 = .ok (.isub, 1) := by decide +kernel
theorem d_EL_countDoorsWith_15 : decode b_EL_countDoorsWith 15 = .ok (.invokevirtual 35, 3) := by decide +kernel
theorem d_EL_countDoorsWith_18 : decode b_EL_countDoorsWith 18 = .ok (.checkcast 22, 3) := by decide +kernel
theorem d_EL_countDoorsWith_21 : decode b_EL_countDoorsWith 21 = .ok (.invokevirtual 49, 3) := by decide +kernel
theorem d_EL_countDoorsWith_24 : decode b_EL_countDoorsWith 24 = .ok (.goto 4, 3) := by decide +kernel
theorem d_EL_countDoorsWith_27 : decode b_EL_countDoorsWith 27 = .ok (.iconst 0, 1) := by decide +kernel
theorem d_EL_countDoorsWith_28 : decode b_EL_countDoorsWith 28 = .ok (.ireturn, 1) := by decide +kernel
theorem d_Entry_countDoors_0 : decode b_Entry_countDoors 0 = .ok (.iconst 0, 1) := by decide +kernel
theorem d_Entry_countDoors_1 : decode b_Entry_countDoors 1 = .ok (.istore_n 1, 1) := by decide +kernel
theorem d_Entry_countDoors_2 : decode b_Entry_countDoors 2 = .ok (.aload_n 0, 1) := by decide +kernel
theorem d_Entry_countDoors_3 : decode b_Entry_countDoors 3 = .ok (.getfield 9, 3) := by decide +kernel
theorem d_Entry_countDoors_6 : decode b_Entry_countDoors 6 = .ok (.astore_n 2, 1) := by decide +kernel
theorem d_Entry_countDoors_7 : decode b_Entry_countDoors 7 = .ok (.aload_n 2, 1) := by decide +kernel
theorem d_Entry_countDoors_8 : decode b_Entry_countDoors 8 = .ok (.arraylength, 1) := by decide +kernel
theorem d_Entry_countDoors_9 : decode b_Entry_countDoors 9 = .ok (.istore_n 3, 1) := by decide +kernel
theorem d_Entry_countDoors_10 : decode b_Entry_countDoors 10 = .ok (.iconst 0, 1) := by decide +kernel
theorem d_Entry_countDoors_11 : decode b_Entry_countDoors 11 = .ok (.istore 4, 2) := by decide +kernel
theorem d_Entry_countDoors_13 : decode b_Entry_countDoors 13 = .ok (.iload 4, 2) := by decide +kernel
theorem d_Entry_countDoors_15 : decode b_Entry_countDoors 15 = .ok (.iload_n 3, 1) := by decide +kernel
theorem d_Entry_countDoors_16 : decode b_Entry_countDoors 16 = .ok (.if_icmp .ge 23, 3) := by decide +kernel
theorem d_Entry_countDoors_19 : decode b_Entry_countDoors 19 = .ok (.aload_n 2, 1) := by decide +kernel
theorem d_Entry_countDoors_20 : decode b_Entry_countDoors 20 = .ok (.iload 4, 2) := by decide +kernel
theorem d_Entry_countDoors_22 : decode b_Entry_countDoors 22 = .ok (.baload, 1) := by decide +kernel
theorem d_Entry_countDoors_23 : decode b_Entry_countDoors 23 = .ok (.istore 5, 2) := by decide +kernel
theorem d_Entry_countDoors_25 : decode b_Entry_countDoors 25 = .ok (.iload 5, 2) := by decide +kernel
theorem d_Entry_countDoors_27 : decode b_Entry_countDoors 27 = .ok (.ifCond .eq 6, 3) := by decide +kernel
theorem d_Entry_countDoors_30 : decode b_Entry_countDoors 30 = .ok (.iinc 1 1, 3) := by decide +kernel
theorem d_Entry_countDoors_33 : decode b_Entry_countDoors 33 = .ok (.iinc 4 1, 3) := by decide +kernel
theorem d_Entry_countDoors_36 : decode b_Entry_countDoors 36 = .ok (.goto (-23), 3) := by decide +kernel
theorem d_Entry_countDoors_39 : decode b_Entry_countDoors 39 = .ok (.iload_n 1, 1) := by decide +kernel
theorem d_Entry_countDoors_40 : decode b_Entry_countDoors 40 = .ok (.ireturn, 1) := by decide +kernel
theorem d_H_loseBattery_0 : decode b_H_loseBattery 0 = .ok (.aload_n 0, 1) := by decide +kernel
theorem d_H_loseBattery_1 : decode b_H_loseBattery 1 = .ok (.iload_n 1, 1) := by decide +kernel
theorem d_H_loseBattery_2 : decode b_H_loseBattery 2 = .ok (.invokevirtual 95, 3) := by decide +kernel
theorem d_H_loseBattery_5 : decode b_H_loseBattery 5 = .ok (.iconst 0, 1) := by decide +kernel
theorem d_H_loseBattery_6 : decode b_H_loseBattery 6 = .ok (.putfield 160, 3) := by decide +kernel
theorem d_H_loseBattery_9 : decode b_H_loseBattery 9 = .ok (.return_, 1) := by decide +kernel
theorem d_H_visit_0 : decode b_H_visit 0 = .ok (.iload_n 1, 1) := by decide +kernel
theorem d_H_visit_1 : decode b_H_visit 1 = .ok (.ifCond .lt 26, 3) := by decide +kernel
theorem d_H_visit_4 : decode b_H_visit 4 = .ok (.iload_n 1, 1) := by decide +kernel
theorem d_H_visit_5 : decode b_H_visit 5 = .ok (.sipush 200, 3) := by decide +kernel
theorem d_H_visit_8 : decode b_H_visit 8 = .ok (.if_icmp .ge 19, 3) := by decide +kernel
theorem d_H_visit_11 : decode b_H_visit 11 = .ok (.aload_n 0, 1) := by decide +kernel
theorem d_H_visit_12 : decode b_H_visit 12 = .ok (.iload_n 2, 1) := by decide +kernel
theorem d_H_visit_13 : decode b_H_visit 13 = .ok (.invokevirtual 192, 3) := by decide +kernel
theorem d_H_visit_16 : decode b_H_visit 16 = .ok (.ifCond .eq 11, 3) := by decide +kernel
theorem d_H_visit_19 : decode b_H_visit 19 = .ok (.aload_n 0, 1) := by decide +kernel
theorem d_H_visit_20 : decode b_H_visit 20 = .ok (.iload_n 3, 1) := by decide +kernel
theorem d_H_visit_21 : decode b_H_visit 21 = .ok (.invokevirtual 196, 3) := by decide +kernel
theorem d_H_visit_24 : decode b_H_visit 24 = .ok (.ifCond .ne 13, 3) := by decide +kernel
theorem d_H_visit_27 : decode b_H_visit 27 = .ok (.new 127, 3) := by decide +kernel
theorem d_H_visit_30 : decode b_H_visit 30 = .ok (.dup, 1) := by decide +kernel
theorem d_H_visit_31 : decode b_H_visit 31 = .ok (.ldc 199, 2) := by decide +kernel
theorem d_H_visit_33 : decode b_H_visit 33 = .ok (.invokespecial 131, 3) := by decide +kernel
theorem d_H_visit_36 : decode b_H_visit 36 = .ok (.athrow, 1) := by decide +kernel
theorem d_H_visit_37 : decode b_H_visit 37 = .ok (.aload_n 0, 1) := by decide +kernel
theorem d_H_visit_38 : decode b_H_visit 38 = .ok (.getfield 29, 3) := by decide +kernel
theorem d_H_visit_41 : decode b_H_visit 41 = .ok (.iload_n 1, 1) := by decide +kernel
theorem d_H_visit_42 : decode b_H_visit 42 = .ok (.iload_n 2, 1) := by decide +kernel
theorem d_H_visit_43 : decode b_H_visit 43 = .ok (.iastore, 1) := by decide +kernel
theorem d_H_visit_44 : decode b_H_visit 44 = .ok (.aload_n 0, 1) := by decide +kernel
theorem d_H_visit_45 : decode b_H_visit 45 = .ok (.getfield 33, 3) := by decide +kernel
theorem d_H_visit_48 : decode b_H_visit 48 = .ok (.iload_n 1, 1) := by decide +kernel
theorem d_H_visit_49 : decode b_H_visit 49 = .ok (.iload_n 3, 1) := by decide +kernel
theorem d_H_visit_50 : decode b_H_visit 50 = .ok (.iastore, 1) := by decide +kernel
theorem d_H_visit_51 : decode b_H_visit 51 = .ok (.aload_n 0, 1) := by decide +kernel
theorem d_H_visit_52 : decode b_H_visit 52 = .ok (.getfield 36, 3) := by decide +kernel
theorem d_H_visit_55 : decode b_H_visit 55 = .ok (.iload_n 1, 1) := by decide +kernel
theorem d_H_visit_56 : decode b_H_visit 56 = .ok (.iload 4, 2) := by decide +kernel
theorem d_H_visit_58 : decode b_H_visit 58 = .ok (.iastore, 1) := by decide +kernel
theorem d_H_visit_59 : decode b_H_visit 59 = .ok (.return_, 1) := by decide +kernel
theorem d_H_spread_0 : decode b_H_spread 0 = .ok (.iload_n 1, 1) := by decide +kernel
theorem d_H_spread_1 : decode b_H_spread 1 = .ok (.ifCond .lt 10, 3) := by decide +kernel
theorem d_H_spread_4 : decode b_H_spread 4 = .ok (.iload_n 1, 1) := by decide +kernel
theorem d_H_spread_5 : decode b_H_spread 5 = .ok (.sipush 200, 3) := by decide +kernel
theorem d_H_spread_8 : decode b_H_spread 8 = .ok (.if_icmp .le 13, 3) := by decide +kernel
theorem d_H_spread_11 : decode b_H_spread 11 = .ok (.new 99, 3) := by decide +kernel
theorem d_H_spread_14 : decode b_H_spread 14 = .ok (.dup, 1) := by decide +kernel
theorem d_H_spread_15 : decode b_H_spread 15 = .ok (.ldc 201, 2) := by decide +kernel
theorem d_H_spread_17 : decode b_H_spread 17 = .ok (.invokespecial 103, 3) := by decide +kernel
theorem d_H_spread_20 : decode b_H_spread 20 = .ok (.athrow, 1) := by decide +kernel
theorem d_H_spread_21 : decode b_H_spread 21 = .ok (.iconst 0, 1) := by decide +kernel
theorem d_H_spread_22 : decode b_H_spread 22 = .ok (.istore_n 2, 1) := by decide +kernel
theorem d_H_spread_23 : decode b_H_spread 23 = .ok (.iconst 0, 1) := by decide +kernel
theorem d_H_spread_24 : decode b_H_spread 24 = .ok (.istore_n 3, 1) := by decide +kernel
theorem d_H_spread_25 : decode b_H_spread 25 = .ok (.iload_n 3, 1) := by decide +kernel
theorem d_H_spread_26 : decode b_H_spread 26 = .ok (.iload_n 1, 1) := by decide +kernel
theorem d_H_spread_27 : decode b_H_spread 27 = .ok (.if_icmp .ge 78, 3) := by decide +kernel
theorem d_H_spread_30 : decode b_H_spread 30 = .ok (.aload_n 0, 1) := by decide +kernel
theorem d_H_spread_31 : decode b_H_spread 31 = .ok (.aload_n 0, 1) := by decide +kernel
theorem d_H_spread_32 : decode b_H_spread 32 = .ok (.getfield 29, 3) := by decide +kernel
theorem d_H_spread_35 : decode b_H_spread 35 = .ok (.iload_n 3, 1) := by decide +kernel
theorem d_H_spread_36 : decode b_H_spread 36 = .ok (.iaload, 1) := by decide +kernel
theorem d_H_spread_37 : decode b_H_spread 37 = .ok (.invokevirtual 192, 3) := by decide +kernel
theorem d_H_spread_40 : decode b_H_spread 40 = .ok (.ifCond .eq 59, 3) := by decide +kernel
theorem d_H_spread_43 : decode b_H_spread 43 = .ok (.aload_n 0, 1) := by decide +kernel
theorem d_H_spread_44 : decode b_H_spread 44 = .ok (.aload_n 0, 1) := by decide +kernel
theorem d_H_spread_45 : decode b_H_spread 45 = .ok (.getfield 33, 3) := by decide +kernel
theorem d_H_spread_48 : decode b_H_spread 48 = .ok (.iload_n 3, 1) := by decide +kernel
theorem d_H_spread_49 : decode b_H_spread 49 = .ok (.iaload, 1) := by decide +kernel
theorem d_H_spread_50 : decode b_H_spread 50 = .ok (.invokevirtual 196, 3) := by decide +kernel
theorem d_H_spread_53 : decode b_H_spread 53 = .ok (.ifCond .eq 46, 3) := by decide +kernel
theorem d_H_spread_56 : decode b_H_spread 56 = .ok (.aload_n 0, 1) := by decide +kernel
theorem d_H_spread_57 : decode b_H_spread 57 = .ok (.aload_n 0, 1) := by decide +kernel
theorem d_H_spread_58 : decode b_H_spread 58 = .ok (.getfield 10, 3) := by decide +kernel
theorem d_H_spread_61 : decode b_H_spread 61 = .ok (.aload_n 0, 1) := by decide +kernel
theorem d_H_spread_62 : decode b_H_spread 62 = .ok (.getfield 29, 3) := by decide +kernel
theorem d_H_spread_65 : decode b_H_spread 65 = .ok (.iload_n 3, 1) := by decide +kernel
theorem d_H_spread_66 : decode b_H_spread 66 = .ok (.iaload, 1) := by decide +kernel
theorem d_H_spread_67 : decode b_H_spread 67 = .ok (.invokevirtual 203, 3) := by decide +kernel
theorem d_H_spread_70 : decode b_H_spread 70 = .ok (.checkcast 59, 3) := by decide +kernel
theorem d_H_spread_73 : decode b_H_spread 73 = .ok (.aload_n 0, 1) := by decide +kernel
theorem d_H_spread_74 : decode b_H_spread 74 = .ok (.getfield 25, 3) := by decide +kernel
theorem d_H_spread_77 : decode b_H_spread 77 = .ok (.aload_n 0, 1) := by decide +kernel
theorem d_H_spread_78 : decode b_H_spread 78 = .ok (.getfield 33, 3) := by decide +kernel
theorem d_H_spread_81 : decode b_H_spread 81 = .ok (.iload_n 3, 1) := by decide +kernel
theorem d_H_spread_82 : decode b_H_spread 82 = .ok (.iaload, 1) := by decide +kernel
theorem d_H_spread_83 : decode b_H_spread 83 = .ok (.aaload, 1) := by decide +kernel
theorem d_H_spread_84 : decode b_H_spread 84 = .ok (.aload_n 0, 1) := by decide +kernel
theorem d_H_spread_85 : decode b_H_spread 85 = .ok (.getfield 36, 3) := by decide +kernel
theorem d_H_spread_88 : decode b_H_spread 88 = .ok (.iload_n 3, 1) := by decide +kernel
theorem d_H_spread_89 : decode b_H_spread 89 = .ok (.iaload, 1) := by decide +kernel
theorem d_H_spread_90 : decode b_H_spread 90 = .ok (.invokevirtual 113, 3) := by decide +kernel
theorem d_H_spread_93 : decode b_H_spread 93 = .ok (.ifCond .ne 6, 3) := by decide +kernel
theorem d_H_spread_96 : decode b_H_spread 96 = .ok (.iinc 2 1, 3) := by decide +kernel
theorem d_H_spread_99 : decode b_H_spread 99 = .ok (.iinc 3 1, 3) := by decide +kernel
theorem d_H_spread_102 : decode b_H_spread 102 = .ok (.goto (-77), 3) := by decide +kernel
theorem d_H_spread_105 : decode b_H_spread 105 = .ok (.iload_n 2, 1) := by decide +kernel
theorem d_H_spread_106 : decode b_H_spread 106 = .ok (.ireturn, 1) := by decide +kernel
