/-! Decode rows (by program). -/
theorem d_L_issue_0 : decode b_L_issue 0 = .ok (.aload_n 3, 1) := by decide +kernel
theorem d_L_issue_1 : decode b_L_issue 1 = .ok (.iconst 0, 1) := by decide +kernel
theorem d_L_issue_2 : decode b_L_issue 2 = .ok (.aload_n 0, 1) := by decide +kernel
theorem d_L_issue_3 : decode b_L_issue 3 = .ok (.iload_n 1, 1) := by decide +kernel
theorem d_L_issue_4 : decode b_L_issue 4 = .ok (.iload_n 2, 1) := by decide +kernel
theorem d_L_issue_5 : decode b_L_issue 5 = .ok (.invokevirtual 7, 3) := by decide +kernel
theorem d_L_issue_8 : decode b_L_issue 8 = .ok (.i2l, 1) := by decide +kernel
theorem d_L_issue_9 : decode b_L_issue 9 = .ok (.lastore, 1) := by decide +kernel
theorem d_L_issue_10 : decode b_L_issue 10 = .ok (.goto 7, 3) := by decide +kernel
theorem d_L_issue_13 : decode b_L_issue 13 = .ok (.astore 4, 2) := by decide +kernel
theorem d_L_issue_15 : decode b_L_issue 15 = .ok (.iconst 1, 1) := by decide +kernel
theorem d_L_issue_16 : decode b_L_issue 16 = .ok (.ireturn, 1) := by decide +kernel
theorem d_L_issue_17 : decode b_L_issue 17 = .ok (.iconst 0, 1) := by decide +kernel
theorem d_L_issue_18 : decode b_L_issue 18 = .ok (.ireturn, 1) := by decide +kernel
theorem d_L_revoke_0 : decode b_L_revoke 0 = .ok (.aload_n 2, 1) := by decide +kernel
theorem d_L_revoke_1 : decode b_L_revoke 1 = .ok (.iconst 0, 1) := by decide +kernel
theorem d_L_revoke_2 : decode b_L_revoke 2 = .ok (.aload_n 0, 1) := by decide +kernel
theorem d_L_revoke_3 : decode b_L_revoke 3 = .ok (.iload_n 1, 1) := by decide +kernel
theorem d_L_revoke_4 : decode b_L_revoke 4 = .ok (.invokevirtual 15, 3) := by decide +kernel
theorem d_L_revoke_7 : decode b_L_revoke 7 = .ok (.i2l, 1) := by decide +kernel
theorem d_L_revoke_8 : decode b_L_revoke 8 = .ok (.lastore, 1) := by decide +kernel
theorem d_L_revoke_9 : decode b_L_revoke 9 = .ok (.goto 9, 3) := by decide +kernel
theorem d_L_revoke_12 : decode b_L_revoke 12 = .ok (.astore_n 3, 1) := by decide +kernel
theorem d_L_revoke_13 : decode b_L_revoke 13 = .ok (.iconst 1, 1) := by decide +kernel
theorem d_L_revoke_14 : decode b_L_revoke 14 = .ok (.ireturn, 1) := by decide +kernel
theorem d_L_revoke_15 : decode b_L_revoke 15 = .ok (.astore_n 3, 1) := by decide +kernel
theorem d_L_revoke_16 : decode b_L_revoke 16 = .ok (.iconst 2, 1) := by decide +kernel
theorem d_L_revoke_17 : decode b_L_revoke 17 = .ok (.ireturn, 1) := by decide +kernel
theorem d_L_revoke_18 : decode b_L_revoke 18 = .ok (.iconst 0, 1) := by decide +kernel
theorem d_L_revoke_19 : decode b_L_revoke 19 = .ok (.ireturn, 1) := by decide +kernel
theorem d_L_gate_0 : decode b_L_gate 0 = .ok (.aload_n 0, 1) := by decide +kernel
theorem d_L_gate_1 : decode b_L_gate 1 = .ok (.iload_n 1, 1) := by decide +kernel
theorem d_L_gate_2 : decode b_L_gate 2 = .ok (.invokevirtual 21, 3) := by decide +kernel
theorem d_L_gate_5 : decode b_L_gate 5 = .ok (.goto 6, 3) := by decide +kernel
theorem d_L_gate_8 : decode b_L_gate 8 = .ok (.astore_n 2, 1) := by decide +kernel
theorem d_L_gate_9 : decode b_L_gate 9 = .ok (.iconst 1, 1) := by decide +kernel
theorem d_L_gate_10 : decode b_L_gate 10 = .ok (.ireturn, 1) := by decide +kernel
theorem d_L_gate_11 : decode b_L_gate 11 = .ok (.iconst 0, 1) := by decide +kernel
theorem d_L_gate_12 : decode b_L_gate 12 = .ok (.ireturn, 1) := by decide +kernel
theorem d_L_zoneOf_0 : decode b_L_zoneOf 0 = .ok (.aload_n 0, 1) := by decide +kernel
theorem d_L_zoneOf_1 : decode b_L_zoneOf 1 = .ok (.iload_n 1, 1) := by decide +kernel
theorem d_L_zoneOf_2 : decode b_L_zoneOf 2 = .ok (.iload_n 2, 1) := by decide +kernel
theorem d_L_zoneOf_3 : decode b_L_zoneOf 3 = .ok (.invokevirtual 25, 3) := by decide +kernel
theorem d_L_zoneOf_6 : decode b_L_zoneOf 6 = .ok (.goto 12, 3) := by decide +kernel
theorem d_L_zoneOf_9 : decode b_L_zoneOf 9 = .ok (.astore_n 3, 1) := by decide +kernel
theorem d_L_zoneOf_10 : decode b_L_zoneOf 10 = .ok (.iconst 1, 1) := by decide +kernel
theorem d_L_zoneOf_11 : decode b_L_zoneOf 11 = .ok (.ireturn, 1) := by decide +kernel
theorem d_L_zoneOf_12 : decode b_L_zoneOf 12 = .ok (.astore_n 3, 1) := by decide +kernel
theorem d_L_zoneOf_13 : decode b_L_zoneOf 13 = .ok (.iconst 2, 1) := by decide +kernel
theorem d_L_zoneOf_14 : decode b_L_zoneOf 14 = .ok (.ireturn, 1) := by decide +kernel
theorem d_L_zoneOf_15 : decode b_L_zoneOf 15 = .ok (.astore_n 3, 1) := by decide +kernel
theorem d_L_zoneOf_16 : decode b_L_zoneOf 16 = .ok (.iconst 3, 1) := by decide +kernel
theorem d_L_zoneOf_17 : decode b_L_zoneOf 17 = .ok (.ireturn, 1) := by decide +kernel
theorem d_L_zoneOf_18 : decode b_L_zoneOf 18 = .ok (.iconst 0, 1) := by decide +kernel
theorem d_L_zoneOf_19 : decode b_L_zoneOf 19 = .ok (.ireturn, 1) := by decide +kernel
theorem d_L_show_0 : decode b_L_show 0 = .ok (.aload 4, 2) := by decide +kernel
theorem d_L_show_2 : decode b_L_show 2 = .ok (.iconst 0, 1) := by decide +kernel
theorem d_L_show_3 : decode b_L_show 3 = .ok (.aload_n 0, 1) := by decide +kernel
theorem d_L_show_4 : decode b_L_show 4 = .ok (.iload_n 1, 1) := by decide +kernel
theorem d_L_show_5 : decode b_L_show 5 = .ok (.iload_n 2, 1) := by decide +kernel
theorem d_L_show_6 : decode b_L_show 6 = .ok (.iload_n 3, 1) := by decide +kernel
theorem d_L_show_7 : decode b_L_show 7 = .ok (.invokevirtual 31, 3) := by decide +kernel
theorem d_L_show_10 : decode b_L_show 10 = .ok (.i2l, 1) := by decide +kernel
theorem d_L_show_11 : decode b_L_show 11 = .ok (.lastore, 1) := by decide +kernel
theorem d_L_show_12 : decode b_L_show 12 = .ok (.goto 7, 3) := by decide +kernel
theorem d_L_show_15 : decode b_L_show 15 = .ok (.astore 5, 2) := by decide +kernel
theorem d_L_show_17 : decode b_L_show 17 = .ok (.iconst 1, 1) := by decide +kernel
theorem d_L_show_18 : decode b_L_show 18 = .ok (.ireturn, 1) := by decide +kernel
theorem d_L_show_19 : decode b_L_show 19 = .ok (.iconst 0, 1) := by decide +kernel
theorem d_L_show_20 : decode b_L_show 20 = .ok (.ireturn, 1) := by decide +kernel
theorem d_L_tear_0 : decode b_L_tear 0 = .ok (.aload_n 0, 1) := by decide +kernel
theorem d_L_tear_1 : decode b_L_tear 1 = .ok (.iload_n 1, 1) := by decide +kernel
theorem d_L_tear_2 : decode b_L_tear 2 = .ok (.iload_n 2, 1) := by decide +kernel
theorem d_L_tear_3 : decode b_L_tear 3 = .ok (.invokevirtual 35, 3) := by decide +kernel
theorem d_L_tear_6 : decode b_L_tear 6 = .ok (.goto 9, 3) := by decide +kernel
theorem d_L_tear_9 : decode b_L_tear 9 = .ok (.astore_n 3, 1) := by decide +kernel
theorem d_L_tear_10 : decode b_L_tear 10 = .ok (.iconst 1, 1) := by decide +kernel
theorem d_L_tear_11 : decode b_L_tear 11 = .ok (.ireturn, 1) := by decide +kernel
theorem d_L_tear_12 : decode b_L_tear 12 = .ok (.astore_n 3, 1) := by decide +kernel
theorem d_L_tear_13 : decode b_L_tear 13 = .ok (.iconst 2, 1) := by decide +kernel
theorem d_L_tear_14 : decode b_L_tear 14 = .ok (.ireturn, 1) := by decide +kernel
theorem d_L_tear_15 : decode b_L_tear 15 = .ok (.iconst 0, 1) := by decide +kernel
theorem d_L_tear_16 : decode b_L_tear 16 = .ok (.ireturn, 1) := by decide +kernel
theorem d_L_written_0 : decode b_L_written 0 = .ok (.aload_n 2, 1) := by decide +kernel
theorem d_L_written_1 : decode b_L_written 1 = .ok (.iconst 0, 1) := by decide +kernel
theorem d_L_written_2 : decode b_L_written 2 = .ok (.aload_n 0, 1) := by decide +kernel
theorem d_L_written_3 : decode b_L_written 3 = .ok (.iload_n 1, 1) := by decide +kernel
theorem d_L_written_4 : decode b_L_written 4 = .ok (.invokevirtual 38, 3) := by decide +kernel
theorem d_L_written_7 : decode b_L_written 7 = .ok (.i2l, 1) := by decide +kernel
theorem d_L_written_8 : decode b_L_written 8 = .ok (.lastore, 1) := by decide +kernel
theorem d_L_written_9 : decode b_L_written 9 = .ok (.goto 6, 3) := by decide +kernel
theorem d_L_written_12 : decode b_L_written 12 = .ok (.astore_n 3, 1) := by decide +kernel
theorem d_L_written_13 : decode b_L_written 13 = .ok (.iconst 1, 1) := by decide +kernel
theorem d_L_written_14 : decode b_L_written 14 = .ok (.ireturn, 1) := by decide +kernel
theorem d_L_written_15 : decode b_L_written 15 = .ok (.iconst 0, 1) := by decide +kernel
theorem d_L_written_16 : decode b_L_written 16 = .ok (.ireturn, 1) := by decide +kernel
theorem d_L_word_0 : decode b_L_word 0 = .ok (.aload 4, 2) := by decide +kernel
theorem d_L_word_2 : decode b_L_word 2 = .ok (.iconst 0, 1) := by decide +kernel
theorem d_L_word_3 : decode b_L_word 3 = .ok (.aload_n 0, 1) := by decide +kernel
theorem d_L_word_4 : decode b_L_word 4 = .ok (.iload_n 1, 1) := by decide +kernel
theorem d_L_word_5 : decode b_L_word 5 = .ok (.iload_n 2, 1) := by decide +kernel
theorem d_L_word_6 : decode b_L_word 6 = .ok (.iload_n 3, 1) := by decide +kernel
theorem d_L_word_7 : decode b_L_word 7 = .ok (.invokevirtual 41, 3) := by decide +kernel
theorem d_L_word_10 : decode b_L_word 10 = .ok (.i2l, 1) := by decide +kernel
theorem d_L_word_11 : decode b_L_word 11 = .ok (.lastore, 1) := by decide +kernel
theorem d_L_word_12 : decode b_L_word 12 = .ok (.goto 7, 3) := by decide +kernel
theorem d_L_word_15 : decode b_L_word 15 = .ok (.astore 5, 2) := by decide +kernel
theorem d_L_word_17 : decode b_L_word 17 = .ok (.iconst 1, 1) := by decide +kernel
theorem d_L_word_18 : decode b_L_word 18 = .ok (.ireturn, 1) := by decide +kernel
theorem d_L_word_19 : decode b_L_word 19 = .ok (.iconst 0, 1) := by decide +kernel
theorem d_L_word_20 : decode b_L_word 20 = .ok (.ireturn, 1) := by decide +kernel
theorem d_L_carries_0 : decode b_L_carries 0 = .ok (.aload_n 3, 1) := by decide +kernel
theorem d_L_carries_1 : decode b_L_carries 1 = .ok (.iconst 0, 1) := by decide +kernel
theorem d_L_carries_2 : decode b_L_carries 2 = .ok (.aload_n 0, 1) := by decide +kernel
theorem d_L_carries_3 : decode b_L_carries 3 = .ok (.iload_n 1, 1) := by decide +kernel
theorem d_L_carries_4 : decode b_L_carries 4 = .ok (.iload_n 2, 1) := by decide +kernel
theorem d_L_carries_5 : decode b_L_carries 5 = .ok (.invokevirtual 44, 3) := by decide +kernel
theorem d_L_carries_8 : decode b_L_carries 8 = .ok (.i2l, 1) := by decide +kernel
theorem d_L_carries_9 : decode b_L_carries 9 = .ok (.lastore, 1) := by decide +kernel
theorem d_L_carries_10 : decode b_L_carries 10 = .ok (.goto 11, 3) := by decide +kernel
theorem d_L_carries_13 : decode b_L_carries 13 = .ok (.astore 4, 2) := by decide +kernel
theorem d_L_carries_15 : decode b_L_carries 15 = .ok (.iconst 1, 1) := by decide +kernel
theorem d_L_carries_16 : decode b_L_carries 16 = .ok (.ireturn, 1) := by decide +kernel
theorem d_L_carries_17 : decode b_L_carries 17 = .ok (.astore 4, 2) := by decide +kernel
theorem d_L_carries_19 : decode b_L_carries 19 = .ok (.iconst 2, 1) := by decide +kernel
theorem d_L_carries_20 : decode b_L_carries 20 = .ok (.ireturn, 1) := by decide +kernel
theorem d_L_carries_21 : decode b_L_carries 21 = .ok (.iconst 0, 1) := by decide +kernel
theorem d_L_carries_22 : decode b_L_carries 22 = .ok (.ireturn, 1) := by decide +kernel
theorem d_L_memory_0 : decode b_L_memory 0 = .ok (.aload_n 3, 1) := by decide +kernel
theorem d_L_memory_1 : decode b_L_memory 1 = .ok (.iconst 0, 1) := by decide +kernel
theorem d_L_memory_2 : decode b_L_memory 2 = .ok (.aload_n 0, 1) := by decide +kernel
theorem d_L_memory_3 : decode b_L_memory 3 = .ok (.iload_n 1, 1) := by decide +kernel
theorem d_L_memory_4 : decode b_L_memory 4 = .ok (.iload_n 2, 1) := by decide +kernel
theorem d_L_memory_5 : decode b_L_memory 5 = .ok (.invokevirtual 47, 3) := by decide +kernel
theorem d_L_memory_8 : decode b_L_memory 8 = .ok (.i2l, 1) := by decide +kernel
theorem d_L_memory_9 : decode b_L_memory 9 = .ok (.lastore, 1) := by decide +kernel
theorem d_L_memory_10 : decode b_L_memory 10 = .ok (.goto 7, 3) := by decide +kernel
theorem d_L_memory_13 : decode b_L_memory 13 = .ok (.astore 4, 2) := by decide +kernel
theorem d_L_memory_15 : decode b_L_memory 15 = .ok (.iconst 1, 1) := by decide +kernel
theorem d_L_memory_16 : decode b_L_memory 16 = .ok (.ireturn, 1) := by decide +kernel
theorem d_L_memory_17 : decode b_L_memory 17 = .ok (.iconst 0, 1) := by decide +kernel
theorem d_L_memory_18 : decode b_L_memory 18 = .ok (.ireturn, 1) := by decide +kernel
theorem d_L_about_0 : decode b_L_about 0 = .ok (.aload_n 3, 1) := by decide +kernel
theorem d_L_about_1 : decode b_L_about 1 = .ok (.iconst 0, 1) := by decide +kernel
theorem d_L_about_2 : decode b_L_about 2 = .ok (.aload_n 0, 1) := by decide +kernel
theorem d_L_about_3 : decode b_L_about 3 = .ok (.iload_n 1, 1) := by decide +kernel
theorem d_L_about_4 : decode b_L_about 4 = .ok (.iload_n 2, 1) := by decide +kernel
theorem d_L_about_5 : decode b_L_about 5 = .ok (.invokevirtual 50, 3) := by decide +kernel
theorem d_L_about_8 : decode b_L_about 8 = .ok (.i2l, 1) := by decide +kernel
theorem d_L_about_9 : decode b_L_about 9 = .ok (.lastore, 1) := by decide +kernel
theorem d_L_about_10 : decode b_L_about 10 = .ok (.goto 11, 3) := by decide +kernel
theorem d_L_about_13 : decode b_L_about 13 = .ok (.astore 4, 2) := by decide +kernel
theorem d_L_about_15 : decode b_L_about 15 = .ok (.iconst 1, 1) := by decide +kernel
theorem d_L_about_16 : decode b_L_about 16 = .ok (.ireturn, 1) := by decide +kernel
theorem d_L_about_17 : decode b_L_about 17 = .ok (.astore 4, 2) := by decide +kernel
theorem d_L_about_19 : decode b_L_about 19 = .ok (.iconst 2, 1) := by decide +kernel
theorem d_L_about_20 : decode b_L_about 20 = .ok (.ireturn, 1) := by decide +kernel
theorem d_L_about_21 : decode b_L_about 21 = .ok (.iconst 0, 1) := by decide +kernel
theorem d_L_about_22 : decode b_L_about 22 = .ok (.ireturn, 1) := by decide +kernel
theorem d_L_run_0 : decode b_L_run 0 = .ok (.aload 4, 2) := by decide +kernel
theorem d_L_run_2 : decode b_L_run 2 = .ok (.iconst 0, 1) := by decide +kernel
theorem d_L_run_3 : decode b_L_run 3 = .ok (.aload_n 0, 1) := by decide +kernel
theorem d_L_run_4 : decode b_L_run 4 = .ok (.iload_n 1, 1) := by decide +kernel
theorem d_L_run_5 : decode b_L_run 5 = .ok (.iload_n 2, 1) := by decide +kernel
theorem d_L_run_6 : decode b_L_run 6 = .ok (.iload_n 3, 1) := by decide +kernel
theorem d_L_run_7 : decode b_L_run 7 = .ok (.invokevirtual 53, 3) := by decide +kernel
theorem d_L_run_10 : decode b_L_run 10 = .ok (.i2l, 1) := by decide +kernel
theorem d_L_run_11 : decode b_L_run 11 = .ok (.lastore, 1) := by decide +kernel
theorem d_L_run_12 : decode b_L_run 12 = .ok (.goto 7, 3) := by decide +kernel
theorem d_L_run_15 : decode b_L_run 15 = .ok (.astore 5, 2) := by decide +kernel
theorem d_L_run_17 : decode b_L_run 17 = .ok (.iconst 1, 1) := by decide +kernel
theorem d_L_run_18 : decode b_L_run 18 = .ok (.ireturn, 1) := by decide +kernel
theorem d_L_run_19 : decode b_L_run 19 = .ok (.iconst 0, 1) := by decide +kernel
theorem d_L_run_20 : decode b_L_run 20 = .ok (.ireturn, 1) := by decide +kernel
theorem d_L_refuses_0 : decode b_L_refuses 0 = .ok (.aload_n 3, 1) := by decide +kernel
theorem d_L_refuses_1 : decode b_L_refuses 1 = .ok (.iconst 0, 1) := by decide +kernel
theorem d_L_refuses_2 : decode b_L_refuses 2 = .ok (.aload_n 0, 1) := by decide +kernel
theorem d_L_refuses_3 : decode b_L_refuses 3 = .ok (.iload_n 1, 1) := by decide +kernel
theorem d_L_refuses_4 : decode b_L_refuses 4 = .ok (.iload_n 2, 1) := by decide +kernel
theorem d_L_refuses_5 : decode b_L_refuses 5 = .ok (.invokevirtual 57, 3) := by decide +kernel
theorem d_L_refuses_8 : decode b_L_refuses 8 = .ok (.ifCond .eq 7, 3) := by decide +kernel
theorem d_L_refuses_11 : decode b_L_refuses 11 = .ok (.lconst 1, 1) := by decide +kernel
theorem d_L_refuses_12 : decode b_L_refuses 12 = .ok (.goto 4, 3) := by decide +kernel
theorem d_L_refuses_15 : decode b_L_refuses 15 = .ok (.lconst 0, 1) := by decide +kernel
theorem d_L_refuses_16 : decode b_L_refuses 16 = .ok (.lastore, 1) := by decide +kernel
theorem d_L_refuses_17 : decode b_L_refuses 17 = .ok (.goto 7, 3) := by decide +kernel
theorem d_L_refuses_20 : decode b_L_refuses 20 = .ok (.astore 4, 2) := by decide +kernel
theorem d_L_refuses_22 : decode b_L_refuses 22 = .ok (.iconst 1, 1) := by decide +kernel
theorem d_L_refuses_23 : decode b_L_refuses 23 = .ok (.ireturn, 1) := by decide +kernel
theorem d_L_refuses_24 : decode b_L_refuses 24 = .ok (.iconst 0, 1) := by decide +kernel
theorem d_L_refuses_25 : decode b_L_refuses 25 = .ok (.ireturn, 1) := by decide +kernel
theorem d_L_reach_0 : decode b_L_reach 0 = .ok (.aload_n 2, 1) := by decide +kernel
theorem d_L_reach_1 : decode b_L_reach 1 = .ok (.iconst 0, 1) := by decide +kernel
theorem d_L_reach_2 : decode b_L_reach 2 = .ok (.aload_n 0, 1) := by decide +kernel
theorem d_L_reach_3 : decode b_L_reach 3 = .ok (.iload_n 1, 1) := by decide +kernel
theorem d_L_reach_4 : decode b_L_reach 4 = .ok (.invokevirtual 61, 3) := by decide +kernel
theorem d_L_reach_7 : decode b_L_reach 7 = .ok (.i2l, 1) := by decide +kernel
theorem d_L_reach_8 : decode b_L_reach 8 = .ok (.lastore, 1) := by decide +kernel
theorem d_L_reach_9 : decode b_L_reach 9 = .ok (.goto 6, 3) := by decide +kernel
theorem d_L_reach_12 : decode b_L_reach 12 = .ok (.astore_n 3, 1) := by decide +kernel
theorem d_L_reach_13 : decode b_L_reach 13 = .ok (.iconst 1, 1) := by decide +kernel
theorem d_L_reach_14 : decode b_L_reach 14 = .ok (.ireturn, 1) := by decide +kernel
theorem d_L_reach_15 : decode b_L_reach 15 = .ok (.iconst 0, 1) := by decide +kernel
theorem d_L_reach_16 : decode b_L_reach 16 = .ok (.ireturn, 1) := by decide +kernel
theorem d_L_loseBattery_0 : decode b_L_loseBattery 0 = .ok (.aload_n 0, 1) := by decide +kernel
theorem d_L_loseBattery_1 : decode b_L_loseBattery 1 = .ok (.iload_n 1, 1) := by decide +kernel
theorem d_L_loseBattery_2 : decode b_L_loseBattery 2 = .ok (.invokevirtual 64, 3) := by decide +kernel
theorem d_L_loseBattery_5 : decode b_L_loseBattery 5 = .ok (.goto 6, 3) := by decide +kernel
theorem d_L_loseBattery_8 : decode b_L_loseBattery 8 = .ok (.astore_n 2, 1) := by decide +kernel
theorem d_L_loseBattery_9 : decode b_L_loseBattery 9 = .ok (.iconst 1, 1) := by decide +kernel
theorem d_L_loseBattery_10 : decode b_L_loseBattery 10 = .ok (.ireturn, 1) := by decide +kernel
theorem d_L_loseBattery_11 : decode b_L_loseBattery 11 = .ok (.iconst 0, 1) := by decide +kernel
theorem d_L_loseBattery_12 : decode b_L_loseBattery 12 = .ok (.ireturn, 1) := by decide +kernel
theorem d_L_visit_0 : decode b_L_visit 0 = .ok (.aload_n 0, 1) := by decide +kernel
theorem d_L_visit_1 : decode b_L_visit 1 = .ok (.iload_n 1, 1) := by decide +kernel
theorem d_L_visit_2 : decode b_L_visit 2 = .ok (.iload_n 2, 1) := by decide +kernel
theorem d_L_visit_3 : decode b_L_visit 3 = .ok (.iload_n 3, 1) := by decide +kernel
theorem d_L_visit_4 : decode b_L_visit 4 = .ok (.iload 4, 2) := by decide +kernel
theorem d_L_visit_6 : decode b_L_visit 6 = .ok (.invokevirtual 67, 3) := by decide +kernel
theorem d_L_visit_9 : decode b_L_visit 9 = .ok (.goto 7, 3) := by decide +kernel
theorem d_L_visit_12 : decode b_L_visit 12 = .ok (.astore 5, 2) := by decide +kernel
theorem d_L_visit_14 : decode b_L_visit 14 = .ok (.iconst 1, 1) := by decide +kernel
theorem d_L_visit_15 : decode b_L_visit 15 = .ok (.ireturn, 1) := by decide +kernel
theorem d_L_visit_16 : decode b_L_visit 16 = .ok (.iconst 0, 1) := by decide +kernel
theorem d_L_visit_17 : decode b_L_visit 17 = .ok (.ireturn, 1) := by decide +kernel
theorem d_L_spread_0 : decode b_L_spread 0 = .ok (.aload_n 2, 1) := by decide +kernel
theorem d_L_spread_1 : decode b_L_spread 1 = .ok (.iconst 0, 1) := by decide +kernel
theorem d_L_spread_2 : decode b_L_spread 2 = .ok (.aload_n 0, 1) := by decide +kernel
theorem d_L_spread_3 : decode b_L_spread 3 = .ok (.iload_n 1, 1) := by decide +kernel
theorem d_L_spread_4 : decode b_L_spread 4 = .ok (.invokevirtual 71, 3) := by decide +kernel
theorem d_L_spread_7 : decode b_L_spread 7 = .ok (.i2l, 1) := by decide +kernel
theorem d_L_spread_8 : decode b_L_spread 8 = .ok (.lastore, 1) := by decide +kernel
theorem d_L_spread_9 : decode b_L_spread 9 = .ok (.goto 6, 3) := by decide +kernel
theorem d_L_spread_12 : decode b_L_spread 12 = .ok (.astore_n 3, 1) := by decide +kernel
theorem d_L_spread_13 : decode b_L_spread 13 = .ok (.iconst 1, 1) := by decide +kernel
theorem d_L_spread_14 : decode b_L_spread 14 = .ok (.ireturn, 1) := by decide +kernel
theorem d_L_spread_15 : decode b_L_spread 15 = .ok (.iconst 0, 1) := by decide +kernel
theorem d_L_spread_16 : decode b_L_spread 16 = .ok (.ireturn, 1) := by decide +kernel
theorem d_law_0 : decode code 0 = .ok (.new 8, 3) := by decide +kernel
theorem d_law_3 : decode code 3 = .ok (.dup, 1) := by decide +kernel
theorem d_law_4 : decode code 4 = .ok (.invokespecial 74, 3) := by decide +kernel
theorem d_law_7 : decode code 7 = .ok (.astore_n 1, 1) := by decide +kernel
theorem d_law_8 : decode code 8 = .ok (.new 75, 3) := by decide +kernel
theorem d_law_11 : decode code 11 = .ok (.dup, 1) := by decide +kernel
theorem d_law_12 : decode code 12 = .ok (.invokespecial 77, 3) := by decide +kernel
theorem d_law_15 : decode code 15 = .ok (.astore_n 2, 1) := by decide +kernel
theorem d_law_16 : decode code 16 = .ok (.iconst 1, 1) := by decide +kernel
theorem d_law_17 : decode code 17 = .ok (.newarray .long, 2) := by decide +kernel
theorem d_law_19 : decode code 19 = .ok (.astore_n 3, 1) := by decide +kernel
theorem d_law_20 : decode code 20 = .ok (.iconst 0, 1) := by decide +kernel
theorem d_law_21 : decode code 21 = .ok (.istore 4, 2) := by decide +kernel
theorem d_law_23 : decode code 23 = .ok (.iload 4, 2) := by decide +kernel
theorem d_law_25 : decode code 25 = .ok (.aload_n 0, 1) := by decide +kernel
theorem d_law_26 : decode code 26 = .ok (.arraylength, 1) := by decide +kernel
theorem d_law_27 : decode code 27 = .ok (.iconst 5, 1) := by decide +kernel
theorem d_law_28 : decode code 28 = .ok (.isub, 1) := by decide +kernel
theorem d_law_29 : decode code 29 = .ok (.if_icmp .gt 1198, 3) := by decide +kernel
theorem d_law_32 : decode code 32 = .ok (.aload_n 0, 1) := by decide +kernel
theorem d_law_33 : decode code 33 = .ok (.iload 4, 2) := by decide +kernel
theorem d_law_35 : decode code 35 = .ok (.iaload, 1) := by decide +kernel
theorem d_law_36 : decode code 36 = .ok (.bipush 31, 2) := by decide +kernel
theorem d_law_38 : decode code 38 = .ok (.iand, 1) := by decide +kernel
theorem d_law_39 : decode code 39 = .ok (.tableswitch 1182 0 18 #[89, 157, 170, 226, 239, 275, 323, 403, 451, 507, 587, 655, 723, 791, 887, 962, 1018, 1054, 1126], 89) := by decide +kernel
theorem d_law_128 : decode code 128 = .ok (.aload_n 1, 1) := by decide +kernel
theorem d_law_129 : decode code 129 = .ok (.aload_n 0, 1) := by decide +kernel
theorem d_law_130 : decode code 130 = .ok (.iload 4, 2) := by decide +kernel
theorem d_law_132 : decode code 132 = .ok (.iconst 1, 1) := by decide +kernel
theorem d_law_133 : decode code 133 = .ok (.iadd, 1) := by decide +kernel
theorem d_law_134 : decode code 134 = .ok (.iaload, 1) := by decide +kernel
theorem d_law_135 : decode code 135 = .ok (.aload_n 0, 1) := by decide +kernel
theorem d_law_136 : decode code 136 = .ok (.iload 4, 2) := by decide +kernel
theorem d_law_138 : decode code 138 = .ok (.iconst 2, 1) := by decide +kernel
theorem d_law_139 : decode code 139 = .ok (.iadd, 1) := by decide +kernel
theorem d_law_140 : decode code 140 = .ok (.iaload, 1) := by decide +kernel
theorem d_law_141 : decode code 141 = .ok (.aload_n 3, 1) := by decide +kernel
theorem d_law_142 : decode code 142 = .ok (.invokestatic 78, 3) := by decide +kernel
theorem d_law_145 : decode code 145 = .ok (.istore 5, 2) := by decide +kernel
theorem d_law_147 : decode code 147 = .ok (.aload_n 2, 1) := by decide +kernel
theorem d_law_148 : decode code 148 = .ok (.aload_n 0, 1) := by decide +kernel
theorem d_law_149 : decode code 149 = .ok (.iload 4, 2) := by decide +kernel
theorem d_law_151 : decode code 151 = .ok (.iconst 1, 1) := by decide +kernel
theorem d_law_152 : decode code 152 = .ok (.iadd, 1) := by decide +kernel
theorem d_law_153 : decode code 153 = .ok (.iaload, 1) := by decide +kernel
theorem d_law_154 : decode code 154 = .ok (.aload_n 0, 1) := by decide +kernel
theorem d_law_155 : decode code 155 = .ok (.iload 4, 2) := by decide +kernel
theorem d_law_157 : decode code 157 = .ok (.iconst 2, 1) := by decide +kernel
theorem d_law_158 : decode code 158 = .ok (.iadd, 1) := by decide +kernel
theorem d_law_159 : decode code 159 = .ok (.iaload, 1) := by decide +kernel
theorem d_law_160 : decode code 160 = .ok (.invokevirtual 83, 3) := by decide +kernel
theorem d_law_163 : decode code 163 = .ok (.istore 6, 2) := by decide +kernel
theorem d_law_165 : decode code 165 = .ok (.aload_n 2, 1) := by decide +kernel
theorem d_law_166 : decode code 166 = .ok (.invokevirtual 84, 3) := by decide +kernel
theorem d_law_169 : decode code 169 = .ok (.iload 5, 2) := by decide +kernel
theorem d_law_171 : decode code 171 = .ok (.if_icmp .eq 5, 3) := by decide +kernel
theorem d_law_174 : decode code 174 = .ok (.iconst 0, 1) := by decide +kernel
theorem d_law_175 : decode code 175 = .ok (.ireturn, 1) := by decide +kernel
theorem d_law_176 : decode code 176 = .ok (.iload 5, 2) := by decide +kernel
theorem d_law_178 : decode code 178 = .ok (.ifCond .ne 15, 3) := by decide +kernel
theorem d_law_181 : decode code 181 = .ok (.aload_n 3, 1) := by decide +kernel
theorem d_law_182 : decode code 182 = .ok (.iconst 0, 1) := by decide +kernel
theorem d_law_183 : decode code 183 = .ok (.laload, 1) := by decide +kernel
theorem d_law_184 : decode code 184 = .ok (.iload 6, 2) := by decide +kernel
theorem d_law_186 : decode code 186 = .ok (.i2l, 1) := by decide +kernel
theorem d_law_187 : decode code 187 = .ok (.lcmp, 1) := by decide +kernel
theorem d_law_188 : decode code 188 = .ok (.ifCond .eq 5, 3) := by decide +kernel
theorem d_law_191 : decode code 191 = .ok (.iconst 0, 1) := by decide +kernel
theorem d_law_192 : decode code 192 = .ok (.ireturn, 1) := by decide +kernel
theorem d_law_193 : decode code 193 = .ok (.goto 1028, 3) := by decide +kernel
theorem d_law_196 : decode code 196 = .ok (.aload_n 1, 1) := by decide +kernel
theorem d_law_197 : decode code 197 = .ok (.invokevirtual 88, 3) := by decide +kernel
theorem d_law_200 : decode code 200 = .ok (.aload_n 2, 1) := by decide +kernel
theorem d_law_201 : decode code 201 = .ok (.invokevirtual 91, 3) := by decide +kernel
theorem d_law_204 : decode code 204 = .ok (.if_icmp .eq 1017, 3) := by decide +kernel
theorem d_law_207 : decode code 207 = .ok (.iconst 0, 1) := by decide +kernel
theorem d_law_208 : decode code 208 = .ok (.ireturn, 1) := by decide +kernel
theorem d_law_209 : decode code 209 = .ok (.aload_n 1, 1) := by decide +kernel
theorem d_law_210 : decode code 210 = .ok (.aload_n 0, 1) := by decide +kernel
theorem d_law_211 : decode code 211 = .ok (.iload 4, 2) := by decide +kernel
theorem d_law_213 : decode code 213 = .ok (.iconst 1, 1) := by decide +kernel
theorem d_law_214 : decode code 214 = .ok (.iadd, 1) := by decide +kernel
theorem d_law_215 : decode code 215 = .ok (.iaload, 1) := by decide +kernel
theorem d_law_216 : decode code 216 = .ok (.aload_n 3, 1) := by decide +kernel
theorem d_law_217 : decode code 217 = .ok (.invokestatic 92, 3) := by decide +kernel
theorem d_law_220 : decode code 220 = .ok (.istore 5, 2) := by decide +kernel
theorem d_law_222 : decode code 222 = .ok (.aload_n 2, 1) := by decide +kernel
theorem d_law_223 : decode code 223 = .ok (.aload_n 0, 1) := by decide +kernel
theorem d_law_224 : decode code 224 = .ok (.iload 4, 2) := by decide +kernel
theorem d_law_226 : decode code 226 = .ok (.iconst 1, 1) := by decide +kernel
theorem d_law_227 : decode code 227 = .ok (.iadd, 1) := by decide +kernel
theorem d_law_228 : decode code 228 = .ok (.iaload, 1) := by decide +kernel
theorem d_law_229 : decode code 229 = .ok (.invokevirtual 95, 3) := by decide +kernel
theorem d_law_232 : decode code 232 = .ok (.istore 6, 2) := by decide +kernel
theorem d_law_234 : decode code 234 = .ok (.aload_n 2, 1) := by decide +kernel
theorem d_law_235 : decode code 235 = .ok (.invokevirtual 84, 3) := by decide +kernel
theorem d_law_238 : decode code 238 = .ok (.iload 5, 2) := by decide +kernel
theorem d_law_240 : decode code 240 = .ok (.if_icmp .eq 5, 3) := by decide +kernel
theorem d_law_243 : decode code 243 = .ok (.iconst 0, 1) := by decide +kernel
theorem d_law_244 : decode code 244 = .ok (.ireturn, 1) := by decide +kernel
theorem d_law_245 : decode code 245 = .ok (.iload 5, 2) := by decide +kernel
theorem d_law_247 : decode code 247 = .ok (.ifCond .ne 15, 3) := by decide +kernel
theorem d_law_250 : decode code 250 = .ok (.aload_n 3, 1) := by decide +kernel
theorem d_law_251 : decode code 251 = .ok (.iconst 0, 1) := by decide +kernel
theorem d_law_252 : decode code 252 = .ok (.laload, 1) := by decide +kernel
theorem d_law_253 : decode code 253 = .ok (.iload 6, 2) := by decide +kernel
theorem d_law_255 : decode code 255 = .ok (.i2l, 1) := by decide +kernel
theorem d_law_256 : decode code 256 = .ok (.lcmp, 1) := by decide +kernel
theorem d_law_257 : decode code 257 = .ok (.ifCond .eq 5, 3) := by decide +kernel
theorem d_law_260 : decode code 260 = .ok (.iconst 0, 1) := by decide +kernel
theorem d_law_261 : decode code 261 = .ok (.ireturn, 1) := by decide +kernel
theorem d_law_262 : decode code 262 = .ok (.goto 959, 3) := by decide +kernel
theorem d_law_265 : decode code 265 = .ok (.aload_n 1, 1) := by decide +kernel
theorem d_law_266 : decode code 266 = .ok (.invokevirtual 96, 3) := by decide +kernel
theorem d_law_269 : decode code 269 = .ok (.aload_n 2, 1) := by decide +kernel
theorem d_law_270 : decode code 270 = .ok (.invokevirtual 99, 3) := by decide +kernel
theorem d_law_273 : decode code 273 = .ok (.if_icmp .eq 948, 3) := by decide +kernel
theorem d_law_276 : decode code 276 = .ok (.iconst 0, 1) := by decide +kernel
theorem d_law_277 : decode code 277 = .ok (.ireturn, 1) := by decide +kernel
theorem d_law_278 : decode code 278 = .ok (.aload_n 1, 1) := by decide +kernel
theorem d_law_279 : decode code 279 = .ok (.aload_n 0, 1) := by decide +kernel
theorem d_law_280 : decode code 280 = .ok (.iload 4, 2) := by decide +kernel
theorem d_law_282 : decode code 282 = .ok (.iconst 1, 1) := by decide +kernel
theorem d_law_283 : decode code 283 = .ok (.iadd, 1) := by decide +kernel
theorem d_law_284 : decode code 284 = .ok (.iaload, 1) := by decide +kernel
theorem d_law_285 : decode code 285 = .ok (.invokestatic 100, 3) := by decide +kernel
theorem d_law_288 : decode code 288 = .ok (.istore 5, 2) := by decide +kernel
theorem d_law_290 : decode code 290 = .ok (.aload_n 2, 1) := by decide +kernel
theorem d_law_291 : decode code 291 = .ok (.aload_n 0, 1) := by decide +kernel
theorem d_law_292 : decode code 292 = .ok (.iload 4, 2) := by decide +kernel
theorem d_law_294 : decode code 294 = .ok (.iconst 1, 1) := by decide +kernel
theorem d_law_295 : decode code 295 = .ok (.iadd, 1) := by decide +kernel
theorem d_law_296 : decode code 296 = .ok (.iaload, 1) := by decide +kernel
theorem d_law_297 : decode code 297 = .ok (.invokevirtual 103, 3) := by decide +kernel
theorem d_law_300 : decode code 300 = .ok (.aload_n 2, 1) := by decide +kernel
theorem d_law_301 : decode code 301 = .ok (.invokevirtual 84, 3) := by decide +kernel
theorem d_law_304 : decode code 304 = .ok (.iload 5, 2) := by decide +kernel
theorem d_law_306 : decode code 306 = .ok (.if_icmp .eq 5, 3) := by decide +kernel
theorem d_law_309 : decode code 309 = .ok (.iconst 0, 1) := by decide +kernel
theorem d_law_310 : decode code 310 = .ok (.ireturn, 1) := by decide +kernel
theorem d_law_311 : decode code 311 = .ok (.goto 910, 3) := by decide +kernel
theorem d_law_314 : decode code 314 = .ok (.aload_n 1, 1) := by decide +kernel
theorem d_law_315 : decode code 315 = .ok (.aload_n 0, 1) := by decide +kernel
theorem d_law_316 : decode code 316 = .ok (.iload 4, 2) := by decide +kernel
theorem d_law_318 : decode code 318 = .ok (.iconst 1, 1) := by decide +kernel
theorem d_law_319 : decode code 319 = .ok (.iadd, 1) := by decide +kernel
theorem d_law_320 : decode code 320 = .ok (.iaload, 1) := by decide +kernel
theorem d_law_321 : decode code 321 = .ok (.aload_n 0, 1) := by decide +kernel
theorem d_law_322 : decode code 322 = .ok (.iload 4, 2) := by decide +kernel
theorem d_law_324 : decode code 324 = .ok (.iconst 2, 1) := by decide +kernel
theorem d_law_325 : decode code 325 = .ok (.iadd, 1) := by decide +kernel
theorem d_law_326 : decode code 326 = .ok (.iaload, 1) := by decide +kernel
theorem d_law_327 : decode code 327 = .ok (.invokestatic 104, 3) := by decide +kernel
theorem d_law_330 : decode code 330 = .ok (.istore 5, 2) := by decide +kernel
theorem d_law_332 : decode code 332 = .ok (.aload_n 2, 1) := by decide +kernel
theorem d_law_333 : decode code 333 = .ok (.aload_n 0, 1) := by decide +kernel
theorem d_law_334 : decode code 334 = .ok (.iload 4, 2) := by decide +kernel
theorem d_law_336 : decode code 336 = .ok (.iconst 1, 1) := by decide +kernel
theorem d_law_337 : decode code 337 = .ok (.iadd, 1) := by decide +kernel
theorem d_law_338 : decode code 338 = .ok (.iaload, 1) := by decide +kernel
theorem d_law_339 : decode code 339 = .ok (.aload_n 0, 1) := by decide +kernel
theorem d_law_340 : decode code 340 = .ok (.iload 4, 2) := by decide +kernel
theorem d_law_342 : decode code 342 = .ok (.iconst 2, 1) := by decide +kernel
theorem d_law_343 : decode code 343 = .ok (.iadd, 1) := by decide +kernel
theorem d_law_344 : decode code 344 = .ok (.iaload, 1) := by decide +kernel
theorem d_law_345 : decode code 345 = .ok (.invokevirtual 107, 3) := by decide +kernel
theorem d_law_348 : decode code 348 = .ok (.aload_n 2, 1) := by decide +kernel
theorem d_law_349 : decode code 349 = .ok (.invokevirtual 84, 3) := by decide +kernel
theorem d_law_352 : decode code 352 = .ok (.iload 5, 2) := by decide +kernel
theorem d_law_354 : decode code 354 = .ok (.if_icmp .eq 5, 3) := by decide +kernel
theorem d_law_357 : decode code 357 = .ok (.iconst 0, 1) := by decide +kernel
theorem d_law_358 : decode code 358 = .ok (.ireturn, 1) := by decide +kernel
theorem d_law_359 : decode code 359 = .ok (.goto 862, 3) := by decide +kernel
theorem d_law_362 : decode code 362 = .ok (.aload_n 1, 1) := by decide +kernel
theorem d_law_363 : decode code 363 = .ok (.aload_n 0, 1) := by decide +kernel
theorem d_law_364 : decode code 364 = .ok (.iload 4, 2) := by decide +kernel
theorem d_law_366 : decode code 366 = .ok (.iconst 1, 1) := by decide +kernel
theorem d_law_367 : decode code 367 = .ok (.iadd, 1) := by decide +kernel
theorem d_law_368 : decode code 368 = .ok (.iaload, 1) := by decide +kernel
theorem d_law_369 : decode code 369 = .ok (.aload_n 0, 1) := by decide +kernel
theorem d_law_370 : decode code 370 = .ok (.iload 4, 2) := by decide +kernel
theorem d_law_372 : decode code 372 = .ok (.iconst 2, 1) := by decide +kernel
theorem d_law_373 : decode code 373 = .ok (.iadd, 1) := by decide +kernel
theorem d_law_374 : decode code 374 = .ok (.iaload, 1) := by decide +kernel
theorem d_law_375 : decode code 375 = .ok (.aload_n 0, 1) := by decide +kernel
theorem d_law_376 : decode code 376 = .ok (.iload 4, 2) := by decide +kernel
theorem d_law_378 : decode code 378 = .ok (.iconst 3, 1) := by decide +kernel
theorem d_law_379 : decode code 379 = .ok (.iadd, 1) := by decide +kernel
theorem d_law_380 : decode code 380 = .ok (.iaload, 1) := by decide +kernel
theorem d_law_381 : decode code 381 = .ok (.aload_n 3, 1) := by decide +kernel
theorem d_law_382 : decode code 382 = .ok (.invokestatic 108, 3) := by decide +kernel
theorem d_law_385 : decode code 385 = .ok (.istore 5, 2) := by decide +kernel
theorem d_law_387 : decode code 387 = .ok (.aload_n 2, 1) := by decide +kernel
theorem d_law_388 : decode code 388 = .ok (.aload_n 0, 1) := by decide +kernel
theorem d_law_389 : decode code 389 = .ok (.iload 4, 2) := by decide +kernel
theorem d_law_391 : decode code 391 = .ok (.iconst 1, 1) := by decide +kernel
theorem d_law_392 : decode code 392 = .ok (.iadd, 1) := by decide +kernel
theorem d_law_393 : decode code 393 = .ok (.iaload, 1) := by decide +kernel
theorem d_law_394 : decode code 394 = .ok (.aload_n 0, 1) := by decide +kernel
theorem d_law_395 : decode code 395 = .ok (.iload 4, 2) := by decide +kernel
theorem d_law_397 : decode code 397 = .ok (.iconst 2, 1) := by decide +kernel
theorem d_law_398 : decode code 398 = .ok (.iadd, 1) := by decide +kernel
theorem d_law_399 : decode code 399 = .ok (.iaload, 1) := by decide +kernel
theorem d_law_400 : decode code 400 = .ok (.aload_n 0, 1) := by decide +kernel
theorem d_law_401 : decode code 401 = .ok (.iload 4, 2) := by decide +kernel
theorem d_law_403 : decode code 403 = .ok (.iconst 3, 1) := by decide +kernel
theorem d_law_404 : decode code 404 = .ok (.iadd, 1) := by decide +kernel
theorem d_law_405 : decode code 405 = .ok (.iaload, 1) := by decide +kernel
theorem d_law_406 : decode code 406 = .ok (.invokevirtual 111, 3) := by decide +kernel
theorem d_law_409 : decode code 409 = .ok (.istore 6, 2) := by decide +kernel
theorem d_law_411 : decode code 411 = .ok (.aload_n 2, 1) := by decide +kernel
theorem d_law_412 : decode code 412 = .ok (.invokevirtual 84, 3) := by decide +kernel
theorem d_law_415 : decode code 415 = .ok (.iload 5, 2) := by decide +kernel
theorem d_law_417 : decode code 417 = .ok (.if_icmp .eq 5, 3) := by decide +kernel
theorem d_law_420 : decode code 420 = .ok (.iconst 0, 1) := by decide +kernel
theorem d_law_421 : decode code 421 = .ok (.ireturn, 1) := by decide +kernel
theorem d_law_422 : decode code 422 = .ok (.iload 5, 2) := by decide +kernel
theorem d_law_424 : decode code 424 = .ok (.ifCond .ne 15, 3) := by decide +kernel
theorem d_law_427 : decode code 427 = .ok (.aload_n 3, 1) := by decide +kernel
theorem d_law_428 : decode code 428 = .ok (.iconst 0, 1) := by decide +kernel
theorem d_law_429 : decode code 429 = .ok (.laload, 1) := by decide +kernel
theorem d_law_430 : decode code 430 = .ok (.iload 6, 2) := by decide +kernel
theorem d_law_432 : decode code 432 = .ok (.i2l, 1) := by decide +kernel
theorem d_law_433 : decode code 433 = .ok (.lcmp, 1) := by decide +kernel
theorem d_law_434 : decode code 434 = .ok (.ifCond .eq 5, 3) := by decide +kernel
theorem d_law_437 : decode code 437 = .ok (.iconst 0, 1) := by decide +kernel
theorem d_law_438 : decode code 438 = .ok (.ireturn, 1) := by decide +kernel
theorem d_law_439 : decode code 439 = .ok (.goto 782, 3) := by decide +kernel
theorem d_law_442 : decode code 442 = .ok (.aload_n 1, 1) := by decide +kernel
theorem d_law_443 : decode code 443 = .ok (.aload_n 0, 1) := by decide +kernel
theorem d_law_444 : decode code 444 = .ok (.iload 4, 2) := by decide +kernel
theorem d_law_446 : decode code 446 = .ok (.iconst 1, 1) := by decide +kernel
theorem d_law_447 : decode code 447 = .ok (.iadd, 1) := by decide +kernel
theorem d_law_448 : decode code 448 = .ok (.iaload, 1) := by decide +kernel
theorem d_law_449 : decode code 449 = .ok (.aload_n 0, 1) := by decide +kernel
theorem d_law_450 : decode code 450 = .ok (.iload 4, 2) := by decide +kernel
theorem d_law_452 : decode code 452 = .ok (.iconst 2, 1) := by decide +kernel
theorem d_law_453 : decode code 453 = .ok (.iadd, 1) := by decide +kernel
theorem d_law_454 : decode code 454 = .ok (.iaload, 1) := by decide +kernel
theorem d_law_455 : decode code 455 = .ok (.invokestatic 112, 3) := by decide +kernel
theorem d_law_458 : decode code 458 = .ok (.istore 5, 2) := by decide +kernel
theorem d_law_460 : decode code 460 = .ok (.aload_n 2, 1) := by decide +kernel
theorem d_law_461 : decode code 461 = .ok (.aload_n 0, 1) := by decide +kernel
theorem d_law_462 : decode code 462 = .ok (.iload 4, 2) := by decide +kernel
theorem d_law_464 : decode code 464 = .ok (.iconst 1, 1) := by decide +kernel
theorem d_law_465 : decode code 465 = .ok (.iadd, 1) := by decide +kernel
theorem d_law_466 : decode code 466 = .ok (.iaload, 1) := by decide +kernel
theorem d_law_467 : decode code 467 = .ok (.aload_n 0, 1) := by decide +kernel
theorem d_law_468 : decode code 468 = .ok (.iload 4, 2) := by decide +kernel
theorem d_law_470 : decode code 470 = .ok (.iconst 2, 1) := by decide +kernel
theorem d_law_471 : decode code 471 = .ok (.iadd, 1) := by decide +kernel
theorem d_law_472 : decode code 472 = .ok (.iaload, 1) := by decide +kernel
theorem d_law_473 : decode code 473 = .ok (.invokevirtual 114, 3) := by decide +kernel
theorem d_law_476 : decode code 476 = .ok (.aload_n 2, 1) := by decide +kernel
theorem d_law_477 : decode code 477 = .ok (.invokevirtual 84, 3) := by decide +kernel
theorem d_law_480 : decode code 480 = .ok (.iload 5, 2) := by decide +kernel
theorem d_law_482 : decode code 482 = .ok (.if_icmp .eq 5, 3) := by decide +kernel
theorem d_law_485 : decode code 485 = .ok (.iconst 0, 1) := by decide +kernel
theorem d_law_486 : decode code 486 = .ok (.ireturn, 1) := by decide +kernel
theorem d_law_487 : decode code 487 = .ok (.goto 734, 3) := by decide +kernel
theorem d_law_490 : decode code 490 = .ok (.aload_n 1, 1) := by decide +kernel
theorem d_law_491 : decode code 491 = .ok (.aload_n 0, 1) := by decide +kernel
theorem d_law_492 : decode code 492 = .ok (.iload 4, 2) := by decide +kernel
theorem d_law_494 : decode code 494 = .ok (.iconst 1, 1) := by decide +kernel
theorem d_law_495 : decode code 495 = .ok (.iadd, 1) := by decide +kernel
theorem d_law_496 : decode code 496 = .ok (.iaload, 1) := by decide +kernel
theorem d_law_497 : decode code 497 = .ok (.aload_n 3, 1) := by decide +kernel
theorem d_law_498 : decode code 498 = .ok (.invokestatic 115, 3) := by decide +kernel
theorem d_law_501 : decode code 501 = .ok (.istore 5, 2) := by decide +kernel
theorem d_law_503 : decode code 503 = .ok (.aload_n 2, 1) := by decide +kernel
theorem d_law_504 : decode code 504 = .ok (.aload_n 0, 1) := by decide +kernel
theorem d_law_505 : decode code 505 = .ok (.iload 4, 2) := by decide +kernel
theorem d_law_507 : decode code 507 = .ok (.iconst 1, 1) := by decide +kernel
theorem d_law_508 : decode code 508 = .ok (.iadd, 1) := by decide +kernel
theorem d_law_509 : decode code 509 = .ok (.iaload, 1) := by decide +kernel
theorem d_law_510 : decode code 510 = .ok (.invokevirtual 117, 3) := by decide +kernel
theorem d_law_513 : decode code 513 = .ok (.istore 6, 2) := by decide +kernel
theorem d_law_515 : decode code 515 = .ok (.aload_n 2, 1) := by decide +kernel
theorem d_law_516 : decode code 516 = .ok (.invokevirtual 84, 3) := by decide +kernel
theorem d_law_519 : decode code 519 = .ok (.iload 5, 2) := by decide +kernel
theorem d_law_521 : decode code 521 = .ok (.if_icmp .eq 5, 3) := by decide +kernel
theorem d_law_524 : decode code 524 = .ok (.iconst 0, 1) := by decide +kernel
theorem d_law_525 : decode code 525 = .ok (.ireturn, 1) := by decide +kernel
theorem d_law_526 : decode code 526 = .ok (.iload 5, 2) := by decide +kernel
theorem d_law_528 : decode code 528 = .ok (.ifCond .ne 15, 3) := by decide +kernel
theorem d_law_531 : decode code 531 = .ok (.aload_n 3, 1) := by decide +kernel
theorem d_law_532 : decode code 532 = .ok (.iconst 0, 1) := by decide +kernel
theorem d_law_533 : decode code 533 = .ok (.laload, 1) := by decide +kernel
theorem d_law_534 : decode code 534 = .ok (.iload 6, 2) := by decide +kernel
theorem d_law_536 : decode code 536 = .ok (.i2l, 1) := by decide +kernel
theorem d_law_537 : decode code 537 = .ok (.lcmp, 1) := by decide +kernel
theorem d_law_538 : decode code 538 = .ok (.ifCond .eq 5, 3) := by decide +kernel
theorem d_law_541 : decode code 541 = .ok (.iconst 0, 1) := by decide +kernel
theorem d_law_542 : decode code 542 = .ok (.ireturn, 1) := by decide +kernel
theorem d_law_543 : decode code 543 = .ok (.goto 678, 3) := by decide +kernel
theorem d_law_546 : decode code 546 = .ok (.aload_n 1, 1) := by decide +kernel
theorem d_law_547 : decode code 547 = .ok (.aload_n 0, 1) := by decide +kernel
theorem d_law_548 : decode code 548 = .ok (.iload 4, 2) := by decide +kernel
theorem d_law_550 : decode code 550 = .ok (.iconst 1, 1) := by decide +kernel
theorem d_law_551 : decode code 551 = .ok (.iadd, 1) := by decide +kernel
theorem d_law_552 : decode code 552 = .ok (.iaload, 1) := by decide +kernel
theorem d_law_553 : decode code 553 = .ok (.aload_n 0, 1) := by decide +kernel
theorem d_law_554 : decode code 554 = .ok (.iload 4, 2) := by decide +kernel
theorem d_law_556 : decode code 556 = .ok (.iconst 2, 1) := by decide +kernel
theorem d_law_557 : decode code 557 = .ok (.iadd, 1) := by decide +kernel
theorem d_law_558 : decode code 558 = .ok (.iaload, 1) := by decide +kernel
theorem d_law_559 : decode code 559 = .ok (.aload_n 0, 1) := by decide +kernel
theorem d_law_560 : decode code 560 = .ok (.iload 4, 2) := by decide +kernel
theorem d_law_562 : decode code 562 = .ok (.iconst 3, 1) := by decide +kernel
theorem d_law_563 : decode code 563 = .ok (.iadd, 1) := by decide +kernel
theorem d_law_564 : decode code 564 = .ok (.iaload, 1) := by decide +kernel
theorem d_law_565 : decode code 565 = .ok (.aload_n 3, 1) := by decide +kernel
theorem d_law_566 : decode code 566 = .ok (.invokestatic 118, 3) := by decide +kernel
theorem d_law_569 : decode code 569 = .ok (.istore 5, 2) := by decide +kernel
theorem d_law_571 : decode code 571 = .ok (.aload_n 2, 1) := by decide +kernel
theorem d_law_572 : decode code 572 = .ok (.aload_n 0, 1) := by decide +kernel
theorem d_law_573 : decode code 573 = .ok (.iload 4, 2) := by decide +kernel
theorem d_law_575 : decode code 575 = .ok (.iconst 1, 1) := by decide +kernel
theorem d_law_576 : decode code 576 = .ok (.iadd, 1) := by decide +kernel
theorem d_law_577 : decode code 577 = .ok (.iaload, 1) := by decide +kernel
theorem d_law_578 : decode code 578 = .ok (.aload_n 0, 1) := by decide +kernel
theorem d_law_579 : decode code 579 = .ok (.iload 4, 2) := by decide +kernel
theorem d_law_581 : decode code 581 = .ok (.iconst 2, 1) := by decide +kernel
theorem d_law_582 : decode code 582 = .ok (.iadd, 1) := by decide +kernel
theorem d_law_583 : decode code 583 = .ok (.iaload, 1) := by decide +kernel
theorem d_law_584 : decode code 584 = .ok (.aload_n 0, 1) := by decide +kernel
theorem d_law_585 : decode code 585 = .ok (.iload 4, 2) := by decide +kernel
theorem d_law_587 : decode code 587 = .ok (.iconst 3, 1) := by decide +kernel
theorem d_law_588 : decode code 588 = .ok (.iadd, 1) := by decide +kernel
theorem d_law_589 : decode code 589 = .ok (.iaload, 1) := by decide +kernel
theorem d_law_590 : decode code 590 = .ok (.invokevirtual 120, 3) := by decide +kernel
theorem d_law_593 : decode code 593 = .ok (.istore 6, 2) := by decide +kernel
theorem d_law_595 : decode code 595 = .ok (.aload_n 2, 1) := by decide +kernel
theorem d_law_596 : decode code 596 = .ok (.invokevirtual 84, 3) := by decide +kernel
theorem d_law_599 : decode code 599 = .ok (.iload 5, 2) := by decide +kernel
theorem d_law_601 : decode code 601 = .ok (.if_icmp .eq 5, 3) := by decide +kernel
theorem d_law_604 : decode code 604 = .ok (.iconst 0, 1) := by decide +kernel
theorem d_law_605 : decode code 605 = .ok (.ireturn, 1) := by decide +kernel
theorem d_law_606 : decode code 606 = .ok (.iload 5, 2) := by decide +kernel
theorem d_law_608 : decode code 608 = .ok (.ifCond .ne 15, 3) := by decide +kernel
theorem d_law_611 : decode code 611 = .ok (.aload_n 3, 1) := by decide +kernel
theorem d_law_612 : decode code 612 = .ok (.iconst 0, 1) := by decide +kernel
theorem d_law_613 : decode code 613 = .ok (.laload, 1) := by decide +kernel
theorem d_law_614 : decode code 614 = .ok (.iload 6, 2) := by decide +kernel
theorem d_law_616 : decode code 616 = .ok (.i2l, 1) := by decide +kernel
theorem d_law_617 : decode code 617 = .ok (.lcmp, 1) := by decide +kernel
theorem d_law_618 : decode code 618 = .ok (.ifCond .eq 5, 3) := by decide +kernel
theorem d_law_621 : decode code 621 = .ok (.iconst 0, 1) := by decide +kernel
theorem d_law_622 : decode code 622 = .ok (.ireturn, 1) := by decide +kernel
theorem d_law_623 : decode code 623 = .ok (.goto 598, 3) := by decide +kernel
theorem d_law_626 : decode code 626 = .ok (.aload_n 1, 1) := by decide +kernel
theorem d_law_627 : decode code 627 = .ok (.aload_n 0, 1) := by decide +kernel
theorem d_law_628 : decode code 628 = .ok (.iload 4, 2) := by decide +kernel
theorem d_law_630 : decode code 630 = .ok (.iconst 1, 1) := by decide +kernel
theorem d_law_631 : decode code 631 = .ok (.iadd, 1) := by decide +kernel
theorem d_law_632 : decode code 632 = .ok (.iaload, 1) := by decide +kernel
theorem d_law_633 : decode code 633 = .ok (.aload_n 0, 1) := by decide +kernel
theorem d_law_634 : decode code 634 = .ok (.iload 4, 2) := by decide +kernel
theorem d_law_636 : decode code 636 = .ok (.iconst 2, 1) := by decide +kernel
theorem d_law_637 : decode code 637 = .ok (.iadd, 1) := by decide +kernel
theorem d_law_638 : decode code 638 = .ok (.iaload, 1) := by decide +kernel
theorem d_law_639 : decode code 639 = .ok (.aload_n 3, 1) := by decide +kernel
theorem d_law_640 : decode code 640 = .ok (.invokestatic 121, 3) := by decide +kernel
theorem d_law_643 : decode code 643 = .ok (.istore 5, 2) := by decide +kernel
theorem d_law_645 : decode code 645 = .ok (.aload_n 2, 1) := by decide +kernel
theorem d_law_646 : decode code 646 = .ok (.aload_n 0, 1) := by decide +kernel
theorem d_law_647 : decode code 647 = .ok (.iload 4, 2) := by decide +kernel
theorem d_law_649 : decode code 649 = .ok (.iconst 1, 1) := by decide +kernel
theorem d_law_650 : decode code 650 = .ok (.iadd, 1) := by decide +kernel
theorem d_law_651 : decode code 651 = .ok (.iaload, 1) := by decide +kernel
theorem d_law_652 : decode code 652 = .ok (.aload_n 0, 1) := by decide +kernel
theorem d_law_653 : decode code 653 = .ok (.iload 4, 2) := by decide +kernel
theorem d_law_655 : decode code 655 = .ok (.iconst 2, 1) := by decide +kernel
theorem d_law_656 : decode code 656 = .ok (.iadd, 1) := by decide +kernel
theorem d_law_657 : decode code 657 = .ok (.iaload, 1) := by decide +kernel
theorem d_law_658 : decode code 658 = .ok (.invokevirtual 123, 3) := by decide +kernel
theorem d_law_661 : decode code 661 = .ok (.istore 6, 2) := by decide +kernel
theorem d_law_663 : decode code 663 = .ok (.aload_n 2, 1) := by decide +kernel
theorem d_law_664 : decode code 664 = .ok (.invokevirtual 84, 3) := by decide +kernel
theorem d_law_667 : decode code 667 = .ok (.iload 5, 2) := by decide +kernel
theorem d_law_669 : decode code 669 = .ok (.if_icmp .eq 5, 3) := by decide +kernel
theorem d_law_672 : decode code 672 = .ok (.iconst 0, 1) := by decide +kernel
theorem d_law_673 : decode code 673 = .ok (.ireturn, 1) := by decide +kernel
theorem d_law_674 : decode code 674 = .ok (.iload 5, 2) := by decide +kernel
theorem d_law_676 : decode code 676 = .ok (.ifCond .ne 15, 3) := by decide +kernel
theorem d_law_679 : decode code 679 = .ok (.aload_n 3, 1) := by decide +kernel
theorem d_law_680 : decode code 680 = .ok (.iconst 0, 1) := by decide +kernel
theorem d_law_681 : decode code 681 = .ok (.laload, 1) := by decide +kernel
theorem d_law_682 : decode code 682 = .ok (.iload 6, 2) := by decide +kernel
theorem d_law_684 : decode code 684 = .ok (.i2l, 1) := by decide +kernel
theorem d_law_685 : decode code 685 = .ok (.lcmp, 1) := by decide +kernel
theorem d_law_686 : decode code 686 = .ok (.ifCond .eq 5, 3) := by decide +kernel
theorem d_law_689 : decode code 689 = .ok (.iconst 0, 1) := by decide +kernel
theorem d_law_690 : decode code 690 = .ok (.ireturn, 1) := by decide +kernel
theorem d_law_691 : decode code 691 = .ok (.goto 530, 3) := by decide +kernel
theorem d_law_694 : decode code 694 = .ok (.aload_n 1, 1) := by decide +kernel
theorem d_law_695 : decode code 695 = .ok (.aload_n 0, 1) := by decide +kernel
theorem d_law_696 : decode code 696 = .ok (.iload 4, 2) := by decide +kernel
theorem d_law_698 : decode code 698 = .ok (.iconst 1, 1) := by decide +kernel
theorem d_law_699 : decode code 699 = .ok (.iadd, 1) := by decide +kernel
theorem d_law_700 : decode code 700 = .ok (.iaload, 1) := by decide +kernel
theorem d_law_701 : decode code 701 = .ok (.aload_n 0, 1) := by decide +kernel
theorem d_law_702 : decode code 702 = .ok (.iload 4, 2) := by decide +kernel
theorem d_law_704 : decode code 704 = .ok (.iconst 2, 1) := by decide +kernel
theorem d_law_705 : decode code 705 = .ok (.iadd, 1) := by decide +kernel
theorem d_law_706 : decode code 706 = .ok (.iaload, 1) := by decide +kernel
theorem d_law_707 : decode code 707 = .ok (.aload_n 3, 1) := by decide +kernel
theorem d_law_708 : decode code 708 = .ok (.invokestatic 124, 3) := by decide +kernel
theorem d_law_711 : decode code 711 = .ok (.istore 5, 2) := by decide +kernel
theorem d_law_713 : decode code 713 = .ok (.aload_n 2, 1) := by decide +kernel
theorem d_law_714 : decode code 714 = .ok (.aload_n 0, 1) := by decide +kernel
theorem d_law_715 : decode code 715 = .ok (.iload 4, 2) := by decide +kernel
theorem d_law_717 : decode code 717 = .ok (.iconst 1, 1) := by decide +kernel
theorem d_law_718 : decode code 718 = .ok (.iadd, 1) := by decide +kernel
theorem d_law_719 : decode code 719 = .ok (.iaload, 1) := by decide +kernel
theorem d_law_720 : decode code 720 = .ok (.aload_n 0, 1) := by decide +kernel
theorem d_law_721 : decode code 721 = .ok (.iload 4, 2) := by decide +kernel
theorem d_law_723 : decode code 723 = .ok (.iconst 2, 1) := by decide +kernel
theorem d_law_724 : decode code 724 = .ok (.iadd, 1) := by decide +kernel
theorem d_law_725 : decode code 725 = .ok (.iaload, 1) := by decide +kernel
theorem d_law_726 : decode code 726 = .ok (.invokevirtual 126, 3) := by decide +kernel
theorem d_law_729 : decode code 729 = .ok (.istore 6, 2) := by decide +kernel
theorem d_law_731 : decode code 731 = .ok (.aload_n 2, 1) := by decide +kernel
theorem d_law_732 : decode code 732 = .ok (.invokevirtual 84, 3) := by decide +kernel
theorem d_law_735 : decode code 735 = .ok (.iload 5, 2) := by decide +kernel
theorem d_law_737 : decode code 737 = .ok (.if_icmp .eq 5, 3) := by decide +kernel
theorem d_law_740 : decode code 740 = .ok (.iconst 0, 1) := by decide +kernel
theorem d_law_741 : decode code 741 = .ok (.ireturn, 1) := by decide +kernel
theorem d_law_742 : decode code 742 = .ok (.iload 5, 2) := by decide +kernel
theorem d_law_744 : decode code 744 = .ok (.ifCond .ne 15, 3) := by decide +kernel
theorem d_law_747 : decode code 747 = .ok (.aload_n 3, 1) := by decide +kernel
theorem d_law_748 : decode code 748 = .ok (.iconst 0, 1) := by decide +kernel
theorem d_law_749 : decode code 749 = .ok (.laload, 1) := by decide +kernel
theorem d_law_750 : decode code 750 = .ok (.iload 6, 2) := by decide +kernel
theorem d_law_752 : decode code 752 = .ok (.i2l, 1) := by decide +kernel
theorem d_law_753 : decode code 753 = .ok (.lcmp, 1) := by decide +kernel
theorem d_law_754 : decode code 754 = .ok (.ifCond .eq 5, 3) := by decide +kernel
theorem d_law_757 : decode code 757 = .ok (.iconst 0, 1) := by decide +kernel
theorem d_law_758 : decode code 758 = .ok (.ireturn, 1) := by decide +kernel
theorem d_law_759 : decode code 759 = .ok (.goto 462, 3) := by decide +kernel
theorem d_law_762 : decode code 762 = .ok (.aload_n 1, 1) := by decide +kernel
theorem d_law_763 : decode code 763 = .ok (.aload_n 0, 1) := by decide +kernel
theorem d_law_764 : decode code 764 = .ok (.iload 4, 2) := by decide +kernel
theorem d_law_766 : decode code 766 = .ok (.iconst 1, 1) := by decide +kernel
theorem d_law_767 : decode code 767 = .ok (.iadd, 1) := by decide +kernel
theorem d_law_768 : decode code 768 = .ok (.iaload, 1) := by decide +kernel
theorem d_law_769 : decode code 769 = .ok (.aload_n 0, 1) := by decide +kernel
theorem d_law_770 : decode code 770 = .ok (.iload 4, 2) := by decide +kernel
theorem d_law_772 : decode code 772 = .ok (.iconst 2, 1) := by decide +kernel
theorem d_law_773 : decode code 773 = .ok (.iadd, 1) := by decide +kernel
theorem d_law_774 : decode code 774 = .ok (.iaload, 1) := by decide +kernel
theorem d_law_775 : decode code 775 = .ok (.aload_n 3, 1) := by decide +kernel
theorem d_law_776 : decode code 776 = .ok (.invokestatic 127, 3) := by decide +kernel
theorem d_law_779 : decode code 779 = .ok (.istore 5, 2) := by decide +kernel
theorem d_law_781 : decode code 781 = .ok (.aload_n 2, 1) := by decide +kernel
theorem d_law_782 : decode code 782 = .ok (.aload_n 0, 1) := by decide +kernel
theorem d_law_783 : decode code 783 = .ok (.iload 4, 2) := by decide +kernel
theorem d_law_785 : decode code 785 = .ok (.iconst 1, 1) := by decide +kernel
theorem d_law_786 : decode code 786 = .ok (.iadd, 1) := by decide +kernel
theorem d_law_787 : decode code 787 = .ok (.iaload, 1) := by decide +kernel
theorem d_law_788 : decode code 788 = .ok (.aload_n 0, 1) := by decide +kernel
theorem d_law_789 : decode code 789 = .ok (.iload 4, 2) := by decide +kernel
theorem d_law_791 : decode code 791 = .ok (.iconst 2, 1) := by decide +kernel
theorem d_law_792 : decode code 792 = .ok (.iadd, 1) := by decide +kernel
theorem d_law_793 : decode code 793 = .ok (.iaload, 1) := by decide +kernel
theorem d_law_794 : decode code 794 = .ok (.invokevirtual 129, 3) := by decide +kernel
theorem d_law_797 : decode code 797 = .ok (.istore 6, 2) := by decide +kernel
theorem d_law_799 : decode code 799 = .ok (.aload_n 2, 1) := by decide +kernel
theorem d_law_800 : decode code 800 = .ok (.invokevirtual 84, 3) := by decide +kernel
theorem d_law_803 : decode code 803 = .ok (.iload 5, 2) := by decide +kernel
theorem d_law_805 : decode code 805 = .ok (.if_icmp .eq 5, 3) := by decide +kernel
theorem d_law_808 : decode code 808 = .ok (.iconst 0, 1) := by decide +kernel
theorem d_law_809 : decode code 809 = .ok (.ireturn, 1) := by decide +kernel
theorem d_law_810 : decode code 810 = .ok (.iload 5, 2) := by decide +kernel
theorem d_law_812 : decode code 812 = .ok (.ifCond .ne 15, 3) := by decide +kernel
theorem d_law_815 : decode code 815 = .ok (.aload_n 3, 1) := by decide +kernel
theorem d_law_816 : decode code 816 = .ok (.iconst 0, 1) := by decide +kernel
theorem d_law_817 : decode code 817 = .ok (.laload, 1) := by decide +kernel
theorem d_law_818 : decode code 818 = .ok (.iload 6, 2) := by decide +kernel
theorem d_law_820 : decode code 820 = .ok (.i2l, 1) := by decide +kernel
theorem d_law_821 : decode code 821 = .ok (.lcmp, 1) := by decide +kernel
theorem d_law_822 : decode code 822 = .ok (.ifCond .eq 5, 3) := by decide +kernel
theorem d_law_825 : decode code 825 = .ok (.iconst 0, 1) := by decide +kernel
theorem d_law_826 : decode code 826 = .ok (.ireturn, 1) := by decide +kernel
theorem d_law_827 : decode code 827 = .ok (.goto 394, 3) := by decide +kernel
theorem d_law_830 : decode code 830 = .ok (.aload_n 1, 1) := by decide +kernel
theorem d_law_831 : decode code 831 = .ok (.aload_n 0, 1) := by decide +kernel
theorem d_law_832 : decode code 832 = .ok (.iload 4, 2) := by decide +kernel
theorem d_law_834 : decode code 834 = .ok (.iconst 1, 1) := by decide +kernel
theorem d_law_835 : decode code 835 = .ok (.iadd, 1) := by decide +kernel
theorem d_law_836 : decode code 836 = .ok (.iaload, 1) := by decide +kernel
theorem d_law_837 : decode code 837 = .ok (.aload_n 0, 1) := by decide +kernel
theorem d_law_838 : decode code 838 = .ok (.iload 4, 2) := by decide +kernel
theorem d_law_840 : decode code 840 = .ok (.iconst 2, 1) := by decide +kernel
theorem d_law_841 : decode code 841 = .ok (.iadd, 1) := by decide +kernel
theorem d_law_842 : decode code 842 = .ok (.iaload, 1) := by decide +kernel
theorem d_law_843 : decode code 843 = .ok (.aload_n 0, 1) := by decide +kernel
theorem d_law_844 : decode code 844 = .ok (.iload 4, 2) := by decide +kernel
theorem d_law_846 : decode code 846 = .ok (.iconst 3, 1) := by decide +kernel
theorem d_law_847 : decode code 847 = .ok (.iadd, 1) := by decide +kernel
theorem d_law_848 : decode code 848 = .ok (.iaload, 1) := by decide +kernel
theorem d_law_849 : decode code 849 = .ok (.ifCond .eq 7, 3) := by decide +kernel
theorem d_law_852 : decode code 852 = .ok (.iconst 1, 1) := by decide +kernel
theorem d_law_853 : decode code 853 = .ok (.goto 4, 3) := by decide +kernel
theorem d_law_856 : decode code 856 = .ok (.iconst 0, 1) := by decide +kernel
theorem d_law_857 : decode code 857 = .ok (.aload_n 3, 1) := by decide +kernel
theorem d_law_858 : decode code 858 = .ok (.invokestatic 130, 3) := by decide +kernel
theorem d_law_861 : decode code 861 = .ok (.istore 5, 2) := by decide +kernel
theorem d_law_863 : decode code 863 = .ok (.aload_n 2, 1) := by decide +kernel
theorem d_law_864 : decode code 864 = .ok (.aload_n 0, 1) := by decide +kernel
theorem d_law_865 : decode code 865 = .ok (.iload 4, 2) := by decide +kernel
theorem d_law_867 : decode code 867 = .ok (.iconst 1, 1) := by decide +kernel
theorem d_law_868 : decode code 868 = .ok (.iadd, 1) := by decide +kernel
theorem d_law_869 : decode code 869 = .ok (.iaload, 1) := by decide +kernel
theorem d_law_870 : decode code 870 = .ok (.aload_n 0, 1) := by decide +kernel
theorem d_law_871 : decode code 871 = .ok (.iload 4, 2) := by decide +kernel
theorem d_law_873 : decode code 873 = .ok (.iconst 2, 1) := by decide +kernel
theorem d_law_874 : decode code 874 = .ok (.iadd, 1) := by decide +kernel
theorem d_law_875 : decode code 875 = .ok (.iaload, 1) := by decide +kernel
theorem d_law_876 : decode code 876 = .ok (.aload_n 0, 1) := by decide +kernel
theorem d_law_877 : decode code 877 = .ok (.iload 4, 2) := by decide +kernel
theorem d_law_879 : decode code 879 = .ok (.iconst 3, 1) := by decide +kernel
theorem d_law_880 : decode code 880 = .ok (.iadd, 1) := by decide +kernel
theorem d_law_881 : decode code 881 = .ok (.iaload, 1) := by decide +kernel
theorem d_law_882 : decode code 882 = .ok (.ifCond .eq 7, 3) := by decide +kernel
theorem d_law_885 : decode code 885 = .ok (.iconst 1, 1) := by decide +kernel
theorem d_law_886 : decode code 886 = .ok (.goto 4, 3) := by decide +kernel
theorem d_law_889 : decode code 889 = .ok (.iconst 0, 1) := by decide +kernel
theorem d_law_890 : decode code 890 = .ok (.invokevirtual 133, 3) := by decide +kernel
theorem d_law_893 : decode code 893 = .ok (.istore 6, 2) := by decide +kernel
theorem d_law_895 : decode code 895 = .ok (.aload_n 2, 1) := by decide +kernel
theorem d_law_896 : decode code 896 = .ok (.invokevirtual 84, 3) := by decide +kernel
theorem d_law_899 : decode code 899 = .ok (.iload 5, 2) := by decide +kernel
theorem d_law_901 : decode code 901 = .ok (.if_icmp .eq 5, 3) := by decide +kernel
theorem d_law_904 : decode code 904 = .ok (.iconst 0, 1) := by decide +kernel
theorem d_law_905 : decode code 905 = .ok (.ireturn, 1) := by decide +kernel
theorem d_law_906 : decode code 906 = .ok (.iload 5, 2) := by decide +kernel
theorem d_law_908 : decode code 908 = .ok (.ifCond .ne 15, 3) := by decide +kernel
theorem d_law_911 : decode code 911 = .ok (.aload_n 3, 1) := by decide +kernel
theorem d_law_912 : decode code 912 = .ok (.iconst 0, 1) := by decide +kernel
theorem d_law_913 : decode code 913 = .ok (.laload, 1) := by decide +kernel
theorem d_law_914 : decode code 914 = .ok (.iload 6, 2) := by decide +kernel
theorem d_law_916 : decode code 916 = .ok (.i2l, 1) := by decide +kernel
theorem d_law_917 : decode code 917 = .ok (.lcmp, 1) := by decide +kernel
theorem d_law_918 : decode code 918 = .ok (.ifCond .eq 5, 3) := by decide +kernel
theorem d_law_921 : decode code 921 = .ok (.iconst 0, 1) := by decide +kernel
theorem d_law_922 : decode code 922 = .ok (.ireturn, 1) := by decide +kernel
theorem d_law_923 : decode code 923 = .ok (.goto 298, 3) := by decide +kernel
theorem d_law_926 : decode code 926 = .ok (.aload_n 1, 1) := by decide +kernel
theorem d_law_927 : decode code 927 = .ok (.aload_n 0, 1) := by decide +kernel
theorem d_law_928 : decode code 928 = .ok (.iload 4, 2) := by decide +kernel
theorem d_law_930 : decode code 930 = .ok (.iconst 1, 1) := by decide +kernel
theorem d_law_931 : decode code 931 = .ok (.iadd, 1) := by decide +kernel
theorem d_law_932 : decode code 932 = .ok (.iaload, 1) := by decide +kernel
theorem d_law_933 : decode code 933 = .ok (.aload_n 0, 1) := by decide +kernel
theorem d_law_934 : decode code 934 = .ok (.iload 4, 2) := by decide +kernel
theorem d_law_936 : decode code 936 = .ok (.iconst 2, 1) := by decide +kernel
theorem d_law_937 : decode code 937 = .ok (.iadd, 1) := by decide +kernel
theorem d_law_938 : decode code 938 = .ok (.iaload, 1) := by decide +kernel
theorem d_law_939 : decode code 939 = .ok (.aload_n 3, 1) := by decide +kernel
theorem d_law_940 : decode code 940 = .ok (.invokestatic 134, 3) := by decide +kernel
theorem d_law_943 : decode code 943 = .ok (.istore 5, 2) := by decide +kernel
theorem d_law_945 : decode code 945 = .ok (.aload_n 2, 1) := by decide +kernel
theorem d_law_946 : decode code 946 = .ok (.aload_n 0, 1) := by decide +kernel
theorem d_law_947 : decode code 947 = .ok (.iload 4, 2) := by decide +kernel
theorem d_law_949 : decode code 949 = .ok (.iconst 1, 1) := by decide +kernel
theorem d_law_950 : decode code 950 = .ok (.iadd, 1) := by decide +kernel
theorem d_law_951 : decode code 951 = .ok (.iaload, 1) := by decide +kernel
theorem d_law_952 : decode code 952 = .ok (.aload_n 0, 1) := by decide +kernel
theorem d_law_953 : decode code 953 = .ok (.iload 4, 2) := by decide +kernel
theorem d_law_955 : decode code 955 = .ok (.iconst 2, 1) := by decide +kernel
theorem d_law_956 : decode code 956 = .ok (.iadd, 1) := by decide +kernel
theorem d_law_957 : decode code 957 = .ok (.iaload, 1) := by decide +kernel
theorem d_law_958 : decode code 958 = .ok (.invokevirtual 136, 3) := by decide +kernel
theorem d_law_961 : decode code 961 = .ok (.istore 6, 2) := by decide +kernel
theorem d_law_963 : decode code 963 = .ok (.aload_n 2, 1) := by decide +kernel
theorem d_law_964 : decode code 964 = .ok (.invokevirtual 84, 3) := by decide +kernel
theorem d_law_967 : decode code 967 = .ok (.iload 5, 2) := by decide +kernel
theorem d_law_969 : decode code 969 = .ok (.if_icmp .eq 5, 3) := by decide +kernel
theorem d_law_972 : decode code 972 = .ok (.iconst 0, 1) := by decide +kernel
theorem d_law_973 : decode code 973 = .ok (.ireturn, 1) := by decide +kernel
theorem d_law_974 : decode code 974 = .ok (.iload 5, 2) := by decide +kernel
theorem d_law_976 : decode code 976 = .ok (.ifCond .ne 22, 3) := by decide +kernel
theorem d_law_979 : decode code 979 = .ok (.aload_n 3, 1) := by decide +kernel
theorem d_law_980 : decode code 980 = .ok (.iconst 0, 1) := by decide +kernel
theorem d_law_981 : decode code 981 = .ok (.laload, 1) := by decide +kernel
theorem d_law_982 : decode code 982 = .ok (.iload 6, 2) := by decide +kernel
theorem d_law_984 : decode code 984 = .ok (.ifCond .eq 7, 3) := by decide +kernel
theorem d_law_987 : decode code 987 = .ok (.lconst 1, 1) := by decide +kernel
theorem d_law_988 : decode code 988 = .ok (.goto 4, 3) := by decide +kernel
theorem d_law_991 : decode code 991 = .ok (.lconst 0, 1) := by decide +kernel
theorem d_law_992 : decode code 992 = .ok (.lcmp, 1) := by decide +kernel
theorem d_law_993 : decode code 993 = .ok (.ifCond .eq 5, 3) := by decide +kernel
theorem d_law_996 : decode code 996 = .ok (.iconst 0, 1) := by decide +kernel
theorem d_law_997 : decode code 997 = .ok (.ireturn, 1) := by decide +kernel
theorem d_law_998 : decode code 998 = .ok (.goto 223, 3) := by decide +kernel
theorem d_law_1001 : decode code 1001 = .ok (.aload_n 1, 1) := by decide +kernel
theorem d_law_1002 : decode code 1002 = .ok (.aload_n 0, 1) := by decide +kernel
theorem d_law_1003 : decode code 1003 = .ok (.iload 4, 2) := by decide +kernel
theorem d_law_1005 : decode code 1005 = .ok (.iconst 1, 1) := by decide +kernel
theorem d_law_1006 : decode code 1006 = .ok (.iadd, 1) := by decide +kernel
theorem d_law_1007 : decode code 1007 = .ok (.iaload, 1) := by decide +kernel
theorem d_law_1008 : decode code 1008 = .ok (.aload_n 3, 1) := by decide +kernel
theorem d_law_1009 : decode code 1009 = .ok (.invokestatic 137, 3) := by decide +kernel
theorem d_law_1012 : decode code 1012 = .ok (.istore 5, 2) := by decide +kernel
theorem d_law_1014 : decode code 1014 = .ok (.aload_n 2, 1) := by decide +kernel
theorem d_law_1015 : decode code 1015 = .ok (.aload_n 0, 1) := by decide +kernel
theorem d_law_1016 : decode code 1016 = .ok (.iload 4, 2) := by decide +kernel
theorem d_law_1018 : decode code 1018 = .ok (.iconst 1, 1) := by decide +kernel
theorem d_law_1019 : decode code 1019 = .ok (.iadd, 1) := by decide +kernel
theorem d_law_1020 : decode code 1020 = .ok (.iaload, 1) := by decide +kernel
theorem d_law_1021 : decode code 1021 = .ok (.invokevirtual 139, 3) := by decide +kernel
theorem d_law_1024 : decode code 1024 = .ok (.istore 6, 2) := by decide +kernel
theorem d_law_1026 : decode code 1026 = .ok (.aload_n 2, 1) := by decide +kernel
theorem d_law_1027 : decode code 1027 = .ok (.invokevirtual 84, 3) := by decide +kernel
theorem d_law_1030 : decode code 1030 = .ok (.iload 5, 2) := by decide +kernel
theorem d_law_1032 : decode code 1032 = .ok (.if_icmp .eq 5, 3) := by decide +kernel
theorem d_law_1035 : decode code 1035 = .ok (.iconst 0, 1) := by decide +kernel
theorem d_law_1036 : decode code 1036 = .ok (.ireturn, 1) := by decide +kernel
theorem d_law_1037 : decode code 1037 = .ok (.iload 5, 2) := by decide +kernel
theorem d_law_1039 : decode code 1039 = .ok (.ifCond .ne 15, 3) := by decide +kernel
theorem d_law_1042 : decode code 1042 = .ok (.aload_n 3, 1) := by decide +kernel
theorem d_law_1043 : decode code 1043 = .ok (.iconst 0, 1) := by decide +kernel
theorem d_law_1044 : decode code 1044 = .ok (.laload, 1) := by decide +kernel
theorem d_law_1045 : decode code 1045 = .ok (.iload 6, 2) := by decide +kernel
theorem d_law_1047 : decode code 1047 = .ok (.i2l, 1) := by decide +kernel
theorem d_law_1048 : decode code 1048 = .ok (.lcmp, 1) := by decide +kernel
theorem d_law_1049 : decode code 1049 = .ok (.ifCond .eq 5, 3) := by decide +kernel
theorem d_law_1052 : decode code 1052 = .ok (.iconst 0, 1) := by decide +kernel
theorem d_law_1053 : decode code 1053 = .ok (.ireturn, 1) := by decide +kernel
theorem d_law_1054 : decode code 1054 = .ok (.goto 167, 3) := by decide +kernel
theorem d_law_1057 : decode code 1057 = .ok (.aload_n 1, 1) := by decide +kernel
theorem d_law_1058 : decode code 1058 = .ok (.aload_n 0, 1) := by decide +kernel
theorem d_law_1059 : decode code 1059 = .ok (.iload 4, 2) := by decide +kernel
theorem d_law_1061 : decode code 1061 = .ok (.iconst 1, 1) := by decide +kernel
theorem d_law_1062 : decode code 1062 = .ok (.iadd, 1) := by decide +kernel
theorem d_law_1063 : decode code 1063 = .ok (.iaload, 1) := by decide +kernel
theorem d_law_1064 : decode code 1064 = .ok (.invokestatic 140, 3) := by decide +kernel
theorem d_law_1067 : decode code 1067 = .ok (.istore 5, 2) := by decide +kernel
theorem d_law_1069 : decode code 1069 = .ok (.aload_n 2, 1) := by decide +kernel
theorem d_law_1070 : decode code 1070 = .ok (.aload_n 0, 1) := by decide +kernel
theorem d_law_1071 : decode code 1071 = .ok (.iload 4, 2) := by decide +kernel
theorem d_law_1073 : decode code 1073 = .ok (.iconst 1, 1) := by decide +kernel
theorem d_law_1074 : decode code 1074 = .ok (.iadd, 1) := by decide +kernel
theorem d_law_1075 : decode code 1075 = .ok (.iaload, 1) := by decide +kernel
theorem d_law_1076 : decode code 1076 = .ok (.invokevirtual 142, 3) := by decide +kernel
theorem d_law_1079 : decode code 1079 = .ok (.aload_n 2, 1) := by decide +kernel
theorem d_law_1080 : decode code 1080 = .ok (.invokevirtual 84, 3) := by decide +kernel
theorem d_law_1083 : decode code 1083 = .ok (.iload 5, 2) := by decide +kernel
theorem d_law_1085 : decode code 1085 = .ok (.if_icmp .eq 5, 3) := by decide +kernel
theorem d_law_1088 : decode code 1088 = .ok (.iconst 0, 1) := by decide +kernel
theorem d_law_1089 : decode code 1089 = .ok (.ireturn, 1) := by decide +kernel
theorem d_law_1090 : decode code 1090 = .ok (.goto 131, 3) := by decide +kernel
theorem d_law_1093 : decode code 1093 = .ok (.aload_n 1, 1) := by decide +kernel
theorem d_law_1094 : decode code 1094 = .ok (.aload_n 0, 1) := by decide +kernel
theorem d_law_1095 : decode code 1095 = .ok (.iload 4, 2) := by decide +kernel
theorem d_law_1097 : decode code 1097 = .ok (.iconst 1, 1) := by decide +kernel
theorem d_law_1098 : decode code 1098 = .ok (.iadd, 1) := by decide +kernel
theorem d_law_1099 : decode code 1099 = .ok (.iaload, 1) := by decide +kernel
theorem d_law_1100 : decode code 1100 = .ok (.aload_n 0, 1) := by decide +kernel
theorem d_law_1101 : decode code 1101 = .ok (.iload 4, 2) := by decide +kernel
theorem d_law_1103 : decode code 1103 = .ok (.iconst 2, 1) := by decide +kernel
theorem d_law_1104 : decode code 1104 = .ok (.iadd, 1) := by decide +kernel
theorem d_law_1105 : decode code 1105 = .ok (.iaload, 1) := by decide +kernel
theorem d_law_1106 : decode code 1106 = .ok (.aload_n 0, 1) := by decide +kernel
theorem d_law_1107 : decode code 1107 = .ok (.iload 4, 2) := by decide +kernel
theorem d_law_1109 : decode code 1109 = .ok (.iconst 3, 1) := by decide +kernel
theorem d_law_1110 : decode code 1110 = .ok (.iadd, 1) := by decide +kernel
theorem d_law_1111 : decode code 1111 = .ok (.iaload, 1) := by decide +kernel
theorem d_law_1112 : decode code 1112 = .ok (.aload_n 0, 1) := by decide +kernel
theorem d_law_1113 : decode code 1113 = .ok (.iload 4, 2) := by decide +kernel
theorem d_law_1115 : decode code 1115 = .ok (.iconst 4, 1) := by decide +kernel
theorem d_law_1116 : decode code 1116 = .ok (.iadd, 1) := by decide +kernel
theorem d_law_1117 : decode code 1117 = .ok (.iaload, 1) := by decide +kernel
theorem d_law_1118 : decode code 1118 = .ok (.invokestatic 143, 3) := by decide +kernel
theorem d_law_1121 : decode code 1121 = .ok (.istore 5, 2) := by decide +kernel
theorem d_law_1123 : decode code 1123 = .ok (.aload_n 2, 1) := by decide +kernel
theorem d_law_1124 : decode code 1124 = .ok (.aload_n 0, 1) := by decide +kernel
theorem d_law_1125 : decode code 1125 = .ok (.iload 4, 2) := by decide +kernel
theorem d_law_1127 : decode code 1127 = .ok (.iconst 1, 1) := by decide +kernel
theorem d_law_1128 : decode code 1128 = .ok (.iadd, 1) := by decide +kernel
theorem d_law_1129 : decode code 1129 = .ok (.iaload, 1) := by decide +kernel
theorem d_law_1130 : decode code 1130 = .ok (.aload_n 0, 1) := by decide +kernel
theorem d_law_1131 : decode code 1131 = .ok (.iload 4, 2) := by decide +kernel
theorem d_law_1133 : decode code 1133 = .ok (.iconst 2, 1) := by decide +kernel
theorem d_law_1134 : decode code 1134 = .ok (.iadd, 1) := by decide +kernel
theorem d_law_1135 : decode code 1135 = .ok (.iaload, 1) := by decide +kernel
theorem d_law_1136 : decode code 1136 = .ok (.aload_n 0, 1) := by decide +kernel
theorem d_law_1137 : decode code 1137 = .ok (.iload 4, 2) := by decide +kernel
theorem d_law_1139 : decode code 1139 = .ok (.iconst 3, 1) := by decide +kernel
theorem d_law_1140 : decode code 1140 = .ok (.iadd, 1) := by decide +kernel
theorem d_law_1141 : decode code 1141 = .ok (.iaload, 1) := by decide +kernel
theorem d_law_1142 : decode code 1142 = .ok (.aload_n 0, 1) := by decide +kernel
theorem d_law_1143 : decode code 1143 = .ok (.iload 4, 2) := by decide +kernel
theorem d_law_1145 : decode code 1145 = .ok (.iconst 4, 1) := by decide +kernel
theorem d_law_1146 : decode code 1146 = .ok (.iadd, 1) := by decide +kernel
theorem d_law_1147 : decode code 1147 = .ok (.iaload, 1) := by decide +kernel
theorem d_law_1148 : decode code 1148 = .ok (.invokevirtual 146, 3) := by decide +kernel
theorem d_law_1151 : decode code 1151 = .ok (.aload_n 2, 1) := by decide +kernel
theorem d_law_1152 : decode code 1152 = .ok (.invokevirtual 84, 3) := by decide +kernel
theorem d_law_1155 : decode code 1155 = .ok (.iload 5, 2) := by decide +kernel
theorem d_law_1157 : decode code 1157 = .ok (.if_icmp .eq 5, 3) := by decide +kernel
theorem d_law_1160 : decode code 1160 = .ok (.iconst 0, 1) := by decide +kernel
theorem d_law_1161 : decode code 1161 = .ok (.ireturn, 1) := by decide +kernel
theorem d_law_1162 : decode code 1162 = .ok (.goto 59, 3) := by decide +kernel
theorem d_law_1165 : decode code 1165 = .ok (.aload_n 1, 1) := by decide +kernel
theorem d_law_1166 : decode code 1166 = .ok (.aload_n 0, 1) := by decide +kernel
theorem d_law_1167 : decode code 1167 = .ok (.iload 4, 2) := by decide +kernel
theorem d_law_1169 : decode code 1169 = .ok (.iconst 1, 1) := by decide +kernel
theorem d_law_1170 : decode code 1170 = .ok (.iadd, 1) := by decide +kernel
theorem d_law_1171 : decode code 1171 = .ok (.iaload, 1) := by decide +kernel
theorem d_law_1172 : decode code 1172 = .ok (.aload_n 3, 1) := by decide +kernel
theorem d_law_1173 : decode code 1173 = .ok (.invokestatic 147, 3) := by decide +kernel
theorem d_law_1176 : decode code 1176 = .ok (.istore 5, 2) := by decide +kernel
theorem d_law_1178 : decode code 1178 = .ok (.aload_n 2, 1) := by decide +kernel
theorem d_law_1179 : decode code 1179 = .ok (.aload_n 0, 1) := by decide +kernel
theorem d_law_1180 : decode code 1180 = .ok (.iload 4, 2) := by decide +kernel
theorem d_law_1182 : decode code 1182 = .ok (.iconst 1, 1) := by decide +kernel
theorem d_law_1183 : decode code 1183 = .ok (.iadd, 1) := by decide +kernel
theorem d_law_1184 : decode code 1184 = .ok (.iaload, 1) := by decide +kernel
theorem d_law_1185 : decode code 1185 = .ok (.invokevirtual 149, 3) := by decide +kernel
theorem d_law_1188 : decode code 1188 = .ok (.istore 6, 2) := by decide +kernel
theorem d_law_1190 : decode code 1190 = .ok (.aload_n 2, 1) := by decide +kernel
theorem d_law_1191 : decode code 1191 = .ok (.invokevirtual 84, 3) := by decide +kernel
theorem d_law_1194 : decode code 1194 = .ok (.iload 5, 2) := by decide +kernel
theorem d_law_1196 : decode code 1196 = .ok (.if_icmp .eq 5, 3) := by decide +kernel
theorem d_law_1199 : decode code 1199 = .ok (.iconst 0, 1) := by decide +kernel
theorem d_law_1200 : decode code 1200 = .ok (.ireturn, 1) := by decide +kernel
theorem d_law_1201 : decode code 1201 = .ok (.iload 5, 2) := by decide +kernel
theorem d_law_1203 : decode code 1203 = .ok (.ifCond .ne 15, 3) := by decide +kernel
theorem d_law_1206 : decode code 1206 = .ok (.aload_n 3, 1) := by decide +kernel
theorem d_law_1207 : decode code 1207 = .ok (.iconst 0, 1) := by decide +kernel
theorem d_law_1208 : decode code 1208 = .ok (.laload, 1) := by decide +kernel
theorem d_law_1209 : decode code 1209 = .ok (.iload 6, 2) := by decide +kernel
theorem d_law_1211 : decode code 1211 = .ok (.i2l, 1) := by decide +kernel
theorem d_law_1212 : decode code 1212 = .ok (.lcmp, 1) := by decide +kernel
theorem d_law_1213 : decode code 1213 = .ok (.ifCond .eq 5, 3) := by decide +kernel
theorem d_law_1216 : decode code 1216 = .ok (.iconst 0, 1) := by decide +kernel
theorem d_law_1217 : decode code 1217 = .ok (.ireturn, 1) := by decide +kernel
theorem d_law_1218 : decode code 1218 = .ok (.goto 3, 3) := by decide +kernel
theorem d_law_1221 : decode code 1221 = .ok (.iinc 4 5, 3) := by decide +kernel
theorem d_law_1224 : decode code 1224 = .ok (.goto (-1201), 3) := by decide +kernel
theorem d_law_1227 : decode code 1227 = .ok (.iconst 1, 1) := by decide +kernel
theorem d_law_1228 : decode code 1228 = .ok (.ireturn, 1) := by decide +kernel
