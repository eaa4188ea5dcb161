theorem d_La_cell_0 : decode b_La_cell 0 = .ok (.iload_n 1, 1) := by decide +kernel
theorem d_La_cell_1 : decode b_La_cell 1 = .ok (.aload_n 0, 1) := by decide +kernel
theorem d_La_cell_2 : decode b_La_cell 2 = .ok (.arraylength, 1) := by decide +kernel
theorem d_La_cell_3 : decode b_La_cell 3 = .ok (.if_icmp .ge 9, 3) := by decide +kernel
theorem d_La_cell_6 : decode b_La_cell 6 = .ok (.aload_n 0, 1) := by decide +kernel
theorem d_La_cell_7 : decode b_La_cell 7 = .ok (.iload_n 1, 1) := by decide +kernel
theorem d_La_cell_8 : decode b_La_cell 8 = .ok (.iaload, 1) := by decide +kernel
theorem d_La_cell_9 : decode b_La_cell 9 = .ok (.goto 4, 3) := by decide +kernel
theorem d_La_cell_12 : decode b_La_cell 12 = .ok (.iconst 0, 1) := by decide +kernel
theorem d_La_cell_13 : decode b_La_cell 13 = .ok (.ireturn, 1) := by decide +kernel
theorem d_La_state_0 : decode b_La_state 0 = .ok (.aload_n 1, 1) := by decide +kernel
theorem d_La_state_1 : decode b_La_state 1 = .ok (.iconst 0, 1) := by decide +kernel
theorem d_La_state_2 : decode b_La_state 2 = .ok (.aload_n 0, 1) := by decide +kernel
theorem d_La_state_3 : decode b_La_state 3 = .ok (.invokevirtual 7, 3) := by decide +kernel
theorem d_La_state_6 : decode b_La_state 6 = .ok (.i2l, 1) := by decide +kernel
theorem d_La_state_7 : decode b_La_state 7 = .ok (.lastore, 1) := by decide +kernel
theorem d_La_state_8 : decode b_La_state 8 = .ok (.goto 6, 3) := by decide +kernel
theorem d_La_state_11 : decode b_La_state 11 = .ok (.astore_n 2, 1) := by decide +kernel
theorem d_La_state_12 : decode b_La_state 12 = .ok (.iconst 1, 1) := by decide +kernel
theorem d_La_state_13 : decode b_La_state 13 = .ok (.ireturn, 1) := by decide +kernel
theorem d_La_state_14 : decode b_La_state 14 = .ok (.iconst 0, 1) := by decide +kernel
theorem d_La_state_15 : decode b_La_state 15 = .ok (.ireturn, 1) := by decide +kernel
theorem d_La_message_0 : decode b_La_message 0 = .ok (.aload_n 1, 1) := by decide +kernel
theorem d_La_message_1 : decode b_La_message 1 = .ok (.iconst 0, 1) := by decide +kernel
theorem d_La_message_2 : decode b_La_message 2 = .ok (.aload_n 0, 1) := by decide +kernel
theorem d_La_message_3 : decode b_La_message 3 = .ok (.invokevirtual 15, 3) := by decide +kernel
theorem d_La_message_6 : decode b_La_message 6 = .ok (.i2l, 1) := by decide +kernel
theorem d_La_message_7 : decode b_La_message 7 = .ok (.lastore, 1) := by decide +kernel
theorem d_La_message_8 : decode b_La_message 8 = .ok (.goto 6, 3) := by decide +kernel
theorem d_La_message_11 : decode b_La_message 11 = .ok (.astore_n 2, 1) := by decide +kernel
theorem d_La_message_12 : decode b_La_message 12 = .ok (.iconst 1, 1) := by decide +kernel
theorem d_La_message_13 : decode b_La_message 13 = .ok (.ireturn, 1) := by decide +kernel
theorem d_La_message_14 : decode b_La_message 14 = .ok (.iconst 0, 1) := by decide +kernel
theorem d_La_message_15 : decode b_La_message 15 = .ok (.ireturn, 1) := by decide +kernel
theorem d_La_rule_0 : decode b_La_rule 0 = .ok (.aload 4, 2) := by decide +kernel
theorem d_La_rule_2 : decode b_La_rule 2 = .ok (.iconst 0, 1) := by decide +kernel
theorem d_La_rule_3 : decode b_La_rule 3 = .ok (.aload_n 0, 1) := by decide +kernel
theorem d_La_rule_4 : decode b_La_rule 4 = .ok (.iload_n 1, 1) := by decide +kernel
theorem d_La_rule_5 : decode b_La_rule 5 = .ok (.iload_n 2, 1) := by decide +kernel
theorem d_La_rule_6 : decode b_La_rule 6 = .ok (.iload_n 3, 1) := by decide +kernel
theorem d_La_rule_7 : decode b_La_rule 7 = .ok (.invokevirtual 18, 3) := by decide +kernel
theorem d_La_rule_10 : decode b_La_rule 10 = .ok (.i2l, 1) := by decide +kernel
theorem d_La_rule_11 : decode b_La_rule 11 = .ok (.lastore, 1) := by decide +kernel
theorem d_La_rule_12 : decode b_La_rule 12 = .ok (.goto 11, 3) := by decide +kernel
theorem d_La_rule_15 : decode b_La_rule 15 = .ok (.astore 5, 2) := by decide +kernel
theorem d_La_rule_17 : decode b_La_rule 17 = .ok (.iconst 1, 1) := by decide +kernel
theorem d_La_rule_18 : decode b_La_rule 18 = .ok (.ireturn, 1) := by decide +kernel
theorem d_La_rule_19 : decode b_La_rule 19 = .ok (.astore 5, 2) := by decide +kernel
theorem d_La_rule_21 : decode b_La_rule 21 = .ok (.iconst 2, 1) := by decide +kernel
theorem d_La_rule_22 : decode b_La_rule 22 = .ok (.ireturn, 1) := by decide +kernel
theorem d_La_rule_23 : decode b_La_rule 23 = .ok (.iconst 0, 1) := by decide +kernel
theorem d_La_rule_24 : decode b_La_rule 24 = .ok (.ireturn, 1) := by decide +kernel
theorem d_La_sends_0 : decode b_La_sends 0 = .ok (.aload 4, 2) := by decide +kernel
theorem d_La_sends_2 : decode b_La_sends 2 = .ok (.iconst 0, 1) := by decide +kernel
theorem d_La_sends_3 : decode b_La_sends 3 = .ok (.aload_n 0, 1) := by decide +kernel
theorem d_La_sends_4 : decode b_La_sends 4 = .ok (.iload_n 1, 1) := by decide +kernel
theorem d_La_sends_5 : decode b_La_sends 5 = .ok (.iload_n 2, 1) := by decide +kernel
theorem d_La_sends_6 : decode b_La_sends 6 = .ok (.iload_n 3, 1) := by decide +kernel
theorem d_La_sends_7 : decode b_La_sends 7 = .ok (.invokevirtual 24, 3) := by decide +kernel
theorem d_La_sends_10 : decode b_La_sends 10 = .ok (.i2l, 1) := by decide +kernel
theorem d_La_sends_11 : decode b_La_sends 11 = .ok (.lastore, 1) := by decide +kernel
theorem d_La_sends_12 : decode b_La_sends 12 = .ok (.goto 11, 3) := by decide +kernel
theorem d_La_sends_15 : decode b_La_sends 15 = .ok (.astore 5, 2) := by decide +kernel
theorem d_La_sends_17 : decode b_La_sends 17 = .ok (.iconst 1, 1) := by decide +kernel
theorem d_La_sends_18 : decode b_La_sends 18 = .ok (.ireturn, 1) := by decide +kernel
theorem d_La_sends_19 : decode b_La_sends 19 = .ok (.astore 5, 2) := by decide +kernel
theorem d_La_sends_21 : decode b_La_sends 21 = .ok (.iconst 2, 1) := by decide +kernel
theorem d_La_sends_22 : decode b_La_sends 22 = .ok (.ireturn, 1) := by decide +kernel
theorem d_La_sends_23 : decode b_La_sends 23 = .ok (.iconst 0, 1) := by decide +kernel
theorem d_La_sends_24 : decode b_La_sends 24 = .ok (.ireturn, 1) := by decide +kernel
theorem d_La_bad_0 : decode b_La_bad 0 = .ok (.aload_n 3, 1) := by decide +kernel
theorem d_La_bad_1 : decode b_La_bad 1 = .ok (.iconst 0, 1) := by decide +kernel
theorem d_La_bad_2 : decode b_La_bad 2 = .ok (.aload_n 0, 1) := by decide +kernel
theorem d_La_bad_3 : decode b_La_bad 3 = .ok (.iload_n 1, 1) := by decide +kernel
theorem d_La_bad_4 : decode b_La_bad 4 = .ok (.iload_n 2, 1) := by decide +kernel
theorem d_La_bad_5 : decode b_La_bad 5 = .ok (.invokevirtual 27, 3) := by decide +kernel
theorem d_La_bad_8 : decode b_La_bad 8 = .ok (.ifCond .eq 7, 3) := by decide +kernel
theorem d_La_bad_11 : decode b_La_bad 11 = .ok (.lconst 1, 1) := by decide +kernel
theorem d_La_bad_12 : decode b_La_bad 12 = .ok (.goto 4, 3) := by decide +kernel
theorem d_La_bad_15 : decode b_La_bad 15 = .ok (.lconst 0, 1) := by decide +kernel
theorem d_La_bad_16 : decode b_La_bad 16 = .ok (.lastore, 1) := by decide +kernel
theorem d_La_bad_17 : decode b_La_bad 17 = .ok (.goto 7, 3) := by decide +kernel
theorem d_La_bad_20 : decode b_La_bad 20 = .ok (.astore 4, 2) := by decide +kernel
theorem d_La_bad_22 : decode b_La_bad 22 = .ok (.iconst 1, 1) := by decide +kernel
theorem d_La_bad_23 : decode b_La_bad 23 = .ok (.ireturn, 1) := by decide +kernel
theorem d_La_bad_24 : decode b_La_bad 24 = .ok (.iconst 0, 1) := by decide +kernel
theorem d_La_bad_25 : decode b_La_bad 25 = .ok (.ireturn, 1) := by decide +kernel
theorem d_La_go_0 : decode b_La_go 0 = .ok (.aload_n 2, 1) := by decide +kernel
theorem d_La_go_1 : decode b_La_go 1 = .ok (.iconst 0, 1) := by decide +kernel
theorem d_La_go_2 : decode b_La_go 2 = .ok (.aload_n 0, 1) := by decide +kernel
theorem d_La_go_3 : decode b_La_go 3 = .ok (.iload_n 1, 1) := by decide +kernel
theorem d_La_go_4 : decode b_La_go 4 = .ok (.invokevirtual 31, 3) := by decide +kernel
theorem d_La_go_7 : decode b_La_go 7 = .ok (.i2l, 1) := by decide +kernel
theorem d_La_go_8 : decode b_La_go 8 = .ok (.lastore, 1) := by decide +kernel
theorem d_La_go_9 : decode b_La_go 9 = .ok (.goto 6, 3) := by decide +kernel
theorem d_La_go_12 : decode b_La_go 12 = .ok (.astore_n 3, 1) := by decide +kernel
theorem d_La_go_13 : decode b_La_go 13 = .ok (.iconst 1, 1) := by decide +kernel
theorem d_La_go_14 : decode b_La_go 14 = .ok (.ireturn, 1) := by decide +kernel
theorem d_La_go_15 : decode b_La_go 15 = .ok (.iconst 0, 1) := by decide +kernel
theorem d_La_go_16 : decode b_La_go 16 = .ok (.ireturn, 1) := by decide +kernel
theorem d_La_node_0 : decode b_La_node 0 = .ok (.aload_n 3, 1) := by decide +kernel
theorem d_La_node_1 : decode b_La_node 1 = .ok (.iconst 0, 1) := by decide +kernel
theorem d_La_node_2 : decode b_La_node 2 = .ok (.aload_n 0, 1) := by decide +kernel
theorem d_La_node_3 : decode b_La_node 3 = .ok (.iload_n 1, 1) := by decide +kernel
theorem d_La_node_4 : decode b_La_node 4 = .ok (.iload_n 2, 1) := by decide +kernel
theorem d_La_node_5 : decode b_La_node 5 = .ok (.invokevirtual 35, 3) := by decide +kernel
theorem d_La_node_8 : decode b_La_node 8 = .ok (.i2l, 1) := by decide +kernel
theorem d_La_node_9 : decode b_La_node 9 = .ok (.lastore, 1) := by decide +kernel
theorem d_La_node_10 : decode b_La_node 10 = .ok (.goto 7, 3) := by decide +kernel
theorem d_La_node_13 : decode b_La_node 13 = .ok (.astore 4, 2) := by decide +kernel
theorem d_La_node_15 : decode b_La_node 15 = .ok (.iconst 1, 1) := by decide +kernel
theorem d_La_node_16 : decode b_La_node 16 = .ok (.ireturn, 1) := by decide +kernel
theorem d_La_node_17 : decode b_La_node 17 = .ok (.iconst 0, 1) := by decide +kernel
theorem d_La_node_18 : decode b_La_node 18 = .ok (.ireturn, 1) := by decide +kernel
theorem d_La_code_0 : decode b_La_code 0 = .ok (.aload_n 3, 1) := by decide +kernel
theorem d_La_code_1 : decode b_La_code 1 = .ok (.iconst 0, 1) := by decide +kernel
theorem d_La_code_2 : decode b_La_code 2 = .ok (.aload_n 0, 1) := by decide +kernel
theorem d_La_code_3 : decode b_La_code 3 = .ok (.iload_n 1, 1) := by decide +kernel
theorem d_La_code_4 : decode b_La_code 4 = .ok (.iload_n 2, 1) := by decide +kernel
theorem d_La_code_5 : decode b_La_code 5 = .ok (.invokevirtual 41, 3) := by decide +kernel
theorem d_La_code_8 : decode b_La_code 8 = .ok (.i2l, 1) := by decide +kernel
theorem d_La_code_9 : decode b_La_code 9 = .ok (.lastore, 1) := by decide +kernel
theorem d_La_code_10 : decode b_La_code 10 = .ok (.goto 7, 3) := by decide +kernel
theorem d_La_code_13 : decode b_La_code 13 = .ok (.astore 4, 2) := by decide +kernel
theorem d_La_code_15 : decode b_La_code 15 = .ok (.iconst 1, 1) := by decide +kernel
theorem d_La_code_16 : decode b_La_code 16 = .ok (.ireturn, 1) := by decide +kernel
theorem d_La_code_17 : decode b_La_code 17 = .ok (.iconst 0, 1) := by decide +kernel
theorem d_La_code_18 : decode b_La_code 18 = .ok (.ireturn, 1) := by decide +kernel
theorem d_La_whole_0 : decode b_La_whole 0 = .ok (.aload_n 3, 1) := by decide +kernel
theorem d_La_whole_1 : decode b_La_whole 1 = .ok (.iconst 0, 1) := by decide +kernel
theorem d_La_whole_2 : decode b_La_whole 2 = .ok (.aload_n 0, 1) := by decide +kernel
theorem d_La_whole_3 : decode b_La_whole 3 = .ok (.iload_n 1, 1) := by decide +kernel
theorem d_La_whole_4 : decode b_La_whole 4 = .ok (.iload_n 2, 1) := by decide +kernel
theorem d_La_whole_5 : decode b_La_whole 5 = .ok (.invokevirtual 44, 3) := by decide +kernel
theorem d_La_whole_8 : decode b_La_whole 8 = .ok (.i2l, 1) := by decide +kernel
theorem d_La_whole_9 : decode b_La_whole 9 = .ok (.lastore, 1) := by decide +kernel
theorem d_La_whole_10 : decode b_La_whole 10 = .ok (.goto 7, 3) := by decide +kernel
theorem d_La_whole_13 : decode b_La_whole 13 = .ok (.astore 4, 2) := by decide +kernel
theorem d_La_whole_15 : decode b_La_whole 15 = .ok (.iconst 1, 1) := by decide +kernel
theorem d_La_whole_16 : decode b_La_whole 16 = .ok (.ireturn, 1) := by decide +kernel
theorem d_La_whole_17 : decode b_La_whole 17 = .ok (.iconst 0, 1) := by decide +kernel
theorem d_La_whole_18 : decode b_La_whole 18 = .ok (.ireturn, 1) := by decide +kernel
theorem d_La_wayAt_0 : decode b_La_wayAt 0 = .ok (.aload_n 2, 1) := by decide +kernel
theorem d_La_wayAt_1 : decode b_La_wayAt 1 = .ok (.iconst 0, 1) := by decide +kernel
theorem d_La_wayAt_2 : decode b_La_wayAt 2 = .ok (.aload_n 0, 1) := by decide +kernel
theorem d_La_wayAt_3 : decode b_La_wayAt 3 = .ok (.iload_n 1, 1) := by decide +kernel
theorem d_La_wayAt_4 : decode b_La_wayAt 4 = .ok (.invokevirtual 47, 3) := by decide +kernel
theorem d_La_wayAt_7 : decode b_La_wayAt 7 = .ok (.i2l, 1) := by decide +kernel
theorem d_La_wayAt_8 : decode b_La_wayAt 8 = .ok (.lastore, 1) := by decide +kernel
theorem d_La_wayAt_9 : decode b_La_wayAt 9 = .ok (.goto 6, 3) := by decide +kernel
theorem d_La_wayAt_12 : decode b_La_wayAt 12 = .ok (.astore_n 3, 1) := by decide +kernel
theorem d_La_wayAt_13 : decode b_La_wayAt 13 = .ok (.iconst 1, 1) := by decide +kernel
theorem d_La_wayAt_14 : decode b_La_wayAt 14 = .ok (.ireturn, 1) := by decide +kernel
theorem d_La_wayAt_15 : decode b_La_wayAt 15 = .ok (.iconst 0, 1) := by decide +kernel
theorem d_La_wayAt_16 : decode b_La_wayAt 16 = .ok (.ireturn, 1) := by decide +kernel
