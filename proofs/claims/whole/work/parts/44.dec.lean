theorem dL_write_0 : decode cL_write 0 = .ok (.aload_n 3, 1) := by decide +kernel
theorem dL_write_1 : decode cL_write 1 = .ok (.iconst 0, 1) := by decide +kernel
theorem dL_write_2 : decode cL_write 2 = .ok (.aload_n 0, 1) := by decide +kernel
theorem dL_write_3 : decode cL_write 3 = .ok (.iload_n 1, 1) := by decide +kernel
theorem dL_write_4 : decode cL_write 4 = .ok (.iload_n 2, 1) := by decide +kernel
theorem dL_write_5 : decode cL_write 5 = .ok (.invokevirtual 7, 3) := by decide +kernel
theorem dL_write_8 : decode cL_write 8 = .ok (.i2l, 1) := by decide +kernel
theorem dL_write_9 : decode cL_write 9 = .ok (.lastore, 1) := by decide +kernel
theorem dL_write_10 : decode cL_write 10 = .ok (.goto 7, 3) := by decide +kernel
theorem dL_write_13 : decode cL_write 13 = .ok (.astore 4, 2) := by decide +kernel
theorem dL_write_15 : decode cL_write 15 = .ok (.iconst 1, 1) := by decide +kernel
theorem dL_write_16 : decode cL_write 16 = .ok (.ireturn, 1) := by decide +kernel
theorem dL_write_17 : decode cL_write 17 = .ok (.iconst 0, 1) := by decide +kernel
theorem dL_write_18 : decode cL_write 18 = .ok (.ireturn, 1) := by decide +kernel
theorem dL_set_0 : decode cL_set 0 = .ok (.aload_n 3, 1) := by decide +kernel
theorem dL_set_1 : decode cL_set 1 = .ok (.iconst 0, 1) := by decide +kernel
theorem dL_set_2 : decode cL_set 2 = .ok (.aload_n 0, 1) := by decide +kernel
theorem dL_set_3 : decode cL_set 3 = .ok (.iload_n 1, 1) := by decide +kernel
theorem dL_set_4 : decode cL_set 4 = .ok (.iload_n 2, 1) := by decide +kernel
theorem dL_set_5 : decode cL_set 5 = .ok (.invokevirtual 15, 3) := by decide +kernel
theorem dL_set_8 : decode cL_set 8 = .ok (.i2l, 1) := by decide +kernel
theorem dL_set_9 : decode cL_set 9 = .ok (.lastore, 1) := by decide +kernel
theorem dL_set_10 : decode cL_set 10 = .ok (.goto 11, 3) := by decide +kernel
theorem dL_set_13 : decode cL_set 13 = .ok (.astore 4, 2) := by decide +kernel
theorem dL_set_15 : decode cL_set 15 = .ok (.iconst 1, 1) := by decide +kernel
theorem dL_set_16 : decode cL_set 16 = .ok (.ireturn, 1) := by decide +kernel
theorem dL_set_17 : decode cL_set 17 = .ok (.astore 4, 2) := by decide +kernel
theorem dL_set_19 : decode cL_set 19 = .ok (.iconst 2, 1) := by decide +kernel
theorem dL_set_20 : decode cL_set 20 = .ok (.ireturn, 1) := by decide +kernel
theorem dL_set_21 : decode cL_set 21 = .ok (.iconst 0, 1) := by decide +kernel
theorem dL_set_22 : decode cL_set 22 = .ok (.ireturn, 1) := by decide +kernel
theorem dL_setTool_0 : decode cL_setTool 0 = .ok (.aload_n 3, 1) := by decide +kernel
theorem dL_setTool_1 : decode cL_setTool 1 = .ok (.iconst 0, 1) := by decide +kernel
theorem dL_setTool_2 : decode cL_setTool 2 = .ok (.aload_n 0, 1) := by decide +kernel
theorem dL_setTool_3 : decode cL_setTool 3 = .ok (.iload_n 1, 1) := by decide +kernel
theorem dL_setTool_4 : decode cL_setTool 4 = .ok (.iload_n 2, 1) := by decide +kernel
theorem dL_setTool_5 : decode cL_setTool 5 = .ok (.invokevirtual 20, 3) := by decide +kernel
theorem dL_setTool_8 : decode cL_setTool 8 = .ok (.i2l, 1) := by decide +kernel
theorem dL_setTool_9 : decode cL_setTool 9 = .ok (.lastore, 1) := by decide +kernel
theorem dL_setTool_10 : decode cL_setTool 10 = .ok (.goto 11, 3) := by decide +kernel
theorem dL_setTool_13 : decode cL_setTool 13 = .ok (.astore 4, 2) := by decide +kernel
theorem dL_setTool_15 : decode cL_setTool 15 = .ok (.iconst 1, 1) := by decide +kernel
theorem dL_setTool_16 : decode cL_setTool 16 = .ok (.ireturn, 1) := by decide +kernel
theorem dL_setTool_17 : decode cL_setTool 17 = .ok (.astore 4, 2) := by decide +kernel
theorem dL_setTool_19 : decode cL_setTool 19 = .ok (.iconst 2, 1) := by decide +kernel
theorem dL_setTool_20 : decode cL_setTool 20 = .ok (.ireturn, 1) := by decide +kernel
theorem dL_setTool_21 : decode cL_setTool 21 = .ok (.iconst 0, 1) := by decide +kernel
theorem dL_setTool_22 : decode cL_setTool 22 = .ok (.ireturn, 1) := by decide +kernel
theorem dL_input_0 : decode cL_input 0 = .ok (.aload 5, 2) := by decide +kernel
theorem dL_input_2 : decode cL_input 2 = .ok (.iconst 0, 1) := by decide +kernel
theorem dL_input_3 : decode cL_input 3 = .ok (.aload_n 0, 1) := by decide +kernel
theorem dL_input_4 : decode cL_input 4 = .ok (.iload_n 1, 1) := by decide +kernel
theorem dL_input_5 : decode cL_input 5 = .ok (.iload_n 2, 1) := by decide +kernel
theorem dL_input_6 : decode cL_input 6 = .ok (.iload_n 3, 1) := by decide +kernel
theorem dL_input_7 : decode cL_input 7 = .ok (.iload 4, 2) := by decide +kernel
theorem dL_input_9 : decode cL_input 9 = .ok (.invokevirtual 23, 3) := by decide +kernel
theorem dL_input_12 : decode cL_input 12 = .ok (.i2l, 1) := by decide +kernel
theorem dL_input_13 : decode cL_input 13 = .ok (.lastore, 1) := by decide +kernel
theorem dL_input_14 : decode cL_input 14 = .ok (.goto 15, 3) := by decide +kernel
theorem dL_input_17 : decode cL_input 17 = .ok (.astore 6, 2) := by decide +kernel
theorem dL_input_19 : decode cL_input 19 = .ok (.iconst 1, 1) := by decide +kernel
theorem dL_input_20 : decode cL_input 20 = .ok (.ireturn, 1) := by decide +kernel
theorem dL_input_21 : decode cL_input 21 = .ok (.astore 6, 2) := by decide +kernel
theorem dL_input_23 : decode cL_input 23 = .ok (.iconst 2, 1) := by decide +kernel
theorem dL_input_24 : decode cL_input 24 = .ok (.ireturn, 1) := by decide +kernel
theorem dL_input_25 : decode cL_input 25 = .ok (.astore 6, 2) := by decide +kernel
theorem dL_input_27 : decode cL_input 27 = .ok (.iconst 3, 1) := by decide +kernel
theorem dL_input_28 : decode cL_input 28 = .ok (.ireturn, 1) := by decide +kernel
theorem dL_input_29 : decode cL_input 29 = .ok (.iconst 0, 1) := by decide +kernel
theorem dL_input_30 : decode cL_input 30 = .ok (.ireturn, 1) := by decide +kernel
theorem dL_target_0 : decode cL_target 0 = .ok (.aload 7, 2) := by decide +kernel
theorem dL_target_2 : decode cL_target 2 = .ok (.iconst 0, 1) := by decide +kernel
theorem dL_target_3 : decode cL_target 3 = .ok (.aload_n 0, 1) := by decide +kernel
theorem dL_target_4 : decode cL_target 4 = .ok (.iload_n 1, 1) := by decide +kernel
theorem dL_target_5 : decode cL_target 5 = .ok (.iload_n 2, 1) := by decide +kernel
theorem dL_target_6 : decode cL_target 6 = .ok (.iload_n 3, 1) := by decide +kernel
theorem dL_target_7 : decode cL_target 7 = .ok (.iload 4, 2) := by decide +kernel
theorem dL_target_9 : decode cL_target 9 = .ok (.iload 5, 2) := by decide +kernel
theorem dL_target_11 : decode cL_target 11 = .ok (.iload 6, 2) := by decide +kernel
theorem dL_target_13 : decode cL_target 13 = .ok (.invokevirtual 29, 3) := by decide +kernel
theorem dL_target_16 : decode cL_target 16 = .ok (.i2l, 1) := by decide +kernel
theorem dL_target_17 : decode cL_target 17 = .ok (.lastore, 1) := by decide +kernel
theorem dL_target_18 : decode cL_target 18 = .ok (.goto 11, 3) := by decide +kernel
theorem dL_target_21 : decode cL_target 21 = .ok (.astore 8, 2) := by decide +kernel
theorem dL_target_23 : decode cL_target 23 = .ok (.iconst 1, 1) := by decide +kernel
theorem dL_target_24 : decode cL_target 24 = .ok (.ireturn, 1) := by decide +kernel
theorem dL_target_25 : decode cL_target 25 = .ok (.astore 8, 2) := by decide +kernel
theorem dL_target_27 : decode cL_target 27 = .ok (.iconst 2, 1) := by decide +kernel
theorem dL_target_28 : decode cL_target 28 = .ok (.ireturn, 1) := by decide +kernel
theorem dL_target_29 : decode cL_target 29 = .ok (.iconst 0, 1) := by decide +kernel
theorem dL_target_30 : decode cL_target 30 = .ok (.ireturn, 1) := by decide +kernel
theorem dL_copy_0 : decode cL_copy 0 = .ok (.aload_n 3, 1) := by decide +kernel
theorem dL_copy_1 : decode cL_copy 1 = .ok (.iconst 0, 1) := by decide +kernel
theorem dL_copy_2 : decode cL_copy 2 = .ok (.aload_n 0, 1) := by decide +kernel
theorem dL_copy_3 : decode cL_copy 3 = .ok (.iload_n 1, 1) := by decide +kernel
theorem dL_copy_4 : decode cL_copy 4 = .ok (.iload_n 2, 1) := by decide +kernel
theorem dL_copy_5 : decode cL_copy 5 = .ok (.invokevirtual 33, 3) := by decide +kernel
theorem dL_copy_8 : decode cL_copy 8 = .ok (.i2l, 1) := by decide +kernel
theorem dL_copy_9 : decode cL_copy 9 = .ok (.lastore, 1) := by decide +kernel
theorem dL_copy_10 : decode cL_copy 10 = .ok (.goto 15, 3) := by decide +kernel
theorem dL_copy_13 : decode cL_copy 13 = .ok (.astore 4, 2) := by decide +kernel
theorem dL_copy_15 : decode cL_copy 15 = .ok (.iconst 1, 1) := by decide +kernel
theorem dL_copy_16 : decode cL_copy 16 = .ok (.ireturn, 1) := by decide +kernel
theorem dL_copy_17 : decode cL_copy 17 = .ok (.astore 4, 2) := by decide +kernel
theorem dL_copy_19 : decode cL_copy 19 = .ok (.iconst 2, 1) := by decide +kernel
theorem dL_copy_20 : decode cL_copy 20 = .ok (.ireturn, 1) := by decide +kernel
theorem dL_copy_21 : decode cL_copy 21 = .ok (.astore 4, 2) := by decide +kernel
theorem dL_copy_23 : decode cL_copy 23 = .ok (.iconst 3, 1) := by decide +kernel
theorem dL_copy_24 : decode cL_copy 24 = .ok (.ireturn, 1) := by decide +kernel
theorem dL_copy_25 : decode cL_copy 25 = .ok (.iconst 0, 1) := by decide +kernel
theorem dL_copy_26 : decode cL_copy 26 = .ok (.ireturn, 1) := by decide +kernel
theorem dL_setPower_0 : decode cL_setPower 0 = .ok (.aload_n 3, 1) := by decide +kernel
theorem dL_setPower_1 : decode cL_setPower 1 = .ok (.iconst 0, 1) := by decide +kernel
theorem dL_setPower_2 : decode cL_setPower 2 = .ok (.aload_n 0, 1) := by decide +kernel
theorem dL_setPower_3 : decode cL_setPower 3 = .ok (.iload_n 1, 1) := by decide +kernel
theorem dL_setPower_4 : decode cL_setPower 4 = .ok (.iload_n 2, 1) := by decide +kernel
theorem dL_setPower_5 : decode cL_setPower 5 = .ok (.invokevirtual 36, 3) := by decide +kernel
theorem dL_setPower_8 : decode cL_setPower 8 = .ok (.i2l, 1) := by decide +kernel
theorem dL_setPower_9 : decode cL_setPower 9 = .ok (.lastore, 1) := by decide +kernel
theorem dL_setPower_10 : decode cL_setPower 10 = .ok (.goto 7, 3) := by decide +kernel
theorem dL_setPower_13 : decode cL_setPower 13 = .ok (.astore 4, 2) := by decide +kernel
theorem dL_setPower_15 : decode cL_setPower 15 = .ok (.iconst 1, 1) := by decide +kernel
theorem dL_setPower_16 : decode cL_setPower 16 = .ok (.ireturn, 1) := by decide +kernel
theorem dL_setPower_17 : decode cL_setPower 17 = .ok (.iconst 0, 1) := by decide +kernel
theorem dL_setPower_18 : decode cL_setPower 18 = .ok (.ireturn, 1) := by decide +kernel
theorem dL_entry_0 : decode cL_entry 0 = .ok (.aload_n 3, 1) := by decide +kernel
theorem dL_entry_1 : decode cL_entry 1 = .ok (.iconst 0, 1) := by decide +kernel
theorem dL_entry_2 : decode cL_entry 2 = .ok (.aload_n 0, 1) := by decide +kernel
theorem dL_entry_3 : decode cL_entry 3 = .ok (.iload_n 1, 1) := by decide +kernel
theorem dL_entry_4 : decode cL_entry 4 = .ok (.iload_n 2, 1) := by decide +kernel
theorem dL_entry_5 : decode cL_entry 5 = .ok (.invokevirtual 39, 3) := by decide +kernel
theorem dL_entry_8 : decode cL_entry 8 = .ok (.i2l, 1) := by decide +kernel
theorem dL_entry_9 : decode cL_entry 9 = .ok (.lastore, 1) := by decide +kernel
theorem dL_entry_10 : decode cL_entry 10 = .ok (.goto 7, 3) := by decide +kernel
theorem dL_entry_13 : decode cL_entry 13 = .ok (.astore 4, 2) := by decide +kernel
theorem dL_entry_15 : decode cL_entry 15 = .ok (.iconst 1, 1) := by decide +kernel
theorem dL_entry_16 : decode cL_entry 16 = .ok (.ireturn, 1) := by decide +kernel
theorem dL_entry_17 : decode cL_entry 17 = .ok (.iconst 0, 1) := by decide +kernel
theorem dL_entry_18 : decode cL_entry 18 = .ok (.ireturn, 1) := by decide +kernel
theorem dL_lie_0 : decode cL_lie 0 = .ok (.aload_n 0, 1) := by decide +kernel
theorem dL_lie_1 : decode cL_lie 1 = .ok (.iload_n 1, 1) := by decide +kernel
theorem dL_lie_2 : decode cL_lie 2 = .ok (.iload_n 2, 1) := by decide +kernel
theorem dL_lie_3 : decode cL_lie 3 = .ok (.invokevirtual 42, 3) := by decide +kernel
theorem dL_lie_6 : decode cL_lie 6 = .ok (.goto 6, 3) := by decide +kernel
theorem dL_lie_9 : decode cL_lie 9 = .ok (.astore_n 3, 1) := by decide +kernel
theorem dL_lie_10 : decode cL_lie 10 = .ok (.iconst 1, 1) := by decide +kernel
theorem dL_lie_11 : decode cL_lie 11 = .ok (.ireturn, 1) := by decide +kernel
theorem dL_lie_12 : decode cL_lie 12 = .ok (.iconst 0, 1) := by decide +kernel
theorem dL_lie_13 : decode cL_lie 13 = .ok (.ireturn, 1) := by decide +kernel
theorem dL_lose_0 : decode cL_lose 0 = .ok (.aload_n 2, 1) := by decide +kernel
theorem dL_lose_1 : decode cL_lose 1 = .ok (.iconst 0, 1) := by decide +kernel
theorem dL_lose_2 : decode cL_lose 2 = .ok (.aload_n 0, 1) := by decide +kernel
theorem dL_lose_3 : decode cL_lose 3 = .ok (.iload_n 1, 1) := by decide +kernel
theorem dL_lose_4 : decode cL_lose 4 = .ok (.invokevirtual 46, 3) := by decide +kernel
theorem dL_lose_7 : decode cL_lose 7 = .ok (.ifCond .eq 7, 3) := by decide +kernel
theorem dL_lose_10 : decode cL_lose 10 = .ok (.lconst 1, 1) := by decide +kernel
theorem dL_lose_11 : decode cL_lose 11 = .ok (.goto 4, 3) := by decide +kernel
theorem dL_lose_14 : decode cL_lose 14 = .ok (.lconst 0, 1) := by decide +kernel
theorem dL_lose_15 : decode cL_lose 15 = .ok (.lastore, 1) := by decide +kernel
theorem dL_lose_16 : decode cL_lose 16 = .ok (.goto 6, 3) := by decide +kernel
theorem dL_lose_19 : decode cL_lose 19 = .ok (.astore_n 3, 1) := by decide +kernel
theorem dL_lose_20 : decode cL_lose 20 = .ok (.iconst 1, 1) := by decide +kernel
theorem dL_lose_21 : decode cL_lose 21 = .ok (.ireturn, 1) := by decide +kernel
theorem dL_lose_22 : decode cL_lose 22 = .ok (.iconst 0, 1) := by decide +kernel
theorem dL_lose_23 : decode cL_lose 23 = .ok (.ireturn, 1) := by decide +kernel
theorem dL_build_0 : decode cL_build 0 = .ok (.aload_n 2, 1) := by decide +kernel
theorem dL_build_1 : decode cL_build 1 = .ok (.iconst 0, 1) := by decide +kernel
theorem dL_build_2 : decode cL_build 2 = .ok (.aload_n 0, 1) := by decide +kernel
theorem dL_build_3 : decode cL_build 3 = .ok (.iload_n 1, 1) := by decide +kernel
theorem dL_build_4 : decode cL_build 4 = .ok (.invokevirtual 50, 3) := by decide +kernel
theorem dL_build_7 : decode cL_build 7 = .ok (.i2l, 1) := by decide +kernel
theorem dL_build_8 : decode cL_build 8 = .ok (.lastore, 1) := by decide +kernel
theorem dL_build_9 : decode cL_build 9 = .ok (.goto 9, 3) := by decide +kernel
theorem dL_build_12 : decode cL_build 12 = .ok (.astore_n 3, 1) := by decide +kernel
theorem dL_build_13 : decode cL_build 13 = .ok (.iconst 1, 1) := by decide +kernel
theorem dL_build_14 : decode cL_build 14 = .ok (.ireturn, 1) := by decide +kernel
theorem dL_build_15 : decode cL_build 15 = .ok (.astore_n 3, 1) := by decide +kernel
theorem dL_build_16 : decode cL_build 16 = .ok (.iconst 2, 1) := by decide +kernel
theorem dL_build_17 : decode cL_build 17 = .ok (.ireturn, 1) := by decide +kernel
theorem dL_build_18 : decode cL_build 18 = .ok (.iconst 0, 1) := by decide +kernel
theorem dL_build_19 : decode cL_build 19 = .ok (.ireturn, 1) := by decide +kernel
theorem dL_pass_0 : decode cL_pass 0 = .ok (.aload_n 2, 1) := by decide +kernel
theorem dL_pass_1 : decode cL_pass 1 = .ok (.iconst 0, 1) := by decide +kernel
theorem dL_pass_2 : decode cL_pass 2 = .ok (.aload_n 0, 1) := by decide +kernel
theorem dL_pass_3 : decode cL_pass 3 = .ok (.iload_n 1, 1) := by decide +kernel
theorem dL_pass_4 : decode cL_pass 4 = .ok (.invokevirtual 54, 3) := by decide +kernel
theorem dL_pass_7 : decode cL_pass 7 = .ok (.i2l, 1) := by decide +kernel
theorem dL_pass_8 : decode cL_pass 8 = .ok (.lastore, 1) := by decide +kernel
theorem dL_pass_9 : decode cL_pass 9 = .ok (.goto 6, 3) := by decide +kernel
theorem dL_pass_12 : decode cL_pass 12 = .ok (.astore_n 3, 1) := by decide +kernel
theorem dL_pass_13 : decode cL_pass 13 = .ok (.iconst 1, 1) := by decide +kernel
theorem dL_pass_14 : decode cL_pass 14 = .ok (.ireturn, 1) := by decide +kernel
theorem dL_pass_15 : decode cL_pass 15 = .ok (.iconst 0, 1) := by decide +kernel
theorem dL_pass_16 : decode cL_pass 16 = .ok (.ireturn, 1) := by decide +kernel
theorem dL_state_0 : decode cL_state 0 = .ok (.aload_n 3, 1) := by decide +kernel
theorem dL_state_1 : decode cL_state 1 = .ok (.iconst 0, 1) := by decide +kernel
theorem dL_state_2 : decode cL_state 2 = .ok (.aload_n 0, 1) := by decide +kernel
theorem dL_state_3 : decode cL_state 3 = .ok (.iload_n 1, 1) := by decide +kernel
theorem dL_state_4 : decode cL_state 4 = .ok (.iload_n 2, 1) := by decide +kernel
theorem dL_state_5 : decode cL_state 5 = .ok (.invokevirtual 57, 3) := by decide +kernel
theorem dL_state_8 : decode cL_state 8 = .ok (.i2l, 1) := by decide +kernel
theorem dL_state_9 : decode cL_state 9 = .ok (.lastore, 1) := by decide +kernel
theorem dL_state_10 : decode cL_state 10 = .ok (.goto 11, 3) := by decide +kernel
theorem dL_state_13 : decode cL_state 13 = .ok (.astore 4, 2) := by decide +kernel
theorem dL_state_15 : decode cL_state 15 = .ok (.iconst 1, 1) := by decide +kernel
theorem dL_state_16 : decode cL_state 16 = .ok (.ireturn, 1) := by decide +kernel
theorem dL_state_17 : decode cL_state 17 = .ok (.astore 4, 2) := by decide +kernel
theorem dL_state_19 : decode cL_state 19 = .ok (.iconst 2, 1) := by decide +kernel
theorem dL_state_20 : decode cL_state 20 = .ok (.ireturn, 1) := by decide +kernel
theorem dL_state_21 : decode cL_state 21 = .ok (.iconst 0, 1) := by decide +kernel
theorem dL_state_22 : decode cL_state 22 = .ok (.ireturn, 1) := by decide +kernel
theorem dL_result_0 : decode cL_result 0 = .ok (.aload_n 3, 1) := by decide +kernel
theorem dL_result_1 : decode cL_result 1 = .ok (.iconst 0, 1) := by decide +kernel
theorem dL_result_2 : decode cL_result 2 = .ok (.aload_n 0, 1) := by decide +kernel
theorem dL_result_3 : decode cL_result 3 = .ok (.iload_n 1, 1) := by decide +kernel
theorem dL_result_4 : decode cL_result 4 = .ok (.iload_n 2, 1) := by decide +kernel
theorem dL_result_5 : decode cL_result 5 = .ok (.invokevirtual 60, 3) := by decide +kernel
theorem dL_result_8 : decode cL_result 8 = .ok (.i2l, 1) := by decide +kernel
theorem dL_result_9 : decode cL_result 9 = .ok (.lastore, 1) := by decide +kernel
theorem dL_result_10 : decode cL_result 10 = .ok (.goto 11, 3) := by decide +kernel
theorem dL_result_13 : decode cL_result 13 = .ok (.astore 4, 2) := by decide +kernel
theorem dL_result_15 : decode cL_result 15 = .ok (.iconst 1, 1) := by decide +kernel
theorem dL_result_16 : decode cL_result 16 = .ok (.ireturn, 1) := by decide +kernel
theorem dL_result_17 : decode cL_result 17 = .ok (.astore 4, 2) := by decide +kernel
theorem dL_result_19 : decode cL_result 19 = .ok (.iconst 2, 1) := by decide +kernel
theorem dL_result_20 : decode cL_result 20 = .ok (.ireturn, 1) := by decide +kernel
theorem dL_result_21 : decode cL_result 21 = .ok (.iconst 0, 1) := by decide +kernel
theorem dL_result_22 : decode cL_result 22 = .ok (.ireturn, 1) := by decide +kernel
theorem dL_about_0 : decode cL_about 0 = .ok (.aload_n 3, 1) := by decide +kernel
theorem dL_about_1 : decode cL_about 1 = .ok (.iconst 0, 1) := by decide +kernel
theorem dL_about_2 : decode cL_about 2 = .ok (.aload_n 0, 1) := by decide +kernel
theorem dL_about_3 : decode cL_about 3 = .ok (.iload_n 1, 1) := by decide +kernel
theorem dL_about_4 : decode cL_about 4 = .ok (.iload_n 2, 1) := by decide +kernel
theorem dL_about_5 : decode cL_about 5 = .ok (.invokevirtual 63, 3) := by decide +kernel
theorem dL_about_8 : decode cL_about 8 = .ok (.i2l, 1) := by decide +kernel
theorem dL_about_9 : decode cL_about 9 = .ok (.lastore, 1) := by decide +kernel
theorem dL_about_10 : decode cL_about 10 = .ok (.goto 11, 3) := by decide +kernel
theorem dL_about_13 : decode cL_about 13 = .ok (.astore 4, 2) := by decide +kernel
theorem dL_about_15 : decode cL_about 15 = .ok (.iconst 1, 1) := by decide +kernel
theorem dL_about_16 : decode cL_about 16 = .ok (.ireturn, 1) := by decide +kernel
theorem dL_about_17 : decode cL_about 17 = .ok (.astore 4, 2) := by decide +kernel
theorem dL_about_19 : decode cL_about 19 = .ok (.iconst 2, 1) := by decide +kernel
theorem dL_about_20 : decode cL_about 20 = .ok (.ireturn, 1) := by decide +kernel
theorem dL_about_21 : decode cL_about 21 = .ok (.iconst 0, 1) := by decide +kernel
theorem dL_about_22 : decode cL_about 22 = .ok (.ireturn, 1) := by decide +kernel
theorem dL_proof_0 : decode cL_proof 0 = .ok (.aload_n 2, 1) := by decide +kernel
theorem dL_proof_1 : decode cL_proof 1 = .ok (.iconst 0, 1) := by decide +kernel
theorem dL_proof_2 : decode cL_proof 2 = .ok (.aload_n 0, 1) := by decide +kernel
theorem dL_proof_3 : decode cL_proof 3 = .ok (.iload_n 1, 1) := by decide +kernel
theorem dL_proof_4 : decode cL_proof 4 = .ok (.invokevirtual 66, 3) := by decide +kernel
theorem dL_proof_7 : decode cL_proof 7 = .ok (.i2l, 1) := by decide +kernel
theorem dL_proof_8 : decode cL_proof 8 = .ok (.lastore, 1) := by decide +kernel
theorem dL_proof_9 : decode cL_proof 9 = .ok (.goto 9, 3) := by decide +kernel
theorem dL_proof_12 : decode cL_proof 12 = .ok (.astore_n 3, 1) := by decide +kernel
theorem dL_proof_13 : decode cL_proof 13 = .ok (.iconst 1, 1) := by decide +kernel
theorem dL_proof_14 : decode cL_proof 14 = .ok (.ireturn, 1) := by decide +kernel
theorem dL_proof_15 : decode cL_proof 15 = .ok (.astore_n 3, 1) := by decide +kernel
theorem dL_proof_16 : decode cL_proof 16 = .ok (.iconst 2, 1) := by decide +kernel
theorem dL_proof_17 : decode cL_proof 17 = .ok (.ireturn, 1) := by decide +kernel
theorem dL_proof_18 : decode cL_proof 18 = .ok (.iconst 0, 1) := by decide +kernel
theorem dL_proof_19 : decode cL_proof 19 = .ok (.ireturn, 1) := by decide +kernel
theorem dL_count_0 : decode cL_count 0 = .ok (.aload_n 2, 1) := by decide +kernel
theorem dL_count_1 : decode cL_count 1 = .ok (.iconst 0, 1) := by decide +kernel
theorem dL_count_2 : decode cL_count 2 = .ok (.aload_n 0, 1) := by decide +kernel
theorem dL_count_3 : decode cL_count 3 = .ok (.iload_n 1, 1) := by decide +kernel
theorem dL_count_4 : decode cL_count 4 = .ok (.invokevirtual 69, 3) := by decide +kernel
theorem dL_count_7 : decode cL_count 7 = .ok (.i2l, 1) := by decide +kernel
theorem dL_count_8 : decode cL_count 8 = .ok (.lastore, 1) := by decide +kernel
theorem dL_count_9 : decode cL_count 9 = .ok (.goto 6, 3) := by decide +kernel
theorem dL_count_12 : decode cL_count 12 = .ok (.astore_n 3, 1) := by decide +kernel
theorem dL_count_13 : decode cL_count 13 = .ok (.iconst 1, 1) := by decide +kernel
theorem dL_count_14 : decode cL_count 14 = .ok (.ireturn, 1) := by decide +kernel
theorem dL_count_15 : decode cL_count 15 = .ok (.iconst 0, 1) := by decide +kernel
theorem dL_count_16 : decode cL_count 16 = .ok (.ireturn, 1) := by decide +kernel
theorem dL_needed_0 : decode cL_needed 0 = .ok (.aload_n 2, 1) := by decide +kernel
theorem dL_needed_1 : decode cL_needed 1 = .ok (.iconst 0, 1) := by decide +kernel
theorem dL_needed_2 : decode cL_needed 2 = .ok (.aload_n 0, 1) := by decide +kernel
theorem dL_needed_3 : decode cL_needed 3 = .ok (.iload_n 1, 1) := by decide +kernel
theorem dL_needed_4 : decode cL_needed 4 = .ok (.invokevirtual 72, 3) := by decide +kernel
theorem dL_needed_7 : decode cL_needed 7 = .ok (.i2l, 1) := by decide +kernel
theorem dL_needed_8 : decode cL_needed 8 = .ok (.lastore, 1) := by decide +kernel
theorem dL_needed_9 : decode cL_needed 9 = .ok (.goto 6, 3) := by decide +kernel
theorem dL_needed_12 : decode cL_needed 12 = .ok (.astore_n 3, 1) := by decide +kernel
theorem dL_needed_13 : decode cL_needed 13 = .ok (.iconst 1, 1) := by decide +kernel
theorem dL_needed_14 : decode cL_needed 14 = .ok (.ireturn, 1) := by decide +kernel
theorem dL_needed_15 : decode cL_needed 15 = .ok (.iconst 0, 1) := by decide +kernel
theorem dL_needed_16 : decode cL_needed 16 = .ok (.ireturn, 1) := by decide +kernel
theorem dL_needing_0 : decode cL_needing 0 = .ok (.aload_n 2, 1) := by decide +kernel
theorem dL_needing_1 : decode cL_needing 1 = .ok (.iconst 0, 1) := by decide +kernel
theorem dL_needing_2 : decode cL_needing 2 = .ok (.aload_n 0, 1) := by decide +kernel
theorem dL_needing_3 : decode cL_needing 3 = .ok (.iload_n 1, 1) := by decide +kernel
theorem dL_needing_4 : decode cL_needing 4 = .ok (.invokevirtual 75, 3) := by decide +kernel
theorem dL_needing_7 : decode cL_needing 7 = .ok (.i2l, 1) := by decide +kernel
theorem dL_needing_8 : decode cL_needing 8 = .ok (.lastore, 1) := by decide +kernel
theorem dL_needing_9 : decode cL_needing 9 = .ok (.goto 9, 3) := by decide +kernel
theorem dL_needing_12 : decode cL_needing 12 = .ok (.astore_n 3, 1) := by decide +kernel
theorem dL_needing_13 : decode cL_needing 13 = .ok (.iconst 1, 1) := by decide +kernel
theorem dL_needing_14 : decode cL_needing 14 = .ok (.ireturn, 1) := by decide +kernel
theorem dL_needing_15 : decode cL_needing 15 = .ok (.astore_n 3, 1) := by decide +kernel
theorem dL_needing_16 : decode cL_needing 16 = .ok (.iconst 2, 1) := by decide +kernel
theorem dL_needing_17 : decode cL_needing 17 = .ok (.ireturn, 1) := by decide +kernel
theorem dL_needing_18 : decode cL_needing 18 = .ok (.iconst 0, 1) := by decide +kernel
theorem dL_needing_19 : decode cL_needing 19 = .ok (.ireturn, 1) := by decide +kernel
theorem dL_steps_0 : decode cL_steps 0 = .ok (.aload_n 3, 1) := by decide +kernel
theorem dL_steps_1 : decode cL_steps 1 = .ok (.iconst 0, 1) := by decide +kernel
theorem dL_steps_2 : decode cL_steps 2 = .ok (.aload_n 0, 1) := by decide +kernel
theorem dL_steps_3 : decode cL_steps 3 = .ok (.iload_n 1, 1) := by decide +kernel
theorem dL_steps_4 : decode cL_steps 4 = .ok (.iload_n 2, 1) := by decide +kernel
theorem dL_steps_5 : decode cL_steps 5 = .ok (.invokevirtual 78, 3) := by decide +kernel
theorem dL_steps_8 : decode cL_steps 8 = .ok (.i2l, 1) := by decide +kernel
theorem dL_steps_9 : decode cL_steps 9 = .ok (.lastore, 1) := by decide +kernel
theorem dL_steps_10 : decode cL_steps 10 = .ok (.goto 7, 3) := by decide +kernel
theorem dL_steps_13 : decode cL_steps 13 = .ok (.astore 4, 2) := by decide +kernel
theorem dL_steps_15 : decode cL_steps 15 = .ok (.iconst 1, 1) := by decide +kernel
theorem dL_steps_16 : decode cL_steps 16 = .ok (.ireturn, 1) := by decide +kernel
theorem dL_steps_17 : decode cL_steps 17 = .ok (.iconst 0, 1) := by decide +kernel
theorem dL_steps_18 : decode cL_steps 18 = .ok (.ireturn, 1) := by decide +kernel
theorem dL_bisect_0 : decode cL_bisect 0 = .ok (.aload_n 2, 1) := by decide +kernel
theorem dL_bisect_1 : decode cL_bisect 1 = .ok (.iconst 0, 1) := by decide +kernel
theorem dL_bisect_2 : decode cL_bisect 2 = .ok (.aload_n 0, 1) := by decide +kernel
theorem dL_bisect_3 : decode cL_bisect 3 = .ok (.iload_n 1, 1) := by decide +kernel
theorem dL_bisect_4 : decode cL_bisect 4 = .ok (.invokevirtual 81, 3) := by decide +kernel
theorem dL_bisect_7 : decode cL_bisect 7 = .ok (.i2l, 1) := by decide +kernel
theorem dL_bisect_8 : decode cL_bisect 8 = .ok (.lastore, 1) := by decide +kernel
theorem dL_bisect_9 : decode cL_bisect 9 = .ok (.goto 6, 3) := by decide +kernel
theorem dL_bisect_12 : decode cL_bisect 12 = .ok (.astore_n 3, 1) := by decide +kernel
theorem dL_bisect_13 : decode cL_bisect 13 = .ok (.iconst 1, 1) := by decide +kernel
theorem dL_bisect_14 : decode cL_bisect 14 = .ok (.ireturn, 1) := by decide +kernel
theorem dL_bisect_15 : decode cL_bisect 15 = .ok (.iconst 0, 1) := by decide +kernel
theorem dL_bisect_16 : decode cL_bisect 16 = .ok (.ireturn, 1) := by decide +kernel

