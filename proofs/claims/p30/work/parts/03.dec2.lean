theorem dX10_returnCloth_5 : decode cX10_returnCloth 5 = .ok (.getfield 19, 3) := by decide +kernel
theorem dX10_returnCloth_8 : decode cX10_returnCloth 8 = .ok (.invokevirtual 173, 3) := by decide +kernel
theorem dX10_returnCloth_11 : decode cX10_returnCloth 11 = .ok (.aload_n 0, 1) := by decide +kernel
theorem dX10_returnCloth_12 : decode cX10_returnCloth 12 = .ok (.getfield 19, 3) := by decide +kernel
theorem dX10_returnCloth_15 : decode cX10_returnCloth 15 = .ok (.invokevirtual 222, 3) := by decide +kernel
theorem dX10_returnCloth_18 : decode cX10_returnCloth 18 = .ok (.ireturn, 1) := by decide +kernel
theorem dX10_undo_0 : decode cX10_undo 0 = .ok (.aload_n 0, 1) := by decide +kernel
theorem dX10_undo_1 : decode cX10_undo 1 = .ok (.getfield 29, 3) := by decide +kernel
theorem dX10_undo_4 : decode cX10_undo 4 = .ok (.getfield 225, 3) := by decide +kernel
theorem dX10_undo_7 : decode cX10_undo 7 = .ok (.ifCond .le 7, 3) := by decide +kernel
theorem dX10_undo_10 : decode cX10_undo 10 = .ok (.iconst 1, 1) := by decide +kernel
theorem dX10_undo_11 : decode cX10_undo 11 = .ok (.goto 4, 3) := by decide +kernel
theorem dX10_undo_14 : decode cX10_undo 14 = .ok (.iconst 0, 1) := by decide +kernel
theorem dX10_undo_15 : decode cX10_undo 15 = .ok (.invokestatic 52, 3) := by decide +kernel
theorem dX10_undo_18 : decode cX10_undo 18 = .ok (.aload_n 0, 1) := by decide +kernel
theorem dX10_undo_19 : decode cX10_undo 19 = .ok (.getfield 29, 3) := by decide +kernel
theorem dX10_undo_22 : decode cX10_undo 22 = .ok (.aload_n 0, 1) := by decide +kernel
theorem dX10_undo_23 : decode cX10_undo 23 = .ok (.getfield 19, 3) := by decide +kernel
theorem dX10_undo_26 : decode cX10_undo 26 = .ok (.invokevirtual 228, 3) := by decide +kernel
theorem dX10_undo_29 : decode cX10_undo 29 = .ok (.ireturn, 1) := by decide +kernel
theorem dX10_canFinish_0 : decode cX10_canFinish 0 = .ok (.iconst 0, 1) := by decide +kernel
theorem dX10_canFinish_1 : decode cX10_canFinish 1 = .ok (.istore_n 1, 1) := by decide +kernel
theorem dX10_canFinish_2 : decode cX10_canFinish 2 = .ok (.iconst 1, 1) := by decide +kernel
theorem dX10_canFinish_3 : decode cX10_canFinish 3 = .ok (.istore_n 2, 1) := by decide +kernel
theorem dX10_canFinish_4 : decode cX10_canFinish 4 = .ok (.iload_n 2, 1) := by decide +kernel
theorem dX10_canFinish_5 : decode cX10_canFinish 5 = .ok (.bipush 7, 2) := by decide +kernel
theorem dX10_canFinish_7 : decode cX10_canFinish 7 = .ok (.if_icmp .gt 33, 3) := by decide +kernel
theorem dX10_canFinish_10 : decode cX10_canFinish 10 = .ok (.iload_n 2, 1) := by decide +kernel
theorem dX10_canFinish_11 : decode cX10_canFinish 11 = .ok (.invokestatic 235, 3) := by decide +kernel
theorem dX10_canFinish_14 : decode cX10_canFinish 14 = .ok (.iload_n 1, 1) := by decide +kernel
theorem dX10_canFinish_15 : decode cX10_canFinish 15 = .ok (.invokestatic 235, 3) := by decide +kernel
theorem dX10_canFinish_18 : decode cX10_canFinish 18 = .ok (.if_icmp .le 16, 3) := by decide +kernel
theorem dX10_canFinish_21 : decode cX10_canFinish 21 = .ok (.aload_n 0, 1) := by decide +kernel
theorem dX10_canFinish_22 : decode cX10_canFinish 22 = .ok (.getfield 19, 3) := by decide +kernel
theorem dX10_canFinish_25 : decode cX10_canFinish 25 = .ok (.iload_n 2, 1) := by decide +kernel
theorem dX10_canFinish_26 : decode cX10_canFinish 26 = .ok (.invokevirtual 240, 3) := by decide +kernel
theorem dX10_canFinish_29 : decode cX10_canFinish 29 = .ok (.ifCond .eq 5, 3) := by decide +kernel
theorem dX10_canFinish_32 : decode cX10_canFinish 32 = .ok (.iload_n 2, 1) := by decide +kernel
theorem dX10_canFinish_33 : decode cX10_canFinish 33 = .ok (.istore_n 1, 1) := by decide +kernel
theorem dX10_canFinish_34 : decode cX10_canFinish 34 = .ok (.iinc 2 1, 3) := by decide +kernel
theorem dX10_canFinish_37 : decode cX10_canFinish 37 = .ok (.goto (-33), 3) := by decide +kernel
theorem dX10_canFinish_40 : decode cX10_canFinish 40 = .ok (.iload_n 1, 1) := by decide +kernel
theorem dX10_canFinish_41 : decode cX10_canFinish 41 = .ok (.ireturn, 1) := by decide +kernel
theorem dX10_wouldGet_0 : decode cX10_wouldGet 0 = .ok (.aload_n 0, 1) := by decide +kernel
theorem dX10_wouldGet_1 : decode cX10_wouldGet 1 = .ok (.iload_n 1, 1) := by decide +kernel
theorem dX10_wouldGet_2 : decode cX10_wouldGet 2 = .ok (.invokevirtual 123, 3) := by decide +kernel
theorem dX10_wouldGet_5 : decode cX10_wouldGet 5 = .ok (.astore 4, 2) := by decide +kernel
theorem dX10_wouldGet_7 : decode cX10_wouldGet 7 = .ok (.aload_n 0, 1) := by decide +kernel
theorem dX10_wouldGet_8 : decode cX10_wouldGet 8 = .ok (.iload_n 2, 1) := by decide +kernel
theorem dX10_wouldGet_9 : decode cX10_wouldGet 9 = .ok (.invokevirtual 91, 3) := by decide +kernel
theorem dX10_wouldGet_12 : decode cX10_wouldGet 12 = .ok (.pop, 1) := by decide +kernel
theorem dX10_wouldGet_13 : decode cX10_wouldGet 13 = .ok (.iload_n 3, 1) := by decide +kernel
theorem dX10_wouldGet_14 : decode cX10_wouldGet 14 = .ok (.iconst 0, 1) := by decide +kernel
theorem dX10_wouldGet_15 : decode cX10_wouldGet 15 = .ok (.sipush 9999, 3) := by decide +kernel
theorem dX10_wouldGet_18 : decode cX10_wouldGet 18 = .ok (.invokestatic 44, 3) := by decide +kernel
theorem dX10_wouldGet_21 : decode cX10_wouldGet 21 = .ok (.aload 4, 2) := by decide +kernel
theorem dX10_wouldGet_23 : decode cX10_wouldGet 23 = .ok (.invokevirtual 216, 3) := by decide +kernel
theorem dX10_wouldGet_26 : decode cX10_wouldGet 26 = .ok (.ifCond .eq 13, 3) := by decide +kernel
theorem dX10_wouldGet_29 : decode cX10_wouldGet 29 = .ok (.aload 4, 2) := by decide +kernel
theorem dX10_wouldGet_31 : decode cX10_wouldGet 31 = .ok (.iload_n 2, 1) := by decide +kernel
theorem dX10_wouldGet_32 : decode cX10_wouldGet 32 = .ok (.iload_n 3, 1) := by decide +kernel
theorem dX10_wouldGet_33 : decode cX10_wouldGet 33 = .ok (.invokevirtual 244, 3) := by decide +kernel
theorem dX10_wouldGet_36 : decode cX10_wouldGet 36 = .ok (.goto 5, 3) := by decide +kernel
theorem dX10_wouldGet_39 : decode cX10_wouldGet 39 = .ok (.bipush (-9), 2) := by decide +kernel
theorem dX10_wouldGet_41 : decode cX10_wouldGet 41 = .ok (.ireturn, 1) := by decide +kernel
theorem dX10_becomes_0 : decode cX10_becomes 0 = .ok (.aload_n 0, 1) := by decide +kernel
theorem dX10_becomes_1 : decode cX10_becomes 1 = .ok (.iload_n 1, 1) := by decide +kernel
theorem dX10_becomes_2 : decode cX10_becomes 2 = .ok (.invokevirtual 123, 3) := by decide +kernel
theorem dX10_becomes_5 : decode cX10_becomes 5 = .ok (.getfield 127, 3) := by decide +kernel
theorem dX10_becomes_8 : decode cX10_becomes 8 = .ok (.astore_n 3, 1) := by decide +kernel
theorem dX10_becomes_9 : decode cX10_becomes 9 = .ok (.aload_n 0, 1) := by decide +kernel
theorem dX10_becomes_10 : decode cX10_becomes 10 = .ok (.iload_n 2, 1) := by decide +kernel
theorem dX10_becomes_11 : decode cX10_becomes 11 = .ok (.invokevirtual 123, 3) := by decide +kernel
theorem dX10_becomes_14 : decode cX10_becomes 14 = .ok (.getfield 127, 3) := by decide +kernel
theorem dX10_becomes_17 : decode cX10_becomes 17 = .ok (.astore 4, 2) := by decide +kernel
theorem dX10_becomes_19 : decode cX10_becomes 19 = .ok (.aload_n 3, 1) := by decide +kernel
theorem dX10_becomes_20 : decode cX10_becomes 20 = .ok (.ifnull 8, 3) := by decide +kernel
theorem dX10_becomes_23 : decode cX10_becomes 23 = .ok (.aload 4, 2) := by decide +kernel
theorem dX10_becomes_25 : decode cX10_becomes 25 = .ok (.ifnonnull 6, 3) := by decide +kernel
theorem dX10_becomes_28 : decode cX10_becomes 28 = .ok (.bipush (-9), 2) := by decide +kernel
theorem dX10_becomes_30 : decode cX10_becomes 30 = .ok (.ireturn, 1) := by decide +kernel
theorem dX10_becomes_31 : decode cX10_becomes 31 = .ok (.iconst 0, 1) := by decide +kernel
theorem dX10_becomes_32 : decode cX10_becomes 32 = .ok (.istore 5, 2) := by decide +kernel
theorem dX10_becomes_34 : decode cX10_becomes 34 = .ok (.iload 5, 2) := by decide +kernel
theorem dX10_becomes_36 : decode cX10_becomes 36 = .ok (.bipush 8, 2) := by decide +kernel
theorem dX10_becomes_38 : decode cX10_becomes 38 = .ok (.if_icmp .ge 23, 3) := by decide +kernel
theorem dX10_becomes_41 : decode cX10_becomes 41 = .ok (.aload_n 3, 1) := by decide +kernel
theorem dX10_becomes_42 : decode cX10_becomes 42 = .ok (.iload 5, 2) := by decide +kernel
theorem dX10_becomes_44 : decode cX10_becomes 44 = .ok (.aload 4, 2) := by decide +kernel
theorem dX10_becomes_46 : decode cX10_becomes 46 = .ok (.invokevirtual 169, 3) := by decide +kernel
theorem dX10_becomes_49 : decode cX10_becomes 49 = .ok (.ifCond .eq 6, 3) := by decide +kernel
theorem dX10_becomes_52 : decode cX10_becomes 52 = .ok (.iload 5, 2) := by decide +kernel
theorem dX10_becomes_54 : decode cX10_becomes 54 = .ok (.ireturn, 1) := by decide +kernel
theorem dX10_becomes_55 : decode cX10_becomes 55 = .ok (.iinc 5 1, 3) := by decide +kernel
theorem dX10_becomes_58 : decode cX10_becomes 58 = .ok (.goto (-24), 3) := by decide +kernel
theorem dX10_becomes_61 : decode cX10_becomes 61 = .ok (.bipush (-9), 2) := by decide +kernel
theorem dX10_becomes_63 : decode cX10_becomes 63 = .ok (.ireturn, 1) := by decide +kernel
theorem dX10_save_0 : decode cX10_save 0 = .ok (.iload_n 1, 1) := by decide +kernel
theorem dX10_save_1 : decode cX10_save 1 = .ok (.invokestatic 274, 3) := by decide +kernel
theorem dX10_save_4 : decode cX10_save 4 = .ok (.aload_n 0, 1) := by decide +kernel
theorem dX10_save_5 : decode cX10_save 5 = .ok (.getfield 33, 3) := by decide +kernel
theorem dX10_save_8 : decode cX10_save 8 = .ok (.iload_n 1, 1) := by decide +kernel
theorem dX10_save_9 : decode cX10_save 9 = .ok (.aload_n 0, 1) := by decide +kernel
theorem dX10_save_10 : decode cX10_save 10 = .ok (.getfield 19, 3) := by decide +kernel
theorem dX10_save_13 : decode cX10_save 13 = .ok (.invokestatic 278, 3) := by decide +kernel
theorem dX10_save_16 : decode cX10_save 16 = .ok (.aload_n 0, 1) := by decide +kernel
theorem dX10_save_17 : decode cX10_save 17 = .ok (.getfield 19, 3) := by decide +kernel
theorem dX10_save_20 : decode cX10_save 20 = .ok (.getfield 67, 3) := by decide +kernel
theorem dX10_save_23 : decode cX10_save 23 = .ok (.ireturn, 1) := by decide +kernel
theorem dX10_restore_0 : decode cX10_restore 0 = .ok (.iload_n 1, 1) := by decide +kernel
theorem dX10_restore_1 : decode cX10_restore 1 = .ok (.invokestatic 274, 3) := by decide +kernel
theorem dX10_restore_4 : decode cX10_restore 4 = .ok (.aload_n 0, 1) := by decide +kernel
theorem dX10_restore_5 : decode cX10_restore 5 = .ok (.getfield 33, 3) := by decide +kernel
theorem dX10_restore_8 : decode cX10_restore 8 = .ok (.iload_n 1, 1) := by decide +kernel
theorem dX10_restore_9 : decode cX10_restore 9 = .ok (.invokestatic 282, 3) := by decide +kernel
theorem dX10_restore_12 : decode cX10_restore 12 = .ok (.astore_n 2, 1) := by decide +kernel
theorem dX10_restore_13 : decode cX10_restore 13 = .ok (.aload_n 2, 1) := by decide +kernel
theorem dX10_restore_14 : decode cX10_restore 14 = .ok (.ifnull 7, 3) := by decide +kernel
theorem dX10_restore_17 : decode cX10_restore 17 = .ok (.iconst 1, 1) := by decide +kernel
theorem dX10_restore_18 : decode cX10_restore 18 = .ok (.goto 4, 3) := by decide +kernel
theorem dX10_restore_21 : decode cX10_restore 21 = .ok (.iconst 0, 1) := by decide +kernel
theorem dX10_restore_22 : decode cX10_restore 22 = .ok (.invokestatic 52, 3) := by decide +kernel
theorem dX10_restore_25 : decode cX10_restore 25 = .ok (.aload_n 0, 1) := by decide +kernel
theorem dX10_restore_26 : decode cX10_restore 26 = .ok (.getfield 19, 3) := by decide +kernel
theorem dX10_restore_29 : decode cX10_restore 29 = .ok (.aload_n 2, 1) := by decide +kernel
theorem dX10_restore_30 : decode cX10_restore 30 = .ok (.invokevirtual 251, 3) := by decide +kernel
theorem dX10_restore_33 : decode cX10_restore 33 = .ok (.aload_n 0, 1) := by decide +kernel
theorem dX10_restore_34 : decode cX10_restore 34 = .ok (.getfield 29, 3) := by decide +kernel
theorem dX10_restore_37 : decode cX10_restore 37 = .ok (.invokevirtual 286, 3) := by decide +kernel
theorem dX10_restore_40 : decode cX10_restore 40 = .ok (.aload_n 0, 1) := by decide +kernel
theorem dX10_restore_41 : decode cX10_restore 41 = .ok (.getfield 19, 3) := by decide +kernel
theorem dX10_restore_44 : decode cX10_restore 44 = .ok (.getfield 67, 3) := by decide +kernel
theorem dX10_restore_47 : decode cX10_restore 47 = .ok (.ireturn, 1) := by decide +kernel
theorem dX10_requireArgument_0 : decode cX10_requireArgument 0 = .ok (.iload_n 0, 1) := by decide +kernel
theorem dX10_requireArgument_1 : decode cX10_requireArgument 1 = .ok (.ifCond .ne 11, 3) := by decide +kernel
theorem dX10_requireArgument_4 : decode cX10_requireArgument 4 = .ok (.new 289, 3) := by decide +kernel
theorem dX10_requireArgument_7 : decode cX10_requireArgument 7 = .ok (.dup, 1) := by decide +kernel
theorem dX10_requireArgument_8 : decode cX10_requireArgument 8 = .ok (.invokespecial 291, 3) := by decide +kernel
theorem dX10_requireArgument_11 : decode cX10_requireArgument 11 = .ok (.athrow, 1) := by decide +kernel
theorem dX10_requireArgument_12 : decode cX10_requireArgument 12 = .ok (.return_, 1) := by decide +kernel
theorem dX10_requireRange_0 : decode cX10_requireRange 0 = .ok (.iload_n 0, 1) := by decide +kernel
theorem dX10_requireRange_1 : decode cX10_requireRange 1 = .ok (.iload_n 1, 1) := by decide +kernel
theorem dX10_requireRange_2 : decode cX10_requireRange 2 = .ok (.if_icmp .lt 12, 3) := by decide +kernel
theorem dX10_requireRange_5 : decode cX10_requireRange 5 = .ok (.iload_n 0, 1) := by decide +kernel
theorem dX10_requireRange_6 : decode cX10_requireRange 6 = .ok (.iload_n 2, 1) := by decide +kernel
theorem dX10_requireRange_7 : decode cX10_requireRange 7 = .ok (.if_icmp .gt 7, 3) := by decide +kernel
theorem dX10_requireRange_10 : decode cX10_requireRange 10 = .ok (.iconst 1, 1) := by decide +kernel
theorem dX10_requireRange_11 : decode cX10_requireRange 11 = .ok (.goto 4, 3) := by decide +kernel
theorem dX10_requireRange_14 : decode cX10_requireRange 14 = .ok (.iconst 0, 1) := by decide +kernel
theorem dX10_requireRange_15 : decode cX10_requireRange 15 = .ok (.invokestatic 155, 3) := by decide +kernel
theorem dX10_requireRange_18 : decode cX10_requireRange 18 = .ok (.return_, 1) := by decide +kernel
theorem dX10_requireState_0 : decode cX10_requireState 0 = .ok (.iload_n 0, 1) := by decide +kernel
theorem dX10_requireState_1 : decode cX10_requireState 1 = .ok (.ifCond .ne 11, 3) := by decide +kernel
theorem dX10_requireState_4 : decode cX10_requireState 4 = .ok (.new 292, 3) := by decide +kernel
theorem dX10_requireState_7 : decode cX10_requireState 7 = .ok (.dup, 1) := by decide +kernel
theorem dX10_requireState_8 : decode cX10_requireState 8 = .ok (.invokespecial 294, 3) := by decide +kernel
theorem dX10_requireState_11 : decode cX10_requireState 11 = .ok (.athrow, 1) := by decide +kernel
theorem dX10_requireState_12 : decode cX10_requireState 12 = .ok (.return_, 1) := by decide +kernel
theorem dX10_requireSlot_0 : decode cX10_requireSlot 0 = .ok (.iload_n 0, 1) := by decide +kernel
theorem dX10_requireSlot_1 : decode cX10_requireSlot 1 = .ok (.ifCond .lt 8, 3) := by decide +kernel
theorem dX10_requireSlot_4 : decode cX10_requireSlot 4 = .ok (.iload_n 0, 1) := by decide +kernel
theorem dX10_requireSlot_5 : decode cX10_requireSlot 5 = .ok (.iconst 2, 1) := by decide +kernel
theorem dX10_requireSlot_6 : decode cX10_requireSlot 6 = .ok (.if_icmp .lt 11, 3) := by decide +kernel
theorem dX10_requireSlot_9 : decode cX10_requireSlot 9 = .ok (.new 295, 3) := by decide +kernel
theorem dX10_requireSlot_12 : decode cX10_requireSlot 12 = .ok (.dup, 1) := by decide +kernel
theorem dX10_requireSlot_13 : decode cX10_requireSlot 13 = .ok (.invokespecial 297, 3) := by decide +kernel
theorem dX10_requireSlot_16 : decode cX10_requireSlot 16 = .ok (.athrow, 1) := by decide +kernel
theorem dX10_requireSlot_17 : decode cX10_requireSlot 17 = .ok (.return_, 1) := by decide +kernel
theorem dX10_existingMember_0 : decode cX10_existingMember 0 = .ok (.aload_n 0, 1) := by decide +kernel
theorem dX10_existingMember_1 : decode cX10_existingMember 1 = .ok (.getfield 19, 3) := by decide +kernel
theorem dX10_existingMember_4 : decode cX10_existingMember 4 = .ok (.iload_n 1, 1) := by decide +kernel
theorem dX10_existingMember_5 : decode cX10_existingMember 5 = .ok (.invokevirtual 298, 3) := by decide +kernel
theorem dX10_existingMember_8 : decode cX10_existingMember 8 = .ok (.astore_n 2, 1) := by decide +kernel
theorem dX10_existingMember_9 : decode cX10_existingMember 9 = .ok (.aload_n 2, 1) := by decide +kernel
theorem dX10_existingMember_10 : decode cX10_existingMember 10 = .ok (.ifnonnull 11, 3) := by decide +kernel
theorem dX10_existingMember_13 : decode cX10_existingMember 13 = .ok (.new 295, 3) := by decide +kernel
theorem dX10_existingMember_16 : decode cX10_existingMember 16 = .ok (.dup, 1) := by decide +kernel
theorem dX10_existingMember_17 : decode cX10_existingMember 17 = .ok (.invokespecial 297, 3) := by decide +kernel
theorem dX10_existingMember_20 : decode cX10_existingMember 20 = .ok (.athrow, 1) := by decide +kernel
theorem dX10_existingMember_21 : decode cX10_existingMember 21 = .ok (.aload_n 2, 1) := by decide +kernel
theorem dX10_existingMember_22 : decode cX10_existingMember 22 = .ok (.areturn, 1) := by decide +kernel
theorem dX10_existingCloth_0 : decode cX10_existingCloth 0 = .ok (.aload_n 0, 1) := by decide +kernel
theorem dX10_existingCloth_1 : decode cX10_existingCloth 1 = .ok (.getfield 19, 3) := by decide +kernel
theorem dX10_existingCloth_4 : decode cX10_existingCloth 4 = .ok (.iload_n 1, 1) := by decide +kernel
theorem dX10_existingCloth_5 : decode cX10_existingCloth 5 = .ok (.invokevirtual 301, 3) := by decide +kernel
theorem dX10_existingCloth_8 : decode cX10_existingCloth 8 = .ok (.astore_n 2, 1) := by decide +kernel
theorem dX10_existingCloth_9 : decode cX10_existingCloth 9 = .ok (.aload_n 2, 1) := by decide +kernel
theorem dX10_existingCloth_10 : decode cX10_existingCloth 10 = .ok (.ifnonnull 11, 3) := by decide +kernel
theorem dX10_existingCloth_13 : decode cX10_existingCloth 13 = .ok (.new 295, 3) := by decide +kernel
theorem dX10_existingCloth_16 : decode cX10_existingCloth 16 = .ok (.dup, 1) := by decide +kernel
theorem dX10_existingCloth_17 : decode cX10_existingCloth 17 = .ok (.invokespecial 297, 3) := by decide +kernel
theorem dX10_existingCloth_20 : decode cX10_existingCloth 20 = .ok (.athrow, 1) := by decide +kernel
theorem dX10_existingCloth_21 : decode cX10_existingCloth 21 = .ok (.aload_n 2, 1) := by decide +kernel
theorem dX10_existingCloth_22 : decode cX10_existingCloth 22 = .ok (.areturn, 1) := by decide +kernel
theorem dX10_existingFrame_0 : decode cX10_existingFrame 0 = .ok (.aload_n 0, 1) := by decide +kernel
theorem dX10_existingFrame_1 : decode cX10_existingFrame 1 = .ok (.getfield 19, 3) := by decide +kernel
theorem dX10_existingFrame_4 : decode cX10_existingFrame 4 = .ok (.iload_n 1, 1) := by decide +kernel
theorem dX10_existingFrame_5 : decode cX10_existingFrame 5 = .ok (.invokevirtual 304, 3) := by decide +kernel
theorem dX10_existingFrame_8 : decode cX10_existingFrame 8 = .ok (.astore_n 2, 1) := by decide +kernel
theorem dX10_existingFrame_9 : decode cX10_existingFrame 9 = .ok (.aload_n 2, 1) := by decide +kernel
theorem dX10_existingFrame_10 : decode cX10_existingFrame 10 = .ok (.ifnonnull 11, 3) := by decide +kernel
theorem dX10_existingFrame_13 : decode cX10_existingFrame 13 = .ok (.new 295, 3) := by decide +kernel
theorem dX10_existingFrame_16 : decode cX10_existingFrame 16 = .ok (.dup, 1) := by decide +kernel
theorem dX10_existingFrame_17 : decode cX10_existingFrame 17 = .ok (.invokespecial 297, 3) := by decide +kernel
theorem dX10_existingFrame_20 : decode cX10_existingFrame 20 = .ok (.athrow, 1) := by decide +kernel
theorem dX10_existingFrame_21 : decode cX10_existingFrame 21 = .ok (.aload_n 2, 1) := by decide +kernel
theorem dX10_existingFrame_22 : decode cX10_existingFrame 22 = .ok (.areturn, 1) := by decide +kernel
theorem dJ6_bitCount_0f7a4_0 : decode cJ6_bitCount_0f7a4 0 = .ok (.iload_n 0, 1) := by decide +kernel
theorem dJ6_bitCount_0f7a4_1 : decode cJ6_bitCount_0f7a4 1 = .ok (.iload_n 0, 1) := by decide +kernel
theorem dJ6_bitCount_0f7a4_2 : decode cJ6_bitCount_0f7a4 2 = .ok (.iconst 1, 1) := by decide +kernel
theorem dJ6_bitCount_0f7a4_3 : decode cJ6_bitCount_0f7a4 3 = .ok (.iushr, 1) := by decide +kernel
theorem dJ6_bitCount_0f7a4_4 : decode cJ6_bitCount_0f7a4 4 = .ok (.ldc_w 265, 3) := by decide +kernel
theorem dJ6_bitCount_0f7a4_7 : decode cJ6_bitCount_0f7a4 7 = .ok (.iand, 1) := by decide +kernel
theorem dJ6_bitCount_0f7a4_8 : decode cJ6_bitCount_0f7a4 8 = .ok (.isub, 1) := by decide +kernel
theorem dJ6_bitCount_0f7a4_9 : decode cJ6_bitCount_0f7a4 9 = .ok (.istore_n 0, 1) := by decide +kernel
theorem dJ6_bitCount_0f7a4_10 : decode cJ6_bitCount_0f7a4 10 = .ok (.iload_n 0, 1) := by decide +kernel
theorem dJ6_bitCount_0f7a4_11 : decode cJ6_bitCount_0f7a4 11 = .ok (.ldc_w 266, 3) := by decide +kernel
theorem dJ6_bitCount_0f7a4_14 : decode cJ6_bitCount_0f7a4 14 = .ok (.iand, 1) := by decide +kernel
theorem dJ6_bitCount_0f7a4_15 : decode cJ6_bitCount_0f7a4 15 = .ok (.iload_n 0, 1) := by decide +kernel
theorem dJ6_bitCount_0f7a4_16 : decode cJ6_bitCount_0f7a4 16 = .ok (.iconst 2, 1) := by decide +kernel
theorem dJ6_bitCount_0f7a4_17 : decode cJ6_bitCount_0f7a4 17 = .ok (.iushr, 1) := by decide +kernel
theorem dJ6_bitCount_0f7a4_18 : decode cJ6_bitCount_0f7a4 18 = .ok (.ldc_w 266, 3) := by decide +kernel
theorem dJ6_bitCount_0f7a4_21 : decode cJ6_bitCount_0f7a4 21 = .ok (.iand, 1) := by decide +kernel
theorem dJ6_bitCount_0f7a4_22 : decode cJ6_bitCount_0f7a4 22 = .ok (.iadd, 1) := by decide +kernel
theorem dJ6_bitCount_0f7a4_23 : decode cJ6_bitCount_0f7a4 23 = .ok (.istore_n 0, 1) := by decide +kernel
theorem dJ6_bitCount_0f7a4_24 : decode cJ6_bitCount_0f7a4 24 = .ok (.iload_n 0, 1) := by decide +kernel
theorem dJ6_bitCount_0f7a4_25 : decode cJ6_bitCount_0f7a4 25 = .ok (.iload_n 0, 1) := by decide +kernel
theorem dJ6_bitCount_0f7a4_26 : decode cJ6_bitCount_0f7a4 26 = .ok (.iconst 4, 1) := by decide +kernel
theorem dJ6_bitCount_0f7a4_27 : decode cJ6_bitCount_0f7a4 27 = .ok (.iushr, 1) := by decide +kernel
theorem dJ6_bitCount_0f7a4_28 : decode cJ6_bitCount_0f7a4 28 = .ok (.iadd, 1) := by decide +kernel
theorem dJ6_bitCount_0f7a4_29 : decode cJ6_bitCount_0f7a4 29 = .ok (.ldc_w 267, 3) := by decide +kernel
theorem dJ6_bitCount_0f7a4_32 : decode cJ6_bitCount_0f7a4 32 = .ok (.iand, 1) := by decide +kernel
theorem dJ6_bitCount_0f7a4_33 : decode cJ6_bitCount_0f7a4 33 = .ok (.istore_n 0, 1) := by decide +kernel
theorem dJ6_bitCount_0f7a4_34 : decode cJ6_bitCount_0f7a4 34 = .ok (.iload_n 0, 1) := by decide +kernel
theorem dJ6_bitCount_0f7a4_35 : decode cJ6_bitCount_0f7a4 35 = .ok (.iload_n 0, 1) := by decide +kernel
theorem dJ6_bitCount_0f7a4_36 : decode cJ6_bitCount_0f7a4 36 = .ok (.bipush 8, 2) := by decide +kernel
theorem dJ6_bitCount_0f7a4_38 : decode cJ6_bitCount_0f7a4 38 = .ok (.iushr, 1) := by decide +kernel
theorem dJ6_bitCount_0f7a4_39 : decode cJ6_bitCount_0f7a4 39 = .ok (.iadd, 1) := by decide +kernel
theorem dJ6_bitCount_0f7a4_40 : decode cJ6_bitCount_0f7a4 40 = .ok (.istore_n 0, 1) := by decide +kernel
theorem dJ6_bitCount_0f7a4_41 : decode cJ6_bitCount_0f7a4 41 = .ok (.iload_n 0, 1) := by decide +kernel
theorem dJ6_bitCount_0f7a4_42 : decode cJ6_bitCount_0f7a4 42 = .ok (.iload_n 0, 1) := by decide +kernel
theorem dJ6_bitCount_0f7a4_43 : decode cJ6_bitCount_0f7a4 43 = .ok (.bipush 16, 2) := by decide +kernel
theorem dJ6_bitCount_0f7a4_45 : decode cJ6_bitCount_0f7a4 45 = .ok (.iushr, 1) := by decide +kernel
theorem dJ6_bitCount_0f7a4_46 : decode cJ6_bitCount_0f7a4 46 = .ok (.iadd, 1) := by decide +kernel
theorem dJ6_bitCount_0f7a4_47 : decode cJ6_bitCount_0f7a4 47 = .ok (.istore_n 0, 1) := by decide +kernel
theorem dJ6_bitCount_0f7a4_48 : decode cJ6_bitCount_0f7a4 48 = .ok (.iload_n 0, 1) := by decide +kernel
theorem dJ6_bitCount_0f7a4_49 : decode cJ6_bitCount_0f7a4 49 = .ok (.bipush 63, 2) := by decide +kernel
theorem dJ6_bitCount_0f7a4_51 : decode cJ6_bitCount_0f7a4 51 = .ok (.iand, 1) := by decide +kernel
theorem dJ6_bitCount_0f7a4_52 : decode cJ6_bitCount_0f7a4 52 = .ok (.ireturn, 1) := by decide +kernel
theorem dJ9_max_7cf53_0 : decode cJ9_max_7cf53 0 = .ok (.iload_n 0, 1) := by decide +kernel
theorem dJ9_max_7cf53_1 : decode cJ9_max_7cf53 1 = .ok (.iload_n 1, 1) := by decide +kernel
theorem dJ9_max_7cf53_2 : decode cJ9_max_7cf53 2 = .ok (.if_icmp .lt 7, 3) := by decide +kernel
theorem dJ9_max_7cf53_5 : decode cJ9_max_7cf53 5 = .ok (.iload_n 0, 1) := by decide +kernel
theorem dJ9_max_7cf53_6 : decode cJ9_max_7cf53 6 = .ok (.goto 4, 3) := by decide +kernel
theorem dJ9_max_7cf53_9 : decode cJ9_max_7cf53 9 = .ok (.iload_n 1, 1) := by decide +kernel
theorem dJ9_max_7cf53_10 : decode cJ9_max_7cf53 10 = .ok (.ireturn, 1) := by decide +kernel
theorem dJ9_min_7cf53_0 : decode cJ9_min_7cf53 0 = .ok (.iload_n 0, 1) := by decide +kernel
theorem dJ9_min_7cf53_1 : decode cJ9_min_7cf53 1 = .ok (.iload_n 1, 1) := by decide +kernel
theorem dJ9_min_7cf53_2 : decode cJ9_min_7cf53 2 = .ok (.if_icmp .gt 7, 3) := by decide +kernel
theorem dJ9_min_7cf53_5 : decode cJ9_min_7cf53 5 = .ok (.iload_n 0, 1) := by decide +kernel
theorem dJ9_min_7cf53_6 : decode cJ9_min_7cf53 6 = .ok (.goto 4, 3) := by decide +kernel
theorem dJ9_min_7cf53_9 : decode cJ9_min_7cf53 9 = .ok (.iload_n 1, 1) := by decide +kernel
theorem dJ9_min_7cf53_10 : decode cJ9_min_7cf53 10 = .ok (.ireturn, 1) := by decide +kernel
theorem dL_cell_0 : decode cL_cell 0 = .ok (.iload_n 1, 1) := by decide +kernel
theorem dL_cell_1 : decode cL_cell 1 = .ok (.aload_n 0, 1) := by decide +kernel
theorem dL_cell_2 : decode cL_cell 2 = .ok (.arraylength, 1) := by decide +kernel
theorem dL_cell_3 : decode cL_cell 3 = .ok (.if_icmp .ge 9, 3) := by decide +kernel
theorem dL_cell_6 : decode cL_cell 6 = .ok (.aload_n 0, 1) := by decide +kernel
theorem dL_cell_7 : decode cL_cell 7 = .ok (.iload_n 1, 1) := by decide +kernel
theorem dL_cell_8 : decode cL_cell 8 = .ok (.iaload, 1) := by decide +kernel
theorem dL_cell_9 : decode cL_cell 9 = .ok (.goto 11, 3) := by decide +kernel
theorem dL_cell_12 : decode cL_cell 12 = .ok (.ldc 7, 2) := by decide +kernel
theorem dL_cell_14 : decode cL_cell 14 = .ok (.iload_n 1, 1) := by decide +kernel
theorem dL_cell_15 : decode cL_cell 15 = .ok (.imul, 1) := by decide +kernel
theorem dL_cell_16 : decode cL_cell 16 = .ok (.sipush 1031, 3) := by decide +kernel
theorem dL_cell_19 : decode cL_cell 19 = .ok (.iadd, 1) := by decide +kernel
theorem dL_cell_20 : decode cL_cell 20 = .ok (.ldc 8, 2) := by decide +kernel
theorem dL_cell_22 : decode cL_cell 22 = .ok (.iand, 1) := by decide +kernel
theorem dL_cell_23 : decode cL_cell 23 = .ok (.ireturn, 1) := by decide +kernel
theorem dL_cloth_0 : decode cL_cloth 0 = .ok (.iconst 0, 1) := by decide +kernel
theorem dL_cloth_1 : decode cL_cloth 1 = .ok (.istore_n 1, 1) := by decide +kernel
theorem dL_cloth_2 : decode cL_cloth 2 = .ok (.iconst 0, 1) := by decide +kernel
theorem dL_cloth_3 : decode cL_cloth 3 = .ok (.istore_n 2, 1) := by decide +kernel
theorem dL_cloth_4 : decode cL_cloth 4 = .ok (.iconst 0, 1) := by decide +kernel
theorem dL_cloth_5 : decode cL_cloth 5 = .ok (.istore_n 3, 1) := by decide +kernel
theorem dL_cloth_6 : decode cL_cloth 6 = .ok (.iconst 1, 1) := by decide +kernel
theorem dL_cloth_7 : decode cL_cloth 7 = .ok (.istore 4, 2) := by decide +kernel
theorem dL_cloth_9 : decode cL_cloth 9 = .ok (.iconst 0, 1) := by decide +kernel
theorem dL_cloth_10 : decode cL_cloth 10 = .ok (.istore 5, 2) := by decide +kernel
theorem dL_cloth_12 : decode cL_cloth 12 = .ok (.iload 5, 2) := by decide +kernel
theorem dL_cloth_14 : decode cL_cloth 14 = .ok (.bipush 6, 2) := by decide +kernel
theorem dL_cloth_16 : decode cL_cloth 16 = .ok (.if_icmp .ge 146, 3) := by decide +kernel
theorem dL_cloth_19 : decode cL_cloth 19 = .ok (.iload_n 1, 1) := by decide +kernel
theorem dL_cloth_20 : decode cL_cloth 20 = .ok (.aload_n 0, 1) := by decide +kernel
theorem dL_cloth_21 : decode cL_cloth 21 = .ok (.iload 5, 2) := by decide +kernel
theorem dL_cloth_23 : decode cL_cloth 23 = .ok (.iconst 0, 1) := by decide +kernel
theorem dL_cloth_24 : decode cL_cloth 24 = .ok (.invokevirtual 9, 3) := by decide +kernel
theorem dL_cloth_27 : decode cL_cloth 27 = .ok (.iadd, 1) := by decide +kernel
theorem dL_cloth_28 : decode cL_cloth 28 = .ok (.istore_n 1, 1) := by decide +kernel
theorem dL_cloth_29 : decode cL_cloth 29 = .ok (.iload_n 2, 1) := by decide +kernel
theorem dL_cloth_30 : decode cL_cloth 30 = .ok (.aload_n 0, 1) := by decide +kernel
theorem dL_cloth_31 : decode cL_cloth 31 = .ok (.iload 5, 2) := by decide +kernel
theorem dL_cloth_33 : decode cL_cloth 33 = .ok (.iconst 3, 1) := by decide +kernel
theorem dL_cloth_34 : decode cL_cloth 34 = .ok (.invokevirtual 9, 3) := by decide +kernel
theorem dL_cloth_37 : decode cL_cloth 37 = .ok (.iadd, 1) := by decide +kernel
theorem dL_cloth_38 : decode cL_cloth 38 = .ok (.istore_n 2, 1) := by decide +kernel
theorem dL_cloth_39 : decode cL_cloth 39 = .ok (.iload_n 3, 1) := by decide +kernel
theorem dL_cloth_40 : decode cL_cloth 40 = .ok (.aload_n 0, 1) := by decide +kernel
theorem dL_cloth_41 : decode cL_cloth 41 = .ok (.iload 5, 2) := by decide +kernel
theorem dL_cloth_43 : decode cL_cloth 43 = .ok (.iconst 4, 1) := by decide +kernel
theorem dL_cloth_44 : decode cL_cloth 44 = .ok (.invokevirtual 9, 3) := by decide +kernel
theorem dL_cloth_47 : decode cL_cloth 47 = .ok (.iadd, 1) := by decide +kernel
theorem dL_cloth_48 : decode cL_cloth 48 = .ok (.istore_n 3, 1) := by decide +kernel
theorem dL_cloth_49 : decode cL_cloth 49 = .ok (.iconst 0, 1) := by decide +kernel
theorem dL_cloth_50 : decode cL_cloth 50 = .ok (.istore 6, 2) := by decide +kernel
theorem dL_cloth_52 : decode cL_cloth 52 = .ok (.iconst 0, 1) := by decide +kernel
theorem dL_cloth_53 : decode cL_cloth 53 = .ok (.istore 7, 2) := by decide +kernel
theorem dL_cloth_55 : decode cL_cloth 55 = .ok (.iload 7, 2) := by decide +kernel
theorem dL_cloth_57 : decode cL_cloth 57 = .ok (.iconst 3, 1) := by decide +kernel
theorem dL_cloth_58 : decode cL_cloth 58 = .ok (.if_icmp .ge 23, 3) := by decide +kernel
theorem dL_cloth_61 : decode cL_cloth 61 = .ok (.iload 6, 2) := by decide +kernel
theorem dL_cloth_63 : decode cL_cloth 63 = .ok (.aload_n 0, 1) := by decide +kernel
theorem dL_cloth_64 : decode cL_cloth 64 = .ok (.iload 7, 2) := by decide +kernel
theorem dL_cloth_66 : decode cL_cloth 66 = .ok (.iload 5, 2) := by decide +kernel
theorem dL_cloth_68 : decode cL_cloth 68 = .ok (.iconst 1, 1) := by decide +kernel
theorem dL_cloth_69 : decode cL_cloth 69 = .ok (.invokevirtual 15, 3) := by decide +kernel
theorem dL_cloth_72 : decode cL_cloth 72 = .ok (.iadd, 1) := by decide +kernel
theorem dL_cloth_73 : decode cL_cloth 73 = .ok (.istore 6, 2) := by decide +kernel
theorem dL_cloth_75 : decode cL_cloth 75 = .ok (.iinc 7 1, 3) := by decide +kernel
theorem dL_cloth_78 : decode cL_cloth 78 = .ok (.goto (-23), 3) := by decide +kernel
theorem dL_cloth_81 : decode cL_cloth 81 = .ok (.iload 4, 2) := by decide +kernel
theorem dL_cloth_83 : decode cL_cloth 83 = .ok (.ifCond .eq 70, 3) := by decide +kernel
theorem dL_cloth_86 : decode cL_cloth 86 = .ok (.aload_n 0, 1) := by decide +kernel
theorem dL_cloth_87 : decode cL_cloth 87 = .ok (.iload 5, 2) := by decide +kernel
theorem dL_cloth_89 : decode cL_cloth 89 = .ok (.iconst 0, 1) := by decide +kernel
theorem dL_cloth_90 : decode cL_cloth 90 = .ok (.invokevirtual 9, 3) := by decide +kernel
theorem dL_cloth_93 : decode cL_cloth 93 = .ok (.ifCond .lt 60, 3) := by decide +kernel
theorem dL_cloth_96 : decode cL_cloth 96 = .ok (.aload_n 0, 1) := by decide +kernel
theorem dL_cloth_97 : decode cL_cloth 97 = .ok (.iload 5, 2) := by decide +kernel
theorem dL_cloth_99 : decode cL_cloth 99 = .ok (.iconst 2, 1) := by decide +kernel
theorem dL_cloth_100 : decode cL_cloth 100 = .ok (.invokevirtual 9, 3) := by decide +kernel
theorem dL_cloth_103 : decode cL_cloth 103 = .ok (.iload 6, 2) := by decide +kernel
theorem dL_cloth_105 : decode cL_cloth 105 = .ok (.if_icmp .lt 48, 3) := by decide +kernel
theorem dL_cloth_108 : decode cL_cloth 108 = .ok (.aload_n 0, 1) := by decide +kernel
theorem dL_cloth_109 : decode cL_cloth 109 = .ok (.iload 5, 2) := by decide +kernel
theorem dL_cloth_111 : decode cL_cloth 111 = .ok (.iconst 1, 1) := by decide +kernel
theorem dL_cloth_112 : decode cL_cloth 112 = .ok (.invokevirtual 9, 3) := by decide +kernel
theorem dL_cloth_115 : decode cL_cloth 115 = .ok (.aload_n 0, 1) := by decide +kernel
theorem dL_cloth_116 : decode cL_cloth 116 = .ok (.iload 5, 2) := by decide +kernel
theorem dL_cloth_118 : decode cL_cloth 118 = .ok (.iconst 0, 1) := by decide +kernel
theorem dL_cloth_119 : decode cL_cloth 119 = .ok (.invokevirtual 9, 3) := by decide +kernel
theorem dL_cloth_122 : decode cL_cloth 122 = .ok (.aload_n 0, 1) := by decide +kernel
theorem dL_cloth_123 : decode cL_cloth 123 = .ok (.iload 5, 2) := by decide +kernel
theorem dL_cloth_125 : decode cL_cloth 125 = .ok (.iconst 2, 1) := by decide +kernel
theorem dL_cloth_126 : decode cL_cloth 126 = .ok (.invokevirtual 9, 3) := by decide +kernel
theorem dL_cloth_129 : decode cL_cloth 129 = .ok (.iadd, 1) := by decide +kernel
theorem dL_cloth_130 : decode cL_cloth 130 = .ok (.aload_n 0, 1) := by decide +kernel
theorem dL_cloth_131 : decode cL_cloth 131 = .ok (.iload 5, 2) := by decide +kernel
theorem dL_cloth_133 : decode cL_cloth 133 = .ok (.iconst 3, 1) := by decide +kernel
theorem dL_cloth_134 : decode cL_cloth 134 = .ok (.invokevirtual 9, 3) := by decide +kernel
theorem dL_cloth_137 : decode cL_cloth 137 = .ok (.iadd, 1) := by decide +kernel
theorem dL_cloth_138 : decode cL_cloth 138 = .ok (.aload_n 0, 1) := by decide +kernel
theorem dL_cloth_139 : decode cL_cloth 139 = .ok (.iload 5, 2) := by decide +kernel
theorem dL_cloth_141 : decode cL_cloth 141 = .ok (.iconst 4, 1) := by decide +kernel
theorem dL_cloth_142 : decode cL_cloth 142 = .ok (.invokevirtual 9, 3) := by decide +kernel
theorem dL_cloth_145 : decode cL_cloth 145 = .ok (.iadd, 1) := by decide +kernel
theorem dL_cloth_146 : decode cL_cloth 146 = .ok (.if_icmp .ne 7, 3) := by decide +kernel
theorem dL_cloth_149 : decode cL_cloth 149 = .ok (.iconst 1, 1) := by decide +kernel
theorem dL_cloth_150 : decode cL_cloth 150 = .ok (.goto 4, 3) := by decide +kernel
theorem dL_cloth_153 : decode cL_cloth 153 = .ok (.iconst 0, 1) := by decide +kernel
theorem dL_cloth_154 : decode cL_cloth 154 = .ok (.istore 4, 2) := by decide +kernel
theorem dL_cloth_156 : decode cL_cloth 156 = .ok (.iinc 5 1, 3) := by decide +kernel
theorem dL_cloth_159 : decode cL_cloth 159 = .ok (.goto (-147), 3) := by decide +kernel
theorem dL_cloth_162 : decode cL_cloth 162 = .ok (.iload 4, 2) := by decide +kernel
theorem dL_cloth_164 : decode cL_cloth 164 = .ok (.ifCond .eq 37, 3) := by decide +kernel
theorem dL_cloth_167 : decode cL_cloth 167 = .ok (.aload_n 0, 1) := by decide +kernel
theorem dL_cloth_168 : decode cL_cloth 168 = .ok (.bipush 6, 2) := by decide +kernel
theorem dL_cloth_170 : decode cL_cloth 170 = .ok (.invokevirtual 19, 3) := by decide +kernel
theorem dL_cloth_173 : decode cL_cloth 173 = .ok (.iload_n 1, 1) := by decide +kernel
theorem dL_cloth_174 : decode cL_cloth 174 = .ok (.if_icmp .ne 27, 3) := by decide +kernel
theorem dL_cloth_177 : decode cL_cloth 177 = .ok (.aload_n 0, 1) := by decide +kernel
theorem dL_cloth_178 : decode cL_cloth 178 = .ok (.bipush 7, 2) := by decide +kernel
theorem dL_cloth_180 : decode cL_cloth 180 = .ok (.invokevirtual 19, 3) := by decide +kernel
theorem dL_cloth_183 : decode cL_cloth 183 = .ok (.iload_n 2, 1) := by decide +kernel
theorem dL_cloth_184 : decode cL_cloth 184 = .ok (.if_icmp .ne 17, 3) := by decide +kernel
theorem dL_cloth_187 : decode cL_cloth 187 = .ok (.aload_n 0, 1) := by decide +kernel
theorem dL_cloth_188 : decode cL_cloth 188 = .ok (.bipush 8, 2) := by decide +kernel
theorem dL_cloth_190 : decode cL_cloth 190 = .ok (.invokevirtual 19, 3) := by decide +kernel
theorem dL_cloth_193 : decode cL_cloth 193 = .ok (.iload_n 3, 1) := by decide +kernel
theorem dL_cloth_194 : decode cL_cloth 194 = .ok (.if_icmp .ne 7, 3) := by decide +kernel
theorem dL_cloth_197 : decode cL_cloth 197 = .ok (.iconst 1, 1) := by decide +kernel
theorem dL_cloth_198 : decode cL_cloth 198 = .ok (.goto 4, 3) := by decide +kernel
theorem dL_cloth_201 : decode cL_cloth 201 = .ok (.iconst 0, 1) := by decide +kernel
theorem dL_cloth_202 : decode cL_cloth 202 = .ok (.ireturn, 1) := by decide +kernel
theorem dL_members_0 : decode cL_members 0 = .ok (.iconst 0, 1) := by decide +kernel
theorem dL_members_1 : decode cL_members 1 = .ok (.istore_n 1, 1) := by decide +kernel
theorem dL_members_2 : decode cL_members 2 = .ok (.iconst 0, 1) := by decide +kernel
theorem dL_members_3 : decode cL_members 3 = .ok (.istore_n 2, 1) := by decide +kernel
theorem dL_members_4 : decode cL_members 4 = .ok (.iconst 0, 1) := by decide +kernel
theorem dL_members_5 : decode cL_members 5 = .ok (.istore_n 3, 1) := by decide +kernel
theorem dL_members_6 : decode cL_members 6 = .ok (.iconst 0, 1) := by decide +kernel
theorem dL_members_7 : decode cL_members 7 = .ok (.istore 4, 2) := by decide +kernel
theorem dL_members_9 : decode cL_members 9 = .ok (.iconst 0, 1) := by decide +kernel
theorem dL_members_10 : decode cL_members 10 = .ok (.istore 5, 2) := by decide +kernel
theorem dL_members_12 : decode cL_members 12 = .ok (.iload 5, 2) := by decide +kernel
theorem dL_members_14 : decode cL_members 14 = .ok (.aload_n 0, 1) := by decide +kernel
theorem dL_members_15 : decode cL_members 15 = .ok (.iconst 0, 1) := by decide +kernel
theorem dL_members_16 : decode cL_members 16 = .ok (.invokevirtual 19, 3) := by decide +kernel
theorem dL_members_19 : decode cL_members 19 = .ok (.if_icmp .ge 39, 3) := by decide +kernel
theorem dL_members_22 : decode cL_members 22 = .ok (.iload_n 1, 1) := by decide +kernel
theorem dL_members_23 : decode cL_members 23 = .ok (.aload_n 0, 1) := by decide +kernel
theorem dL_members_24 : decode cL_members 24 = .ok (.iload 5, 2) := by decide +kernel
theorem dL_members_26 : decode cL_members 26 = .ok (.iconst 1, 1) := by decide +kernel
theorem dL_members_27 : decode cL_members 27 = .ok (.invokevirtual 23, 3) := by decide +kernel
theorem dL_members_30 : decode cL_members 30 = .ok (.iadd, 1) := by decide +kernel
theorem dL_members_31 : decode cL_members 31 = .ok (.istore_n 1, 1) := by decide +kernel
theorem dL_members_32 : decode cL_members 32 = .ok (.iload_n 2, 1) := by decide +kernel
theorem dL_members_33 : decode cL_members 33 = .ok (.aload_n 0, 1) := by decide +kernel
theorem dL_members_34 : decode cL_members 34 = .ok (.iload 5, 2) := by decide +kernel
theorem dL_members_36 : decode cL_members 36 = .ok (.iconst 2, 1) := by decide +kernel
theorem dL_members_37 : decode cL_members 37 = .ok (.invokevirtual 23, 3) := by decide +kernel
theorem dL_members_40 : decode cL_members 40 = .ok (.iadd, 1) := by decide +kernel
theorem dL_members_41 : decode cL_members 41 = .ok (.istore_n 2, 1) := by decide +kernel
theorem dL_members_42 : decode cL_members 42 = .ok (.iload_n 3, 1) := by decide +kernel
theorem dL_members_43 : decode cL_members 43 = .ok (.aload_n 0, 1) := by decide +kernel
theorem dL_members_44 : decode cL_members 44 = .ok (.iload 5, 2) := by decide +kernel
theorem dL_members_46 : decode cL_members 46 = .ok (.iconst 3, 1) := by decide +kernel
theorem dL_members_47 : decode cL_members 47 = .ok (.invokevirtual 23, 3) := by decide +kernel
theorem dL_members_50 : decode cL_members 50 = .ok (.iadd, 1) := by decide +kernel
theorem dL_members_51 : decode cL_members 51 = .ok (.istore_n 3, 1) := by decide +kernel
theorem dL_members_52 : decode cL_members 52 = .ok (.iinc 5 1, 3) := by decide +kernel
theorem dL_members_55 : decode cL_members 55 = .ok (.goto (-43), 3) := by decide +kernel
theorem dL_members_58 : decode cL_members 58 = .ok (.iconst 0, 1) := by decide +kernel
theorem dL_members_59 : decode cL_members 59 = .ok (.istore 5, 2) := by decide +kernel
theorem dL_members_61 : decode cL_members 61 = .ok (.iload 5, 2) := by decide +kernel
theorem dL_members_63 : decode cL_members 63 = .ok (.bipush 6, 2) := by decide +kernel
theorem dL_members_65 : decode cL_members 65 = .ok (.if_icmp .ge 21, 3) := by decide +kernel
theorem dL_members_68 : decode cL_members 68 = .ok (.iload 4, 2) := by decide +kernel
theorem dL_members_70 : decode cL_members 70 = .ok (.aload_n 0, 1) := by decide +kernel
theorem dL_members_71 : decode cL_members 71 = .ok (.iload 5, 2) := by decide +kernel
theorem dL_members_73 : decode cL_members 73 = .ok (.iconst 1, 1) := by decide +kernel
theorem dL_members_74 : decode cL_members 74 = .ok (.invokevirtual 9, 3) := by decide +kernel
theorem dL_members_77 : decode cL_members 77 = .ok (.iadd, 1) := by decide +kernel
theorem dL_members_78 : decode cL_members 78 = .ok (.istore 4, 2) := by decide +kernel
theorem dL_members_80 : decode cL_members 80 = .ok (.iinc 5 1, 3) := by decide +kernel
theorem dL_members_83 : decode cL_members 83 = .ok (.goto (-22), 3) := by decide +kernel
theorem dL_members_86 : decode cL_members 86 = .ok (.iload_n 1, 1) := by decide +kernel
theorem dL_members_87 : decode cL_members 87 = .ok (.aload_n 0, 1) := by decide +kernel
theorem dL_members_88 : decode cL_members 88 = .ok (.iconst 5, 1) := by decide +kernel
theorem dL_members_89 : decode cL_members 89 = .ok (.invokevirtual 19, 3) := by decide +kernel
theorem dL_members_92 : decode cL_members 92 = .ok (.if_icmp .ne 65, 3) := by decide +kernel
theorem dL_members_95 : decode cL_members 95 = .ok (.iload_n 2, 1) := by decide +kernel
theorem dL_members_96 : decode cL_members 96 = .ok (.iload 4, 2) := by decide +kernel
theorem dL_members_98 : decode cL_members 98 = .ok (.if_icmp .ne 59, 3) := by decide +kernel
theorem dL_members_101 : decode cL_members 101 = .ok (.iload_n 3, 1) := by decide +kernel
theorem dL_members_102 : decode cL_members 102 = .ok (.aload_n 0, 1) := by decide +kernel
theorem dL_members_103 : decode cL_members 103 = .ok (.bipush 8, 2) := by decide +kernel
theorem dL_members_105 : decode cL_members 105 = .ok (.invokevirtual 19, 3) := by decide +kernel
theorem dL_members_108 : decode cL_members 108 = .ok (.if_icmp .ne 49, 3) := by decide +kernel
theorem dL_members_111 : decode cL_members 111 = .ok (.aload_n 0, 1) := by decide +kernel
theorem dL_members_112 : decode cL_members 112 = .ok (.iconst 0, 1) := by decide +kernel
theorem dL_members_113 : decode cL_members 113 = .ok (.invokevirtual 19, 3) := by decide +kernel
theorem dL_members_116 : decode cL_members 116 = .ok (.ifCond .ne 16, 3) := by decide +kernel
theorem dL_members_119 : decode cL_members 119 = .ok (.aload_n 0, 1) := by decide +kernel
theorem dL_members_120 : decode cL_members 120 = .ok (.iconst 1, 1) := by decide +kernel
theorem dL_members_121 : decode cL_members 121 = .ok (.invokevirtual 19, 3) := by decide +kernel
theorem dL_members_124 : decode cL_members 124 = .ok (.bipush (-9), 2) := by decide +kernel
theorem dL_members_126 : decode cL_members 126 = .ok (.if_icmp .ne 31, 3) := by decide +kernel
theorem dL_members_129 : decode cL_members 129 = .ok (.goto 24, 3) := by decide +kernel
theorem dL_members_132 : decode cL_members 132 = .ok (.aload_n 0, 1) := by decide +kernel
theorem dL_members_133 : decode cL_members 133 = .ok (.iconst 1, 1) := by decide +kernel
theorem dL_members_134 : decode cL_members 134 = .ok (.invokevirtual 19, 3) := by decide +kernel
theorem dL_members_137 : decode cL_members 137 = .ok (.ifCond .lt 20, 3) := by decide +kernel
theorem dL_members_140 : decode cL_members 140 = .ok (.aload_n 0, 1) := by decide +kernel
theorem dL_members_141 : decode cL_members 141 = .ok (.iconst 1, 1) := by decide +kernel
theorem dL_members_142 : decode cL_members 142 = .ok (.invokevirtual 19, 3) := by decide +kernel
theorem dL_members_145 : decode cL_members 145 = .ok (.aload_n 0, 1) := by decide +kernel
theorem dL_members_146 : decode cL_members 146 = .ok (.iconst 0, 1) := by decide +kernel
theorem dL_members_147 : decode cL_members 147 = .ok (.invokevirtual 19, 3) := by decide +kernel
theorem dL_members_150 : decode cL_members 150 = .ok (.if_icmp .ge 7, 3) := by decide +kernel
theorem dL_members_153 : decode cL_members 153 = .ok (.iconst 1, 1) := by decide +kernel
theorem dL_members_154 : decode cL_members 154 = .ok (.goto 4, 3) := by decide +kernel
theorem dL_members_157 : decode cL_members 157 = .ok (.iconst 0, 1) := by decide +kernel
theorem dL_members_158 : decode cL_members 158 = .ok (.ireturn, 1) := by decide +kernel
theorem dL_frame_0 : decode cL_frame 0 = .ok (.aload_n 0, 1) := by decide +kernel
theorem dL_frame_1 : decode cL_frame 1 = .ok (.iload_n 1, 1) := by decide +kernel
theorem dL_frame_2 : decode cL_frame 2 = .ok (.iconst 0, 1) := by decide +kernel
theorem dL_frame_3 : decode cL_frame 3 = .ok (.invokevirtual 26, 3) := by decide +kernel
theorem dL_frame_6 : decode cL_frame 6 = .ok (.istore_n 2, 1) := by decide +kernel
theorem dL_frame_7 : decode cL_frame 7 = .ok (.aload_n 0, 1) := by decide +kernel
theorem dL_frame_8 : decode cL_frame 8 = .ok (.iload_n 1, 1) := by decide +kernel
theorem dL_frame_9 : decode cL_frame 9 = .ok (.iconst 1, 1) := by decide +kernel
theorem dL_frame_10 : decode cL_frame 10 = .ok (.invokevirtual 26, 3) := by decide +kernel
theorem dL_frame_13 : decode cL_frame 13 = .ok (.istore_n 3, 1) := by decide +kernel
theorem dL_frame_14 : decode cL_frame 14 = .ok (.iconst 0, 1) := by decide +kernel
theorem dL_frame_15 : decode cL_frame 15 = .ok (.istore 4, 2) := by decide +kernel
theorem dL_frame_17 : decode cL_frame 17 = .ok (.iconst 0, 1) := by decide +kernel
theorem dL_frame_18 : decode cL_frame 18 = .ok (.istore 5, 2) := by decide +kernel
theorem dL_frame_20 : decode cL_frame 20 = .ok (.iconst 0, 1) := by decide +kernel
theorem dL_frame_21 : decode cL_frame 21 = .ok (.istore 6, 2) := by decide +kernel
theorem dL_frame_23 : decode cL_frame 23 = .ok (.iconst 0, 1) := by decide +kernel
theorem dL_frame_24 : decode cL_frame 24 = .ok (.istore 7, 2) := by decide +kernel
theorem dL_frame_26 : decode cL_frame 26 = .ok (.iconst 0, 1) := by decide +kernel
theorem dL_frame_27 : decode cL_frame 27 = .ok (.istore 8, 2) := by decide +kernel
theorem dL_frame_29 : decode cL_frame 29 = .ok (.iload 8, 2) := by decide +kernel
theorem dL_frame_31 : decode cL_frame 31 = .ok (.bipush 6, 2) := by decide +kernel
theorem dL_frame_33 : decode cL_frame 33 = .ok (.if_icmp .ge 56, 3) := by decide +kernel
theorem dL_frame_36 : decode cL_frame 36 = .ok (.iload 4, 2) := by decide +kernel
theorem dL_frame_38 : decode cL_frame 38 = .ok (.aload_n 0, 1) := by decide +kernel
theorem dL_frame_39 : decode cL_frame 39 = .ok (.iload_n 1, 1) := by decide +kernel
theorem dL_frame_40 : decode cL_frame 40 = .ok (.iload 8, 2) := by decide +kernel
theorem dL_frame_42 : decode cL_frame 42 = .ok (.iconst 0, 1) := by decide +kernel
theorem dL_frame_43 : decode cL_frame 43 = .ok (.invokevirtual 15, 3) := by decide +kernel
theorem dL_frame_46 : decode cL_frame 46 = .ok (.iadd, 1) := by decide +kernel
theorem dL_frame_47 : decode cL_frame 47 = .ok (.istore 4, 2) := by decide +kernel
theorem dL_frame_49 : decode cL_frame 49 = .ok (.iload 5, 2) := by decide +kernel
theorem dL_frame_51 : decode cL_frame 51 = .ok (.aload_n 0, 1) := by decide +kernel
theorem dL_frame_52 : decode cL_frame 52 = .ok (.iload_n 1, 1) := by decide +kernel
theorem dL_frame_53 : decode cL_frame 53 = .ok (.iload 8, 2) := by decide +kernel
theorem dL_frame_55 : decode cL_frame 55 = .ok (.iconst 1, 1) := by decide +kernel
theorem dL_frame_56 : decode cL_frame 56 = .ok (.invokevirtual 15, 3) := by decide +kernel
theorem dL_frame_59 : decode cL_frame 59 = .ok (.iadd, 1) := by decide +kernel
theorem dL_frame_60 : decode cL_frame 60 = .ok (.istore 5, 2) := by decide +kernel
theorem dL_frame_62 : decode cL_frame 62 = .ok (.iload 6, 2) := by decide +kernel
theorem dL_frame_64 : decode cL_frame 64 = .ok (.aload_n 0, 1) := by decide +kernel
theorem dL_frame_65 : decode cL_frame 65 = .ok (.iload_n 1, 1) := by decide +kernel
theorem dL_frame_66 : decode cL_frame 66 = .ok (.iload 8, 2) := by decide +kernel
theorem dL_frame_68 : decode cL_frame 68 = .ok (.iconst 0, 1) := by decide +kernel
theorem dL_frame_69 : decode cL_frame 69 = .ok (.invokevirtual 15, 3) := by decide +kernel
theorem dL_frame_72 : decode cL_frame 72 = .ok (.ifCond .le 7, 3) := by decide +kernel
theorem dL_frame_75 : decode cL_frame 75 = .ok (.iconst 1, 1) := by decide +kernel
theorem dL_frame_76 : decode cL_frame 76 = .ok (.goto 4, 3) := by decide +kernel
theorem dL_frame_79 : decode cL_frame 79 = .ok (.iconst 0, 1) := by decide +kernel
theorem dL_frame_80 : decode cL_frame 80 = .ok (.iadd, 1) := by decide +kernel
theorem dL_frame_81 : decode cL_frame 81 = .ok (.istore 6, 2) := by decide +kernel
theorem dL_frame_83 : decode cL_frame 83 = .ok (.iinc 8 1, 3) := by decide +kernel
theorem dL_frame_86 : decode cL_frame 86 = .ok (.goto (-57), 3) := by decide +kernel
theorem dL_frame_89 : decode cL_frame 89 = .ok (.iconst 0, 1) := by decide +kernel
theorem dL_frame_90 : decode cL_frame 90 = .ok (.istore 8, 2) := by decide +kernel
theorem dL_frame_92 : decode cL_frame 92 = .ok (.iload 8, 2) := by decide +kernel
theorem dL_frame_94 : decode cL_frame 94 = .ok (.iload_n 2, 1) := by decide +kernel
theorem dL_frame_95 : decode cL_frame 95 = .ok (.iload_n 3, 1) := by decide +kernel
theorem dL_frame_96 : decode cL_frame 96 = .ok (.imul, 1) := by decide +kernel
theorem dL_frame_97 : decode cL_frame 97 = .ok (.if_icmp .ge 103, 3) := by decide +kernel
theorem dL_frame_100 : decode cL_frame 100 = .ok (.iload 8, 2) := by decide +kernel
theorem dL_frame_102 : decode cL_frame 102 = .ok (.iload_n 2, 1) := by decide +kernel
theorem dL_frame_103 : decode cL_frame 103 = .ok (.irem, 1) := by decide +kernel
theorem dL_frame_104 : decode cL_frame 104 = .ok (.istore 9, 2) := by decide +kernel
theorem dL_frame_106 : decode cL_frame 106 = .ok (.iload 8, 2) := by decide +kernel
theorem dL_frame_108 : decode cL_frame 108 = .ok (.iload_n 2, 1) := by decide +kernel
theorem dL_frame_109 : decode cL_frame 109 = .ok (.idiv, 1) := by decide +kernel
theorem dL_frame_110 : decode cL_frame 110 = .ok (.istore 10, 2) := by decide +kernel
theorem dL_frame_112 : decode cL_frame 112 = .ok (.iload 7, 2) := by decide +kernel
theorem dL_frame_114 : decode cL_frame 114 = .ok (.iload 9, 2) := by decide +kernel
theorem dL_frame_116 : decode cL_frame 116 = .ok (.iconst 1, 1) := by decide +kernel
theorem dL_frame_117 : decode cL_frame 117 = .ok (.iadd, 1) := by decide +kernel
theorem dL_frame_118 : decode cL_frame 118 = .ok (.iload_n 2, 1) := by decide +kernel
theorem dL_frame_119 : decode cL_frame 119 = .ok (.if_icmp .ge 30, 3) := by decide +kernel
theorem dL_frame_122 : decode cL_frame 122 = .ok (.aload_n 0, 1) := by decide +kernel
theorem dL_frame_123 : decode cL_frame 123 = .ok (.iload_n 1, 1) := by decide +kernel
theorem dL_frame_124 : decode cL_frame 124 = .ok (.iload 9, 2) := by decide +kernel
theorem dL_frame_126 : decode cL_frame 126 = .ok (.iload 10, 2) := by decide +kernel
theorem dL_frame_128 : decode cL_frame 128 = .ok (.invokevirtual 29, 3) := by decide +kernel
theorem dL_frame_131 : decode cL_frame 131 = .ok (.aload_n 0, 1) := by decide +kernel
theorem dL_frame_132 : decode cL_frame 132 = .ok (.iload_n 1, 1) := by decide +kernel
theorem dL_frame_133 : decode cL_frame 133 = .ok (.iload 9, 2) := by decide +kernel
theorem dL_frame_135 : decode cL_frame 135 = .ok (.iconst 1, 1) := by decide +kernel
theorem dL_frame_136 : decode cL_frame 136 = .ok (.iadd, 1) := by decide +kernel
theorem dL_frame_137 : decode cL_frame 137 = .ok (.iload 10, 2) := by decide +kernel
theorem dL_frame_139 : decode cL_frame 139 = .ok (.invokevirtual 29, 3) := by decide +kernel
theorem dL_frame_142 : decode cL_frame 142 = .ok (.if_icmp .eq 7, 3) := by decide +kernel
theorem dL_frame_145 : decode cL_frame 145 = .ok (.iconst 1, 1) := by decide +kernel
theorem dL_frame_146 : decode cL_frame 146 = .ok (.goto 4, 3) := by decide +kernel
theorem dL_frame_149 : decode cL_frame 149 = .ok (.iconst 0, 1) := by decide +kernel
theorem dL_frame_150 : decode cL_frame 150 = .ok (.iadd, 1) := by decide +kernel
theorem dL_frame_151 : decode cL_frame 151 = .ok (.istore 7, 2) := by decide +kernel
theorem dL_frame_153 : decode cL_frame 153 = .ok (.iload 7, 2) := by decide +kernel
theorem dL_frame_155 : decode cL_frame 155 = .ok (.iload 10, 2) := by decide +kernel
theorem dL_frame_157 : decode cL_frame 157 = .ok (.iconst 1, 1) := by decide +kernel
theorem dL_frame_158 : decode cL_frame 158 = .ok (.iadd, 1) := by decide +kernel
theorem dL_frame_159 : decode cL_frame 159 = .ok (.iload_n 3, 1) := by decide +kernel
theorem dL_frame_160 : decode cL_frame 160 = .ok (.if_icmp .ge 30, 3) := by decide +kernel
theorem dL_frame_163 : decode cL_frame 163 = .ok (.aload_n 0, 1) := by decide +kernel
theorem dL_frame_164 : decode cL_frame 164 = .ok (.iload_n 1, 1) := by decide +kernel
theorem dL_frame_165 : decode cL_frame 165 = .ok (.iload 9, 2) := by decide +kernel
theorem dL_frame_167 : decode cL_frame 167 = .ok (.iload 10, 2) := by decide +kernel
theorem dL_frame_169 : decode cL_frame 169 = .ok (.invokevirtual 29, 3) := by decide +kernel
theorem dL_frame_172 : decode cL_frame 172 = .ok (.aload_n 0, 1) := by decide +kernel
theorem dL_frame_173 : decode cL_frame 173 = .ok (.iload_n 1, 1) := by decide +kernel
theorem dL_frame_174 : decode cL_frame 174 = .ok (.iload 9, 2) := by decide +kernel
theorem dL_frame_176 : decode cL_frame 176 = .ok (.iload 10, 2) := by decide +kernel
theorem dL_frame_178 : decode cL_frame 178 = .ok (.iconst 1, 1) := by decide +kernel
theorem dL_frame_179 : decode cL_frame 179 = .ok (.iadd, 1) := by decide +kernel
theorem dL_frame_180 : decode cL_frame 180 = .ok (.invokevirtual 29, 3) := by decide +kernel
theorem dL_frame_183 : decode cL_frame 183 = .ok (.if_icmp .eq 7, 3) := by decide +kernel
theorem dL_frame_186 : decode cL_frame 186 = .ok (.iconst 1, 1) := by decide +kernel
theorem dL_frame_187 : decode cL_frame 187 = .ok (.goto 4, 3) := by decide +kernel
theorem dL_frame_190 : decode cL_frame 190 = .ok (.iconst 0, 1) := by decide +kernel
theorem dL_frame_191 : decode cL_frame 191 = .ok (.iadd, 1) := by decide +kernel
theorem dL_frame_192 : decode cL_frame 192 = .ok (.istore 7, 2) := by decide +kernel
theorem dL_frame_194 : decode cL_frame 194 = .ok (.iinc 8 1, 3) := by decide +kernel
theorem dL_frame_197 : decode cL_frame 197 = .ok (.goto (-105), 3) := by decide +kernel
theorem dL_frame_200 : decode cL_frame 200 = .ok (.iload 4, 2) := by decide +kernel
theorem dL_frame_202 : decode cL_frame 202 = .ok (.iload_n 2, 1) := by decide +kernel
theorem dL_frame_203 : decode cL_frame 203 = .ok (.iload_n 3, 1) := by decide +kernel
theorem dL_frame_204 : decode cL_frame 204 = .ok (.imul, 1) := by decide +kernel
theorem dL_frame_205 : decode cL_frame 205 = .ok (.if_icmp .ne 47, 3) := by decide +kernel
theorem dL_frame_208 : decode cL_frame 208 = .ok (.iload 5, 2) := by decide +kernel
theorem dL_frame_210 : decode cL_frame 210 = .ok (.aload_n 0, 1) := by decide +kernel
theorem dL_frame_211 : decode cL_frame 211 = .ok (.iload_n 1, 1) := by decide +kernel
theorem dL_frame_212 : decode cL_frame 212 = .ok (.iconst 2, 1) := by decide +kernel
theorem dL_frame_213 : decode cL_frame 213 = .ok (.invokevirtual 26, 3) := by decide +kernel
theorem dL_frame_216 : decode cL_frame 216 = .ok (.if_icmp .ne 36, 3) := by decide +kernel
theorem dL_frame_219 : decode cL_frame 219 = .ok (.iload 5, 2) := by decide +kernel
theorem dL_frame_221 : decode cL_frame 221 = .ok (.iload 4, 2) := by decide +kernel
theorem dL_frame_223 : decode cL_frame 223 = .ok (.if_icmp .gt 29, 3) := by decide +kernel
theorem dL_frame_226 : decode cL_frame 226 = .ok (.iload 6, 2) := by decide +kernel
theorem dL_frame_228 : decode cL_frame 228 = .ok (.aload_n 0, 1) := by decide +kernel
theorem dL_frame_229 : decode cL_frame 229 = .ok (.iload_n 1, 1) := by decide +kernel
theorem dL_frame_230 : decode cL_frame 230 = .ok (.iconst 3, 1) := by decide +kernel
theorem dL_frame_231 : decode cL_frame 231 = .ok (.invokevirtual 26, 3) := by decide +kernel
theorem dL_frame_234 : decode cL_frame 234 = .ok (.if_icmp .ne 18, 3) := by decide +kernel
theorem dL_frame_237 : decode cL_frame 237 = .ok (.iload 7, 2) := by decide +kernel
theorem dL_frame_239 : decode cL_frame 239 = .ok (.aload_n 0, 1) := by decide +kernel
theorem dL_frame_240 : decode cL_frame 240 = .ok (.iload_n 1, 1) := by decide +kernel
theorem dL_frame_241 : decode cL_frame 241 = .ok (.iconst 4, 1) := by decide +kernel
theorem dL_frame_242 : decode cL_frame 242 = .ok (.invokevirtual 26, 3) := by decide +kernel
theorem dL_frame_245 : decode cL_frame 245 = .ok (.if_icmp .ne 7, 3) := by decide +kernel
theorem dL_frame_248 : decode cL_frame 248 = .ok (.iconst 1, 1) := by decide +kernel
theorem dL_frame_249 : decode cL_frame 249 = .ok (.goto 4, 3) := by decide +kernel
theorem dL_frame_252 : decode cL_frame 252 = .ok (.iconst 0, 1) := by decide +kernel
theorem dL_frame_253 : decode cL_frame 253 = .ok (.istore 8, 2) := by decide +kernel
theorem dL_frame_255 : decode cL_frame 255 = .ok (.iload 8, 2) := by decide +kernel
theorem dL_frame_257 : decode cL_frame 257 = .ok (.ifCond .eq 70, 3) := by decide +kernel
theorem dL_frame_260 : decode cL_frame 260 = .ok (.aload_n 0, 1) := by decide +kernel
theorem dL_frame_261 : decode cL_frame 261 = .ok (.iload_n 1, 1) := by decide +kernel
theorem dL_frame_262 : decode cL_frame 262 = .ok (.iconst 5, 1) := by decide +kernel
theorem dL_frame_263 : decode cL_frame 263 = .ok (.invokevirtual 26, 3) := by decide +kernel
theorem dL_frame_266 : decode cL_frame 266 = .ok (.iload 6, 2) := by decide +kernel
theorem dL_frame_268 : decode cL_frame 268 = .ok (.if_icmp .lt 59, 3) := by decide +kernel
theorem dL_frame_271 : decode cL_frame 271 = .ok (.aload_n 0, 1) := by decide +kernel
theorem dL_frame_272 : decode cL_frame 272 = .ok (.iload_n 1, 1) := by decide +kernel
theorem dL_frame_273 : decode cL_frame 273 = .ok (.bipush 6, 2) := by decide +kernel
theorem dL_frame_275 : decode cL_frame 275 = .ok (.invokevirtual 26, 3) := by decide +kernel
theorem dL_frame_278 : decode cL_frame 278 = .ok (.iload 4, 2) := by decide +kernel
theorem dL_frame_280 : decode cL_frame 280 = .ok (.if_icmp .gt 47, 3) := by decide +kernel
theorem dL_frame_283 : decode cL_frame 283 = .ok (.iload 4, 2) := by decide +kernel
theorem dL_frame_285 : decode cL_frame 285 = .ok (.ifCond .ne 7, 3) := by decide +kernel
theorem dL_frame_288 : decode cL_frame 288 = .ok (.iconst 1, 1) := by decide +kernel
theorem dL_frame_289 : decode cL_frame 289 = .ok (.goto 4, 3) := by decide +kernel
theorem dL_frame_292 : decode cL_frame 292 = .ok (.iconst 0, 1) := by decide +kernel
theorem dL_frame_293 : decode cL_frame 293 = .ok (.aload_n 0, 1) := by decide +kernel
theorem dL_frame_294 : decode cL_frame 294 = .ok (.iload_n 1, 1) := by decide +kernel
theorem dL_frame_295 : decode cL_frame 295 = .ok (.bipush 6, 2) := by decide +kernel
theorem dL_frame_297 : decode cL_frame 297 = .ok (.invokevirtual 26, 3) := by decide +kernel
theorem dL_frame_300 : decode cL_frame 300 = .ok (.ifCond .ne 7, 3) := by decide +kernel
theorem dL_frame_303 : decode cL_frame 303 = .ok (.iconst 1, 1) := by decide +kernel
theorem dL_frame_304 : decode cL_frame 304 = .ok (.goto 4, 3) := by decide +kernel
theorem dL_frame_307 : decode cL_frame 307 = .ok (.iconst 0, 1) := by decide +kernel
theorem dL_frame_308 : decode cL_frame 308 = .ok (.if_icmp .ne 19, 3) := by decide +kernel
theorem dL_frame_311 : decode cL_frame 311 = .ok (.aload_n 0, 1) := by decide +kernel
theorem dL_frame_312 : decode cL_frame 312 = .ok (.iload_n 1, 1) := by decide +kernel
theorem dL_frame_313 : decode cL_frame 313 = .ok (.iload_n 2, 1) := by decide +kernel
theorem dL_frame_314 : decode cL_frame 314 = .ok (.iconst 0, 1) := by decide +kernel
theorem dL_frame_315 : decode cL_frame 315 = .ok (.invokevirtual 29, 3) := by decide +kernel
theorem dL_frame_318 : decode cL_frame 318 = .ok (.bipush (-9), 2) := by decide +kernel
theorem dL_frame_320 : decode cL_frame 320 = .ok (.if_icmp .ne 7, 3) := by decide +kernel
theorem dL_frame_323 : decode cL_frame 323 = .ok (.iconst 1, 1) := by decide +kernel
theorem dL_frame_324 : decode cL_frame 324 = .ok (.goto 4, 3) := by decide +kernel
theorem dL_frame_327 : decode cL_frame 327 = .ok (.iconst 0, 1) := by decide +kernel
theorem dL_frame_328 : decode cL_frame 328 = .ok (.istore 8, 2) := by decide +kernel
theorem dL_frame_330 : decode cL_frame 330 = .ok (.iload 8, 2) := by decide +kernel
theorem dL_frame_332 : decode cL_frame 332 = .ok (.ifCond .eq 48, 3) := by decide +kernel
theorem dL_frame_335 : decode cL_frame 335 = .ok (.aload_n 0, 1) := by decide +kernel
theorem dL_frame_336 : decode cL_frame 336 = .ok (.iload_n 1, 1) := by decide +kernel
theorem dL_frame_337 : decode cL_frame 337 = .ok (.iconst 0, 1) := by decide +kernel
theorem dL_frame_338 : decode cL_frame 338 = .ok (.invokevirtual 33, 3) := by decide +kernel
theorem dL_frame_341 : decode cL_frame 341 = .ok (.ifCond .ne 12, 3) := by decide +kernel
theorem dL_frame_344 : decode cL_frame 344 = .ok (.aload_n 0, 1) := by decide +kernel
theorem dL_frame_345 : decode cL_frame 345 = .ok (.iload_n 1, 1) := by decide +kernel
theorem dL_frame_346 : decode cL_frame 346 = .ok (.iload_n 1, 1) := by decide +kernel
theorem dL_frame_347 : decode cL_frame 347 = .ok (.invokevirtual 37, 3) := by decide +kernel
theorem dL_frame_350 : decode cL_frame 350 = .ok (.ifCond .ne 30, 3) := by decide +kernel
theorem dL_frame_353 : decode cL_frame 353 = .ok (.aload_n 0, 1) := by decide +kernel
theorem dL_frame_354 : decode cL_frame 354 = .ok (.iload_n 1, 1) := by decide +kernel
theorem dL_frame_355 : decode cL_frame 355 = .ok (.iconst 2, 1) := by decide +kernel
theorem dL_frame_356 : decode cL_frame 356 = .ok (.invokevirtual 33, 3) := by decide +kernel
theorem dL_frame_359 : decode cL_frame 359 = .ok (.ifCond .eq 17, 3) := by decide +kernel
theorem dL_frame_362 : decode cL_frame 362 = .ok (.aload_n 0, 1) := by decide +kernel
theorem dL_frame_363 : decode cL_frame 363 = .ok (.iload_n 1, 1) := by decide +kernel
theorem dL_frame_364 : decode cL_frame 364 = .ok (.iconst 1, 1) := by decide +kernel
theorem dL_frame_365 : decode cL_frame 365 = .ok (.invokevirtual 33, 3) := by decide +kernel
theorem dL_frame_368 : decode cL_frame 368 = .ok (.ifCond .eq 12, 3) := by decide +kernel
theorem dL_frame_371 : decode cL_frame 371 = .ok (.iload_n 2, 1) := by decide +kernel
theorem dL_frame_372 : decode cL_frame 372 = .ok (.iload_n 3, 1) := by decide +kernel
theorem dL_frame_373 : decode cL_frame 373 = .ok (.if_icmp .ne 7, 3) := by decide +kernel
theorem dL_frame_376 : decode cL_frame 376 = .ok (.iconst 1, 1) := by decide +kernel
theorem dL_frame_377 : decode cL_frame 377 = .ok (.goto 4, 3) := by decide +kernel
theorem dL_frame_380 : decode cL_frame 380 = .ok (.iconst 0, 1) := by decide +kernel
theorem dL_frame_381 : decode cL_frame 381 = .ok (.istore 8, 2) := by decide +kernel
theorem dL_frame_383 : decode cL_frame 383 = .ok (.iload 8, 2) := by decide +kernel
theorem dL_frame_385 : decode cL_frame 385 = .ok (.ifCond .eq 27, 3) := by decide +kernel
theorem dL_frame_388 : decode cL_frame 388 = .ok (.aload_n 0, 1) := by decide +kernel
theorem dL_frame_389 : decode cL_frame 389 = .ok (.iload_n 1, 1) := by decide +kernel
theorem dL_frame_390 : decode cL_frame 390 = .ok (.iload_n 1, 1) := by decide +kernel
theorem dL_frame_391 : decode cL_frame 391 = .ok (.invokevirtual 37, 3) := by decide +kernel
theorem dL_frame_394 : decode cL_frame 394 = .ok (.iload 4, 2) := by decide +kernel
theorem dL_frame_396 : decode cL_frame 396 = .ok (.ifCond .ne 8, 3) := by decide +kernel
theorem dL_frame_399 : decode cL_frame 399 = .ok (.bipush (-9), 2) := by decide +kernel
theorem dL_frame_401 : decode cL_frame 401 = .ok (.goto 4, 3) := by decide +kernel
theorem dL_frame_404 : decode cL_frame 404 = .ok (.iconst 0, 1) := by decide +kernel
theorem dL_frame_405 : decode cL_frame 405 = .ok (.if_icmp .ne 7, 3) := by decide +kernel
theorem dL_frame_408 : decode cL_frame 408 = .ok (.iconst 1, 1) := by decide +kernel
theorem dL_frame_409 : decode cL_frame 409 = .ok (.goto 4, 3) := by decide +kernel
theorem dL_frame_412 : decode cL_frame 412 = .ok (.iconst 0, 1) := by decide +kernel
theorem dL_frame_413 : decode cL_frame 413 = .ok (.ireturn, 1) := by decide +kernel
theorem dL_gets_0 : decode cL_gets 0 = .ok (.aload_n 0, 1) := by decide +kernel
theorem dL_gets_1 : decode cL_gets 1 = .ok (.iload_n 1, 1) := by decide +kernel
theorem dL_gets_2 : decode cL_gets 2 = .ok (.iconst 0, 1) := by decide +kernel
theorem dL_gets_3 : decode cL_gets 3 = .ok (.invokevirtual 26, 3) := by decide +kernel
theorem dL_gets_6 : decode cL_gets 6 = .ok (.ifCond .le 29, 3) := by decide +kernel
theorem dL_gets_9 : decode cL_gets 9 = .ok (.aload_n 0, 1) := by decide +kernel
theorem dL_gets_10 : decode cL_gets 10 = .ok (.iload_n 1, 1) := by decide +kernel
theorem dL_gets_11 : decode cL_gets 11 = .ok (.iconst 2, 1) := by decide +kernel
theorem dL_gets_12 : decode cL_gets 12 = .ok (.invokevirtual 26, 3) := by decide +kernel
theorem dL_gets_15 : decode cL_gets 15 = .ok (.aload_n 0, 1) := by decide +kernel
theorem dL_gets_16 : decode cL_gets 16 = .ok (.iload_n 1, 1) := by decide +kernel
theorem dL_gets_17 : decode cL_gets 17 = .ok (.iconst 0, 1) := by decide +kernel
theorem dL_gets_18 : decode cL_gets 18 = .ok (.invokevirtual 26, 3) := by decide +kernel
theorem dL_gets_21 : decode cL_gets 21 = .ok (.aload_n 0, 1) := by decide +kernel
theorem dL_gets_22 : decode cL_gets 22 = .ok (.iload_n 1, 1) := by decide +kernel
theorem dL_gets_23 : decode cL_gets 23 = .ok (.iconst 1, 1) := by decide +kernel
theorem dL_gets_24 : decode cL_gets 24 = .ok (.invokevirtual 26, 3) := by decide +kernel
theorem dL_gets_27 : decode cL_gets 27 = .ok (.imul, 1) := by decide +kernel
theorem dL_gets_28 : decode cL_gets 28 = .ok (.if_icmp .ne 7, 3) := by decide +kernel
theorem dL_gets_31 : decode cL_gets 31 = .ok (.iconst 1, 1) := by decide +kernel
theorem dL_gets_32 : decode cL_gets 32 = .ok (.goto 4, 3) := by decide +kernel
theorem dL_gets_35 : decode cL_gets 35 = .ok (.iconst 0, 1) := by decide +kernel
theorem dL_gets_36 : decode cL_gets 36 = .ok (.istore_n 3, 1) := by decide +kernel
theorem dL_gets_37 : decode cL_gets 37 = .ok (.iconst 0, 1) := by decide +kernel
theorem dL_gets_38 : decode cL_gets 38 = .ok (.istore 4, 2) := by decide +kernel
theorem dL_gets_40 : decode cL_gets 40 = .ok (.iconst 0, 1) := by decide +kernel
theorem dL_gets_41 : decode cL_gets 41 = .ok (.istore 5, 2) := by decide +kernel
theorem dL_gets_43 : decode cL_gets 43 = .ok (.iload 5, 2) := by decide +kernel
theorem dL_gets_45 : decode cL_gets 45 = .ok (.aload_n 0, 1) := by decide +kernel
theorem dL_gets_46 : decode cL_gets 46 = .ok (.iconst 0, 1) := by decide +kernel
theorem dL_gets_47 : decode cL_gets 47 = .ok (.invokevirtual 19, 3) := by decide +kernel
theorem dL_gets_50 : decode cL_gets 50 = .ok (.if_icmp .ge 49, 3) := by decide +kernel
theorem dL_gets_53 : decode cL_gets 53 = .ok (.iload 4, 2) := by decide +kernel
theorem dL_gets_55 : decode cL_gets 55 = .ok (.iload_n 3, 1) := by decide +kernel
theorem dL_gets_56 : decode cL_gets 56 = .ok (.ifCond .eq 14, 3) := by decide +kernel
theorem dL_gets_59 : decode cL_gets 59 = .ok (.aload_n 0, 1) := by decide +kernel
theorem dL_gets_60 : decode cL_gets 60 = .ok (.iload_n 1, 1) := by decide +kernel
theorem dL_gets_61 : decode cL_gets 61 = .ok (.iload 5, 2) := by decide +kernel
theorem dL_gets_63 : decode cL_gets 63 = .ok (.iload_n 2, 1) := by decide +kernel
theorem dL_gets_64 : decode cL_gets 64 = .ok (.invokevirtual 40, 3) := by decide +kernel
theorem dL_gets_67 : decode cL_gets 67 = .ok (.goto 23, 3) := by decide +kernel
theorem dL_gets_70 : decode cL_gets 70 = .ok (.aload_n 0, 1) := by decide +kernel
theorem dL_gets_71 : decode cL_gets 71 = .ok (.iload_n 1, 1) := by decide +kernel
theorem dL_gets_72 : decode cL_gets 72 = .ok (.iload 5, 2) := by decide +kernel
theorem dL_gets_74 : decode cL_gets 74 = .ok (.iload_n 2, 1) := by decide +kernel
theorem dL_gets_75 : decode cL_gets 75 = .ok (.invokevirtual 40, 3) := by decide +kernel
theorem dL_gets_78 : decode cL_gets 78 = .ok (.bipush (-9), 2) := by decide +kernel
theorem dL_gets_80 : decode cL_gets 80 = .ok (.if_icmp .ne 7, 3) := by decide +kernel
theorem dL_gets_83 : decode cL_gets 83 = .ok (.iconst 0, 1) := by decide +kernel
theorem dL_gets_84 : decode cL_gets 84 = .ok (.goto 6, 3) := by decide +kernel
theorem dL_gets_87 : decode cL_gets 87 = .ok (.sipush 10000, 3) := by decide +kernel
theorem dL_gets_90 : decode cL_gets 90 = .ok (.iadd, 1) := by decide +kernel
theorem dL_gets_91 : decode cL_gets 91 = .ok (.istore 4, 2) := by decide +kernel
theorem dL_gets_93 : decode cL_gets 93 = .ok (.iinc 5 1, 3) := by decide +kernel
theorem dL_gets_96 : decode cL_gets 96 = .ok (.goto (-53), 3) := by decide +kernel
theorem dL_gets_99 : decode cL_gets 99 = .ok (.iload_n 3, 1) := by decide +kernel
theorem dL_gets_100 : decode cL_gets 100 = .ok (.ifCond .ne 14, 3) := by decide +kernel
theorem dL_gets_103 : decode cL_gets 103 = .ok (.iload 4, 2) := by decide +kernel
theorem dL_gets_105 : decode cL_gets 105 = .ok (.ifCond .ne 7, 3) := by decide +kernel
theorem dL_gets_108 : decode cL_gets 108 = .ok (.iconst 1, 1) := by decide +kernel
theorem dL_gets_109 : decode cL_gets 109 = .ok (.goto 4, 3) := by decide +kernel
theorem dL_gets_112 : decode cL_gets 112 = .ok (.iconst 0, 1) := by decide +kernel
theorem dL_gets_113 : decode cL_gets 113 = .ok (.ireturn, 1) := by decide +kernel
theorem dL_gets_114 : decode cL_gets 114 = .ok (.aload_n 0, 1) := by decide +kernel
theorem dL_gets_115 : decode cL_gets 115 = .ok (.iload_n 1, 1) := by decide +kernel
theorem dL_gets_116 : decode cL_gets 116 = .ok (.iconst 0, 1) := by decide +kernel
theorem dL_gets_117 : decode cL_gets 117 = .ok (.iload_n 2, 1) := by decide +kernel
theorem dL_gets_118 : decode cL_gets 118 = .ok (.invokevirtual 40, 3) := by decide +kernel
theorem dL_gets_121 : decode cL_gets 121 = .ok (.istore 5, 2) := by decide +kernel
theorem dL_gets_123 : decode cL_gets 123 = .ok (.aload_n 0, 1) := by decide +kernel
theorem dL_gets_124 : decode cL_gets 124 = .ok (.iconst 0, 1) := by decide +kernel
theorem dL_gets_125 : decode cL_gets 125 = .ok (.iconst 1, 1) := by decide +kernel
theorem dL_gets_126 : decode cL_gets 126 = .ok (.invokevirtual 23, 3) := by decide +kernel
theorem dL_gets_129 : decode cL_gets 129 = .ok (.istore 6, 2) := by decide +kernel
theorem dL_gets_131 : decode cL_gets 131 = .ok (.aload_n 0, 1) := by decide +kernel
theorem dL_gets_132 : decode cL_gets 132 = .ok (.iconst 3, 1) := by decide +kernel
theorem dL_gets_133 : decode cL_gets 133 = .ok (.invokevirtual 19, 3) := by decide +kernel
theorem dL_gets_136 : decode cL_gets 136 = .ok (.istore 7, 2) := by decide +kernel
theorem dL_gets_138 : decode cL_gets 138 = .ok (.aload_n 0, 1) := by decide +kernel
theorem dL_gets_139 : decode cL_gets 139 = .ok (.iconst 4, 1) := by decide +kernel
theorem dL_gets_140 : decode cL_gets 140 = .ok (.invokevirtual 19, 3) := by decide +kernel
theorem dL_gets_143 : decode cL_gets 143 = .ok (.istore 8, 2) := by decide +kernel
theorem dL_gets_145 : decode cL_gets 145 = .ok (.aload_n 0, 1) := by decide +kernel
theorem dL_gets_146 : decode cL_gets 146 = .ok (.iload_n 1, 1) := by decide +kernel
theorem dL_gets_147 : decode cL_gets 147 = .ok (.iconst 0, 1) := by decide +kernel
theorem dL_gets_148 : decode cL_gets 148 = .ok (.invokevirtual 26, 3) := by decide +kernel
theorem dL_gets_151 : decode cL_gets 151 = .ok (.aload_n 0, 1) := by decide +kernel
theorem dL_gets_152 : decode cL_gets 152 = .ok (.iload_n 1, 1) := by decide +kernel
theorem dL_gets_153 : decode cL_gets 153 = .ok (.iconst 1, 1) := by decide +kernel
theorem dL_gets_154 : decode cL_gets 154 = .ok (.invokevirtual 26, 3) := by decide +kernel
theorem dL_gets_157 : decode cL_gets 157 = .ok (.imul, 1) := by decide +kernel
theorem dL_gets_158 : decode cL_gets 158 = .ok (.istore 9, 2) := by decide +kernel
theorem dL_gets_160 : decode cL_gets 160 = .ok (.iload 4, 2) := by decide +kernel
theorem dL_gets_162 : decode cL_gets 162 = .ok (.iload_n 2, 1) := by decide +kernel
theorem dL_gets_163 : decode cL_gets 163 = .ok (.if_icmp .ne 66, 3) := by decide +kernel
theorem dL_gets_166 : decode cL_gets 166 = .ok (.aload_n 0, 1) := by decide +kernel
theorem dL_gets_167 : decode cL_gets 167 = .ok (.iload_n 1, 1) := by decide +kernel
theorem dL_gets_168 : decode cL_gets 168 = .ok (.iload_n 2, 1) := by decide +kernel
theorem dL_gets_169 : decode cL_gets 169 = .ok (.invokevirtual 43, 3) := by decide +kernel
theorem dL_gets_172 : decode cL_gets 172 = .ok (.iload 9, 2) := by decide +kernel
theorem dL_gets_174 : decode cL_gets 174 = .ok (.if_icmp .ne 55, 3) := by decide +kernel
theorem dL_gets_177 : decode cL_gets 177 = .ok (.aload_n 0, 1) := by decide +kernel
theorem dL_gets_178 : decode cL_gets 178 = .ok (.iconst 0, 1) := by decide +kernel
theorem dL_gets_179 : decode cL_gets 179 = .ok (.iconst 1, 1) := by decide +kernel
theorem dL_gets_180 : decode cL_gets 180 = .ok (.invokevirtual 23, 3) := by decide +kernel
theorem dL_gets_183 : decode cL_gets 183 = .ok (.iload 6, 2) := by decide +kernel
theorem dL_gets_185 : decode cL_gets 185 = .ok (.iload 5, 2) := by decide +kernel
theorem dL_gets_187 : decode cL_gets 187 = .ok (.iadd, 1) := by decide +kernel
theorem dL_gets_188 : decode cL_gets 188 = .ok (.if_icmp .ne 41, 3) := by decide +kernel
theorem dL_gets_191 : decode cL_gets 191 = .ok (.aload_n 0, 1) := by decide +kernel
theorem dL_gets_192 : decode cL_gets 192 = .ok (.iconst 3, 1) := by decide +kernel
theorem dL_gets_193 : decode cL_gets 193 = .ok (.invokevirtual 19, 3) := by decide +kernel
theorem dL_gets_196 : decode cL_gets 196 = .ok (.iload 7, 2) := by decide +kernel
theorem dL_gets_198 : decode cL_gets 198 = .ok (.iconst 1, 1) := by decide +kernel
theorem dL_gets_199 : decode cL_gets 199 = .ok (.iadd, 1) := by decide +kernel
theorem dL_gets_200 : decode cL_gets 200 = .ok (.if_icmp .ne 29, 3) := by decide +kernel
theorem dL_gets_203 : decode cL_gets 203 = .ok (.aload_n 0, 1) := by decide +kernel
theorem dL_gets_204 : decode cL_gets 204 = .ok (.iconst 4, 1) := by decide +kernel
theorem dL_gets_205 : decode cL_gets 205 = .ok (.invokevirtual 19, 3) := by decide +kernel
theorem dL_gets_208 : decode cL_gets 208 = .ok (.iload 8, 2) := by decide +kernel
theorem dL_gets_210 : decode cL_gets 210 = .ok (.iload 9, 2) := by decide +kernel
theorem dL_gets_212 : decode cL_gets 212 = .ok (.iadd, 1) := by decide +kernel
theorem dL_gets_213 : decode cL_gets 213 = .ok (.if_icmp .ne 16, 3) := by decide +kernel
theorem dL_gets_216 : decode cL_gets 216 = .ok (.aload_n 0, 1) := by decide +kernel
theorem dL_gets_217 : decode cL_gets 217 = .ok (.iload_n 1, 1) := by decide +kernel
theorem dL_gets_218 : decode cL_gets 218 = .ok (.iconst 0, 1) := by decide +kernel
theorem dL_gets_219 : decode cL_gets 219 = .ok (.invokevirtual 26, 3) := by decide +kernel
theorem dL_gets_222 : decode cL_gets 222 = .ok (.ifCond .ne 7, 3) := by decide +kernel
theorem dL_gets_225 : decode cL_gets 225 = .ok (.iconst 1, 1) := by decide +kernel
theorem dL_gets_226 : decode cL_gets 226 = .ok (.goto 4, 3) := by decide +kernel
theorem dL_gets_229 : decode cL_gets 229 = .ok (.iconst 0, 1) := by decide +kernel
theorem dL_gets_230 : decode cL_gets 230 = .ok (.ireturn, 1) := by decide +kernel
theorem dL_types_0 : decode cL_types 0 = .ok (.aload_n 0, 1) := by decide +kernel
theorem dL_types_1 : decode cL_types 1 = .ok (.invokevirtual 46, 3) := by decide +kernel
theorem dL_types_4 : decode cL_types 4 = .ok (.ifCond .lt 37, 3) := by decide +kernel
theorem dL_types_7 : decode cL_types 7 = .ok (.aload_n 0, 1) := by decide +kernel
theorem dL_types_8 : decode cL_types 8 = .ok (.bipush 91, 2) := by decide +kernel
theorem dL_types_10 : decode cL_types 10 = .ok (.invokevirtual 50, 3) := by decide +kernel
theorem dL_types_13 : decode cL_types 13 = .ok (.iconst 1, 1) := by decide +kernel
theorem dL_types_14 : decode cL_types 14 = .ok (.if_icmp .ne 27, 3) := by decide +kernel
theorem dL_types_17 : decode cL_types 17 = .ok (.aload_n 0, 1) := by decide +kernel
theorem dL_types_18 : decode cL_types 18 = .ok (.bipush 50, 2) := by decide +kernel
theorem dL_types_20 : decode cL_types 20 = .ok (.invokevirtual 50, 3) := by decide +kernel
theorem dL_types_23 : decode cL_types 23 = .ok (.iconst 2, 1) := by decide +kernel
theorem dL_types_24 : decode cL_types 24 = .ok (.if_icmp .ne 17, 3) := by decide +kernel
theorem dL_types_27 : decode cL_types 27 = .ok (.aload_n 0, 1) := by decide +kernel
theorem dL_types_28 : decode cL_types 28 = .ok (.bipush 40, 2) := by decide +kernel
theorem dL_types_30 : decode cL_types 30 = .ok (.invokevirtual 50, 3) := by decide +kernel
theorem dL_types_33 : decode cL_types 33 = .ok (.iconst 3, 1) := by decide +kernel
theorem dL_types_34 : decode cL_types 34 = .ok (.if_icmp .ne 7, 3) := by decide +kernel
theorem dL_types_37 : decode cL_types 37 = .ok (.iconst 1, 1) := by decide +kernel
theorem dL_types_38 : decode cL_types 38 = .ok (.goto 4, 3) := by decide +kernel
theorem dL_types_41 : decode cL_types 41 = .ok (.iconst 0, 1) := by decide +kernel
theorem dL_types_42 : decode cL_types 42 = .ok (.istore_n 2, 1) := by decide +kernel
theorem dL_types_43 : decode cL_types 43 = .ok (.iload_n 2, 1) := by decide +kernel
theorem dL_types_44 : decode cL_types 44 = .ok (.ifCond .eq 72, 3) := by decide +kernel
theorem dL_types_47 : decode cL_types 47 = .ok (.aload_n 0, 1) := by decide +kernel
theorem dL_types_48 : decode cL_types 48 = .ok (.bipush 97, 2) := by decide +kernel
theorem dL_types_50 : decode cL_types 50 = .ok (.iload_n 1, 1) := by decide +kernel
theorem dL_types_51 : decode cL_types 51 = .ok (.bipush 6, 2) := by decide +kernel
theorem dL_types_53 : decode cL_types 53 = .ok (.irem, 1) := by decide +kernel
theorem dL_types_54 : decode cL_types 54 = .ok (.iadd, 1) := by decide +kernel
theorem dL_types_55 : decode cL_types 55 = .ok (.invokevirtual 50, 3) := by decide +kernel
theorem dL_types_58 : decode cL_types 58 = .ok (.iconst 4, 1) := by decide +kernel
theorem dL_types_59 : decode cL_types 59 = .ok (.if_icmp .ne 57, 3) := by decide +kernel
theorem dL_types_62 : decode cL_types 62 = .ok (.aload_n 0, 1) := by decide +kernel
theorem dL_types_63 : decode cL_types 63 = .ok (.bipush 97, 2) := by decide +kernel
theorem dL_types_65 : decode cL_types 65 = .ok (.iload_n 1, 1) := by decide +kernel
theorem dL_types_66 : decode cL_types 66 = .ok (.iconst 3, 1) := by decide +kernel
theorem dL_types_67 : decode cL_types 67 = .ok (.ishr, 1) := by decide +kernel
theorem dL_types_68 : decode cL_types 68 = .ok (.bipush 6, 2) := by decide +kernel
theorem dL_types_70 : decode cL_types 70 = .ok (.irem, 1) := by decide +kernel
theorem dL_types_71 : decode cL_types 71 = .ok (.iadd, 1) := by decide +kernel
theorem dL_types_72 : decode cL_types 72 = .ok (.invokevirtual 50, 3) := by decide +kernel
theorem dL_types_75 : decode cL_types 75 = .ok (.iconst 5, 1) := by decide +kernel
theorem dL_types_76 : decode cL_types 76 = .ok (.if_icmp .ne 40, 3) := by decide +kernel
theorem dL_types_79 : decode cL_types 79 = .ok (.aload_n 0, 1) := by decide +kernel
theorem dL_types_80 : decode cL_types 80 = .ok (.bipush 41, 2) := by decide +kernel
theorem dL_types_82 : decode cL_types 82 = .ok (.invokevirtual 50, 3) := by decide +kernel
theorem dL_types_85 : decode cL_types 85 = .ok (.bipush 6, 2) := by decide +kernel
theorem dL_types_87 : decode cL_types 87 = .ok (.if_icmp .ne 29, 3) := by decide +kernel
theorem dL_types_90 : decode cL_types 90 = .ok (.aload_n 0, 1) := by decide +kernel
theorem dL_types_91 : decode cL_types 91 = .ok (.bipush 60, 2) := by decide +kernel
theorem dL_types_93 : decode cL_types 93 = .ok (.invokevirtual 50, 3) := by decide +kernel
theorem dL_types_96 : decode cL_types 96 = .ok (.bipush 7, 2) := by decide +kernel
theorem dL_types_98 : decode cL_types 98 = .ok (.if_icmp .ne 18, 3) := by decide +kernel
theorem dL_types_101 : decode cL_types 101 = .ok (.aload_n 0, 1) := by decide +kernel
theorem dL_types_102 : decode cL_types 102 = .ok (.bipush 40, 2) := by decide +kernel
theorem dL_types_104 : decode cL_types 104 = .ok (.invokevirtual 50, 3) := by decide +kernel
theorem dL_types_107 : decode cL_types 107 = .ok (.bipush 8, 2) := by decide +kernel
theorem dL_types_109 : decode cL_types 109 = .ok (.if_icmp .ne 7, 3) := by decide +kernel
theorem dL_types_112 : decode cL_types 112 = .ok (.iconst 1, 1) := by decide +kernel
theorem dL_types_113 : decode cL_types 113 = .ok (.goto 4, 3) := by decide +kernel
theorem dL_types_116 : decode cL_types 116 = .ok (.iconst 0, 1) := by decide +kernel
theorem dL_types_117 : decode cL_types 117 = .ok (.istore_n 2, 1) := by decide +kernel
theorem dL_types_118 : decode cL_types 118 = .ok (.iload_n 2, 1) := by decide +kernel
theorem dL_types_119 : decode cL_types 119 = .ok (.ifCond .eq 76, 3) := by decide +kernel
theorem dL_types_122 : decode cL_types 122 = .ok (.aload_n 0, 1) := by decide +kernel
theorem dL_types_123 : decode cL_types 123 = .ok (.bipush 51, 2) := by decide +kernel
theorem dL_types_125 : decode cL_types 125 = .ok (.invokevirtual 50, 3) := by decide +kernel
theorem dL_types_128 : decode cL_types 128 = .ok (.bipush 9, 2) := by decide +kernel
theorem dL_types_130 : decode cL_types 130 = .ok (.if_icmp .ne 65, 3) := by decide +kernel
theorem dL_types_133 : decode cL_types 133 = .ok (.aload_n 0, 1) := by decide +kernel
theorem dL_types_134 : decode cL_types 134 = .ok (.bipush 97, 2) := by decide +kernel
theorem dL_types_136 : decode cL_types 136 = .ok (.iload_n 1, 1) := by decide +kernel
theorem dL_types_137 : decode cL_types 137 = .ok (.bipush 6, 2) := by decide +kernel
theorem dL_types_139 : decode cL_types 139 = .ok (.ishr, 1) := by decide +kernel
theorem dL_types_140 : decode cL_types 140 = .ok (.bipush 6, 2) := by decide +kernel
theorem dL_types_142 : decode cL_types 142 = .ok (.irem, 1) := by decide +kernel
theorem dL_types_143 : decode cL_types 143 = .ok (.iadd, 1) := by decide +kernel
theorem dL_types_144 : decode cL_types 144 = .ok (.invokevirtual 50, 3) := by decide +kernel
theorem dL_types_147 : decode cL_types 147 = .ok (.bipush 10, 2) := by decide +kernel
theorem dL_types_149 : decode cL_types 149 = .ok (.if_icmp .ne 46, 3) := by decide +kernel
theorem dL_types_152 : decode cL_types 152 = .ok (.aload_n 0, 1) := by decide +kernel
theorem dL_types_153 : decode cL_types 153 = .ok (.bipush 97, 2) := by decide +kernel
theorem dL_types_155 : decode cL_types 155 = .ok (.iload_n 1, 1) := by decide +kernel
theorem dL_types_156 : decode cL_types 156 = .ok (.bipush 9, 2) := by decide +kernel
theorem dL_types_158 : decode cL_types 158 = .ok (.ishr, 1) := by decide +kernel
theorem dL_types_159 : decode cL_types 159 = .ok (.bipush 6, 2) := by decide +kernel
theorem dL_types_161 : decode cL_types 161 = .ok (.irem, 1) := by decide +kernel
theorem dL_types_162 : decode cL_types 162 = .ok (.iadd, 1) := by decide +kernel
theorem dL_types_163 : decode cL_types 163 = .ok (.invokevirtual 50, 3) := by decide +kernel
theorem dL_types_166 : decode cL_types 166 = .ok (.bipush 11, 2) := by decide +kernel
theorem dL_types_168 : decode cL_types 168 = .ok (.if_icmp .ne 27, 3) := by decide +kernel
theorem dL_types_171 : decode cL_types 171 = .ok (.aload_n 0, 1) := by decide +kernel
theorem dL_types_172 : decode cL_types 172 = .ok (.bipush 41, 2) := by decide +kernel
theorem dL_types_174 : decode cL_types 174 = .ok (.invokevirtual 50, 3) := by decide +kernel
theorem dL_types_177 : decode cL_types 177 = .ok (.bipush 12, 2) := by decide +kernel
theorem dL_types_179 : decode cL_types 179 = .ok (.if_icmp .ne 16, 3) := by decide +kernel
theorem dL_types_182 : decode cL_types 182 = .ok (.aload_n 0, 1) := by decide +kernel
theorem dL_types_183 : decode cL_types 183 = .ok (.invokevirtual 53, 3) := by decide +kernel
theorem dL_types_186 : decode cL_types 186 = .ok (.bipush 12, 2) := by decide +kernel
theorem dL_types_188 : decode cL_types 188 = .ok (.if_icmp .ne 7, 3) := by decide +kernel
theorem dL_types_191 : decode cL_types 191 = .ok (.iconst 1, 1) := by decide +kernel
theorem dL_types_192 : decode cL_types 192 = .ok (.goto 4, 3) := by decide +kernel
theorem dL_types_195 : decode cL_types 195 = .ok (.iconst 0, 1) := by decide +kernel
theorem dL_types_196 : decode cL_types 196 = .ok (.istore_n 2, 1) := by decide +kernel
theorem dL_types_197 : decode cL_types 197 = .ok (.iload_n 2, 1) := by decide +kernel
theorem dL_types_198 : decode cL_types 198 = .ok (.ifCond .eq 27, 3) := by decide +kernel
theorem dL_types_201 : decode cL_types 201 = .ok (.aload_n 0, 1) := by decide +kernel
theorem dL_types_202 : decode cL_types 202 = .ok (.bipush 93, 2) := by decide +kernel
theorem dL_types_204 : decode cL_types 204 = .ok (.invokevirtual 50, 3) := by decide +kernel
theorem dL_types_207 : decode cL_types 207 = .ok (.bipush 13, 2) := by decide +kernel
theorem dL_types_209 : decode cL_types 209 = .ok (.if_icmp .ne 16, 3) := by decide +kernel
theorem dL_types_212 : decode cL_types 212 = .ok (.aload_n 0, 1) := by decide +kernel
theorem dL_types_213 : decode cL_types 213 = .ok (.invokevirtual 53, 3) := by decide +kernel
theorem dL_types_216 : decode cL_types 216 = .ok (.bipush (-9), 2) := by decide +kernel
theorem dL_types_218 : decode cL_types 218 = .ok (.if_icmp .ne 7, 3) := by decide +kernel
theorem dL_types_221 : decode cL_types 221 = .ok (.iconst 1, 1) := by decide +kernel
theorem dL_types_222 : decode cL_types 222 = .ok (.goto 4, 3) := by decide +kernel
theorem dL_types_225 : decode cL_types 225 = .ok (.iconst 0, 1) := by decide +kernel
theorem dL_types_226 : decode cL_types 226 = .ok (.ireturn, 1) := by decide +kernel
theorem dL_acts_0 : decode cL_acts 0 = .ok (.iload_n 1, 1) := by decide +kernel
theorem dL_acts_1 : decode cL_acts 1 = .ok (.iconst 3, 1) := by decide +kernel
theorem dL_acts_2 : decode cL_acts 2 = .ok (.ishr, 1) := by decide +kernel
theorem dL_acts_3 : decode cL_acts 3 = .ok (.istore_n 2, 1) := by decide +kernel
theorem dL_acts_4 : decode cL_acts 4 = .ok (.iload_n 2, 1) := by decide +kernel
theorem dL_acts_5 : decode cL_acts 5 = .ok (.iconst 3, 1) := by decide +kernel
theorem dL_acts_6 : decode cL_acts 6 = .ok (.irem, 1) := by decide +kernel
theorem dL_acts_7 : decode cL_acts 7 = .ok (.istore_n 3, 1) := by decide +kernel
theorem dL_acts_8 : decode cL_acts 8 = .ok (.aload_n 0, 1) := by decide +kernel
theorem dL_acts_9 : decode cL_acts 9 = .ok (.iconst 0, 1) := by decide +kernel
theorem dL_acts_10 : decode cL_acts 10 = .ok (.invokevirtual 19, 3) := by decide +kernel
theorem dL_acts_13 : decode cL_acts 13 = .ok (.istore 4, 2) := by decide +kernel
theorem dL_acts_15 : decode cL_acts 15 = .ok (.iload_n 1, 1) := by decide +kernel
theorem dL_acts_16 : decode cL_acts 16 = .ok (.bipush 7, 2) := by decide +kernel
theorem dL_acts_18 : decode cL_acts 18 = .ok (.iand, 1) := by decide +kernel
theorem dL_acts_19 : decode cL_acts 19 = .ok (.tableswitch 249 0 6 #[41, 62, 62, 126, 161, 161, 236], 41) := by decide +kernel
theorem dL_acts_60 : decode cL_acts 60 = .ok (.iload 4, 2) := by decide +kernel
theorem dL_acts_62 : decode cL_acts 62 = .ok (.iconst 5, 1) := by decide +kernel
theorem dL_acts_63 : decode cL_acts 63 = .ok (.if_icmp .eq 12, 3) := by decide +kernel
theorem dL_acts_66 : decode cL_acts 66 = .ok (.aload_n 0, 1) := by decide +kernel
theorem dL_acts_67 : decode cL_acts 67 = .ok (.invokevirtual 56, 3) := by decide +kernel
theorem dL_acts_70 : decode cL_acts 70 = .ok (.iload 4, 2) := by decide +kernel
theorem dL_acts_72 : decode cL_acts 72 = .ok (.if_icmp .ne 7, 3) := by decide +kernel
theorem dL_acts_75 : decode cL_acts 75 = .ok (.iconst 1, 1) := by decide +kernel
theorem dL_acts_76 : decode cL_acts 76 = .ok (.goto 4, 3) := by decide +kernel
theorem dL_acts_79 : decode cL_acts 79 = .ok (.iconst 0, 1) := by decide +kernel
theorem dL_acts_80 : decode cL_acts 80 = .ok (.ireturn, 1) := by decide +kernel
theorem dL_acts_81 : decode cL_acts 81 = .ok (.iload_n 2, 1) := by decide +kernel
theorem dL_acts_82 : decode cL_acts 82 = .ok (.iconst 4, 1) := by decide +kernel
theorem dL_acts_83 : decode cL_acts 83 = .ok (.ishr, 1) := by decide +kernel
theorem dL_acts_84 : decode cL_acts 84 = .ok (.bipush 6, 2) := by decide +kernel
theorem dL_acts_86 : decode cL_acts 86 = .ok (.irem, 1) := by decide +kernel
theorem dL_acts_87 : decode cL_acts 87 = .ok (.istore 5, 2) := by decide +kernel
theorem dL_acts_89 : decode cL_acts 89 = .ok (.aload_n 0, 1) := by decide +kernel
theorem dL_acts_90 : decode cL_acts 90 = .ok (.iload 5, 2) := by decide +kernel
theorem dL_acts_92 : decode cL_acts 92 = .ok (.iconst 0, 1) := by decide +kernel
theorem dL_acts_93 : decode cL_acts 93 = .ok (.invokevirtual 9, 3) := by decide +kernel
theorem dL_acts_96 : decode cL_acts 96 = .ok (.istore 6, 2) := by decide +kernel
theorem dL_acts_98 : decode cL_acts 98 = .ok (.iload 4, 2) := by decide +kernel
theorem dL_acts_100 : decode cL_acts 100 = .ok (.ifCond .eq 39, 3) := by decide +kernel
theorem dL_acts_103 : decode cL_acts 103 = .ok (.aload_n 0, 1) := by decide +kernel
theorem dL_acts_104 : decode cL_acts 104 = .ok (.iload_n 2, 1) := by decide +kernel
theorem dL_acts_105 : decode cL_acts 105 = .ok (.iconst 2, 1) := by decide +kernel
theorem dL_acts_106 : decode cL_acts 106 = .ok (.ishr, 1) := by decide +kernel
theorem dL_acts_107 : decode cL_acts 107 = .ok (.iload 4, 2) := by decide +kernel
theorem dL_acts_109 : decode cL_acts 109 = .ok (.irem, 1) := by decide +kernel
theorem dL_acts_110 : decode cL_acts 110 = .ok (.iload 5, 2) := by decide +kernel
theorem dL_acts_112 : decode cL_acts 112 = .ok (.iconst 1, 1) := by decide +kernel
theorem dL_acts_113 : decode cL_acts 113 = .ok (.iload_n 2, 1) := by decide +kernel
theorem dL_acts_114 : decode cL_acts 114 = .ok (.bipush 7, 2) := by decide +kernel
theorem dL_acts_116 : decode cL_acts 116 = .ok (.ishr, 1) := by decide +kernel
theorem dL_acts_117 : decode cL_acts 117 = .ok (.bipush 20, 2) := by decide +kernel
theorem dL_acts_119 : decode cL_acts 119 = .ok (.irem, 1) := by decide +kernel
theorem dL_acts_120 : decode cL_acts 120 = .ok (.iadd, 1) := by decide +kernel
theorem dL_acts_121 : decode cL_acts 121 = .ok (.invokevirtual 59, 3) := by decide +kernel
theorem dL_acts_124 : decode cL_acts 124 = .ok (.iload 6, 2) := by decide +kernel
theorem dL_acts_126 : decode cL_acts 126 = .ok (.iconst 1, 1) := by decide +kernel
theorem dL_acts_127 : decode cL_acts 127 = .ok (.iadd, 1) := by decide +kernel
theorem dL_acts_128 : decode cL_acts 128 = .ok (.iload_n 2, 1) := by decide +kernel
theorem dL_acts_129 : decode cL_acts 129 = .ok (.bipush 7, 2) := by decide +kernel
theorem dL_acts_131 : decode cL_acts 131 = .ok (.ishr, 1) := by decide +kernel
theorem dL_acts_132 : decode cL_acts 132 = .ok (.bipush 20, 2) := by decide +kernel
theorem dL_acts_134 : decode cL_acts 134 = .ok (.irem, 1) := by decide +kernel
theorem dL_acts_135 : decode cL_acts 135 = .ok (.iadd, 1) := by decide +kernel
theorem dL_acts_136 : decode cL_acts 136 = .ok (.if_icmp .ne 7, 3) := by decide +kernel
theorem dL_acts_139 : decode cL_acts 139 = .ok (.iconst 1, 1) := by decide +kernel
theorem dL_acts_140 : decode cL_acts 140 = .ok (.goto 4, 3) := by decide +kernel
theorem dL_acts_143 : decode cL_acts 143 = .ok (.iconst 0, 1) := by decide +kernel
theorem dL_acts_144 : decode cL_acts 144 = .ok (.ireturn, 1) := by decide +kernel
theorem dL_acts_145 : decode cL_acts 145 = .ok (.aload_n 0, 1) := by decide +kernel
theorem dL_acts_146 : decode cL_acts 146 = .ok (.iload_n 3, 1) := by decide +kernel
theorem dL_acts_147 : decode cL_acts 147 = .ok (.iconst 0, 1) := by decide +kernel
theorem dL_acts_148 : decode cL_acts 148 = .ok (.invokevirtual 26, 3) := by decide +kernel
theorem dL_acts_151 : decode cL_acts 151 = .ok (.ifCond .gt 23, 3) := by decide +kernel
theorem dL_acts_154 : decode cL_acts 154 = .ok (.aload_n 0, 1) := by decide +kernel
theorem dL_acts_155 : decode cL_acts 155 = .ok (.iload_n 2, 1) := by decide +kernel
theorem dL_acts_156 : decode cL_acts 156 = .ok (.iconst 2, 1) := by decide +kernel
theorem dL_acts_157 : decode cL_acts 157 = .ok (.ishr, 1) := by decide +kernel
theorem dL_acts_158 : decode cL_acts 158 = .ok (.invokestatic 62, 3) := by decide +kernel
theorem dL_acts_161 : decode cL_acts 161 = .ok (.ifCond .eq 17, 3) := by decide +kernel
theorem dL_acts_164 : decode cL_acts 164 = .ok (.aload_n 0, 1) := by decide +kernel
theorem dL_acts_165 : decode cL_acts 165 = .ok (.iload_n 3, 1) := by decide +kernel
theorem dL_acts_166 : decode cL_acts 166 = .ok (.invokevirtual 68, 3) := by decide +kernel
theorem dL_acts_169 : decode cL_acts 169 = .ok (.bipush 8, 2) := by decide +kernel
theorem dL_acts_171 : decode cL_acts 171 = .ok (.if_icmp .ne 7, 3) := by decide +kernel
theorem dL_acts_174 : decode cL_acts 174 = .ok (.iconst 1, 1) := by decide +kernel
theorem dL_acts_175 : decode cL_acts 175 = .ok (.goto 4, 3) := by decide +kernel
theorem dL_acts_178 : decode cL_acts 178 = .ok (.iconst 0, 1) := by decide +kernel
theorem dL_acts_179 : decode cL_acts 179 = .ok (.ireturn, 1) := by decide +kernel
theorem dL_acts_180 : decode cL_acts 180 = .ok (.aload_n 0, 1) := by decide +kernel
theorem dL_acts_181 : decode cL_acts 181 = .ok (.iload_n 3, 1) := by decide +kernel
theorem dL_acts_182 : decode cL_acts 182 = .ok (.iconst 2, 1) := by decide +kernel
theorem dL_acts_183 : decode cL_acts 183 = .ok (.invokevirtual 26, 3) := by decide +kernel
theorem dL_acts_186 : decode cL_acts 186 = .ok (.istore 7, 2) := by decide +kernel
theorem dL_acts_188 : decode cL_acts 188 = .ok (.aload_n 0, 1) := by decide +kernel
theorem dL_acts_189 : decode cL_acts 189 = .ok (.iconst 1, 1) := by decide +kernel
theorem dL_acts_190 : decode cL_acts 190 = .ok (.invokevirtual 19, 3) := by decide +kernel
theorem dL_acts_193 : decode cL_acts 193 = .ok (.istore 8, 2) := by decide +kernel
theorem dL_acts_195 : decode cL_acts 195 = .ok (.iload 4, 2) := by decide +kernel
theorem dL_acts_197 : decode cL_acts 197 = .ok (.ifCond .eq 52, 3) := by decide +kernel
theorem dL_acts_200 : decode cL_acts 200 = .ok (.aload_n 0, 1) := by decide +kernel
theorem dL_acts_201 : decode cL_acts 201 = .ok (.iload_n 3, 1) := by decide +kernel
theorem dL_acts_202 : decode cL_acts 202 = .ok (.iconst 0, 1) := by decide +kernel
theorem dL_acts_203 : decode cL_acts 203 = .ok (.invokevirtual 26, 3) := by decide +kernel
theorem dL_acts_206 : decode cL_acts 206 = .ok (.ifCond .eq 43, 3) := by decide +kernel
theorem dL_acts_209 : decode cL_acts 209 = .ok (.aload_n 0, 1) := by decide +kernel
theorem dL_acts_210 : decode cL_acts 210 = .ok (.iload_n 3, 1) := by decide +kernel
theorem dL_acts_211 : decode cL_acts 211 = .ok (.iconst 1, 1) := by decide +kernel
theorem dL_acts_212 : decode cL_acts 212 = .ok (.iload_n 2, 1) := by decide +kernel
theorem dL_acts_213 : decode cL_acts 213 = .ok (.iconst 4, 1) := by decide +kernel
theorem dL_acts_214 : decode cL_acts 214 = .ok (.ishr, 1) := by decide +kernel
theorem dL_acts_215 : decode cL_acts 215 = .ok (.bipush 9, 2) := by decide +kernel
theorem dL_acts_217 : decode cL_acts 217 = .ok (.irem, 1) := by decide +kernel
theorem dL_acts_218 : decode cL_acts 218 = .ok (.iadd, 1) := by decide +kernel
theorem dL_acts_219 : decode cL_acts 219 = .ok (.invokevirtual 71, 3) := by decide +kernel
theorem dL_acts_222 : decode cL_acts 222 = .ok (.aload_n 0, 1) := by decide +kernel
theorem dL_acts_223 : decode cL_acts 223 = .ok (.iload_n 3, 1) := by decide +kernel
theorem dL_acts_224 : decode cL_acts 224 = .ok (.iconst 2, 1) := by decide +kernel
theorem dL_acts_225 : decode cL_acts 225 = .ok (.invokevirtual 26, 3) := by decide +kernel
theorem dL_acts_228 : decode cL_acts 228 = .ok (.iload 7, 2) := by decide +kernel
theorem dL_acts_230 : decode cL_acts 230 = .ok (.isub, 1) := by decide +kernel
theorem dL_acts_231 : decode cL_acts 231 = .ok (.if_icmp .ne 22, 3) := by decide +kernel
theorem dL_acts_234 : decode cL_acts 234 = .ok (.aload_n 0, 1) := by decide +kernel
theorem dL_acts_235 : decode cL_acts 235 = .ok (.iconst 1, 1) := by decide +kernel
theorem dL_acts_236 : decode cL_acts 236 = .ok (.invokevirtual 19, 3) := by decide +kernel
theorem dL_acts_239 : decode cL_acts 239 = .ok (.iload 8, 2) := by decide +kernel
theorem dL_acts_241 : decode cL_acts 241 = .ok (.iconst 1, 1) := by decide +kernel
theorem dL_acts_242 : decode cL_acts 242 = .ok (.iadd, 1) := by decide +kernel
theorem dL_acts_243 : decode cL_acts 243 = .ok (.iload 4, 2) := by decide +kernel
theorem dL_acts_245 : decode cL_acts 245 = .ok (.irem, 1) := by decide +kernel
theorem dL_acts_246 : decode cL_acts 246 = .ok (.if_icmp .ne 7, 3) := by decide +kernel
theorem dL_acts_249 : decode cL_acts 249 = .ok (.iconst 1, 1) := by decide +kernel
theorem dL_acts_250 : decode cL_acts 250 = .ok (.goto 4, 3) := by decide +kernel
theorem dL_acts_253 : decode cL_acts 253 = .ok (.iconst 0, 1) := by decide +kernel
theorem dL_acts_254 : decode cL_acts 254 = .ok (.ireturn, 1) := by decide +kernel
theorem dL_acts_255 : decode cL_acts 255 = .ok (.aload_n 0, 1) := by decide +kernel
theorem dL_acts_256 : decode cL_acts 256 = .ok (.iload_n 3, 1) := by decide +kernel
theorem dL_acts_257 : decode cL_acts 257 = .ok (.iload_n 2, 1) := by decide +kernel
theorem dL_acts_258 : decode cL_acts 258 = .ok (.iconst 4, 1) := by decide +kernel
theorem dL_acts_259 : decode cL_acts 259 = .ok (.ishr, 1) := by decide +kernel
theorem dL_acts_260 : decode cL_acts 260 = .ok (.sipush 10000, 3) := by decide +kernel
theorem dL_acts_263 : decode cL_acts 263 = .ok (.irem, 1) := by decide +kernel
theorem dL_acts_264 : decode cL_acts 264 = .ok (.invokestatic 74, 3) := by decide +kernel
theorem dL_acts_267 : decode cL_acts 267 = .ok (.ireturn, 1) := by decide +kernel
theorem dL_acts_268 : decode cL_acts 268 = .ok (.iload_n 2, 1) := by decide +kernel
theorem dL_acts_269 : decode cL_acts 269 = .ok (.iconst 4, 1) := by decide +kernel
theorem dL_acts_270 : decode cL_acts 270 = .ok (.ishr, 1) := by decide +kernel
theorem dL_acts_271 : decode cL_acts 271 = .ok (.bipush 7, 2) := by decide +kernel
theorem dL_acts_273 : decode cL_acts 273 = .ok (.iand, 1) := by decide +kernel
theorem dL_acts_274 : decode cL_acts 274 = .ok (.ifCond .le 51, 3) := by decide +kernel
theorem dL_acts_277 : decode cL_acts 277 = .ok (.aload_n 0, 1) := by decide +kernel
theorem dL_acts_278 : decode cL_acts 278 = .ok (.iload_n 3, 1) := by decide +kernel
theorem dL_acts_279 : decode cL_acts 279 = .ok (.iconst 0, 1) := by decide +kernel
theorem dL_acts_280 : decode cL_acts 280 = .ok (.invokevirtual 26, 3) := by decide +kernel
theorem dL_acts_283 : decode cL_acts 283 = .ok (.ifCond .eq 34, 3) := by decide +kernel
theorem dL_acts_286 : decode cL_acts 286 = .ok (.aload_n 0, 1) := by decide +kernel
theorem dL_acts_287 : decode cL_acts 287 = .ok (.iload_n 3, 1) := by decide +kernel
theorem dL_acts_288 : decode cL_acts 288 = .ok (.iconst 2, 1) := by decide +kernel
theorem dL_acts_289 : decode cL_acts 289 = .ok (.invokevirtual 26, 3) := by decide +kernel
theorem dL_acts_292 : decode cL_acts 292 = .ok (.ifCond .gt 25, 3) := by decide +kernel
theorem dL_acts_295 : decode cL_acts 295 = .ok (.aload_n 0, 1) := by decide +kernel
theorem dL_acts_296 : decode cL_acts 296 = .ok (.iload_n 3, 1) := by decide +kernel
theorem dL_acts_297 : decode cL_acts 297 = .ok (.iload_n 2, 1) := by decide +kernel
theorem dL_acts_298 : decode cL_acts 298 = .ok (.bipush 7, 2) := by decide +kernel
theorem dL_acts_300 : decode cL_acts 300 = .ok (.ishr, 1) := by decide +kernel
theorem dL_acts_301 : decode cL_acts 301 = .ok (.bipush 6, 2) := by decide +kernel
theorem dL_acts_303 : decode cL_acts 303 = .ok (.irem, 1) := by decide +kernel
theorem dL_acts_304 : decode cL_acts 304 = .ok (.iload_n 2, 1) := by decide +kernel
theorem dL_acts_305 : decode cL_acts 305 = .ok (.bipush 10, 2) := by decide +kernel
theorem dL_acts_307 : decode cL_acts 307 = .ok (.ishr, 1) := by decide +kernel
theorem dL_acts_308 : decode cL_acts 308 = .ok (.bipush 6, 2) := by decide +kernel
theorem dL_acts_310 : decode cL_acts 310 = .ok (.irem, 1) := by decide +kernel
theorem dL_acts_311 : decode cL_acts 311 = .ok (.invokevirtual 78, 3) := by decide +kernel
theorem dL_acts_314 : decode cL_acts 314 = .ok (.ifCond .lt 7, 3) := by decide +kernel
theorem dL_acts_317 : decode cL_acts 317 = .ok (.iconst 1, 1) := by decide +kernel
theorem dL_acts_318 : decode cL_acts 318 = .ok (.goto 71, 3) := by decide +kernel
theorem dL_acts_321 : decode cL_acts 321 = .ok (.iconst 0, 1) := by decide +kernel
theorem dL_acts_322 : decode cL_acts 322 = .ok (.goto 67, 3) := by decide +kernel
theorem dL_acts_325 : decode cL_acts 325 = .ok (.iload_n 2, 1) := by decide +kernel
theorem dL_acts_326 : decode cL_acts 326 = .ok (.bipush 7, 2) := by decide +kernel
theorem dL_acts_328 : decode cL_acts 328 = .ok (.ishr, 1) := by decide +kernel
theorem dL_acts_329 : decode cL_acts 329 = .ok (.iconst 1, 1) := by decide +kernel
theorem dL_acts_330 : decode cL_acts 330 = .ok (.iand, 1) := by decide +kernel
theorem dL_acts_331 : decode cL_acts 331 = .ok (.ifCond .ne 27, 3) := by decide +kernel
theorem dL_acts_334 : decode cL_acts 334 = .ok (.aload_n 0, 1) := by decide +kernel
theorem dL_acts_335 : decode cL_acts 335 = .ok (.invokevirtual 81, 3) := by decide +kernel
theorem dL_acts_338 : decode cL_acts 338 = .ok (.ifCond .lt 16, 3) := by decide +kernel
theorem dL_acts_341 : decode cL_acts 341 = .ok (.aload_n 0, 1) := by decide +kernel
theorem dL_acts_342 : decode cL_acts 342 = .ok (.bipush 6, 2) := by decide +kernel
theorem dL_acts_344 : decode cL_acts 344 = .ok (.invokevirtual 19, 3) := by decide +kernel
theorem dL_acts_347 : decode cL_acts 347 = .ok (.ifCond .ne 7, 3) := by decide +kernel
theorem dL_acts_350 : decode cL_acts 350 = .ok (.iconst 1, 1) := by decide +kernel
theorem dL_acts_351 : decode cL_acts 351 = .ok (.goto 38, 3) := by decide +kernel
theorem dL_acts_354 : decode cL_acts 354 = .ok (.iconst 0, 1) := by decide +kernel
theorem dL_acts_355 : decode cL_acts 355 = .ok (.goto 34, 3) := by decide +kernel
theorem dL_acts_358 : decode cL_acts 358 = .ok (.aload_n 0, 1) := by decide +kernel
theorem dL_acts_359 : decode cL_acts 359 = .ok (.iload_n 3, 1) := by decide +kernel
theorem dL_acts_360 : decode cL_acts 360 = .ok (.iconst 0, 1) := by decide +kernel
theorem dL_acts_361 : decode cL_acts 361 = .ok (.invokevirtual 26, 3) := by decide +kernel
theorem dL_acts_364 : decode cL_acts 364 = .ok (.ifCond .eq 20, 3) := by decide +kernel
theorem dL_acts_367 : decode cL_acts 367 = .ok (.aload_n 0, 1) := by decide +kernel
theorem dL_acts_368 : decode cL_acts 368 = .ok (.iload_n 3, 1) := by decide +kernel
theorem dL_acts_369 : decode cL_acts 369 = .ok (.invokevirtual 84, 3) := by decide +kernel
theorem dL_acts_372 : decode cL_acts 372 = .ok (.ifCond .lt 16, 3) := by decide +kernel
theorem dL_acts_375 : decode cL_acts 375 = .ok (.aload_n 0, 1) := by decide +kernel
theorem dL_acts_376 : decode cL_acts 376 = .ok (.iload_n 3, 1) := by decide +kernel
theorem dL_acts_377 : decode cL_acts 377 = .ok (.iconst 0, 1) := by decide +kernel
theorem dL_acts_378 : decode cL_acts 378 = .ok (.invokevirtual 26, 3) := by decide +kernel
theorem dL_acts_381 : decode cL_acts 381 = .ok (.ifCond .ne 7, 3) := by decide +kernel
theorem dL_acts_384 : decode cL_acts 384 = .ok (.iconst 1, 1) := by decide +kernel
theorem dL_acts_385 : decode cL_acts 385 = .ok (.goto 4, 3) := by decide +kernel
theorem dL_acts_388 : decode cL_acts 388 = .ok (.iconst 0, 1) := by decide +kernel
theorem dL_acts_389 : decode cL_acts 389 = .ok (.ireturn, 1) := by decide +kernel
theorem dL_sound_0 : decode cL_sound 0 = .ok (.aload_n 0, 1) := by decide +kernel
theorem dL_sound_1 : decode cL_sound 1 = .ok (.invokestatic 87, 3) := by decide +kernel
theorem dL_sound_4 : decode cL_sound 4 = .ok (.ifCond .eq 38, 3) := by decide +kernel
theorem dL_sound_7 : decode cL_sound 7 = .ok (.aload_n 0, 1) := by decide +kernel
theorem dL_sound_8 : decode cL_sound 8 = .ok (.invokestatic 90, 3) := by decide +kernel
theorem dL_sound_11 : decode cL_sound 11 = .ok (.ifCond .eq 31, 3) := by decide +kernel
theorem dL_sound_14 : decode cL_sound 14 = .ok (.aload_n 0, 1) := by decide +kernel
theorem dL_sound_15 : decode cL_sound 15 = .ok (.iconst 0, 1) := by decide +kernel
theorem dL_sound_16 : decode cL_sound 16 = .ok (.invokestatic 93, 3) := by decide +kernel
theorem dL_sound_19 : decode cL_sound 19 = .ok (.ifCond .eq 23, 3) := by decide +kernel
theorem dL_sound_22 : decode cL_sound 22 = .ok (.aload_n 0, 1) := by decide +kernel
theorem dL_sound_23 : decode cL_sound 23 = .ok (.iconst 1, 1) := by decide +kernel
theorem dL_sound_24 : decode cL_sound 24 = .ok (.invokestatic 93, 3) := by decide +kernel
theorem dL_sound_27 : decode cL_sound 27 = .ok (.ifCond .eq 15, 3) := by decide +kernel
theorem dL_sound_30 : decode cL_sound 30 = .ok (.aload_n 0, 1) := by decide +kernel
theorem dL_sound_31 : decode cL_sound 31 = .ok (.iconst 2, 1) := by decide +kernel
theorem dL_sound_32 : decode cL_sound 32 = .ok (.invokestatic 93, 3) := by decide +kernel
theorem dL_sound_35 : decode cL_sound 35 = .ok (.ifCond .eq 7, 3) := by decide +kernel
theorem dL_sound_38 : decode cL_sound 38 = .ok (.iconst 1, 1) := by decide +kernel
theorem dL_sound_39 : decode cL_sound 39 = .ok (.goto 4, 3) := by decide +kernel
theorem dL_sound_42 : decode cL_sound 42 = .ok (.iconst 0, 1) := by decide +kernel
theorem dL_sound_43 : decode cL_sound 43 = .ok (.ireturn, 1) := by decide +kernel
theorem dL_law_0 : decode cL_law 0 = .ok (.new 10, 3) := by decide +kernel
theorem dL_law_3 : decode cL_law 3 = .ok (.dup, 1) := by decide +kernel
theorem dL_law_4 : decode cL_law 4 = .ok (.invokespecial 95, 3) := by decide +kernel
theorem dL_law_7 : decode cL_law 7 = .ok (.astore_n 1, 1) := by decide +kernel
theorem dL_law_8 : decode cL_law 8 = .ok (.aload_n 1, 1) := by decide +kernel
theorem dL_law_9 : decode cL_law 9 = .ok (.invokestatic 96, 3) := by decide +kernel
theorem dL_law_12 : decode cL_law 12 = .ok (.ifCond .eq 21, 3) := by decide +kernel
theorem dL_law_15 : decode cL_law 15 = .ok (.aload_n 1, 1) := by decide +kernel
theorem dL_law_16 : decode cL_law 16 = .ok (.invokevirtual 53, 3) := by decide +kernel
theorem dL_law_19 : decode cL_law 19 = .ok (.ifCond .ne 14, 3) := by decide +kernel
theorem dL_law_22 : decode cL_law 22 = .ok (.aload_n 1, 1) := by decide +kernel
theorem dL_law_23 : decode cL_law 23 = .ok (.invokevirtual 99, 3) := by decide +kernel
theorem dL_law_26 : decode cL_law 26 = .ok (.ifCond .ne 7, 3) := by decide +kernel
theorem dL_law_29 : decode cL_law 29 = .ok (.iconst 1, 1) := by decide +kernel
theorem dL_law_30 : decode cL_law 30 = .ok (.goto 4, 3) := by decide +kernel
theorem dL_law_33 : decode cL_law 33 = .ok (.iconst 0, 1) := by decide +kernel
theorem dL_law_34 : decode cL_law 34 = .ok (.istore_n 2, 1) := by decide +kernel
theorem dL_law_35 : decode cL_law 35 = .ok (.iconst 0, 1) := by decide +kernel
theorem dL_law_36 : decode cL_law 36 = .ok (.istore_n 3, 1) := by decide +kernel
theorem dL_law_37 : decode cL_law 37 = .ok (.iload_n 3, 1) := by decide +kernel
theorem dL_law_38 : decode cL_law 38 = .ok (.bipush 40, 2) := by decide +kernel
theorem dL_law_40 : decode cL_law 40 = .ok (.if_icmp .ge 38, 3) := by decide +kernel
theorem dL_law_43 : decode cL_law 43 = .ok (.iload_n 2, 1) := by decide +kernel
theorem dL_law_44 : decode cL_law 44 = .ok (.ifCond .eq 34, 3) := by decide +kernel
theorem dL_law_47 : decode cL_law 47 = .ok (.aload_n 1, 1) := by decide +kernel
theorem dL_law_48 : decode cL_law 48 = .ok (.aload_n 0, 1) := by decide +kernel
theorem dL_law_49 : decode cL_law 49 = .ok (.iload_n 3, 1) := by decide +kernel
theorem dL_law_50 : decode cL_law 50 = .ok (.invokestatic 102, 3) := by decide +kernel
theorem dL_law_53 : decode cL_law 53 = .ok (.invokestatic 106, 3) := by decide +kernel
theorem dL_law_56 : decode cL_law 56 = .ok (.ifCond .eq 14, 3) := by decide +kernel
theorem dL_law_59 : decode cL_law 59 = .ok (.aload_n 1, 1) := by decide +kernel
theorem dL_law_60 : decode cL_law 60 = .ok (.invokestatic 96, 3) := by decide +kernel
theorem dL_law_63 : decode cL_law 63 = .ok (.ifCond .eq 7, 3) := by decide +kernel
theorem dL_law_66 : decode cL_law 66 = .ok (.iconst 1, 1) := by decide +kernel
theorem dL_law_67 : decode cL_law 67 = .ok (.goto 4, 3) := by decide +kernel
theorem dL_law_70 : decode cL_law 70 = .ok (.iconst 0, 1) := by decide +kernel
theorem dL_law_71 : decode cL_law 71 = .ok (.istore_n 2, 1) := by decide +kernel
theorem dL_law_72 : decode cL_law 72 = .ok (.iinc 3 1, 3) := by decide +kernel
theorem dL_law_75 : decode cL_law 75 = .ok (.goto (-38), 3) := by decide +kernel
theorem dL_law_78 : decode cL_law 78 = .ok (.aload_n 1, 1) := by decide +kernel
theorem dL_law_79 : decode cL_law 79 = .ok (.iconst 0, 1) := by decide +kernel
theorem dL_law_80 : decode cL_law 80 = .ok (.invokevirtual 19, 3) := by decide +kernel
theorem dL_law_83 : decode cL_law 83 = .ok (.istore_n 3, 1) := by decide +kernel
theorem dL_law_84 : decode cL_law 84 = .ok (.aload_n 1, 1) := by decide +kernel
theorem dL_law_85 : decode cL_law 85 = .ok (.bipush 6, 2) := by decide +kernel
theorem dL_law_87 : decode cL_law 87 = .ok (.invokevirtual 19, 3) := by decide +kernel
theorem dL_law_90 : decode cL_law 90 = .ok (.istore 4, 2) := by decide +kernel
theorem dL_law_92 : decode cL_law 92 = .ok (.iload_n 2, 1) := by decide +kernel
theorem dL_law_93 : decode cL_law 93 = .ok (.ifCond .eq 41, 3) := by decide +kernel
theorem dL_law_96 : decode cL_law 96 = .ok (.aload_n 1, 1) := by decide +kernel
theorem dL_law_97 : decode cL_law 97 = .ok (.iconst 0, 1) := by decide +kernel
theorem dL_law_98 : decode cL_law 98 = .ok (.invokevirtual 109, 3) := by decide +kernel
theorem dL_law_101 : decode cL_law 101 = .ok (.iload_n 3, 1) := by decide +kernel
theorem dL_law_102 : decode cL_law 102 = .ok (.if_icmp .ne 32, 3) := by decide +kernel
theorem dL_law_105 : decode cL_law 105 = .ok (.aload_n 1, 1) := by decide +kernel
theorem dL_law_106 : decode cL_law 106 = .ok (.invokevirtual 81, 3) := by decide +kernel
theorem dL_law_109 : decode cL_law 109 = .ok (.ifCond .lt 25, 3) := by decide +kernel
theorem dL_law_112 : decode cL_law 112 = .ok (.aload_n 1, 1) := by decide +kernel
theorem dL_law_113 : decode cL_law 113 = .ok (.invokevirtual 112, 3) := by decide +kernel
theorem dL_law_116 : decode cL_law 116 = .ok (.ifCond .lt 18, 3) := by decide +kernel
theorem dL_law_119 : decode cL_law 119 = .ok (.aload_n 1, 1) := by decide +kernel
theorem dL_law_120 : decode cL_law 120 = .ok (.bipush 6, 2) := by decide +kernel
theorem dL_law_122 : decode cL_law 122 = .ok (.invokevirtual 19, 3) := by decide +kernel
theorem dL_law_125 : decode cL_law 125 = .ok (.iload 4, 2) := by decide +kernel
theorem dL_law_127 : decode cL_law 127 = .ok (.if_icmp .ne 7, 3) := by decide +kernel
theorem dL_law_130 : decode cL_law 130 = .ok (.iconst 1, 1) := by decide +kernel
theorem dL_law_131 : decode cL_law 131 = .ok (.goto 4, 3) := by decide +kernel
theorem dL_law_134 : decode cL_law 134 = .ok (.iconst 0, 1) := by decide +kernel
theorem dL_law_135 : decode cL_law 135 = .ok (.istore_n 2, 1) := by decide +kernel
theorem dL_law_136 : decode cL_law 136 = .ok (.iload_n 2, 1) := by decide +kernel
theorem dL_law_137 : decode cL_law 137 = .ok (.ifCond .eq 41, 3) := by decide +kernel
theorem dL_law_140 : decode cL_law 140 = .ok (.aload_n 1, 1) := by decide +kernel
theorem dL_law_141 : decode cL_law 141 = .ok (.invokevirtual 81, 3) := by decide +kernel
theorem dL_law_144 : decode cL_law 144 = .ok (.ifCond .lt 34, 3) := by decide +kernel
theorem dL_law_147 : decode cL_law 147 = .ok (.aload_n 1, 1) := by decide +kernel
theorem dL_law_148 : decode cL_law 148 = .ok (.iconst 0, 1) := by decide +kernel
theorem dL_law_149 : decode cL_law 149 = .ok (.invokevirtual 115, 3) := by decide +kernel
theorem dL_law_152 : decode cL_law 152 = .ok (.iload_n 3, 1) := by decide +kernel
theorem dL_law_153 : decode cL_law 153 = .ok (.if_icmp .ne 25, 3) := by decide +kernel
theorem dL_law_156 : decode cL_law 156 = .ok (.aload_n 1, 1) := by decide +kernel
theorem dL_law_157 : decode cL_law 157 = .ok (.bipush 6, 2) := by decide +kernel
theorem dL_law_159 : decode cL_law 159 = .ok (.invokevirtual 19, 3) := by decide +kernel
theorem dL_law_162 : decode cL_law 162 = .ok (.iload 4, 2) := by decide +kernel
theorem dL_law_164 : decode cL_law 164 = .ok (.if_icmp .ne 14, 3) := by decide +kernel
theorem dL_law_167 : decode cL_law 167 = .ok (.aload_n 1, 1) := by decide +kernel
theorem dL_law_168 : decode cL_law 168 = .ok (.invokestatic 96, 3) := by decide +kernel
theorem dL_law_171 : decode cL_law 171 = .ok (.ifCond .eq 7, 3) := by decide +kernel
theorem dL_law_174 : decode cL_law 174 = .ok (.iconst 1, 1) := by decide +kernel
theorem dL_law_175 : decode cL_law 175 = .ok (.goto 4, 3) := by decide +kernel
theorem dL_law_178 : decode cL_law 178 = .ok (.iconst 0, 1) := by decide +kernel
theorem dL_law_179 : decode cL_law 179 = .ok (.ireturn, 1) := by decide +kernel
