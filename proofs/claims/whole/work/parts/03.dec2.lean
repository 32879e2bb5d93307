theorem dX10_frame_0 : decode cX10_frame 0 = .ok (.aload_n 0, 1) := by decide +kernel
theorem dX10_frame_1 : decode cX10_frame 1 = .ok (.iload_n 1, 1) := by decide +kernel
theorem dX10_frame_2 : decode cX10_frame 2 = .ok (.invokevirtual 123, 3) := by decide +kernel
theorem dX10_frame_5 : decode cX10_frame 5 = .ok (.astore_n 3, 1) := by decide +kernel
theorem dX10_frame_6 : decode cX10_frame 6 = .ok (.iload_n 2, 1) := by decide +kernel
theorem dX10_frame_7 : decode cX10_frame 7 = .ok (.iconst 0, 1) := by decide +kernel
theorem dX10_frame_8 : decode cX10_frame 8 = .ok (.bipush 6, 2) := by decide +kernel
theorem dX10_frame_10 : decode cX10_frame 10 = .ok (.invokestatic 44, 3) := by decide +kernel
theorem dX10_frame_13 : decode cX10_frame 13 = .ok (.aload_n 3, 1) := by decide +kernel
theorem dX10_frame_14 : decode cX10_frame 14 = .ok (.getfield 127, 3) := by decide +kernel
theorem dX10_frame_17 : decode cX10_frame 17 = .ok (.astore 4, 2) := by decide +kernel
theorem dX10_frame_19 : decode cX10_frame 19 = .ok (.aload 4, 2) := by decide +kernel
theorem dX10_frame_21 : decode cX10_frame 21 = .ok (.ifnonnull 5, 3) := by decide +kernel
theorem dX10_frame_24 : decode cX10_frame 24 = .ok (.iconst 0, 1) := by decide +kernel
theorem dX10_frame_25 : decode cX10_frame 25 = .ok (.ireturn, 1) := by decide +kernel
theorem dX10_frame_26 : decode cX10_frame 26 = .ok (.iload_n 2, 1) := by decide +kernel
theorem dX10_frame_27 : decode cX10_frame 27 = .ok (.tableswitch 76 0 5 #[37, 43, 49, 54, 60, 66], 37) := by decide +kernel
theorem dX10_frame_64 : decode cX10_frame 64 = .ok (.aload 4, 2) := by decide +kernel
theorem dX10_frame_66 : decode cX10_frame 66 = .ok (.getfield 133, 3) := by decide +kernel
theorem dX10_frame_69 : decode cX10_frame 69 = .ok (.ireturn, 1) := by decide +kernel
theorem dX10_frame_70 : decode cX10_frame 70 = .ok (.aload 4, 2) := by decide +kernel
theorem dX10_frame_72 : decode cX10_frame 72 = .ok (.getfield 138, 3) := by decide +kernel
theorem dX10_frame_75 : decode cX10_frame 75 = .ok (.ireturn, 1) := by decide +kernel
theorem dX10_frame_76 : decode cX10_frame 76 = .ok (.aload_n 3, 1) := by decide +kernel
theorem dX10_frame_77 : decode cX10_frame 77 = .ok (.getfield 141, 3) := by decide +kernel
theorem dX10_frame_80 : decode cX10_frame 80 = .ok (.ireturn, 1) := by decide +kernel
theorem dX10_frame_81 : decode cX10_frame 81 = .ok (.aload 4, 2) := by decide +kernel
theorem dX10_frame_83 : decode cX10_frame 83 = .ok (.invokevirtual 142, 3) := by decide +kernel
theorem dX10_frame_86 : decode cX10_frame 86 = .ok (.ireturn, 1) := by decide +kernel
theorem dX10_frame_87 : decode cX10_frame 87 = .ok (.aload 4, 2) := by decide +kernel
theorem dX10_frame_89 : decode cX10_frame 89 = .ok (.invokevirtual 145, 3) := by decide +kernel
theorem dX10_frame_92 : decode cX10_frame 92 = .ok (.ireturn, 1) := by decide +kernel
theorem dX10_frame_93 : decode cX10_frame 93 = .ok (.aload_n 0, 1) := by decide +kernel
theorem dX10_frame_94 : decode cX10_frame 94 = .ok (.getfield 40, 3) := by decide +kernel
theorem dX10_frame_97 : decode cX10_frame 97 = .ok (.aload 4, 2) := by decide +kernel
theorem dX10_frame_99 : decode cX10_frame 99 = .ok (.invokevirtual 148, 3) := by decide +kernel
theorem dX10_frame_102 : decode cX10_frame 102 = .ok (.ireturn, 1) := by decide +kernel
theorem dX10_frame_103 : decode cX10_frame 103 = .ok (.aload_n 0, 1) := by decide +kernel
theorem dX10_frame_104 : decode cX10_frame 104 = .ok (.getfield 40, 3) := by decide +kernel
theorem dX10_frame_107 : decode cX10_frame 107 = .ok (.aload 4, 2) := by decide +kernel
theorem dX10_frame_109 : decode cX10_frame 109 = .ok (.invokevirtual 152, 3) := by decide +kernel
theorem dX10_frame_112 : decode cX10_frame 112 = .ok (.ireturn, 1) := by decide +kernel
theorem dX10_patch_0 : decode cX10_patch 0 = .ok (.aload_n 0, 1) := by decide +kernel
theorem dX10_patch_1 : decode cX10_patch 1 = .ok (.iload_n 1, 1) := by decide +kernel
theorem dX10_patch_2 : decode cX10_patch 2 = .ok (.invokevirtual 123, 3) := by decide +kernel
theorem dX10_patch_5 : decode cX10_patch 5 = .ok (.astore 4, 2) := by decide +kernel
theorem dX10_patch_7 : decode cX10_patch 7 = .ok (.iload_n 2, 1) := by decide +kernel
theorem dX10_patch_8 : decode cX10_patch 8 = .ok (.ifCond .lt 11, 3) := by decide +kernel
theorem dX10_patch_11 : decode cX10_patch 11 = .ok (.iload_n 3, 1) := by decide +kernel
theorem dX10_patch_12 : decode cX10_patch 12 = .ok (.ifCond .lt 7, 3) := by decide +kernel
theorem dX10_patch_15 : decode cX10_patch 15 = .ok (.iconst 1, 1) := by decide +kernel
theorem dX10_patch_16 : decode cX10_patch 16 = .ok (.goto 4, 3) := by decide +kernel
theorem dX10_patch_19 : decode cX10_patch 19 = .ok (.iconst 0, 1) := by decide +kernel
theorem dX10_patch_20 : decode cX10_patch 20 = .ok (.invokestatic 155, 3) := by decide +kernel
theorem dX10_patch_23 : decode cX10_patch 23 = .ok (.aload 4, 2) := by decide +kernel
theorem dX10_patch_25 : decode cX10_patch 25 = .ok (.getfield 127, 3) := by decide +kernel
theorem dX10_patch_28 : decode cX10_patch 28 = .ok (.astore 5, 2) := by decide +kernel
theorem dX10_patch_30 : decode cX10_patch 30 = .ok (.aload 5, 2) := by decide +kernel
theorem dX10_patch_32 : decode cX10_patch 32 = .ok (.ifnonnull 8, 3) := by decide +kernel
theorem dX10_patch_35 : decode cX10_patch 35 = .ok (.bipush (-9), 2) := by decide +kernel
theorem dX10_patch_37 : decode cX10_patch 37 = .ok (.goto 10, 3) := by decide +kernel
theorem dX10_patch_40 : decode cX10_patch 40 = .ok (.aload 5, 2) := by decide +kernel
theorem dX10_patch_42 : decode cX10_patch 42 = .ok (.iload_n 2, 1) := by decide +kernel
theorem dX10_patch_43 : decode cX10_patch 43 = .ok (.iload_n 3, 1) := by decide +kernel
theorem dX10_patch_44 : decode cX10_patch 44 = .ok (.invokevirtual 158, 3) := by decide +kernel
theorem dX10_patch_47 : decode cX10_patch 47 = .ok (.ireturn, 1) := by decide +kernel
theorem dX10_count_0 : decode cX10_count 0 = .ok (.aload_n 0, 1) := by decide +kernel
theorem dX10_count_1 : decode cX10_count 1 = .ok (.iload_n 1, 1) := by decide +kernel
theorem dX10_count_2 : decode cX10_count 2 = .ok (.invokevirtual 123, 3) := by decide +kernel
theorem dX10_count_5 : decode cX10_count 5 = .ok (.astore 4, 2) := by decide +kernel
theorem dX10_count_7 : decode cX10_count 7 = .ok (.aload_n 0, 1) := by decide +kernel
theorem dX10_count_8 : decode cX10_count 8 = .ok (.iload_n 2, 1) := by decide +kernel
theorem dX10_count_9 : decode cX10_count 9 = .ok (.invokevirtual 116, 3) := by decide +kernel
theorem dX10_count_12 : decode cX10_count 12 = .ok (.pop, 1) := by decide +kernel
theorem dX10_count_13 : decode cX10_count 13 = .ok (.aload 4, 2) := by decide +kernel
theorem dX10_count_15 : decode cX10_count 15 = .ok (.iload_n 2, 1) := by decide +kernel
theorem dX10_count_16 : decode cX10_count 16 = .ok (.iconst 0, 1) := by decide +kernel
theorem dX10_count_17 : decode cX10_count 17 = .ok (.iload_n 3, 1) := by decide +kernel
theorem dX10_count_18 : decode cX10_count 18 = .ok (.ifCond .eq 11, 3) := by decide +kernel
theorem dX10_count_21 : decode cX10_count 21 = .ok (.aload 4, 2) := by decide +kernel
theorem dX10_count_23 : decode cX10_count 23 = .ok (.getfield 141, 3) := by decide +kernel
theorem dX10_count_26 : decode cX10_count 26 = .ok (.goto 8, 3) := by decide +kernel
theorem dX10_count_29 : decode cX10_count 29 = .ok (.aload 4, 2) := by decide +kernel
theorem dX10_count_31 : decode cX10_count 31 = .ok (.invokevirtual 162, 3) := by decide +kernel
theorem dX10_count_34 : decode cX10_count 34 = .ok (.invokevirtual 165, 3) := by decide +kernel
theorem dX10_count_37 : decode cX10_count 37 = .ok (.ireturn, 1) := by decide +kernel
theorem dX10_same_0 : decode cX10_same 0 = .ok (.aload_n 0, 1) := by decide +kernel
theorem dX10_same_1 : decode cX10_same 1 = .ok (.iload_n 1, 1) := by decide +kernel
theorem dX10_same_2 : decode cX10_same 2 = .ok (.invokevirtual 123, 3) := by decide +kernel
theorem dX10_same_5 : decode cX10_same 5 = .ok (.astore_n 3, 1) := by decide +kernel
theorem dX10_same_6 : decode cX10_same 6 = .ok (.iload_n 2, 1) := by decide +kernel
theorem dX10_same_7 : decode cX10_same 7 = .ok (.iconst 0, 1) := by decide +kernel
theorem dX10_same_8 : decode cX10_same 8 = .ok (.iconst 2, 1) := by decide +kernel
theorem dX10_same_9 : decode cX10_same 9 = .ok (.invokestatic 44, 3) := by decide +kernel
theorem dX10_same_12 : decode cX10_same 12 = .ok (.aload_n 3, 1) := by decide +kernel
theorem dX10_same_13 : decode cX10_same 13 = .ok (.getfield 127, 3) := by decide +kernel
theorem dX10_same_16 : decode cX10_same 16 = .ok (.astore 4, 2) := by decide +kernel
theorem dX10_same_18 : decode cX10_same 18 = .ok (.aload 4, 2) := by decide +kernel
theorem dX10_same_20 : decode cX10_same 20 = .ok (.ifnonnull 5, 3) := by decide +kernel
theorem dX10_same_23 : decode cX10_same 23 = .ok (.iconst 1, 1) := by decide +kernel
theorem dX10_same_24 : decode cX10_same 24 = .ok (.ireturn, 1) := by decide +kernel
theorem dX10_same_25 : decode cX10_same 25 = .ok (.iload_n 2, 1) := by decide +kernel
theorem dX10_same_26 : decode cX10_same 26 = .ok (.lookupswitch 44 #[(0, 26), (1, 35)], 26) := by decide +kernel
theorem dX10_same_52 : decode cX10_same 52 = .ok (.aload 4, 2) := by decide +kernel
theorem dX10_same_54 : decode cX10_same 54 = .ok (.iconst 4, 1) := by decide +kernel
theorem dX10_same_55 : decode cX10_same 55 = .ok (.aload 4, 2) := by decide +kernel
theorem dX10_same_57 : decode cX10_same 57 = .ok (.invokevirtual 169, 3) := by decide +kernel
theorem dX10_same_60 : decode cX10_same 60 = .ok (.ireturn, 1) := by decide +kernel
theorem dX10_same_61 : decode cX10_same 61 = .ok (.aload 4, 2) := by decide +kernel
theorem dX10_same_63 : decode cX10_same 63 = .ok (.iconst 2, 1) := by decide +kernel
theorem dX10_same_64 : decode cX10_same 64 = .ok (.aload 4, 2) := by decide +kernel
theorem dX10_same_66 : decode cX10_same 66 = .ok (.invokevirtual 169, 3) := by decide +kernel
theorem dX10_same_69 : decode cX10_same 69 = .ok (.ireturn, 1) := by decide +kernel
theorem dX10_same_70 : decode cX10_same 70 = .ok (.aload 4, 2) := by decide +kernel
theorem dX10_same_72 : decode cX10_same 72 = .ok (.iconst 1, 1) := by decide +kernel
theorem dX10_same_73 : decode cX10_same 73 = .ok (.aload 4, 2) := by decide +kernel
theorem dX10_same_75 : decode cX10_same 75 = .ok (.invokevirtual 169, 3) := by decide +kernel
theorem dX10_same_78 : decode cX10_same 78 = .ok (.ireturn, 1) := by decide +kernel
theorem dX10_addMember_0 : decode cX10_addMember 0 = .ok (.aload_n 0, 1) := by decide +kernel
theorem dX10_addMember_1 : decode cX10_addMember 1 = .ok (.getfield 19, 3) := by decide +kernel
theorem dX10_addMember_4 : decode cX10_addMember 4 = .ok (.getfield 67, 3) := by decide +kernel
theorem dX10_addMember_7 : decode cX10_addMember 7 = .ok (.iconst 5, 1) := by decide +kernel
theorem dX10_addMember_8 : decode cX10_addMember 8 = .ok (.if_icmp .ge 7, 3) := by decide +kernel
theorem dX10_addMember_11 : decode cX10_addMember 11 = .ok (.iconst 1, 1) := by decide +kernel
theorem dX10_addMember_12 : decode cX10_addMember 12 = .ok (.goto 4, 3) := by decide +kernel
theorem dX10_addMember_15 : decode cX10_addMember 15 = .ok (.iconst 0, 1) := by decide +kernel
theorem dX10_addMember_16 : decode cX10_addMember 16 = .ok (.invokestatic 52, 3) := by decide +kernel
theorem dX10_addMember_19 : decode cX10_addMember 19 = .ok (.aload_n 0, 1) := by decide +kernel
theorem dX10_addMember_20 : decode cX10_addMember 20 = .ok (.getfield 29, 3) := by decide +kernel
theorem dX10_addMember_23 : decode cX10_addMember 23 = .ok (.aload_n 0, 1) := by decide +kernel
theorem dX10_addMember_24 : decode cX10_addMember 24 = .ok (.getfield 19, 3) := by decide +kernel
theorem dX10_addMember_27 : decode cX10_addMember 27 = .ok (.invokevirtual 173, 3) := by decide +kernel
theorem dX10_addMember_30 : decode cX10_addMember 30 = .ok (.aload_n 0, 1) := by decide +kernel
theorem dX10_addMember_31 : decode cX10_addMember 31 = .ok (.getfield 19, 3) := by decide +kernel
theorem dX10_addMember_34 : decode cX10_addMember 34 = .ok (.invokevirtual 177, 3) := by decide +kernel
theorem dX10_addMember_37 : decode cX10_addMember 37 = .ok (.ireturn, 1) := by decide +kernel
theorem dX10_give_0 : decode cX10_give 0 = .ok (.aload_n 0, 1) := by decide +kernel
theorem dX10_give_1 : decode cX10_give 1 = .ok (.iload_n 1, 1) := by decide +kernel
theorem dX10_give_2 : decode cX10_give 2 = .ok (.invokevirtual 91, 3) := by decide +kernel
theorem dX10_give_5 : decode cX10_give 5 = .ok (.astore 4, 2) := by decide +kernel
theorem dX10_give_7 : decode cX10_give 7 = .ok (.aload_n 0, 1) := by decide +kernel
theorem dX10_give_8 : decode cX10_give 8 = .ok (.iload_n 2, 1) := by decide +kernel
theorem dX10_give_9 : decode cX10_give 9 = .ok (.invokevirtual 116, 3) := by decide +kernel
theorem dX10_give_12 : decode cX10_give 12 = .ok (.astore 5, 2) := by decide +kernel
theorem dX10_give_14 : decode cX10_give 14 = .ok (.iload_n 3, 1) := by decide +kernel
theorem dX10_give_15 : decode cX10_give 15 = .ok (.iconst 1, 1) := by decide +kernel
theorem dX10_give_16 : decode cX10_give 16 = .ok (.bipush 99, 2) := by decide +kernel
theorem dX10_give_18 : decode cX10_give 18 = .ok (.invokestatic 44, 3) := by decide +kernel
theorem dX10_give_21 : decode cX10_give 21 = .ok (.aload_n 0, 1) := by decide +kernel
theorem dX10_give_22 : decode cX10_give 22 = .ok (.getfield 29, 3) := by decide +kernel
theorem dX10_give_25 : decode cX10_give 25 = .ok (.aload_n 0, 1) := by decide +kernel
theorem dX10_give_26 : decode cX10_give 26 = .ok (.getfield 19, 3) := by decide +kernel
theorem dX10_give_29 : decode cX10_give 29 = .ok (.invokevirtual 173, 3) := by decide +kernel
theorem dX10_give_32 : decode cX10_give 32 = .ok (.aload_n 0, 1) := by decide +kernel
theorem dX10_give_33 : decode cX10_give 33 = .ok (.getfield 19, 3) := by decide +kernel
theorem dX10_give_36 : decode cX10_give 36 = .ok (.aload 4, 2) := by decide +kernel
theorem dX10_give_38 : decode cX10_give 38 = .ok (.iload_n 2, 1) := by decide +kernel
theorem dX10_give_39 : decode cX10_give 39 = .ok (.iload_n 3, 1) := by decide +kernel
theorem dX10_give_40 : decode cX10_give 40 = .ok (.invokevirtual 180, 3) := by decide +kernel
theorem dX10_give_43 : decode cX10_give 43 = .ok (.aload 5, 2) := by decide +kernel
theorem dX10_give_45 : decode cX10_give 45 = .ok (.getfield 184, 3) := by decide +kernel
theorem dX10_give_48 : decode cX10_give 48 = .ok (.ireturn, 1) := by decide +kernel
theorem dX10_start_0 : decode cX10_start 0 = .ok (.aload_n 0, 1) := by decide +kernel
theorem dX10_start_1 : decode cX10_start 1 = .ok (.iload_n 1, 1) := by decide +kernel
theorem dX10_start_2 : decode cX10_start 2 = .ok (.invokevirtual 123, 3) := by decide +kernel
theorem dX10_start_5 : decode cX10_start 5 = .ok (.astore_n 2, 1) := by decide +kernel
theorem dX10_start_6 : decode cX10_start 6 = .ok (.aload_n 2, 1) := by decide +kernel
theorem dX10_start_7 : decode cX10_start 7 = .ok (.invokevirtual 187, 3) := by decide +kernel
theorem dX10_start_10 : decode cX10_start 10 = .ok (.ifCond .eq 19, 3) := by decide +kernel
theorem dX10_start_13 : decode cX10_start 13 = .ok (.aload_n 0, 1) := by decide +kernel
theorem dX10_start_14 : decode cX10_start 14 = .ok (.getfield 10, 3) := by decide +kernel
theorem dX10_start_17 : decode cX10_start 17 = .ok (.invokevirtual 64, 3) := by decide +kernel
theorem dX10_start_20 : decode cX10_start 20 = .ok (.bipush (-9), 2) := by decide +kernel
theorem dX10_start_22 : decode cX10_start 22 = .ok (.if_icmp .ne 7, 3) := by decide +kernel
theorem dX10_start_25 : decode cX10_start 25 = .ok (.iconst 1, 1) := by decide +kernel
theorem dX10_start_26 : decode cX10_start 26 = .ok (.goto 4, 3) := by decide +kernel
theorem dX10_start_29 : decode cX10_start 29 = .ok (.iconst 0, 1) := by decide +kernel
theorem dX10_start_30 : decode cX10_start 30 = .ok (.invokestatic 52, 3) := by decide +kernel
theorem dX10_start_33 : decode cX10_start 33 = .ok (.aload_n 0, 1) := by decide +kernel
theorem dX10_start_34 : decode cX10_start 34 = .ok (.getfield 29, 3) := by decide +kernel
theorem dX10_start_37 : decode cX10_start 37 = .ok (.aload_n 0, 1) := by decide +kernel
theorem dX10_start_38 : decode cX10_start 38 = .ok (.getfield 19, 3) := by decide +kernel
theorem dX10_start_41 : decode cX10_start 41 = .ok (.invokevirtual 173, 3) := by decide +kernel
theorem dX10_start_44 : decode cX10_start 44 = .ok (.aload_n 2, 1) := by decide +kernel
theorem dX10_start_45 : decode cX10_start 45 = .ok (.aload_n 0, 1) := by decide +kernel
theorem dX10_start_46 : decode cX10_start 46 = .ok (.getfield 10, 3) := by decide +kernel
theorem dX10_start_49 : decode cX10_start 49 = .ok (.invokevirtual 190, 3) := by decide +kernel
theorem dX10_start_52 : decode cX10_start 52 = .ok (.invokevirtual 194, 3) := by decide +kernel
theorem dX10_start_55 : decode cX10_start 55 = .ok (.aload_n 2, 1) := by decide +kernel
theorem dX10_start_56 : decode cX10_start 56 = .ok (.invokevirtual 162, 3) := by decide +kernel
theorem dX10_start_59 : decode cX10_start 59 = .ok (.ireturn, 1) := by decide +kernel
theorem dX10_recolour_0 : decode cX10_recolour 0 = .ok (.aload_n 0, 1) := by decide +kernel
theorem dX10_recolour_1 : decode cX10_recolour 1 = .ok (.iload_n 1, 1) := by decide +kernel
theorem dX10_recolour_2 : decode cX10_recolour 2 = .ok (.invokevirtual 123, 3) := by decide +kernel
theorem dX10_recolour_5 : decode cX10_recolour 5 = .ok (.astore 4, 2) := by decide +kernel
theorem dX10_recolour_7 : decode cX10_recolour 7 = .ok (.aload_n 0, 1) := by decide +kernel
theorem dX10_recolour_8 : decode cX10_recolour 8 = .ok (.iload_n 2, 1) := by decide +kernel
theorem dX10_recolour_9 : decode cX10_recolour 9 = .ok (.invokevirtual 116, 3) := by decide +kernel
theorem dX10_recolour_12 : decode cX10_recolour 12 = .ok (.pop, 1) := by decide +kernel
theorem dX10_recolour_13 : decode cX10_recolour 13 = .ok (.aload_n 0, 1) := by decide +kernel
theorem dX10_recolour_14 : decode cX10_recolour 14 = .ok (.iload_n 3, 1) := by decide +kernel
theorem dX10_recolour_15 : decode cX10_recolour 15 = .ok (.invokevirtual 116, 3) := by decide +kernel
theorem dX10_recolour_18 : decode cX10_recolour 18 = .ok (.pop, 1) := by decide +kernel
theorem dX10_recolour_19 : decode cX10_recolour 19 = .ok (.aload 4, 2) := by decide +kernel
theorem dX10_recolour_21 : decode cX10_recolour 21 = .ok (.invokevirtual 198, 3) := by decide +kernel
theorem dX10_recolour_24 : decode cX10_recolour 24 = .ok (.invokestatic 52, 3) := by decide +kernel
theorem dX10_recolour_27 : decode cX10_recolour 27 = .ok (.aload_n 0, 1) := by decide +kernel
theorem dX10_recolour_28 : decode cX10_recolour 28 = .ok (.getfield 29, 3) := by decide +kernel
theorem dX10_recolour_31 : decode cX10_recolour 31 = .ok (.aload_n 0, 1) := by decide +kernel
theorem dX10_recolour_32 : decode cX10_recolour 32 = .ok (.getfield 19, 3) := by decide +kernel
theorem dX10_recolour_35 : decode cX10_recolour 35 = .ok (.invokevirtual 173, 3) := by decide +kernel
theorem dX10_recolour_38 : decode cX10_recolour 38 = .ok (.aload 4, 2) := by decide +kernel
theorem dX10_recolour_40 : decode cX10_recolour 40 = .ok (.iload_n 2, 1) := by decide +kernel
theorem dX10_recolour_41 : decode cX10_recolour 41 = .ok (.iload_n 3, 1) := by decide +kernel
theorem dX10_recolour_42 : decode cX10_recolour 42 = .ok (.invokevirtual 201, 3) := by decide +kernel
theorem dX10_recolour_45 : decode cX10_recolour 45 = .ok (.ireturn, 1) := by decide +kernel
theorem dX10_sew_0 : decode cX10_sew 0 = .ok (.aload_n 0, 1) := by decide +kernel
theorem dX10_sew_1 : decode cX10_sew 1 = .ok (.iload_n 1, 1) := by decide +kernel
theorem dX10_sew_2 : decode cX10_sew 2 = .ok (.invokevirtual 123, 3) := by decide +kernel
theorem dX10_sew_5 : decode cX10_sew 5 = .ok (.astore_n 3, 1) := by decide +kernel
theorem dX10_sew_6 : decode cX10_sew 6 = .ok (.iload_n 2, 1) := by decide +kernel
theorem dX10_sew_7 : decode cX10_sew 7 = .ok (.iconst 1, 1) := by decide +kernel
theorem dX10_sew_8 : decode cX10_sew 8 = .ok (.bipush 99, 2) := by decide +kernel
theorem dX10_sew_10 : decode cX10_sew 10 = .ok (.invokestatic 44, 3) := by decide +kernel
theorem dX10_sew_13 : decode cX10_sew 13 = .ok (.aload_n 0, 1) := by decide +kernel
theorem dX10_sew_14 : decode cX10_sew 14 = .ok (.getfield 19, 3) := by decide +kernel
theorem dX10_sew_17 : decode cX10_sew 17 = .ok (.aload_n 3, 1) := by decide +kernel
theorem dX10_sew_18 : decode cX10_sew 18 = .ok (.invokevirtual 204, 3) := by decide +kernel
theorem dX10_sew_21 : decode cX10_sew 21 = .ok (.invokestatic 52, 3) := by decide +kernel
theorem dX10_sew_24 : decode cX10_sew 24 = .ok (.aload_n 0, 1) := by decide +kernel
theorem dX10_sew_25 : decode cX10_sew 25 = .ok (.getfield 29, 3) := by decide +kernel
theorem dX10_sew_28 : decode cX10_sew 28 = .ok (.aload_n 0, 1) := by decide +kernel
theorem dX10_sew_29 : decode cX10_sew 29 = .ok (.getfield 19, 3) := by decide +kernel
theorem dX10_sew_32 : decode cX10_sew 32 = .ok (.invokevirtual 173, 3) := by decide +kernel
theorem dX10_sew_35 : decode cX10_sew 35 = .ok (.aload_n 0, 1) := by decide +kernel
theorem dX10_sew_36 : decode cX10_sew 36 = .ok (.getfield 19, 3) := by decide +kernel
theorem dX10_sew_39 : decode cX10_sew 39 = .ok (.aload_n 3, 1) := by decide +kernel
theorem dX10_sew_40 : decode cX10_sew 40 = .ok (.iload_n 2, 1) := by decide +kernel
theorem dX10_sew_41 : decode cX10_sew 41 = .ok (.invokevirtual 208, 3) := by decide +kernel
theorem dX10_sew_44 : decode cX10_sew 44 = .ok (.ireturn, 1) := by decide +kernel
theorem dX10_takeApart_0 : decode cX10_takeApart 0 = .ok (.aload_n 0, 1) := by decide +kernel
theorem dX10_takeApart_1 : decode cX10_takeApart 1 = .ok (.iload_n 1, 1) := by decide +kernel
theorem dX10_takeApart_2 : decode cX10_takeApart 2 = .ok (.invokevirtual 123, 3) := by decide +kernel
theorem dX10_takeApart_5 : decode cX10_takeApart 5 = .ok (.astore_n 2, 1) := by decide +kernel
theorem dX10_takeApart_6 : decode cX10_takeApart 6 = .ok (.aload_n 2, 1) := by decide +kernel
theorem dX10_takeApart_7 : decode cX10_takeApart 7 = .ok (.invokevirtual 187, 3) := by decide +kernel
theorem dX10_takeApart_10 : decode cX10_takeApart 10 = .ok (.ifCond .ne 7, 3) := by decide +kernel
theorem dX10_takeApart_13 : decode cX10_takeApart 13 = .ok (.iconst 1, 1) := by decide +kernel
theorem dX10_takeApart_14 : decode cX10_takeApart 14 = .ok (.goto 4, 3) := by decide +kernel
theorem dX10_takeApart_17 : decode cX10_takeApart 17 = .ok (.iconst 0, 1) := by decide +kernel
theorem dX10_takeApart_18 : decode cX10_takeApart 18 = .ok (.invokestatic 52, 3) := by decide +kernel
theorem dX10_takeApart_21 : decode cX10_takeApart 21 = .ok (.aload_n 0, 1) := by decide +kernel
theorem dX10_takeApart_22 : decode cX10_takeApart 22 = .ok (.getfield 29, 3) := by decide +kernel
theorem dX10_takeApart_25 : decode cX10_takeApart 25 = .ok (.aload_n 0, 1) := by decide +kernel
theorem dX10_takeApart_26 : decode cX10_takeApart 26 = .ok (.getfield 19, 3) := by decide +kernel
theorem dX10_takeApart_29 : decode cX10_takeApart 29 = .ok (.invokevirtual 173, 3) := by decide +kernel
theorem dX10_takeApart_32 : decode cX10_takeApart 32 = .ok (.aload_n 0, 1) := by decide +kernel
theorem dX10_takeApart_33 : decode cX10_takeApart 33 = .ok (.getfield 19, 3) := by decide +kernel
theorem dX10_takeApart_36 : decode cX10_takeApart 36 = .ok (.aload_n 2, 1) := by decide +kernel
theorem dX10_takeApart_37 : decode cX10_takeApart 37 = .ok (.invokevirtual 212, 3) := by decide +kernel
theorem dX10_takeApart_40 : decode cX10_takeApart 40 = .ok (.ireturn, 1) := by decide +kernel
theorem dX10_raffle_0 : decode cX10_raffle 0 = .ok (.aload_n 0, 1) := by decide +kernel
theorem dX10_raffle_1 : decode cX10_raffle 1 = .ok (.iload_n 1, 1) := by decide +kernel
theorem dX10_raffle_2 : decode cX10_raffle 2 = .ok (.invokevirtual 123, 3) := by decide +kernel
theorem dX10_raffle_5 : decode cX10_raffle 5 = .ok (.astore_n 3, 1) := by decide +kernel
theorem dX10_raffle_6 : decode cX10_raffle 6 = .ok (.iload_n 2, 1) := by decide +kernel
theorem dX10_raffle_7 : decode cX10_raffle 7 = .ok (.iconst 0, 1) := by decide +kernel
theorem dX10_raffle_8 : decode cX10_raffle 8 = .ok (.sipush 9999, 3) := by decide +kernel
theorem dX10_raffle_11 : decode cX10_raffle 11 = .ok (.invokestatic 44, 3) := by decide +kernel
theorem dX10_raffle_14 : decode cX10_raffle 14 = .ok (.aload_n 3, 1) := by decide +kernel
theorem dX10_raffle_15 : decode cX10_raffle 15 = .ok (.invokevirtual 216, 3) := by decide +kernel
theorem dX10_raffle_18 : decode cX10_raffle 18 = .ok (.invokestatic 52, 3) := by decide +kernel
theorem dX10_raffle_21 : decode cX10_raffle 21 = .ok (.aload_n 0, 1) := by decide +kernel
theorem dX10_raffle_22 : decode cX10_raffle 22 = .ok (.getfield 29, 3) := by decide +kernel
theorem dX10_raffle_25 : decode cX10_raffle 25 = .ok (.aload_n 0, 1) := by decide +kernel
theorem dX10_raffle_26 : decode cX10_raffle 26 = .ok (.getfield 19, 3) := by decide +kernel
theorem dX10_raffle_29 : decode cX10_raffle 29 = .ok (.invokevirtual 173, 3) := by decide +kernel
theorem dX10_raffle_32 : decode cX10_raffle 32 = .ok (.aload_n 0, 1) := by decide +kernel
theorem dX10_raffle_33 : decode cX10_raffle 33 = .ok (.getfield 19, 3) := by decide +kernel
theorem dX10_raffle_36 : decode cX10_raffle 36 = .ok (.aload_n 3, 1) := by decide +kernel
theorem dX10_raffle_37 : decode cX10_raffle 37 = .ok (.iload_n 2, 1) := by decide +kernel
theorem dX10_raffle_38 : decode cX10_raffle 38 = .ok (.invokevirtual 219, 3) := by decide +kernel
theorem dX10_raffle_41 : decode cX10_raffle 41 = .ok (.ireturn, 1) := by decide +kernel
theorem dX10_returnCloth_0 : decode cX10_returnCloth 0 = .ok (.aload_n 0, 1) := by decide +kernel
theorem dX10_returnCloth_1 : decode cX10_returnCloth 1 = .ok (.getfield 29, 3) := by decide +kernel
theorem dX10_returnCloth_4 : decode cX10_returnCloth 4 = .ok (.aload_n 0, 1) := by decide +kernel
theorem dX10_returnCloth_5 : decode cX10_returnCloth 5 = .ok (.getfield 19, 3) := by decide +kernel
theorem dX10_returnCloth_8 : decode cX10_returnCloth 8 = .ok (.invokevirtual 173, 3) := by decide +kernel
theorem dX10_returnCloth_11 : decode cX10_returnCloth 11 = .ok (.aload_n 0, 1) := by decide +kernel
theorem dX10_returnCloth_12 : decode cX10_returnCloth 12 = .ok (.getfield 19, 3) := by decide +kernel
theorem dX10_returnCloth_15 : decode cX10_returnCloth 15 = .ok (.invokevirtual 222, 3) := by decide +kernel
theorem dX10_returnCloth_18 : decode cX10_returnCloth 18 = .ok (.ireturn, 1) := by decide +kernel
theorem dX10_undo_0 : decode cX10_undo 0 = .ok (.aload_n 0, 1) := by decide +kernel
theorem dX10_undo_1 : decode cX10_undo 1 = .ok (.getfield 29, 3) := by decide +kernel
theorem dX10_undo_4 : decode cX10_undo 4 = .ok (.getfield 225, 3) := by decide +kernel
theorem dX10_undo_7 : decode cX10_undo 7 = .ok (.ifCond .le 7, 3) := by decide +kernel
theorem dX10_undo_10 : decode cX10_undo 10 = .ok (.iconst 1, 1) := by decide +kernel
theorem dX10_undo_11 : decode cX10_undo 11 = .ok (.goto 4, 3) := by decide +kernel
theorem dX10_undo_14 : decode cX10_undo 14 = .ok (.iconst 0, 1) := by decide +kernel
theorem dX10_undo_15 : decode cX10_undo 15 = .ok (.invokestatic 52, 3) := by decide +kernel
theorem dX10_undo_18 : decode cX10_undo 18 = .ok (.aload_n 0, 1) := by decide +kernel
theorem dX10_undo_19 : decode cX10_undo 19 = .ok (.getfield 29, 3) := by decide +kernel
theorem dX10_undo_22 : decode cX10_undo 22 = .ok (.aload_n 0, 1) := by decide +kernel
theorem dX10_undo_23 : decode cX10_undo 23 = .ok (.getfield 19, 3) := by decide +kernel
theorem dX10_undo_26 : decode cX10_undo 26 = .ok (.invokevirtual 228, 3) := by decide +kernel
theorem dX10_undo_29 : decode cX10_undo 29 = .ok (.ireturn, 1) := by decide +kernel
theorem dX10_lacks_0 : decode cX10_lacks 0 = .ok (.aload_n 0, 1) := by decide +kernel
theorem dX10_lacks_1 : decode cX10_lacks 1 = .ok (.iload_n 2, 1) := by decide +kernel
theorem dX10_lacks_2 : decode cX10_lacks 2 = .ok (.invokevirtual 116, 3) := by decide +kernel
theorem dX10_lacks_5 : decode cX10_lacks 5 = .ok (.pop, 1) := by decide +kernel
theorem dX10_lacks_6 : decode cX10_lacks 6 = .ok (.iload_n 1, 1) := by decide +kernel
theorem dX10_lacks_7 : decode cX10_lacks 7 = .ok (.iconst 0, 1) := by decide +kernel
theorem dX10_lacks_8 : decode cX10_lacks 8 = .ok (.bipush 7, 2) := by decide +kernel
theorem dX10_lacks_10 : decode cX10_lacks 10 = .ok (.invokestatic 44, 3) := by decide +kernel
theorem dX10_lacks_13 : decode cX10_lacks 13 = .ok (.aload_n 0, 1) := by decide +kernel
theorem dX10_lacks_14 : decode cX10_lacks 14 = .ok (.getfield 19, 3) := by decide +kernel
theorem dX10_lacks_17 : decode cX10_lacks 17 = .ok (.iload_n 1, 1) := by decide +kernel
theorem dX10_lacks_18 : decode cX10_lacks 18 = .ok (.iload_n 2, 1) := by decide +kernel
theorem dX10_lacks_19 : decode cX10_lacks 19 = .ok (.invokevirtual 232, 3) := by decide +kernel
theorem dX10_lacks_22 : decode cX10_lacks 22 = .ok (.ireturn, 1) := by decide +kernel
theorem dX10_canFinish_0 : decode cX10_canFinish 0 = .ok (.iconst 0, 1) := by decide +kernel
theorem dX10_canFinish_1 : decode cX10_canFinish 1 = .ok (.istore_n 1, 1) := by decide +kernel
theorem dX10_canFinish_2 : decode cX10_canFinish 2 = .ok (.iconst 1, 1) := by decide +kernel
theorem dX10_canFinish_3 : decode cX10_canFinish 3 = .ok (.istore_n 2, 1) := by decide +kernel
theorem dX10_canFinish_4 : decode cX10_canFinish 4 = .ok (.iload_n 2, 1) := by decide +kernel
theorem dX10_canFinish_5 : decode cX10_canFinish 5 = .ok (.bipush 7, 2) := by decide +kernel
theorem dX10_canFinish_7 : decode cX10_canFinish 7 = .ok (.if_icmp .gt 33, 3) := by decide +kernel
theorem dX10_canFinish_10 : decode cX10_canFinish 10 = .ok (.iload_n 2, 1) := by decide +kernel
theorem dX10_canFinish_11 : decode cX10_canFinish 11 = .ok (.invokestatic 235, 3) := by decide +kernel
theorem dX10_canFinish_14 : decode cX10_canFinish 14 = .ok (.iload_n 1, 1) := by decide +kernel
theorem dX10_canFinish_15 : decode cX10_canFinish 15 = .ok (.invokestatic 235, 3) := by decide +kernel
theorem dX10_canFinish_18 : decode cX10_canFinish 18 = .ok (.if_icmp .le 16, 3) := by decide +kernel
theorem dX10_canFinish_21 : decode cX10_canFinish 21 = .ok (.aload_n 0, 1) := by decide +kernel
theorem dX10_canFinish_22 : decode cX10_canFinish 22 = .ok (.getfield 19, 3) := by decide +kernel
theorem dX10_canFinish_25 : decode cX10_canFinish 25 = .ok (.iload_n 2, 1) := by decide +kernel
theorem dX10_canFinish_26 : decode cX10_canFinish 26 = .ok (.invokevirtual 240, 3) := by decide +kernel
theorem dX10_canFinish_29 : decode cX10_canFinish 29 = .ok (.ifCond .eq 5, 3) := by decide +kernel
theorem dX10_canFinish_32 : decode cX10_canFinish 32 = .ok (.iload_n 2, 1) := by decide +kernel
theorem dX10_canFinish_33 : decode cX10_canFinish 33 = .ok (.istore_n 1, 1) := by decide +kernel
theorem dX10_canFinish_34 : decode cX10_canFinish 34 = .ok (.iinc 2 1, 3) := by decide +kernel
theorem dX10_canFinish_37 : decode cX10_canFinish 37 = .ok (.goto (-33), 3) := by decide +kernel
theorem dX10_canFinish_40 : decode cX10_canFinish 40 = .ok (.iload_n 1, 1) := by decide +kernel
theorem dX10_canFinish_41 : decode cX10_canFinish 41 = .ok (.ireturn, 1) := by decide +kernel
theorem dX10_wouldGet_0 : decode cX10_wouldGet 0 = .ok (.aload_n 0, 1) := by decide +kernel
theorem dX10_wouldGet_1 : decode cX10_wouldGet 1 = .ok (.iload_n 1, 1) := by decide +kernel
theorem dX10_wouldGet_2 : decode cX10_wouldGet 2 = .ok (.invokevirtual 123, 3) := by decide +kernel
theorem dX10_wouldGet_5 : decode cX10_wouldGet 5 = .ok (.astore 4, 2) := by decide +kernel
theorem dX10_wouldGet_7 : decode cX10_wouldGet 7 = .ok (.aload_n 0, 1) := by decide +kernel
theorem dX10_wouldGet_8 : decode cX10_wouldGet 8 = .ok (.iload_n 2, 1) := by decide +kernel
theorem dX10_wouldGet_9 : decode cX10_wouldGet 9 = .ok (.invokevirtual 91, 3) := by decide +kernel
theorem dX10_wouldGet_12 : decode cX10_wouldGet 12 = .ok (.pop, 1) := by decide +kernel
theorem dX10_wouldGet_13 : decode cX10_wouldGet 13 = .ok (.iload_n 3, 1) := by decide +kernel
theorem dX10_wouldGet_14 : decode cX10_wouldGet 14 = .ok (.iconst 0, 1) := by decide +kernel
theorem dX10_wouldGet_15 : decode cX10_wouldGet 15 = .ok (.sipush 9999, 3) := by decide +kernel
theorem dX10_wouldGet_18 : decode cX10_wouldGet 18 = .ok (.invokestatic 44, 3) := by decide +kernel
theorem dX10_wouldGet_21 : decode cX10_wouldGet 21 = .ok (.aload 4, 2) := by decide +kernel
theorem dX10_wouldGet_23 : decode cX10_wouldGet 23 = .ok (.invokevirtual 216, 3) := by decide +kernel
theorem dX10_wouldGet_26 : decode cX10_wouldGet 26 = .ok (.ifCond .eq 13, 3) := by decide +kernel
theorem dX10_wouldGet_29 : decode cX10_wouldGet 29 = .ok (.aload 4, 2) := by decide +kernel
theorem dX10_wouldGet_31 : decode cX10_wouldGet 31 = .ok (.iload_n 2, 1) := by decide +kernel
theorem dX10_wouldGet_32 : decode cX10_wouldGet 32 = .ok (.iload_n 3, 1) := by decide +kernel
theorem dX10_wouldGet_33 : decode cX10_wouldGet 33 = .ok (.invokevirtual 244, 3) := by decide +kernel
theorem dX10_wouldGet_36 : decode cX10_wouldGet 36 = .ok (.goto 5, 3) := by decide +kernel
theorem dX10_wouldGet_39 : decode cX10_wouldGet 39 = .ok (.bipush (-9), 2) := by decide +kernel
theorem dX10_wouldGet_41 : decode cX10_wouldGet 41 = .ok (.ireturn, 1) := by decide +kernel
theorem dX10_becomes_0 : decode cX10_becomes 0 = .ok (.aload_n 0, 1) := by decide +kernel
theorem dX10_becomes_1 : decode cX10_becomes 1 = .ok (.iload_n 1, 1) := by decide +kernel
theorem dX10_becomes_2 : decode cX10_becomes 2 = .ok (.invokevirtual 123, 3) := by decide +kernel
theorem dX10_becomes_5 : decode cX10_becomes 5 = .ok (.getfield 127, 3) := by decide +kernel
theorem dX10_becomes_8 : decode cX10_becomes 8 = .ok (.astore_n 3, 1) := by decide +kernel
theorem dX10_becomes_9 : decode cX10_becomes 9 = .ok (.aload_n 0, 1) := by decide +kernel
theorem dX10_becomes_10 : decode cX10_becomes 10 = .ok (.iload_n 2, 1) := by decide +kernel
theorem dX10_becomes_11 : decode cX10_becomes 11 = .ok (.invokevirtual 123, 3) := by decide +kernel
theorem dX10_becomes_14 : decode cX10_becomes 14 = .ok (.getfield 127, 3) := by decide +kernel
theorem dX10_becomes_17 : decode cX10_becomes 17 = .ok (.astore 4, 2) := by decide +kernel
theorem dX10_becomes_19 : decode cX10_becomes 19 = .ok (.aload_n 3, 1) := by decide +kernel
theorem dX10_becomes_20 : decode cX10_becomes 20 = .ok (.ifnull 8, 3) := by decide +kernel
theorem dX10_becomes_23 : decode cX10_becomes 23 = .ok (.aload 4, 2) := by decide +kernel
theorem dX10_becomes_25 : decode cX10_becomes 25 = .ok (.ifnonnull 6, 3) := by decide +kernel
theorem dX10_becomes_28 : decode cX10_becomes 28 = .ok (.bipush (-9), 2) := by decide +kernel
theorem dX10_becomes_30 : decode cX10_becomes 30 = .ok (.ireturn, 1) := by decide +kernel
theorem dX10_becomes_31 : decode cX10_becomes 31 = .ok (.iconst 0, 1) := by decide +kernel
theorem dX10_becomes_32 : decode cX10_becomes 32 = .ok (.istore 5, 2) := by decide +kernel
theorem dX10_becomes_34 : decode cX10_becomes 34 = .ok (.iload 5, 2) := by decide +kernel
theorem dX10_becomes_36 : decode cX10_becomes 36 = .ok (.bipush 8, 2) := by decide +kernel
theorem dX10_becomes_38 : decode cX10_becomes 38 = .ok (.if_icmp .ge 23, 3) := by decide +kernel
theorem dX10_becomes_41 : decode cX10_becomes 41 = .ok (.aload_n 3, 1) := by decide +kernel
theorem dX10_becomes_42 : decode cX10_becomes 42 = .ok (.iload 5, 2) := by decide +kernel
theorem dX10_becomes_44 : decode cX10_becomes 44 = .ok (.aload 4, 2) := by decide +kernel
theorem dX10_becomes_46 : decode cX10_becomes 46 = .ok (.invokevirtual 169, 3) := by decide +kernel
theorem dX10_becomes_49 : decode cX10_becomes 49 = .ok (.ifCond .eq 6, 3) := by decide +kernel
theorem dX10_becomes_52 : decode cX10_becomes 52 = .ok (.iload 5, 2) := by decide +kernel
theorem dX10_becomes_54 : decode cX10_becomes 54 = .ok (.ireturn, 1) := by decide +kernel
theorem dX10_becomes_55 : decode cX10_becomes 55 = .ok (.iinc 5 1, 3) := by decide +kernel
theorem dX10_becomes_58 : decode cX10_becomes 58 = .ok (.goto (-24), 3) := by decide +kernel
theorem dX10_becomes_61 : decode cX10_becomes 61 = .ok (.bipush (-9), 2) := by decide +kernel
theorem dX10_becomes_63 : decode cX10_becomes 63 = .ok (.ireturn, 1) := by decide +kernel
theorem dX10_runScript_0 : decode cX10_runScript 0 = .ok (.iload_n 1, 1) := by decide +kernel
theorem dX10_runScript_1 : decode cX10_runScript 1 = .ok (.iconst 1, 1) := by decide +kernel
theorem dX10_runScript_2 : decode cX10_runScript 2 = .ok (.iconst 4, 1) := by decide +kernel
theorem dX10_runScript_3 : decode cX10_runScript 3 = .ok (.invokestatic 44, 3) := by decide +kernel
theorem dX10_runScript_6 : decode cX10_runScript 6 = .ok (.lload_n 2, 1) := by decide +kernel
theorem dX10_runScript_7 : decode cX10_runScript 7 = .ok (.lconst 0, 1) := by decide +kernel
theorem dX10_runScript_8 : decode cX10_runScript 8 = .ok (.lcmp, 1) := by decide +kernel
theorem dX10_runScript_9 : decode cX10_runScript 9 = .ok (.ifCond .lt 17, 3) := by decide +kernel
theorem dX10_runScript_12 : decode cX10_runScript 12 = .ok (.lload_n 2, 1) := by decide +kernel
theorem dX10_runScript_13 : decode cX10_runScript 13 = .ok (.iload_n 1, 1) := by decide +kernel
theorem dX10_runScript_14 : decode cX10_runScript 14 = .ok (.invokestatic 247, 3) := by decide +kernel
theorem dX10_runScript_17 : decode cX10_runScript 17 = .ok (.lconst 0, 1) := by decide +kernel
theorem dX10_runScript_18 : decode cX10_runScript 18 = .ok (.lcmp, 1) := by decide +kernel
theorem dX10_runScript_19 : decode cX10_runScript 19 = .ok (.ifCond .ne 7, 3) := by decide +kernel
theorem dX10_runScript_22 : decode cX10_runScript 22 = .ok (.iconst 1, 1) := by decide +kernel
theorem dX10_runScript_23 : decode cX10_runScript 23 = .ok (.goto 4, 3) := by decide +kernel
theorem dX10_runScript_26 : decode cX10_runScript 26 = .ok (.iconst 0, 1) := by decide +kernel
theorem dX10_runScript_27 : decode cX10_runScript 27 = .ok (.invokestatic 155, 3) := by decide +kernel
theorem dX10_runScript_30 : decode cX10_runScript 30 = .ok (.aload_n 0, 1) := by decide +kernel
theorem dX10_runScript_31 : decode cX10_runScript 31 = .ok (.getfield 23, 3) := by decide +kernel
theorem dX10_runScript_34 : decode cX10_runScript 34 = .ok (.aload_n 0, 1) := by decide +kernel
theorem dX10_runScript_35 : decode cX10_runScript 35 = .ok (.getfield 19, 3) := by decide +kernel
theorem dX10_runScript_38 : decode cX10_runScript 38 = .ok (.invokevirtual 251, 3) := by decide +kernel
theorem dX10_runScript_41 : decode cX10_runScript 41 = .ok (.iconst 0, 1) := by decide +kernel
theorem dX10_runScript_42 : decode cX10_runScript 42 = .ok (.istore 4, 2) := by decide +kernel
theorem dX10_runScript_44 : decode cX10_runScript 44 = .ok (.iload 4, 2) := by decide +kernel
theorem dX10_runScript_46 : decode cX10_runScript 46 = .ok (.iload_n 1, 1) := by decide +kernel
theorem dX10_runScript_47 : decode cX10_runScript 47 = .ok (.if_icmp .ge 41, 3) := by decide +kernel
theorem dX10_runScript_50 : decode cX10_runScript 50 = .ok (.lload_n 2, 1) := by decide +kernel
theorem dX10_runScript_51 : decode cX10_runScript 51 = .ok (.iload_n 1, 1) := by decide +kernel
theorem dX10_runScript_52 : decode cX10_runScript 52 = .ok (.iconst 1, 1) := by decide +kernel
theorem dX10_runScript_53 : decode cX10_runScript 53 = .ok (.isub, 1) := by decide +kernel
theorem dX10_runScript_54 : decode cX10_runScript 54 = .ok (.iload 4, 2) := by decide +kernel
theorem dX10_runScript_56 : decode cX10_runScript 56 = .ok (.isub, 1) := by decide +kernel
theorem dX10_runScript_57 : decode cX10_runScript 57 = .ok (.invokestatic 247, 3) := by decide +kernel
theorem dX10_runScript_60 : decode cX10_runScript 60 = .ok (.ldc2_w 254, 3) := by decide +kernel
theorem dX10_runScript_63 : decode cX10_runScript 63 = .ok (.lrem, 1) := by decide +kernel
theorem dX10_runScript_64 : decode cX10_runScript 64 = .ok (.l2i, 1) := by decide +kernel
theorem dX10_runScript_65 : decode cX10_runScript 65 = .ok (.istore 5, 2) := by decide +kernel
theorem dX10_runScript_67 : decode cX10_runScript 67 = .ok (.aload_n 0, 1) := by decide +kernel
theorem dX10_runScript_68 : decode cX10_runScript 68 = .ok (.getfield 23, 3) := by decide +kernel
theorem dX10_runScript_71 : decode cX10_runScript 71 = .ok (.iload 5, 2) := by decide +kernel
theorem dX10_runScript_73 : decode cX10_runScript 73 = .ok (.invokestatic 256, 3) := by decide +kernel
theorem dX10_runScript_76 : decode cX10_runScript 76 = .ok (.ifCond .ne 6, 3) := by decide +kernel
theorem dX10_runScript_79 : decode cX10_runScript 79 = .ok (.iload 4, 2) := by decide +kernel
theorem dX10_runScript_81 : decode cX10_runScript 81 = .ok (.ireturn, 1) := by decide +kernel
theorem dX10_runScript_82 : decode cX10_runScript 82 = .ok (.iinc 4 1, 3) := by decide +kernel
theorem dX10_runScript_85 : decode cX10_runScript 85 = .ok (.goto (-41), 3) := by decide +kernel
theorem dX10_runScript_88 : decode cX10_runScript 88 = .ok (.bipush (-9), 2) := by decide +kernel
theorem dX10_runScript_90 : decode cX10_runScript 90 = .ok (.ireturn, 1) := by decide +kernel
theorem dX10_simulate_0 : decode cX10_simulate 0 = .ok (.iload_n 3, 1) := by decide +kernel
theorem dX10_simulate_1 : decode cX10_simulate 1 = .ok (.iconst 1, 1) := by decide +kernel
theorem dX10_simulate_2 : decode cX10_simulate 2 = .ok (.bipush 99, 2) := by decide +kernel
theorem dX10_simulate_4 : decode cX10_simulate 4 = .ok (.invokestatic 44, 3) := by decide +kernel
theorem dX10_simulate_7 : decode cX10_simulate 7 = .ok (.aload_n 0, 1) := by decide +kernel
theorem dX10_simulate_8 : decode cX10_simulate 8 = .ok (.getfield 23, 3) := by decide +kernel
theorem dX10_simulate_11 : decode cX10_simulate 11 = .ok (.aload_n 0, 1) := by decide +kernel
theorem dX10_simulate_12 : decode cX10_simulate 12 = .ok (.getfield 19, 3) := by decide +kernel
theorem dX10_simulate_15 : decode cX10_simulate 15 = .ok (.invokevirtual 251, 3) := by decide +kernel
theorem dX10_simulate_18 : decode cX10_simulate 18 = .ok (.iconst 0, 1) := by decide +kernel
theorem dX10_simulate_19 : decode cX10_simulate 19 = .ok (.istore 4, 2) := by decide +kernel
theorem dX10_simulate_21 : decode cX10_simulate 21 = .ok (.lload_n 1, 1) := by decide +kernel
theorem dX10_simulate_22 : decode cX10_simulate 22 = .ok (.lstore 5, 2) := by decide +kernel
theorem dX10_simulate_24 : decode cX10_simulate 24 = .ok (.iconst 0, 1) := by decide +kernel
theorem dX10_simulate_25 : decode cX10_simulate 25 = .ok (.istore 7, 2) := by decide +kernel
theorem dX10_simulate_27 : decode cX10_simulate 27 = .ok (.iload 7, 2) := by decide +kernel
theorem dX10_simulate_29 : decode cX10_simulate 29 = .ok (.iload_n 3, 1) := by decide +kernel
theorem dX10_simulate_30 : decode cX10_simulate 30 = .ok (.if_icmp .ge 39, 3) := by decide +kernel
theorem dX10_simulate_33 : decode cX10_simulate 33 = .ok (.lload 5, 2) := by decide +kernel
theorem dX10_simulate_35 : decode cX10_simulate 35 = .ok (.ldc2_w 262, 3) := by decide +kernel
theorem dX10_simulate_38 : decode cX10_simulate 38 = .ok (.lmul, 1) := by decide +kernel
theorem dX10_simulate_39 : decode cX10_simulate 39 = .ok (.ldc2_w 264, 3) := by decide +kernel
theorem dX10_simulate_42 : decode cX10_simulate 42 = .ok (.ladd, 1) := by decide +kernel
theorem dX10_simulate_43 : decode cX10_simulate 43 = .ok (.lstore 5, 2) := by decide +kernel
theorem dX10_simulate_45 : decode cX10_simulate 45 = .ok (.iload 4, 2) := by decide +kernel
theorem dX10_simulate_47 : decode cX10_simulate 47 = .ok (.aload_n 0, 1) := by decide +kernel
theorem dX10_simulate_48 : decode cX10_simulate 48 = .ok (.getfield 23, 3) := by decide +kernel
theorem dX10_simulate_51 : decode cX10_simulate 51 = .ok (.lload 5, 2) := by decide +kernel
theorem dX10_simulate_53 : decode cX10_simulate 53 = .ok (.bipush 33, 2) := by decide +kernel
theorem dX10_simulate_55 : decode cX10_simulate 55 = .ok (.lushr, 1) := by decide +kernel
theorem dX10_simulate_56 : decode cX10_simulate 56 = .ok (.l2i, 1) := by decide +kernel
theorem dX10_simulate_57 : decode cX10_simulate 57 = .ok (.invokevirtual 266, 3) := by decide +kernel
theorem dX10_simulate_60 : decode cX10_simulate 60 = .ok (.iadd, 1) := by decide +kernel
theorem dX10_simulate_61 : decode cX10_simulate 61 = .ok (.istore 4, 2) := by decide +kernel
theorem dX10_simulate_63 : decode cX10_simulate 63 = .ok (.iinc 7 1, 3) := by decide +kernel
theorem dX10_simulate_66 : decode cX10_simulate 66 = .ok (.goto (-39), 3) := by decide +kernel
theorem dX10_simulate_69 : decode cX10_simulate 69 = .ok (.sipush 1000, 3) := by decide +kernel
theorem dX10_simulate_72 : decode cX10_simulate 72 = .ok (.aload_n 0, 1) := by decide +kernel
theorem dX10_simulate_73 : decode cX10_simulate 73 = .ok (.getfield 23, 3) := by decide +kernel
theorem dX10_simulate_76 : decode cX10_simulate 76 = .ok (.getfield 77, 3) := by decide +kernel
theorem dX10_simulate_79 : decode cX10_simulate 79 = .ok (.aload_n 0, 1) := by decide +kernel
theorem dX10_simulate_80 : decode cX10_simulate 80 = .ok (.getfield 19, 3) := by decide +kernel
theorem dX10_simulate_83 : decode cX10_simulate 83 = .ok (.getfield 77, 3) := by decide +kernel
theorem dX10_simulate_86 : decode cX10_simulate 86 = .ok (.isub, 1) := by decide +kernel
theorem dX10_simulate_87 : decode cX10_simulate 87 = .ok (.imul, 1) := by decide +kernel
theorem dX10_simulate_88 : decode cX10_simulate 88 = .ok (.iload 4, 2) := by decide +kernel
theorem dX10_simulate_90 : decode cX10_simulate 90 = .ok (.sipush 999, 3) := by decide +kernel
theorem dX10_simulate_93 : decode cX10_simulate 93 = .ok (.invokestatic 269, 3) := by decide +kernel
theorem dX10_simulate_96 : decode cX10_simulate 96 = .ok (.iadd, 1) := by decide +kernel
theorem dX10_simulate_97 : decode cX10_simulate 97 = .ok (.ireturn, 1) := by decide +kernel
theorem dX10_save_0 : decode cX10_save 0 = .ok (.iload_n 1, 1) := by decide +kernel
theorem dX10_save_1 : decode cX10_save 1 = .ok (.invokestatic 274, 3) := by decide +kernel
theorem dX10_save_4 : decode cX10_save 4 = .ok (.aload_n 0, 1) := by decide +kernel
theorem dX10_save_5 : decode cX10_save 5 = .ok (.getfield 33, 3) := by decide +kernel
theorem dX10_save_8 : decode cX10_save 8 = .ok (.iload_n 1, 1) := by decide +kernel
theorem dX10_save_9 : decode cX10_save 9 = .ok (.aload_n 0, 1) := by decide +kernel
theorem dX10_save_10 : decode cX10_save 10 = .ok (.getfield 19, 3) := by decide +kernel
theorem dX10_save_13 : decode cX10_save 13 = .ok (.invokestatic 278, 3) := by decide +kernel
theorem dX10_save_16 : decode cX10_save 16 = .ok (.aload_n 0, 1) := by decide +kernel
theorem dX10_save_17 : decode cX10_save 17 = .ok (.getfield 19, 3) := by decide +kernel
theorem dX10_save_20 : decode cX10_save 20 = .ok (.getfield 67, 3) := by decide +kernel
theorem dX10_save_23 : decode cX10_save 23 = .ok (.ireturn, 1) := by decide +kernel
theorem dX10_restore_0 : decode cX10_restore 0 = .ok (.iload_n 1, 1) := by decide +kernel
theorem dX10_restore_1 : decode cX10_restore 1 = .ok (.invokestatic 274, 3) := by decide +kernel
theorem dX10_restore_4 : decode cX10_restore 4 = .ok (.aload_n 0, 1) := by decide +kernel
theorem dX10_restore_5 : decode cX10_restore 5 = .ok (.getfield 33, 3) := by decide +kernel
theorem dX10_restore_8 : decode cX10_restore 8 = .ok (.iload_n 1, 1) := by decide +kernel
theorem dX10_restore_9 : decode cX10_restore 9 = .ok (.invokestatic 282, 3) := by decide +kernel
theorem dX10_restore_12 : decode cX10_restore 12 = .ok (.astore_n 2, 1) := by decide +kernel
theorem dX10_restore_13 : decode cX10_restore 13 = .ok (.aload_n 2, 1) := by decide +kernel
theorem dX10_restore_14 : decode cX10_restore 14 = .ok (.ifnull 7, 3) := by decide +kernel
theorem dX10_restore_17 : decode cX10_restore 17 = .ok (.iconst 1, 1) := by decide +kernel
theorem dX10_restore_18 : decode cX10_restore 18 = .ok (.goto 4, 3) := by decide +kernel
theorem dX10_restore_21 : decode cX10_restore 21 = .ok (.iconst 0, 1) := by decide +kernel
theorem dX10_restore_22 : decode cX10_restore 22 = .ok (.invokestatic 52, 3) := by decide +kernel
theorem dX10_restore_25 : decode cX10_restore 25 = .ok (.aload_n 0, 1) := by decide +kernel
theorem dX10_restore_26 : decode cX10_restore 26 = .ok (.getfield 19, 3) := by decide +kernel
theorem dX10_restore_29 : decode cX10_restore 29 = .ok (.aload_n 2, 1) := by decide +kernel
theorem dX10_restore_30 : decode cX10_restore 30 = .ok (.invokevirtual 251, 3) := by decide +kernel
theorem dX10_restore_33 : decode cX10_restore 33 = .ok (.aload_n 0, 1) := by decide +kernel
theorem dX10_restore_34 : decode cX10_restore 34 = .ok (.getfield 29, 3) := by decide +kernel
theorem dX10_restore_37 : decode cX10_restore 37 = .ok (.invokevirtual 286, 3) := by decide +kernel
theorem dX10_restore_40 : decode cX10_restore 40 = .ok (.aload_n 0, 1) := by decide +kernel
theorem dX10_restore_41 : decode cX10_restore 41 = .ok (.getfield 19, 3) := by decide +kernel
theorem dX10_restore_44 : decode cX10_restore 44 = .ok (.getfield 67, 3) := by decide +kernel
theorem dX10_restore_47 : decode cX10_restore 47 = .ok (.ireturn, 1) := by decide +kernel
theorem dX10_requireArgument_0 : decode cX10_requireArgument 0 = .ok (.iload_n 0, 1) := by decide +kernel
theorem dX10_requireArgument_1 : decode cX10_requireArgument 1 = .ok (.ifCond .ne 11, 3) := by decide +kernel
theorem dX10_requireArgument_4 : decode cX10_requireArgument 4 = .ok (.new 289, 3) := by decide +kernel
theorem dX10_requireArgument_7 : decode cX10_requireArgument 7 = .ok (.dup, 1) := by decide +kernel
theorem dX10_requireArgument_8 : decode cX10_requireArgument 8 = .ok (.invokespecial 291, 3) := by decide +kernel
theorem dX10_requireArgument_11 : decode cX10_requireArgument 11 = .ok (.athrow, 1) := by decide +kernel
theorem dX10_requireArgument_12 : decode cX10_requireArgument 12 = .ok (.return_, 1) := by decide +kernel
theorem dX10_requireRange_0 : decode cX10_requireRange 0 = .ok (.iload_n 0, 1) := by decide +kernel
theorem dX10_requireRange_1 : decode cX10_requireRange 1 = .ok (.iload_n 1, 1) := by decide +kernel
theorem dX10_requireRange_2 : decode cX10_requireRange 2 = .ok (.if_icmp .lt 12, 3) := by decide +kernel
theorem dX10_requireRange_5 : decode cX10_requireRange 5 = .ok (.iload_n 0, 1) := by decide +kernel
theorem dX10_requireRange_6 : decode cX10_requireRange 6 = .ok (.iload_n 2, 1) := by decide +kernel
theorem dX10_requireRange_7 : decode cX10_requireRange 7 = .ok (.if_icmp .gt 7, 3) := by decide +kernel
theorem dX10_requireRange_10 : decode cX10_requireRange 10 = .ok (.iconst 1, 1) := by decide +kernel
theorem dX10_requireRange_11 : decode cX10_requireRange 11 = .ok (.goto 4, 3) := by decide +kernel
theorem dX10_requireRange_14 : decode cX10_requireRange 14 = .ok (.iconst 0, 1) := by decide +kernel
theorem dX10_requireRange_15 : decode cX10_requireRange 15 = .ok (.invokestatic 155, 3) := by decide +kernel
theorem dX10_requireRange_18 : decode cX10_requireRange 18 = .ok (.return_, 1) := by decide +kernel
theorem dX10_requireState_0 : decode cX10_requireState 0 = .ok (.iload_n 0, 1) := by decide +kernel
theorem dX10_requireState_1 : decode cX10_requireState 1 = .ok (.ifCond .ne 11, 3) := by decide +kernel
theorem dX10_requireState_4 : decode cX10_requireState 4 = .ok (.new 292, 3) := by decide +kernel
theorem dX10_requireState_7 : decode cX10_requireState 7 = .ok (.dup, 1) := by decide +kernel
theorem dX10_requireState_8 : decode cX10_requireState 8 = .ok (.invokespecial 294, 3) := by decide +kernel
theorem dX10_requireState_11 : decode cX10_requireState 11 = .ok (.athrow, 1) := by decide +kernel
theorem dX10_requireState_12 : decode cX10_requireState 12 = .ok (.return_, 1) := by decide +kernel
theorem dX10_requireSlot_0 : decode cX10_requireSlot 0 = .ok (.iload_n 0, 1) := by decide +kernel
theorem dX10_requireSlot_1 : decode cX10_requireSlot 1 = .ok (.ifCond .lt 8, 3) := by decide +kernel
theorem dX10_requireSlot_4 : decode cX10_requireSlot 4 = .ok (.iload_n 0, 1) := by decide +kernel
theorem dX10_requireSlot_5 : decode cX10_requireSlot 5 = .ok (.iconst 2, 1) := by decide +kernel
theorem dX10_requireSlot_6 : decode cX10_requireSlot 6 = .ok (.if_icmp .lt 11, 3) := by decide +kernel
theorem dX10_requireSlot_9 : decode cX10_requireSlot 9 = .ok (.new 295, 3) := by decide +kernel
theorem dX10_requireSlot_12 : decode cX10_requireSlot 12 = .ok (.dup, 1) := by decide +kernel
theorem dX10_requireSlot_13 : decode cX10_requireSlot 13 = .ok (.invokespecial 297, 3) := by decide +kernel
theorem dX10_requireSlot_16 : decode cX10_requireSlot 16 = .ok (.athrow, 1) := by decide +kernel
theorem dX10_requireSlot_17 : decode cX10_requireSlot 17 = .ok (.return_, 1) := by decide +kernel
theorem dX10_existingMember_0 : decode cX10_existingMember 0 = .ok (.aload_n 0, 1) := by decide +kernel
theorem dX10_existingMember_1 : decode cX10_existingMember 1 = .ok (.getfield 19, 3) := by decide +kernel
theorem dX10_existingMember_4 : decode cX10_existingMember 4 = .ok (.iload_n 1, 1) := by decide +kernel
theorem dX10_existingMember_5 : decode cX10_existingMember 5 = .ok (.invokevirtual 298, 3) := by decide +kernel
theorem dX10_existingMember_8 : decode cX10_existingMember 8 = .ok (.astore_n 2, 1) := by decide +kernel
theorem dX10_existingMember_9 : decode cX10_existingMember 9 = .ok (.aload_n 2, 1) := by decide +kernel
theorem dX10_existingMember_10 : decode cX10_existingMember 10 = .ok (.ifnonnull 11, 3) := by decide +kernel
theorem dX10_existingMember_13 : decode cX10_existingMember 13 = .ok (.new 295, 3) := by decide +kernel
theorem dX10_existingMember_16 : decode cX10_existingMember 16 = .ok (.dup, 1) := by decide +kernel
theorem dX10_existingMember_17 : decode cX10_existingMember 17 = .ok (.invokespecial 297, 3) := by decide +kernel
theorem dX10_existingMember_20 : decode cX10_existingMember 20 = .ok (.athrow, 1) := by decide +kernel
theorem dX10_existingMember_21 : decode cX10_existingMember 21 = .ok (.aload_n 2, 1) := by decide +kernel
theorem dX10_existingMember_22 : decode cX10_existingMember 22 = .ok (.areturn, 1) := by decide +kernel
theorem dX10_existingCloth_0 : decode cX10_existingCloth 0 = .ok (.aload_n 0, 1) := by decide +kernel
theorem dX10_existingCloth_1 : decode cX10_existingCloth 1 = .ok (.getfield 19, 3) := by decide +kernel
theorem dX10_existingCloth_4 : decode cX10_existingCloth 4 = .ok (.iload_n 1, 1) := by decide +kernel
theorem dX10_existingCloth_5 : decode cX10_existingCloth 5 = .ok (.invokevirtual 301, 3) := by decide +kernel
theorem dX10_existingCloth_8 : decode cX10_existingCloth 8 = .ok (.astore_n 2, 1) := by decide +kernel
theorem dX10_existingCloth_9 : decode cX10_existingCloth 9 = .ok (.aload_n 2, 1) := by decide +kernel
theorem dX10_existingCloth_10 : decode cX10_existingCloth 10 = .ok (.ifnonnull 11, 3) := by decide +kernel
theorem dX10_existingCloth_13 : decode cX10_existingCloth 13 = .ok (.new 295, 3) := by decide +kernel
theorem dX10_existingCloth_16 : decode cX10_existingCloth 16 = .ok (.dup, 1) := by decide +kernel
theorem dX10_existingCloth_17 : decode cX10_existingCloth 17 = .ok (.invokespecial 297, 3) := by decide +kernel
theorem dX10_existingCloth_20 : decode cX10_existingCloth 20 = .ok (.athrow, 1) := by decide +kernel
theorem dX10_existingCloth_21 : decode cX10_existingCloth 21 = .ok (.aload_n 2, 1) := by decide +kernel
theorem dX10_existingCloth_22 : decode cX10_existingCloth 22 = .ok (.areturn, 1) := by decide +kernel
theorem dX10_existingFrame_0 : decode cX10_existingFrame 0 = .ok (.aload_n 0, 1) := by decide +kernel
theorem dX10_existingFrame_1 : decode cX10_existingFrame 1 = .ok (.getfield 19, 3) := by decide +kernel
theorem dX10_existingFrame_4 : decode cX10_existingFrame 4 = .ok (.iload_n 1, 1) := by decide +kernel
theorem dX10_existingFrame_5 : decode cX10_existingFrame 5 = .ok (.invokevirtual 304, 3) := by decide +kernel
theorem dX10_existingFrame_8 : decode cX10_existingFrame 8 = .ok (.astore_n 2, 1) := by decide +kernel
theorem dX10_existingFrame_9 : decode cX10_existingFrame 9 = .ok (.aload_n 2, 1) := by decide +kernel
theorem dX10_existingFrame_10 : decode cX10_existingFrame 10 = .ok (.ifnonnull 11, 3) := by decide +kernel
theorem dX10_existingFrame_13 : decode cX10_existingFrame 13 = .ok (.new 295, 3) := by decide +kernel
theorem dX10_existingFrame_16 : decode cX10_existingFrame 16 = .ok (.dup, 1) := by decide +kernel
theorem dX10_existingFrame_17 : decode cX10_existingFrame 17 = .ok (.invokespecial 297, 3) := by decide +kernel
theorem dX10_existingFrame_20 : decode cX10_existingFrame 20 = .ok (.athrow, 1) := by decide +kernel
theorem dX10_existingFrame_21 : decode cX10_existingFrame 21 = .ok (.aload_n 2, 1) := by decide +kernel
theorem dX10_existingFrame_22 : decode cX10_existingFrame 22 = .ok (.areturn, 1) := by decide +kernel
theorem dX10_withoutLastGroups_0 : decode cX10_withoutLastGroups 0 = .ok (.lload_n 0, 1) := by decide +kernel
theorem dX10_withoutLastGroups_1 : decode cX10_withoutLastGroups 1 = .ok (.lstore_n 3, 1) := by decide +kernel
theorem dX10_withoutLastGroups_2 : decode cX10_withoutLastGroups 2 = .ok (.iconst 0, 1) := by decide +kernel
theorem dX10_withoutLastGroups_3 : decode cX10_withoutLastGroups 3 = .ok (.istore 5, 2) := by decide +kernel
theorem dX10_withoutLastGroups_5 : decode cX10_withoutLastGroups 5 = .ok (.iload 5, 2) := by decide +kernel
theorem dX10_withoutLastGroups_7 : decode cX10_withoutLastGroups 7 = .ok (.iload_n 2, 1) := by decide +kernel
theorem dX10_withoutLastGroups_8 : decode cX10_withoutLastGroups 8 = .ok (.if_icmp .ge 15, 3) := by decide +kernel
theorem dX10_withoutLastGroups_11 : decode cX10_withoutLastGroups 11 = .ok (.lload_n 3, 1) := by decide +kernel
theorem dX10_withoutLastGroups_12 : decode cX10_withoutLastGroups 12 = .ok (.ldc2_w 254, 3) := by decide +kernel
theorem dX10_withoutLastGroups_15 : decode cX10_withoutLastGroups 15 = .ok (.ldiv, 1) := by decide +kernel
theorem dX10_withoutLastGroups_16 : decode cX10_withoutLastGroups 16 = .ok (.lstore_n 3, 1) := by decide +kernel
theorem dX10_withoutLastGroups_17 : decode cX10_withoutLastGroups 17 = .ok (.iinc 5 1, 3) := by decide +kernel
theorem dX10_withoutLastGroups_20 : decode cX10_withoutLastGroups 20 = .ok (.goto (-15), 3) := by decide +kernel
theorem dX10_withoutLastGroups_23 : decode cX10_withoutLastGroups 23 = .ok (.lload_n 3, 1) := by decide +kernel
theorem dX10_withoutLastGroups_24 : decode cX10_withoutLastGroups 24 = .ok (.lreturn, 1) := by decide +kernel
theorem dX11_init_0 : decode cX11_init 0 = .ok (.aload_n 0, 1) := by decide +kernel
theorem dX11_init_1 : decode cX11_init 1 = .ok (.invokespecial 1, 3) := by decide +kernel
theorem dX11_init_4 : decode cX11_init 4 = .ok (.aload_n 0, 1) := by decide +kernel
theorem dX11_init_5 : decode cX11_init 5 = .ok (.sipush 866, 3) := by decide +kernel
theorem dX11_init_8 : decode cX11_init 8 = .ok (.newarray .int, 2) := by decide +kernel
theorem dX11_init_10 : decode cX11_init 10 = .ok (.putfield 7, 3) := by decide +kernel
theorem dX11_init_13 : decode cX11_init 13 = .ok (.aload_n 0, 1) := by decide +kernel
theorem dX11_init_14 : decode cX11_init 14 = .ok (.sipush 866, 3) := by decide +kernel
theorem dX11_init_17 : decode cX11_init 17 = .ok (.newarray .int, 2) := by decide +kernel
theorem dX11_init_19 : decode cX11_init 19 = .ok (.putfield 13, 3) := by decide +kernel
theorem dX11_init_22 : decode cX11_init 22 = .ok (.aload_n 0, 1) := by decide +kernel
theorem dX11_init_23 : decode cX11_init 23 = .ok (.sipush 12124, 3) := by decide +kernel
theorem dX11_init_26 : decode cX11_init 26 = .ok (.newarray .int, 2) := by decide +kernel
theorem dX11_init_28 : decode cX11_init 28 = .ok (.putfield 16, 3) := by decide +kernel
theorem dX11_init_31 : decode cX11_init 31 = .ok (.aload_n 0, 1) := by decide +kernel
theorem dX11_init_32 : decode cX11_init 32 = .ok (.sipush 1732, 3) := by decide +kernel
theorem dX11_init_35 : decode cX11_init 35 = .ok (.newarray .int, 2) := by decide +kernel
theorem dX11_init_37 : decode cX11_init 37 = .ok (.putfield 19, 3) := by decide +kernel
theorem dX11_init_40 : decode cX11_init 40 = .ok (.aload_n 0, 1) := by decide +kernel
theorem dX11_init_41 : decode cX11_init 41 = .ok (.iconst 2, 1) := by decide +kernel
theorem dX11_init_42 : decode cX11_init 42 = .ok (.newarray .boolean, 2) := by decide +kernel
theorem dX11_init_44 : decode cX11_init 44 = .ok (.putfield 22, 3) := by decide +kernel
theorem dX11_init_47 : decode cX11_init 47 = .ok (.aload_n 0, 1) := by decide +kernel
theorem dX11_init_48 : decode cX11_init 48 = .ok (.bipush 60, 2) := by decide +kernel
theorem dX11_init_50 : decode cX11_init 50 = .ok (.newarray .int, 2) := by decide +kernel
theorem dX11_init_52 : decode cX11_init 52 = .ok (.putfield 26, 3) := by decide +kernel
theorem dX11_init_55 : decode cX11_init 55 = .ok (.aload_n 0, 1) := by decide +kernel
theorem dX11_init_56 : decode cX11_init 56 = .ok (.bipush 60, 2) := by decide +kernel
theorem dX11_init_58 : decode cX11_init 58 = .ok (.newarray .int, 2) := by decide +kernel
theorem dX11_init_60 : decode cX11_init 60 = .ok (.putfield 29, 3) := by decide +kernel
theorem dX11_init_63 : decode cX11_init 63 = .ok (.aload_n 0, 1) := by decide +kernel
theorem dX11_init_64 : decode cX11_init 64 = .ok (.bipush 60, 2) := by decide +kernel
theorem dX11_init_66 : decode cX11_init 66 = .ok (.newarray .int, 2) := by decide +kernel
theorem dX11_init_68 : decode cX11_init 68 = .ok (.putfield 32, 3) := by decide +kernel
theorem dX11_init_71 : decode cX11_init 71 = .ok (.aload_n 0, 1) := by decide +kernel
theorem dX11_init_72 : decode cX11_init 72 = .ok (.bipush 60, 2) := by decide +kernel
theorem dX11_init_74 : decode cX11_init 74 = .ok (.newarray .int, 2) := by decide +kernel
theorem dX11_init_76 : decode cX11_init 76 = .ok (.putfield 35, 3) := by decide +kernel
theorem dX11_init_79 : decode cX11_init 79 = .ok (.aload_n 0, 1) := by decide +kernel
theorem dX11_init_80 : decode cX11_init 80 = .ok (.bipush 60, 2) := by decide +kernel
theorem dX11_init_82 : decode cX11_init 82 = .ok (.newarray .int, 2) := by decide +kernel
theorem dX11_init_84 : decode cX11_init 84 = .ok (.putfield 38, 3) := by decide +kernel
theorem dX11_init_87 : decode cX11_init 87 = .ok (.aload_n 0, 1) := by decide +kernel
theorem dX11_init_88 : decode cX11_init 88 = .ok (.sipush 15360, 3) := by decide +kernel
theorem dX11_init_91 : decode cX11_init 91 = .ok (.newarray .int, 2) := by decide +kernel
theorem dX11_init_93 : decode cX11_init 93 = .ok (.putfield 41, 3) := by decide +kernel
theorem dX11_init_96 : decode cX11_init 96 = .ok (.aload_n 0, 1) := by decide +kernel
theorem dX11_init_97 : decode cX11_init 97 = .ok (.sipush 256, 3) := by decide +kernel
theorem dX11_init_100 : decode cX11_init 100 = .ok (.newarray .int, 2) := by decide +kernel
theorem dX11_init_102 : decode cX11_init 102 = .ok (.putfield 44, 3) := by decide +kernel
theorem dX11_init_105 : decode cX11_init 105 = .ok (.aload_n 0, 1) := by decide +kernel
theorem dX11_init_106 : decode cX11_init 106 = .ok (.sipush 256, 3) := by decide +kernel
theorem dX11_init_109 : decode cX11_init 109 = .ok (.newarray .int, 2) := by decide +kernel
theorem dX11_init_111 : decode cX11_init 111 = .ok (.putfield 47, 3) := by decide +kernel
theorem dX11_init_114 : decode cX11_init 114 = .ok (.aload_n 0, 1) := by decide +kernel
theorem dX11_init_115 : decode cX11_init 115 = .ok (.sipush 256, 3) := by decide +kernel
theorem dX11_init_118 : decode cX11_init 118 = .ok (.newarray .int, 2) := by decide +kernel
theorem dX11_init_120 : decode cX11_init 120 = .ok (.putfield 50, 3) := by decide +kernel
theorem dX11_init_123 : decode cX11_init 123 = .ok (.aload_n 0, 1) := by decide +kernel
theorem dX11_init_124 : decode cX11_init 124 = .ok (.iconst 5, 1) := by decide +kernel
theorem dX11_init_125 : decode cX11_init 125 = .ok (.newarray .int, 2) := by decide +kernel
theorem dX11_init_127 : decode cX11_init 127 = .ok (.putfield 53, 3) := by decide +kernel
theorem dX11_init_130 : decode cX11_init 130 = .ok (.return_, 1) := by decide +kernel
theorem dX11_thrown_0 : decode cX11_thrown 0 = .ok (.aload_n 0, 1) := by decide +kernel
theorem dX11_thrown_1 : decode cX11_thrown 1 = .ok (.getfield 56, 3) := by decide +kernel
theorem dX11_thrown_4 : decode cX11_thrown 4 = .ok (.ireturn, 1) := by decide +kernel
theorem dX11_in_0 : decode cX11_in 0 = .ok (.lload_n 0, 1) := by decide +kernel
theorem dX11_in_1 : decode cX11_in 1 = .ok (.lload_n 2, 1) := by decide +kernel
theorem dX11_in_2 : decode cX11_in 2 = .ok (.lcmp, 1) := by decide +kernel
theorem dX11_in_3 : decode cX11_in 3 = .ok (.ifCond .lt 14, 3) := by decide +kernel
theorem dX11_in_6 : decode cX11_in 6 = .ok (.lload_n 0, 1) := by decide +kernel
theorem dX11_in_7 : decode cX11_in 7 = .ok (.lload 4, 2) := by decide +kernel
theorem dX11_in_9 : decode cX11_in 9 = .ok (.lcmp, 1) := by decide +kernel
theorem dX11_in_10 : decode cX11_in 10 = .ok (.ifCond .gt 7, 3) := by decide +kernel
theorem dX11_in_13 : decode cX11_in 13 = .ok (.iconst 1, 1) := by decide +kernel
theorem dX11_in_14 : decode cX11_in 14 = .ok (.goto 4, 3) := by decide +kernel
theorem dX11_in_17 : decode cX11_in 17 = .ok (.iconst 0, 1) := by decide +kernel
theorem dX11_in_18 : decode cX11_in 18 = .ok (.ireturn, 1) := by decide +kernel
theorem dX11_fails_0 : decode cX11_fails 0 = .ok (.aload_n 0, 1) := by decide +kernel
theorem dX11_fails_1 : decode cX11_fails 1 = .ok (.iload_n 1, 1) := by decide +kernel
theorem dX11_fails_2 : decode cX11_fails 2 = .ok (.putfield 56, 3) := by decide +kernel
theorem dX11_fails_5 : decode cX11_fails 5 = .ok (.iconst 0, 1) := by decide +kernel
theorem dX11_fails_6 : decode cX11_fails 6 = .ok (.ireturn, 1) := by decide +kernel
theorem dX11_keep_0 : decode cX11_keep 0 = .ok (.iconst 0, 1) := by decide +kernel
theorem dX11_keep_1 : decode cX11_keep 1 = .ok (.istore_n 1, 1) := by decide +kernel
theorem dX11_keep_2 : decode cX11_keep 2 = .ok (.iload_n 1, 1) := by decide +kernel
theorem dX11_keep_3 : decode cX11_keep 3 = .ok (.sipush 866, 3) := by decide +kernel
theorem dX11_keep_6 : decode cX11_keep 6 = .ok (.if_icmp .ge 21, 3) := by decide +kernel
theorem dX11_keep_9 : decode cX11_keep 9 = .ok (.aload_n 0, 1) := by decide +kernel
theorem dX11_keep_10 : decode cX11_keep 10 = .ok (.getfield 13, 3) := by decide +kernel
theorem dX11_keep_13 : decode cX11_keep 13 = .ok (.iload_n 1, 1) := by decide +kernel
theorem dX11_keep_14 : decode cX11_keep 14 = .ok (.aload_n 0, 1) := by decide +kernel
theorem dX11_keep_15 : decode cX11_keep 15 = .ok (.getfield 7, 3) := by decide +kernel
theorem dX11_keep_18 : decode cX11_keep 18 = .ok (.iload_n 1, 1) := by decide +kernel
theorem dX11_keep_19 : decode cX11_keep 19 = .ok (.iaload, 1) := by decide +kernel
theorem dX11_keep_20 : decode cX11_keep 20 = .ok (.iastore, 1) := by decide +kernel
theorem dX11_keep_21 : decode cX11_keep 21 = .ok (.iinc 1 1, 3) := by decide +kernel
theorem dX11_keep_24 : decode cX11_keep 24 = .ok (.goto (-22), 3) := by decide +kernel
theorem dX11_keep_27 : decode cX11_keep 27 = .ok (.return_, 1) := by decide +kernel
theorem dX11_bringBack_0 : decode cX11_bringBack 0 = .ok (.iconst 0, 1) := by decide +kernel
theorem dX11_bringBack_1 : decode cX11_bringBack 1 = .ok (.istore_n 1, 1) := by decide +kernel
theorem dX11_bringBack_2 : decode cX11_bringBack 2 = .ok (.iload_n 1, 1) := by decide +kernel
theorem dX11_bringBack_3 : decode cX11_bringBack 3 = .ok (.sipush 866, 3) := by decide +kernel
theorem dX11_bringBack_6 : decode cX11_bringBack 6 = .ok (.if_icmp .ge 21, 3) := by decide +kernel
theorem dX11_bringBack_9 : decode cX11_bringBack 9 = .ok (.aload_n 0, 1) := by decide +kernel
theorem dX11_bringBack_10 : decode cX11_bringBack 10 = .ok (.getfield 7, 3) := by decide +kernel
theorem dX11_bringBack_13 : decode cX11_bringBack 13 = .ok (.iload_n 1, 1) := by decide +kernel
theorem dX11_bringBack_14 : decode cX11_bringBack 14 = .ok (.aload_n 0, 1) := by decide +kernel
theorem dX11_bringBack_15 : decode cX11_bringBack 15 = .ok (.getfield 13, 3) := by decide +kernel
theorem dX11_bringBack_18 : decode cX11_bringBack 18 = .ok (.iload_n 1, 1) := by decide +kernel
theorem dX11_bringBack_19 : decode cX11_bringBack 19 = .ok (.iaload, 1) := by decide +kernel
theorem dX11_bringBack_20 : decode cX11_bringBack 20 = .ok (.iastore, 1) := by decide +kernel
theorem dX11_bringBack_21 : decode cX11_bringBack 21 = .ok (.iinc 1 1, 3) := by decide +kernel
theorem dX11_bringBack_24 : decode cX11_bringBack 24 = .ok (.goto (-22), 3) := by decide +kernel
theorem dX11_bringBack_27 : decode cX11_bringBack 27 = .ok (.return_, 1) := by decide +kernel
theorem dX11_remember_0 : decode cX11_remember 0 = .ok (.aload_n 0, 1) := by decide +kernel
theorem dX11_remember_1 : decode cX11_remember 1 = .ok (.getfield 60, 3) := by decide +kernel
theorem dX11_remember_4 : decode cX11_remember 4 = .ok (.bipush 14, 2) := by decide +kernel
theorem dX11_remember_6 : decode cX11_remember 6 = .ok (.if_icmp .ne 44, 3) := by decide +kernel
theorem dX11_remember_9 : decode cX11_remember 9 = .ok (.iconst 0, 1) := by decide +kernel
theorem dX11_remember_10 : decode cX11_remember 10 = .ok (.istore_n 1, 1) := by decide +kernel
theorem dX11_remember_11 : decode cX11_remember 11 = .ok (.iload_n 1, 1) := by decide +kernel
theorem dX11_remember_12 : decode cX11_remember 12 = .ok (.sipush 11258, 3) := by decide +kernel
theorem dX11_remember_15 : decode cX11_remember 15 = .ok (.if_icmp .ge 25, 3) := by decide +kernel
theorem dX11_remember_18 : decode cX11_remember 18 = .ok (.aload_n 0, 1) := by decide +kernel
theorem dX11_remember_19 : decode cX11_remember 19 = .ok (.getfield 16, 3) := by decide +kernel
theorem dX11_remember_22 : decode cX11_remember 22 = .ok (.iload_n 1, 1) := by decide +kernel
theorem dX11_remember_23 : decode cX11_remember 23 = .ok (.aload_n 0, 1) := by decide +kernel
theorem dX11_remember_24 : decode cX11_remember 24 = .ok (.getfield 16, 3) := by decide +kernel
theorem dX11_remember_27 : decode cX11_remember 27 = .ok (.iload_n 1, 1) := by decide +kernel
theorem dX11_remember_28 : decode cX11_remember 28 = .ok (.sipush 866, 3) := by decide +kernel
theorem dX11_remember_31 : decode cX11_remember 31 = .ok (.iadd, 1) := by decide +kernel
theorem dX11_remember_32 : decode cX11_remember 32 = .ok (.iaload, 1) := by decide +kernel
theorem dX11_remember_33 : decode cX11_remember 33 = .ok (.iastore, 1) := by decide +kernel
theorem dX11_remember_34 : decode cX11_remember 34 = .ok (.iinc 1 1, 3) := by decide +kernel
theorem dX11_remember_37 : decode cX11_remember 37 = .ok (.goto (-26), 3) := by decide +kernel
theorem dX11_remember_40 : decode cX11_remember 40 = .ok (.aload_n 0, 1) := by decide +kernel
theorem dX11_remember_41 : decode cX11_remember 41 = .ok (.dup, 1) := by decide +kernel
theorem dX11_remember_42 : decode cX11_remember 42 = .ok (.getfield 60, 3) := by decide +kernel
theorem dX11_remember_45 : decode cX11_remember 45 = .ok (.iconst 1, 1) := by decide +kernel
theorem dX11_remember_46 : decode cX11_remember 46 = .ok (.isub, 1) := by decide +kernel
theorem dX11_remember_47 : decode cX11_remember 47 = .ok (.putfield 60, 3) := by decide +kernel
theorem dX11_remember_50 : decode cX11_remember 50 = .ok (.iconst 0, 1) := by decide +kernel
theorem dX11_remember_51 : decode cX11_remember 51 = .ok (.istore_n 1, 1) := by decide +kernel
theorem dX11_remember_52 : decode cX11_remember 52 = .ok (.iload_n 1, 1) := by decide +kernel
theorem dX11_remember_53 : decode cX11_remember 53 = .ok (.sipush 866, 3) := by decide +kernel
theorem dX11_remember_56 : decode cX11_remember 56 = .ok (.if_icmp .ge 30, 3) := by decide +kernel
theorem dX11_remember_59 : decode cX11_remember 59 = .ok (.aload_n 0, 1) := by decide +kernel
theorem dX11_remember_60 : decode cX11_remember 60 = .ok (.getfield 16, 3) := by decide +kernel
theorem dX11_remember_63 : decode cX11_remember 63 = .ok (.sipush 866, 3) := by decide +kernel
theorem dX11_remember_66 : decode cX11_remember 66 = .ok (.aload_n 0, 1) := by decide +kernel
theorem dX11_remember_67 : decode cX11_remember 67 = .ok (.getfield 60, 3) := by decide +kernel
theorem dX11_remember_70 : decode cX11_remember 70 = .ok (.imul, 1) := by decide +kernel
theorem dX11_remember_71 : decode cX11_remember 71 = .ok (.iload_n 1, 1) := by decide +kernel
theorem dX11_remember_72 : decode cX11_remember 72 = .ok (.iadd, 1) := by decide +kernel
theorem dX11_remember_73 : decode cX11_remember 73 = .ok (.aload_n 0, 1) := by decide +kernel
theorem dX11_remember_74 : decode cX11_remember 74 = .ok (.getfield 7, 3) := by decide +kernel
theorem dX11_remember_77 : decode cX11_remember 77 = .ok (.iload_n 1, 1) := by decide +kernel
theorem dX11_remember_78 : decode cX11_remember 78 = .ok (.iaload, 1) := by decide +kernel
theorem dX11_remember_79 : decode cX11_remember 79 = .ok (.iastore, 1) := by decide +kernel
theorem dX11_remember_80 : decode cX11_remember 80 = .ok (.iinc 1 1, 3) := by decide +kernel
theorem dX11_remember_83 : decode cX11_remember 83 = .ok (.goto (-31), 3) := by decide +kernel
theorem dX11_remember_86 : decode cX11_remember 86 = .ok (.aload_n 0, 1) := by decide +kernel
theorem dX11_remember_87 : decode cX11_remember 87 = .ok (.dup, 1) := by decide +kernel
theorem dX11_remember_88 : decode cX11_remember 88 = .ok (.getfield 60, 3) := by decide +kernel
theorem dX11_remember_91 : decode cX11_remember 91 = .ok (.iconst 1, 1) := by decide +kernel
theorem dX11_remember_92 : decode cX11_remember 92 = .ok (.iadd, 1) := by decide +kernel
theorem dX11_remember_93 : decode cX11_remember 93 = .ok (.putfield 60, 3) := by decide +kernel
theorem dX11_remember_96 : decode cX11_remember 96 = .ok (.return_, 1) := by decide +kernel
theorem dX11_isMember_0 : decode cX11_isMember 0 = .ok (.iload_n 1, 1) := by decide +kernel
theorem dX11_isMember_1 : decode cX11_isMember 1 = .ok (.i2l, 1) := by decide +kernel
theorem dX11_isMember_2 : decode cX11_isMember 2 = .ok (.lconst 0, 1) := by decide +kernel
theorem dX11_isMember_3 : decode cX11_isMember 3 = .ok (.aload_n 0, 1) := by decide +kernel
theorem dX11_isMember_4 : decode cX11_isMember 4 = .ok (.getfield 7, 3) := by decide +kernel
theorem dX11_isMember_7 : decode cX11_isMember 7 = .ok (.iconst 0, 1) := by decide +kernel
theorem dX11_isMember_8 : decode cX11_isMember 8 = .ok (.iaload, 1) := by decide +kernel
theorem dX11_isMember_9 : decode cX11_isMember 9 = .ok (.iconst 1, 1) := by decide +kernel
theorem dX11_isMember_10 : decode cX11_isMember 10 = .ok (.isub, 1) := by decide +kernel
theorem dX11_isMember_11 : decode cX11_isMember 11 = .ok (.i2l, 1) := by decide +kernel
theorem dX11_isMember_12 : decode cX11_isMember 12 = .ok (.invokestatic 63, 3) := by decide +kernel
theorem dX11_isMember_15 : decode cX11_isMember 15 = .ok (.ireturn, 1) := by decide +kernel
theorem dX11_isColour_0 : decode cX11_isColour 0 = .ok (.iload_n 0, 1) := by decide +kernel
theorem dX11_isColour_1 : decode cX11_isColour 1 = .ok (.i2l, 1) := by decide +kernel
theorem dX11_isColour_2 : decode cX11_isColour 2 = .ok (.lconst 0, 1) := by decide +kernel
theorem dX11_isColour_3 : decode cX11_isColour 3 = .ok (.ldc2_w 67, 3) := by decide +kernel
theorem dX11_isColour_6 : decode cX11_isColour 6 = .ok (.invokestatic 63, 3) := by decide +kernel
theorem dX11_isColour_9 : decode cX11_isColour 9 = .ok (.ireturn, 1) := by decide +kernel
theorem dX11_isFrame_0 : decode cX11_isFrame 0 = .ok (.iload_n 0, 1) := by decide +kernel
theorem dX11_isFrame_1 : decode cX11_isFrame 1 = .ok (.i2l, 1) := by decide +kernel
theorem dX11_isFrame_2 : decode cX11_isFrame 2 = .ok (.lconst 0, 1) := by decide +kernel
theorem dX11_isFrame_3 : decode cX11_isFrame 3 = .ok (.ldc2_w 69, 3) := by decide +kernel
theorem dX11_isFrame_6 : decode cX11_isFrame 6 = .ok (.invokestatic 63, 3) := by decide +kernel
theorem dX11_isFrame_9 : decode cX11_isFrame 9 = .ok (.ireturn, 1) := by decide +kernel
theorem dX11_at_0 : decode cX11_at 0 = .ok (.bipush 74, 2) := by decide +kernel
theorem dX11_at_2 : decode cX11_at 2 = .ok (.sipush 264, 3) := by decide +kernel
theorem dX11_at_5 : decode cX11_at 5 = .ok (.iload_n 0, 1) := by decide +kernel
theorem dX11_at_6 : decode cX11_at 6 = .ok (.imul, 1) := by decide +kernel
theorem dX11_at_7 : decode cX11_at 7 = .ok (.iadd, 1) := by decide +kernel
theorem dX11_at_8 : decode cX11_at 8 = .ok (.iload_n 1, 1) := by decide +kernel
theorem dX11_at_9 : decode cX11_at 9 = .ok (.iadd, 1) := by decide +kernel
theorem dX11_at_10 : decode cX11_at 10 = .ok (.ireturn, 1) := by decide +kernel
theorem dX11_patches_0 : decode cX11_patches 0 = .ok (.aload_n 0, 1) := by decide +kernel
theorem dX11_patches_1 : decode cX11_patches 1 = .ok (.getfield 7, 3) := by decide +kernel
theorem dX11_patches_4 : decode cX11_patches 4 = .ok (.iload_n 1, 1) := by decide +kernel
theorem dX11_patches_5 : decode cX11_patches 5 = .ok (.iconst 0, 1) := by decide +kernel
theorem dX11_patches_6 : decode cX11_patches 6 = .ok (.invokestatic 71, 3) := by decide +kernel
theorem dX11_patches_9 : decode cX11_patches 9 = .ok (.iaload, 1) := by decide +kernel
theorem dX11_patches_10 : decode cX11_patches 10 = .ok (.aload_n 0, 1) := by decide +kernel
theorem dX11_patches_11 : decode cX11_patches 11 = .ok (.getfield 7, 3) := by decide +kernel
theorem dX11_patches_14 : decode cX11_patches 14 = .ok (.iload_n 1, 1) := by decide +kernel
theorem dX11_patches_15 : decode cX11_patches 15 = .ok (.iconst 1, 1) := by decide +kernel
theorem dX11_patches_16 : decode cX11_patches 16 = .ok (.invokestatic 71, 3) := by decide +kernel
theorem dX11_patches_19 : decode cX11_patches 19 = .ok (.iaload, 1) := by decide +kernel
theorem dX11_patches_20 : decode cX11_patches 20 = .ok (.imul, 1) := by decide +kernel
theorem dX11_patches_21 : decode cX11_patches 21 = .ok (.ireturn, 1) := by decide +kernel
theorem dX11_isFinished_0 : decode cX11_isFinished 0 = .ok (.aload_n 0, 1) := by decide +kernel
theorem dX11_isFinished_1 : decode cX11_isFinished 1 = .ok (.iload_n 1, 1) := by decide +kernel
theorem dX11_isFinished_2 : decode cX11_isFinished 2 = .ok (.invokevirtual 75, 3) := by decide +kernel
theorem dX11_isFinished_5 : decode cX11_isFinished 5 = .ok (.ifCond .le 25, 3) := by decide +kernel
theorem dX11_isFinished_8 : decode cX11_isFinished 8 = .ok (.aload_n 0, 1) := by decide +kernel
theorem dX11_isFinished_9 : decode cX11_isFinished 9 = .ok (.getfield 7, 3) := by decide +kernel
theorem dX11_isFinished_12 : decode cX11_isFinished 12 = .ok (.iload_n 1, 1) := by decide +kernel
theorem dX11_isFinished_13 : decode cX11_isFinished 13 = .ok (.iconst 2, 1) := by decide +kernel
theorem dX11_isFinished_14 : decode cX11_isFinished 14 = .ok (.invokestatic 71, 3) := by decide +kernel
theorem dX11_isFinished_17 : decode cX11_isFinished 17 = .ok (.iaload, 1) := by decide +kernel
theorem dX11_isFinished_18 : decode cX11_isFinished 18 = .ok (.aload_n 0, 1) := by decide +kernel
theorem dX11_isFinished_19 : decode cX11_isFinished 19 = .ok (.iload_n 1, 1) := by decide +kernel
theorem dX11_isFinished_20 : decode cX11_isFinished 20 = .ok (.invokevirtual 75, 3) := by decide +kernel
theorem dX11_isFinished_23 : decode cX11_isFinished 23 = .ok (.if_icmp .ne 7, 3) := by decide +kernel
theorem dX11_isFinished_26 : decode cX11_isFinished 26 = .ok (.iconst 1, 1) := by decide +kernel
theorem dX11_isFinished_27 : decode cX11_isFinished 27 = .ok (.goto 4, 3) := by decide +kernel
theorem dX11_isFinished_30 : decode cX11_isFinished 30 = .ok (.iconst 0, 1) := by decide +kernel
theorem dX11_isFinished_31 : decode cX11_isFinished 31 = .ok (.ireturn, 1) := by decide +kernel
theorem dX11_colourAt_0 : decode cX11_colourAt 0 = .ok (.aload_n 0, 1) := by decide +kernel
theorem dX11_colourAt_1 : decode cX11_colourAt 1 = .ok (.getfield 7, 3) := by decide +kernel
theorem dX11_colourAt_4 : decode cX11_colourAt 4 = .ok (.iload_n 1, 1) := by decide +kernel
theorem dX11_colourAt_5 : decode cX11_colourAt 5 = .ok (.bipush 8, 2) := by decide +kernel
theorem dX11_colourAt_7 : decode cX11_colourAt 7 = .ok (.iload_n 2, 1) := by decide +kernel
theorem dX11_colourAt_8 : decode cX11_colourAt 8 = .ok (.iadd, 1) := by decide +kernel
theorem dX11_colourAt_9 : decode cX11_colourAt 9 = .ok (.invokestatic 71, 3) := by decide +kernel
theorem dX11_colourAt_12 : decode cX11_colourAt 12 = .ok (.iaload, 1) := by decide +kernel
theorem dX11_colourAt_13 : decode cX11_colourAt 13 = .ok (.ireturn, 1) := by decide +kernel
theorem dX11_append_0 : decode cX11_append 0 = .ok (.aload_n 0, 1) := by decide +kernel
theorem dX11_append_1 : decode cX11_append 1 = .ok (.iconst 0, 1) := by decide +kernel
theorem dX11_append_2 : decode cX11_append 2 = .ok (.putfield 56, 3) := by decide +kernel
theorem dX11_append_5 : decode cX11_append 5 = .ok (.iload_n 1, 1) := by decide +kernel
theorem dX11_append_6 : decode cX11_append 6 = .ok (.i2l, 1) := by decide +kernel
theorem dX11_append_7 : decode cX11_append 7 = .ok (.lconst 0, 1) := by decide +kernel
theorem dX11_append_8 : decode cX11_append 8 = .ok (.ldc2_w 79, 3) := by decide +kernel
theorem dX11_append_11 : decode cX11_append 11 = .ok (.invokestatic 63, 3) := by decide +kernel
theorem dX11_append_14 : decode cX11_append 14 = .ok (.ifCond .ne 9, 3) := by decide +kernel
theorem dX11_append_17 : decode cX11_append 17 = .ok (.aload_n 0, 1) := by decide +kernel
theorem dX11_append_18 : decode cX11_append 18 = .ok (.iconst 1, 1) := by decide +kernel
theorem dX11_append_19 : decode cX11_append 19 = .ok (.invokevirtual 81, 3) := by decide +kernel
theorem dX11_append_22 : decode cX11_append 22 = .ok (.ireturn, 1) := by decide +kernel
theorem dX11_append_23 : decode cX11_append 23 = .ok (.aload_n 0, 1) := by decide +kernel
theorem dX11_append_24 : decode cX11_append 24 = .ok (.getfield 84, 3) := by decide +kernel
theorem dX11_append_27 : decode cX11_append 27 = .ok (.bipush 60, 2) := by decide +kernel
theorem dX11_append_29 : decode cX11_append 29 = .ok (.if_icmp .ne 9, 3) := by decide +kernel
theorem dX11_append_32 : decode cX11_append 32 = .ok (.aload_n 0, 1) := by decide +kernel
theorem dX11_append_33 : decode cX11_append 33 = .ok (.iconst 2, 1) := by decide +kernel
theorem dX11_append_34 : decode cX11_append 34 = .ok (.invokevirtual 81, 3) := by decide +kernel
theorem dX11_append_37 : decode cX11_append 37 = .ok (.ireturn, 1) := by decide +kernel
theorem dX11_append_38 : decode cX11_append 38 = .ok (.aload_n 0, 1) := by decide +kernel
theorem dX11_append_39 : decode cX11_append 39 = .ok (.getfield 26, 3) := by decide +kernel
theorem dX11_append_42 : decode cX11_append 42 = .ok (.aload_n 0, 1) := by decide +kernel
theorem dX11_append_43 : decode cX11_append 43 = .ok (.getfield 84, 3) := by decide +kernel
theorem dX11_append_46 : decode cX11_append 46 = .ok (.iload_n 1, 1) := by decide +kernel
theorem dX11_append_47 : decode cX11_append 47 = .ok (.iastore, 1) := by decide +kernel
theorem dX11_append_48 : decode cX11_append 48 = .ok (.aload_n 0, 1) := by decide +kernel
theorem dX11_append_49 : decode cX11_append 49 = .ok (.dup, 1) := by decide +kernel
theorem dX11_append_50 : decode cX11_append 50 = .ok (.getfield 84, 3) := by decide +kernel
theorem dX11_append_53 : decode cX11_append 53 = .ok (.iconst 1, 1) := by decide +kernel
theorem dX11_append_54 : decode cX11_append 54 = .ok (.iadd, 1) := by decide +kernel
theorem dX11_append_55 : decode cX11_append 55 = .ok (.putfield 84, 3) := by decide +kernel
theorem dX11_append_58 : decode cX11_append 58 = .ok (.aload_n 0, 1) := by decide +kernel
theorem dX11_append_59 : decode cX11_append 59 = .ok (.getfield 84, 3) := by decide +kernel
theorem dX11_append_62 : decode cX11_append 62 = .ok (.ireturn, 1) := by decide +kernel
theorem dX11_clearText_0 : decode cX11_clearText 0 = .ok (.aload_n 0, 1) := by decide +kernel
theorem dX11_clearText_1 : decode cX11_clearText 1 = .ok (.iconst 0, 1) := by decide +kernel
theorem dX11_clearText_2 : decode cX11_clearText 2 = .ok (.putfield 56, 3) := by decide +kernel
theorem dX11_clearText_5 : decode cX11_clearText 5 = .ok (.aload_n 0, 1) := by decide +kernel
theorem dX11_clearText_6 : decode cX11_clearText 6 = .ok (.getfield 84, 3) := by decide +kernel
theorem dX11_clearText_9 : decode cX11_clearText 9 = .ok (.istore_n 1, 1) := by decide +kernel
theorem dX11_clearText_10 : decode cX11_clearText 10 = .ok (.aload_n 0, 1) := by decide +kernel
theorem dX11_clearText_11 : decode cX11_clearText 11 = .ok (.iconst 0, 1) := by decide +kernel
theorem dX11_clearText_12 : decode cX11_clearText 12 = .ok (.putfield 84, 3) := by decide +kernel
theorem dX11_clearText_15 : decode cX11_clearText 15 = .ok (.iload_n 1, 1) := by decide +kernel
theorem dX11_clearText_16 : decode cX11_clearText 16 = .ok (.ireturn, 1) := by decide +kernel
theorem dX11_isBefore_0 : decode cX11_isBefore 0 = .ok (.iload_n 0, 1) := by decide +kernel
theorem dX11_isBefore_1 : decode cX11_isBefore 1 = .ok (.bipush 40, 2) := by decide +kernel
theorem dX11_isBefore_3 : decode cX11_isBefore 3 = .ok (.if_icmp .eq 13, 3) := by decide +kernel
theorem dX11_isBefore_6 : decode cX11_isBefore 6 = .ok (.iload_n 0, 1) := by decide +kernel
theorem dX11_isBefore_7 : decode cX11_isBefore 7 = .ok (.bipush 91, 2) := by decide +kernel
theorem dX11_isBefore_9 : decode cX11_isBefore 9 = .ok (.if_icmp .eq 7, 3) := by decide +kernel
theorem dX11_isBefore_12 : decode cX11_isBefore 12 = .ok (.iconst 1, 1) := by decide +kernel
theorem dX11_isBefore_13 : decode cX11_isBefore 13 = .ok (.goto 4, 3) := by decide +kernel
theorem dX11_isBefore_16 : decode cX11_isBefore 16 = .ok (.iconst 0, 1) := by decide +kernel
theorem dX11_isBefore_17 : decode cX11_isBefore 17 = .ok (.ireturn, 1) := by decide +kernel
theorem dX11_opens_0 : decode cX11_opens 0 = .ok (.aload_n 0, 1) := by decide +kernel
theorem dX11_opens_1 : decode cX11_opens 1 = .ok (.getfield 29, 3) := by decide +kernel
theorem dX11_opens_4 : decode cX11_opens 4 = .ok (.aload_n 0, 1) := by decide +kernel
theorem dX11_opens_5 : decode cX11_opens 5 = .ok (.getfield 87, 3) := by decide +kernel
theorem dX11_opens_8 : decode cX11_opens 8 = .ok (.iload_n 1, 1) := by decide +kernel
theorem dX11_opens_9 : decode cX11_opens 9 = .ok (.iastore, 1) := by decide +kernel
theorem dX11_opens_10 : decode cX11_opens 10 = .ok (.aload_n 0, 1) := by decide +kernel
theorem dX11_opens_11 : decode cX11_opens 11 = .ok (.getfield 32, 3) := by decide +kernel
theorem dX11_opens_14 : decode cX11_opens 14 = .ok (.aload_n 0, 1) := by decide +kernel
theorem dX11_opens_15 : decode cX11_opens 15 = .ok (.getfield 87, 3) := by decide +kernel
theorem dX11_opens_18 : decode cX11_opens 18 = .ok (.iload_n 2, 1) := by decide +kernel
theorem dX11_opens_19 : decode cX11_opens 19 = .ok (.iastore, 1) := by decide +kernel
theorem dX11_opens_20 : decode cX11_opens 20 = .ok (.aload_n 0, 1) := by decide +kernel
theorem dX11_opens_21 : decode cX11_opens 21 = .ok (.getfield 35, 3) := by decide +kernel
theorem dX11_opens_24 : decode cX11_opens 24 = .ok (.aload_n 0, 1) := by decide +kernel
theorem dX11_opens_25 : decode cX11_opens 25 = .ok (.getfield 87, 3) := by decide +kernel
theorem dX11_opens_28 : decode cX11_opens 28 = .ok (.iconst 0, 1) := by decide +kernel
theorem dX11_opens_29 : decode cX11_opens 29 = .ok (.iastore, 1) := by decide +kernel
theorem dX11_opens_30 : decode cX11_opens 30 = .ok (.aload_n 0, 1) := by decide +kernel
theorem dX11_opens_31 : decode cX11_opens 31 = .ok (.getfield 38, 3) := by decide +kernel
theorem dX11_opens_34 : decode cX11_opens 34 = .ok (.aload_n 0, 1) := by decide +kernel
theorem dX11_opens_35 : decode cX11_opens 35 = .ok (.getfield 87, 3) := by decide +kernel
theorem dX11_opens_38 : decode cX11_opens 38 = .ok (.iconst 0, 1) := by decide +kernel
theorem dX11_opens_39 : decode cX11_opens 39 = .ok (.iastore, 1) := by decide +kernel
theorem dX11_opens_40 : decode cX11_opens 40 = .ok (.aload_n 0, 1) := by decide +kernel
theorem dX11_opens_41 : decode cX11_opens 41 = .ok (.dup, 1) := by decide +kernel
theorem dX11_opens_42 : decode cX11_opens 42 = .ok (.getfield 87, 3) := by decide +kernel
theorem dX11_opens_45 : decode cX11_opens 45 = .ok (.iconst 1, 1) := by decide +kernel
theorem dX11_opens_46 : decode cX11_opens 46 = .ok (.iadd, 1) := by decide +kernel
theorem dX11_opens_47 : decode cX11_opens 47 = .ok (.putfield 87, 3) := by decide +kernel
theorem dX11_opens_50 : decode cX11_opens 50 = .ok (.return_, 1) := by decide +kernel
theorem dX11_fromOther_0 : decode cX11_fromOther 0 = .ok (.aload_n 0, 1) := by decide +kernel
theorem dX11_fromOther_1 : decode cX11_fromOther 1 = .ok (.iload_n 1, 1) := by decide +kernel
theorem dX11_fromOther_2 : decode cX11_fromOther 2 = .ok (.putfield 90, 3) := by decide +kernel
theorem dX11_fromOther_5 : decode cX11_fromOther 5 = .ok (.aload_n 0, 1) := by decide +kernel
theorem dX11_fromOther_6 : decode cX11_fromOther 6 = .ok (.iload_n 2, 1) := by decide +kernel
theorem dX11_fromOther_7 : decode cX11_fromOther 7 = .ok (.putfield 93, 3) := by decide +kernel
theorem dX11_fromOther_10 : decode cX11_fromOther 10 = .ok (.iconst 0, 1) := by decide +kernel
theorem dX11_fromOther_11 : decode cX11_fromOther 11 = .ok (.istore_n 3, 1) := by decide +kernel
theorem dX11_fromOther_12 : decode cX11_fromOther 12 = .ok (.iload_n 3, 1) := by decide +kernel
theorem dX11_fromOther_13 : decode cX11_fromOther 13 = .ok (.iload_n 1, 1) := by decide +kernel
theorem dX11_fromOther_14 : decode cX11_fromOther 14 = .ok (.iload_n 2, 1) := by decide +kernel
theorem dX11_fromOther_15 : decode cX11_fromOther 15 = .ok (.imul, 1) := by decide +kernel
theorem dX11_fromOther_16 : decode cX11_fromOther 16 = .ok (.if_icmp .ge 21, 3) := by decide +kernel
theorem dX11_fromOther_19 : decode cX11_fromOther 19 = .ok (.aload_n 0, 1) := by decide +kernel
theorem dX11_fromOther_20 : decode cX11_fromOther 20 = .ok (.getfield 44, 3) := by decide +kernel
theorem dX11_fromOther_23 : decode cX11_fromOther 23 = .ok (.iload_n 3, 1) := by decide +kernel
theorem dX11_fromOther_24 : decode cX11_fromOther 24 = .ok (.aload_n 0, 1) := by decide +kernel
theorem dX11_fromOther_25 : decode cX11_fromOther 25 = .ok (.getfield 47, 3) := by decide +kernel
theorem dX11_fromOther_28 : decode cX11_fromOther 28 = .ok (.iload_n 3, 1) := by decide +kernel
theorem dX11_fromOther_29 : decode cX11_fromOther 29 = .ok (.iaload, 1) := by decide +kernel
theorem dX11_fromOther_30 : decode cX11_fromOther 30 = .ok (.iastore, 1) := by decide +kernel
theorem dX11_fromOther_31 : decode cX11_fromOther 31 = .ok (.iinc 3 1, 3) := by decide +kernel
theorem dX11_fromOther_34 : decode cX11_fromOther 34 = .ok (.goto (-22), 3) := by decide +kernel
theorem dX11_fromOther_37 : decode cX11_fromOther 37 = .ok (.return_, 1) := by decide +kernel
theorem dX11_applies_0 : decode cX11_applies 0 = .ok (.iload_n 1, 1) := by decide +kernel
theorem dX11_applies_1 : decode cX11_applies 1 = .ok (.bipush 60, 2) := by decide +kernel
theorem dX11_applies_3 : decode cX11_applies 3 = .ok (.if_icmp .ne 74, 3) := by decide +kernel
theorem dX11_applies_6 : decode cX11_applies 6 = .ok (.iconst 0, 1) := by decide +kernel
theorem dX11_applies_7 : decode cX11_applies 7 = .ok (.istore_n 2, 1) := by decide +kernel
theorem dX11_applies_8 : decode cX11_applies 8 = .ok (.iload_n 2, 1) := by decide +kernel
theorem dX11_applies_9 : decode cX11_applies 9 = .ok (.aload_n 0, 1) := by decide +kernel
theorem dX11_applies_10 : decode cX11_applies 10 = .ok (.getfield 90, 3) := by decide +kernel
theorem dX11_applies_13 : decode cX11_applies 13 = .ok (.aload_n 0, 1) := by decide +kernel
theorem dX11_applies_14 : decode cX11_applies 14 = .ok (.getfield 93, 3) := by decide +kernel
theorem dX11_applies_17 : decode cX11_applies 17 = .ok (.imul, 1) := by decide +kernel
theorem dX11_applies_18 : decode cX11_applies 18 = .ok (.if_icmp .ge 45, 3) := by decide +kernel
theorem dX11_applies_21 : decode cX11_applies 21 = .ok (.aload_n 0, 1) := by decide +kernel
theorem dX11_applies_22 : decode cX11_applies 22 = .ok (.getfield 47, 3) := by decide +kernel
theorem dX11_applies_25 : decode cX11_applies 25 = .ok (.iload_n 2, 1) := by decide +kernel
theorem dX11_applies_26 : decode cX11_applies 26 = .ok (.aload_n 0, 1) := by decide +kernel
theorem dX11_applies_27 : decode cX11_applies 27 = .ok (.getfield 44, 3) := by decide +kernel
theorem dX11_applies_30 : decode cX11_applies 30 = .ok (.iload_n 2, 1) := by decide +kernel
theorem dX11_applies_31 : decode cX11_applies 31 = .ok (.aload_n 0, 1) := by decide +kernel
theorem dX11_applies_32 : decode cX11_applies 32 = .ok (.getfield 90, 3) := by decide +kernel
theorem dX11_applies_35 : decode cX11_applies 35 = .ok (.idiv, 1) := by decide +kernel
theorem dX11_applies_36 : decode cX11_applies 36 = .ok (.aload_n 0, 1) := by decide +kernel
theorem dX11_applies_37 : decode cX11_applies 37 = .ok (.getfield 90, 3) := by decide +kernel
theorem dX11_applies_40 : decode cX11_applies 40 = .ok (.imul, 1) := by decide +kernel
theorem dX11_applies_41 : decode cX11_applies 41 = .ok (.aload_n 0, 1) := by decide +kernel
theorem dX11_applies_42 : decode cX11_applies 42 = .ok (.getfield 90, 3) := by decide +kernel
theorem dX11_applies_45 : decode cX11_applies 45 = .ok (.iadd, 1) := by decide +kernel
theorem dX11_applies_46 : decode cX11_applies 46 = .ok (.iconst 1, 1) := by decide +kernel
theorem dX11_applies_47 : decode cX11_applies 47 = .ok (.isub, 1) := by decide +kernel
theorem dX11_applies_48 : decode cX11_applies 48 = .ok (.iload_n 2, 1) := by decide +kernel
theorem dX11_applies_49 : decode cX11_applies 49 = .ok (.aload_n 0, 1) := by decide +kernel
theorem dX11_applies_50 : decode cX11_applies 50 = .ok (.getfield 90, 3) := by decide +kernel
theorem dX11_applies_53 : decode cX11_applies 53 = .ok (.irem, 1) := by decide +kernel
theorem dX11_applies_54 : decode cX11_applies 54 = .ok (.isub, 1) := by decide +kernel
theorem dX11_applies_55 : decode cX11_applies 55 = .ok (.iaload, 1) := by decide +kernel
theorem dX11_applies_56 : decode cX11_applies 56 = .ok (.iastore, 1) := by decide +kernel
theorem dX11_applies_57 : decode cX11_applies 57 = .ok (.iinc 2 1, 3) := by decide +kernel
theorem dX11_applies_60 : decode cX11_applies 60 = .ok (.goto (-52), 3) := by decide +kernel
theorem dX11_applies_63 : decode cX11_applies 63 = .ok (.aload_n 0, 1) := by decide +kernel
theorem dX11_applies_64 : decode cX11_applies 64 = .ok (.aload_n 0, 1) := by decide +kernel
theorem dX11_applies_65 : decode cX11_applies 65 = .ok (.getfield 90, 3) := by decide +kernel
theorem dX11_applies_68 : decode cX11_applies 68 = .ok (.aload_n 0, 1) := by decide +kernel
theorem dX11_applies_69 : decode cX11_applies 69 = .ok (.getfield 93, 3) := by decide +kernel
theorem dX11_applies_72 : decode cX11_applies 72 = .ok (.invokevirtual 96, 3) := by decide +kernel
theorem dX11_applies_75 : decode cX11_applies 75 = .ok (.iconst 1, 1) := by decide +kernel
theorem dX11_applies_76 : decode cX11_applies 76 = .ok (.ireturn, 1) := by decide +kernel
theorem dX11_applies_77 : decode cX11_applies 77 = .ok (.iload_n 1, 1) := by decide +kernel
theorem dX11_applies_78 : decode cX11_applies 78 = .ok (.bipush 94, 2) := by decide +kernel
theorem dX11_applies_80 : decode cX11_applies 80 = .ok (.if_icmp .ne 74, 3) := by decide +kernel
theorem dX11_applies_83 : decode cX11_applies 83 = .ok (.iconst 0, 1) := by decide +kernel
theorem dX11_applies_84 : decode cX11_applies 84 = .ok (.istore_n 2, 1) := by decide +kernel
theorem dX11_applies_85 : decode cX11_applies 85 = .ok (.iload_n 2, 1) := by decide +kernel
theorem dX11_applies_86 : decode cX11_applies 86 = .ok (.aload_n 0, 1) := by decide +kernel
theorem dX11_applies_87 : decode cX11_applies 87 = .ok (.getfield 90, 3) := by decide +kernel
theorem dX11_applies_90 : decode cX11_applies 90 = .ok (.aload_n 0, 1) := by decide +kernel
theorem dX11_applies_91 : decode cX11_applies 91 = .ok (.getfield 93, 3) := by decide +kernel
theorem dX11_applies_94 : decode cX11_applies 94 = .ok (.imul, 1) := by decide +kernel
theorem dX11_applies_95 : decode cX11_applies 95 = .ok (.if_icmp .ge 45, 3) := by decide +kernel
theorem dX11_applies_98 : decode cX11_applies 98 = .ok (.aload_n 0, 1) := by decide +kernel
theorem dX11_applies_99 : decode cX11_applies 99 = .ok (.getfield 47, 3) := by decide +kernel
theorem dX11_applies_102 : decode cX11_applies 102 = .ok (.iload_n 2, 1) := by decide +kernel
theorem dX11_applies_103 : decode cX11_applies 103 = .ok (.aload_n 0, 1) := by decide +kernel
theorem dX11_applies_104 : decode cX11_applies 104 = .ok (.getfield 44, 3) := by decide +kernel
theorem dX11_applies_107 : decode cX11_applies 107 = .ok (.aload_n 0, 1) := by decide +kernel
theorem dX11_applies_108 : decode cX11_applies 108 = .ok (.getfield 93, 3) := by decide +kernel
theorem dX11_applies_111 : decode cX11_applies 111 = .ok (.iconst 1, 1) := by decide +kernel
theorem dX11_applies_112 : decode cX11_applies 112 = .ok (.isub, 1) := by decide +kernel
theorem dX11_applies_113 : decode cX11_applies 113 = .ok (.iload_n 2, 1) := by decide +kernel
theorem dX11_applies_114 : decode cX11_applies 114 = .ok (.aload_n 0, 1) := by decide +kernel
theorem dX11_applies_115 : decode cX11_applies 115 = .ok (.getfield 93, 3) := by decide +kernel
theorem dX11_applies_118 : decode cX11_applies 118 = .ok (.irem, 1) := by decide +kernel
theorem dX11_applies_119 : decode cX11_applies 119 = .ok (.isub, 1) := by decide +kernel
theorem dX11_applies_120 : decode cX11_applies 120 = .ok (.aload_n 0, 1) := by decide +kernel
theorem dX11_applies_121 : decode cX11_applies 121 = .ok (.getfield 90, 3) := by decide +kernel
theorem dX11_applies_124 : decode cX11_applies 124 = .ok (.imul, 1) := by decide +kernel
theorem dX11_applies_125 : decode cX11_applies 125 = .ok (.iload_n 2, 1) := by decide +kernel
theorem dX11_applies_126 : decode cX11_applies 126 = .ok (.aload_n 0, 1) := by decide +kernel
theorem dX11_applies_127 : decode cX11_applies 127 = .ok (.getfield 93, 3) := by decide +kernel
theorem dX11_applies_130 : decode cX11_applies 130 = .ok (.idiv, 1) := by decide +kernel
theorem dX11_applies_131 : decode cX11_applies 131 = .ok (.iadd, 1) := by decide +kernel
theorem dX11_applies_132 : decode cX11_applies 132 = .ok (.iaload, 1) := by decide +kernel
theorem dX11_applies_133 : decode cX11_applies 133 = .ok (.iastore, 1) := by decide +kernel
theorem dX11_applies_134 : decode cX11_applies 134 = .ok (.iinc 2 1, 3) := by decide +kernel
theorem dX11_applies_137 : decode cX11_applies 137 = .ok (.goto (-52), 3) := by decide +kernel
theorem dX11_applies_140 : decode cX11_applies 140 = .ok (.aload_n 0, 1) := by decide +kernel
theorem dX11_applies_141 : decode cX11_applies 141 = .ok (.aload_n 0, 1) := by decide +kernel
theorem dX11_applies_142 : decode cX11_applies 142 = .ok (.getfield 93, 3) := by decide +kernel
theorem dX11_applies_145 : decode cX11_applies 145 = .ok (.aload_n 0, 1) := by decide +kernel
theorem dX11_applies_146 : decode cX11_applies 146 = .ok (.getfield 90, 3) := by decide +kernel
theorem dX11_applies_149 : decode cX11_applies 149 = .ok (.invokevirtual 96, 3) := by decide +kernel
theorem dX11_applies_152 : decode cX11_applies 152 = .ok (.iconst 1, 1) := by decide +kernel
theorem dX11_applies_153 : decode cX11_applies 153 = .ok (.ireturn, 1) := by decide +kernel
theorem dX11_applies_154 : decode cX11_applies 154 = .ok (.iload_n 1, 1) := by decide +kernel
theorem dX11_applies_155 : decode cX11_applies 155 = .ok (.bipush 48, 2) := by decide +kernel
theorem dX11_applies_157 : decode cX11_applies 157 = .ok (.isub, 1) := by decide +kernel
theorem dX11_applies_158 : decode cX11_applies 158 = .ok (.istore_n 2, 1) := by decide +kernel
theorem dX11_applies_159 : decode cX11_applies 159 = .ok (.iload_n 2, 1) := by decide +kernel
theorem dX11_applies_160 : decode cX11_applies 160 = .ok (.aload_n 0, 1) := by decide +kernel
theorem dX11_applies_161 : decode cX11_applies 161 = .ok (.getfield 90, 3) := by decide +kernel
theorem dX11_applies_164 : decode cX11_applies 164 = .ok (.imul, 1) := by decide +kernel
theorem dX11_applies_165 : decode cX11_applies 165 = .ok (.bipush 16, 2) := by decide +kernel
theorem dX11_applies_167 : decode cX11_applies 167 = .ok (.if_icmp .le 5, 3) := by decide +kernel
theorem dX11_applies_170 : decode cX11_applies 170 = .ok (.iconst 0, 1) := by decide +kernel
theorem dX11_applies_171 : decode cX11_applies 171 = .ok (.ireturn, 1) := by decide +kernel
theorem dX11_applies_172 : decode cX11_applies 172 = .ok (.iload_n 2, 1) := by decide +kernel
theorem dX11_applies_173 : decode cX11_applies 173 = .ok (.aload_n 0, 1) := by decide +kernel
theorem dX11_applies_174 : decode cX11_applies 174 = .ok (.getfield 90, 3) := by decide +kernel
theorem dX11_applies_177 : decode cX11_applies 177 = .ok (.imul, 1) := by decide +kernel
theorem dX11_applies_178 : decode cX11_applies 178 = .ok (.istore_n 3, 1) := by decide +kernel
theorem dX11_applies_179 : decode cX11_applies 179 = .ok (.iconst 0, 1) := by decide +kernel
theorem dX11_applies_180 : decode cX11_applies 180 = .ok (.istore 4, 2) := by decide +kernel
theorem dX11_applies_182 : decode cX11_applies 182 = .ok (.iload 4, 2) := by decide +kernel
theorem dX11_applies_184 : decode cX11_applies 184 = .ok (.iload_n 3, 1) := by decide +kernel
theorem dX11_applies_185 : decode cX11_applies 185 = .ok (.aload_n 0, 1) := by decide +kernel
theorem dX11_applies_186 : decode cX11_applies 186 = .ok (.getfield 93, 3) := by decide +kernel
theorem dX11_applies_189 : decode cX11_applies 189 = .ok (.imul, 1) := by decide +kernel
theorem dX11_applies_190 : decode cX11_applies 190 = .ok (.if_icmp .ge 40, 3) := by decide +kernel
theorem dX11_applies_193 : decode cX11_applies 193 = .ok (.aload_n 0, 1) := by decide +kernel
theorem dX11_applies_194 : decode cX11_applies 194 = .ok (.getfield 47, 3) := by decide +kernel
theorem dX11_applies_197 : decode cX11_applies 197 = .ok (.iload 4, 2) := by decide +kernel
theorem dX11_applies_199 : decode cX11_applies 199 = .ok (.aload_n 0, 1) := by decide +kernel
theorem dX11_applies_200 : decode cX11_applies 200 = .ok (.getfield 44, 3) := by decide +kernel
theorem dX11_applies_203 : decode cX11_applies 203 = .ok (.iload 4, 2) := by decide +kernel
theorem dX11_applies_205 : decode cX11_applies 205 = .ok (.iload_n 3, 1) := by decide +kernel
theorem dX11_applies_206 : decode cX11_applies 206 = .ok (.idiv, 1) := by decide +kernel
theorem dX11_applies_207 : decode cX11_applies 207 = .ok (.aload_n 0, 1) := by decide +kernel
theorem dX11_applies_208 : decode cX11_applies 208 = .ok (.getfield 90, 3) := by decide +kernel
theorem dX11_applies_211 : decode cX11_applies 211 = .ok (.imul, 1) := by decide +kernel
theorem dX11_applies_212 : decode cX11_applies 212 = .ok (.iload 4, 2) := by decide +kernel
theorem dX11_applies_214 : decode cX11_applies 214 = .ok (.iload_n 3, 1) := by decide +kernel
theorem dX11_applies_215 : decode cX11_applies 215 = .ok (.irem, 1) := by decide +kernel
theorem dX11_applies_216 : decode cX11_applies 216 = .ok (.aload_n 0, 1) := by decide +kernel
theorem dX11_applies_217 : decode cX11_applies 217 = .ok (.getfield 90, 3) := by decide +kernel
theorem dX11_applies_220 : decode cX11_applies 220 = .ok (.irem, 1) := by decide +kernel
theorem dX11_applies_221 : decode cX11_applies 221 = .ok (.iadd, 1) := by decide +kernel
theorem dX11_applies_222 : decode cX11_applies 222 = .ok (.iaload, 1) := by decide +kernel
theorem dX11_applies_223 : decode cX11_applies 223 = .ok (.iastore, 1) := by decide +kernel
theorem dX11_applies_224 : decode cX11_applies 224 = .ok (.iinc 4 1, 3) := by decide +kernel
theorem dX11_applies_227 : decode cX11_applies 227 = .ok (.goto (-45), 3) := by decide +kernel
theorem dX11_applies_230 : decode cX11_applies 230 = .ok (.aload_n 0, 1) := by decide +kernel
theorem dX11_applies_231 : decode cX11_applies 231 = .ok (.iload_n 3, 1) := by decide +kernel
theorem dX11_applies_232 : decode cX11_applies 232 = .ok (.aload_n 0, 1) := by decide +kernel
theorem dX11_applies_233 : decode cX11_applies 233 = .ok (.getfield 93, 3) := by decide +kernel
theorem dX11_applies_236 : decode cX11_applies 236 = .ok (.invokevirtual 96, 3) := by decide +kernel
theorem dX11_applies_239 : decode cX11_applies 239 = .ok (.iconst 1, 1) := by decide +kernel
theorem dX11_applies_240 : decode cX11_applies 240 = .ok (.ireturn, 1) := by decide +kernel
theorem dX11_joins_0 : decode cX11_joins 0 = .ok (.aload_n 0, 1) := by decide +kernel
theorem dX11_joins_1 : decode cX11_joins 1 = .ok (.getfield 87, 3) := by decide +kernel
theorem dX11_joins_4 : decode cX11_joins 4 = .ok (.iconst 1, 1) := by decide +kernel
theorem dX11_joins_5 : decode cX11_joins 5 = .ok (.isub, 1) := by decide +kernel
theorem dX11_joins_6 : decode cX11_joins 6 = .ok (.istore_n 1, 1) := by decide +kernel
theorem dX11_joins_7 : decode cX11_joins 7 = .ok (.aload_n 0, 1) := by decide +kernel
theorem dX11_joins_8 : decode cX11_joins 8 = .ok (.getfield 29, 3) := by decide +kernel
theorem dX11_joins_11 : decode cX11_joins 11 = .ok (.iload_n 1, 1) := by decide +kernel
theorem dX11_joins_12 : decode cX11_joins 12 = .ok (.iaload, 1) := by decide +kernel
theorem dX11_joins_13 : decode cX11_joins 13 = .ok (.bipush 40, 2) := by decide +kernel
theorem dX11_joins_15 : decode cX11_joins 15 = .ok (.if_icmp .ne 7, 3) := by decide +kernel
theorem dX11_joins_18 : decode cX11_joins 18 = .ok (.iconst 1, 1) := by decide +kernel
theorem dX11_joins_19 : decode cX11_joins 19 = .ok (.goto 4, 3) := by decide +kernel
theorem dX11_joins_22 : decode cX11_joins 22 = .ok (.iconst 0, 1) := by decide +kernel
theorem dX11_joins_23 : decode cX11_joins 23 = .ok (.istore_n 2, 1) := by decide +kernel
theorem dX11_joins_24 : decode cX11_joins 24 = .ok (.iload_n 2, 1) := by decide +kernel
theorem dX11_joins_25 : decode cX11_joins 25 = .ok (.ifCond .eq 17, 3) := by decide +kernel
theorem dX11_joins_28 : decode cX11_joins 28 = .ok (.aload_n 0, 1) := by decide +kernel
theorem dX11_joins_29 : decode cX11_joins 29 = .ok (.getfield 35, 3) := by decide +kernel
theorem dX11_joins_32 : decode cX11_joins 32 = .ok (.iload_n 1, 1) := by decide +kernel
theorem dX11_joins_33 : decode cX11_joins 33 = .ok (.iaload, 1) := by decide +kernel
theorem dX11_joins_34 : decode cX11_joins 34 = .ok (.aload_n 0, 1) := by decide +kernel
theorem dX11_joins_35 : decode cX11_joins 35 = .ok (.getfield 90, 3) := by decide +kernel
theorem dX11_joins_38 : decode cX11_joins 38 = .ok (.iadd, 1) := by decide +kernel
theorem dX11_joins_39 : decode cX11_joins 39 = .ok (.goto 7, 3) := by decide +kernel
theorem dX11_joins_42 : decode cX11_joins 42 = .ok (.aload_n 0, 1) := by decide +kernel
theorem dX11_joins_43 : decode cX11_joins 43 = .ok (.getfield 90, 3) := by decide +kernel
theorem dX11_joins_46 : decode cX11_joins 46 = .ok (.istore_n 3, 1) := by decide +kernel
theorem dX11_joins_47 : decode cX11_joins 47 = .ok (.iload_n 2, 1) := by decide +kernel
theorem dX11_joins_48 : decode cX11_joins 48 = .ok (.ifCond .eq 10, 3) := by decide +kernel
theorem dX11_joins_51 : decode cX11_joins 51 = .ok (.aload_n 0, 1) := by decide +kernel
theorem dX11_joins_52 : decode cX11_joins 52 = .ok (.getfield 93, 3) := by decide +kernel
theorem dX11_joins_55 : decode cX11_joins 55 = .ok (.goto 14, 3) := by decide +kernel
theorem dX11_joins_58 : decode cX11_joins 58 = .ok (.aload_n 0, 1) := by decide +kernel
theorem dX11_joins_59 : decode cX11_joins 59 = .ok (.getfield 38, 3) := by decide +kernel
theorem dX11_joins_62 : decode cX11_joins 62 = .ok (.iload_n 1, 1) := by decide +kernel
theorem dX11_joins_63 : decode cX11_joins 63 = .ok (.iaload, 1) := by decide +kernel
theorem dX11_joins_64 : decode cX11_joins 64 = .ok (.aload_n 0, 1) := by decide +kernel
theorem dX11_joins_65 : decode cX11_joins 65 = .ok (.getfield 93, 3) := by decide +kernel
theorem dX11_joins_68 : decode cX11_joins 68 = .ok (.iadd, 1) := by decide +kernel
theorem dX11_joins_69 : decode cX11_joins 69 = .ok (.istore 4, 2) := by decide +kernel
theorem dX11_joins_71 : decode cX11_joins 71 = .ok (.aload_n 0, 1) := by decide +kernel
theorem dX11_joins_72 : decode cX11_joins 72 = .ok (.getfield 35, 3) := by decide +kernel
theorem dX11_joins_75 : decode cX11_joins 75 = .ok (.iload_n 1, 1) := by decide +kernel
theorem dX11_joins_76 : decode cX11_joins 76 = .ok (.iaload, 1) := by decide +kernel
theorem dX11_joins_77 : decode cX11_joins 77 = .ok (.ifCond .le 40, 3) := by decide +kernel
theorem dX11_joins_80 : decode cX11_joins 80 = .ok (.iload_n 2, 1) := by decide +kernel
theorem dX11_joins_81 : decode cX11_joins 81 = .ok (.ifCond .eq 19, 3) := by decide +kernel
theorem dX11_joins_84 : decode cX11_joins 84 = .ok (.aload_n 0, 1) := by decide +kernel
theorem dX11_joins_85 : decode cX11_joins 85 = .ok (.getfield 93, 3) := by decide +kernel
theorem dX11_joins_88 : decode cX11_joins 88 = .ok (.aload_n 0, 1) := by decide +kernel
theorem dX11_joins_89 : decode cX11_joins 89 = .ok (.getfield 38, 3) := by decide +kernel
theorem dX11_joins_92 : decode cX11_joins 92 = .ok (.iload_n 1, 1) := by decide +kernel
theorem dX11_joins_93 : decode cX11_joins 93 = .ok (.iaload, 1) := by decide +kernel
theorem dX11_joins_94 : decode cX11_joins 94 = .ok (.if_icmp .eq 23, 3) := by decide +kernel
theorem dX11_joins_97 : decode cX11_joins 97 = .ok (.goto 16, 3) := by decide +kernel
theorem dX11_joins_100 : decode cX11_joins 100 = .ok (.aload_n 0, 1) := by decide +kernel
theorem dX11_joins_101 : decode cX11_joins 101 = .ok (.getfield 90, 3) := by decide +kernel
theorem dX11_joins_104 : decode cX11_joins 104 = .ok (.aload_n 0, 1) := by decide +kernel
theorem dX11_joins_105 : decode cX11_joins 105 = .ok (.getfield 35, 3) := by decide +kernel
theorem dX11_joins_108 : decode cX11_joins 108 = .ok (.iload_n 1, 1) := by decide +kernel
theorem dX11_joins_109 : decode cX11_joins 109 = .ok (.iaload, 1) := by decide +kernel
theorem dX11_joins_110 : decode cX11_joins 110 = .ok (.if_icmp .eq 7, 3) := by decide +kernel
theorem dX11_joins_113 : decode cX11_joins 113 = .ok (.iconst 1, 1) := by decide +kernel
theorem dX11_joins_114 : decode cX11_joins 114 = .ok (.goto 4, 3) := by decide +kernel
theorem dX11_joins_117 : decode cX11_joins 117 = .ok (.iconst 0, 1) := by decide +kernel
theorem dX11_joins_118 : decode cX11_joins 118 = .ok (.istore 5, 2) := by decide +kernel
theorem dX11_joins_120 : decode cX11_joins 120 = .ok (.iload 5, 2) := by decide +kernel
theorem dX11_joins_122 : decode cX11_joins 122 = .ok (.ifCond .ne 16, 3) := by decide +kernel
theorem dX11_joins_125 : decode cX11_joins 125 = .ok (.iload_n 3, 1) := by decide +kernel
theorem dX11_joins_126 : decode cX11_joins 126 = .ok (.bipush 16, 2) := by decide +kernel
theorem dX11_joins_128 : decode cX11_joins 128 = .ok (.if_icmp .gt 10, 3) := by decide +kernel
theorem dX11_joins_131 : decode cX11_joins 131 = .ok (.iload 4, 2) := by decide +kernel
theorem dX11_joins_133 : decode cX11_joins 133 = .ok (.bipush 16, 2) := by decide +kernel
theorem dX11_joins_135 : decode cX11_joins 135 = .ok (.if_icmp .le 5, 3) := by decide +kernel
theorem dX11_joins_138 : decode cX11_joins 138 = .ok (.iconst 0, 1) := by decide +kernel
theorem dX11_joins_139 : decode cX11_joins 139 = .ok (.ireturn, 1) := by decide +kernel
theorem dX11_joins_140 : decode cX11_joins 140 = .ok (.sipush 256, 3) := by decide +kernel
theorem dX11_joins_143 : decode cX11_joins 143 = .ok (.iload_n 1, 1) := by decide +kernel
theorem dX11_joins_144 : decode cX11_joins 144 = .ok (.imul, 1) := by decide +kernel
theorem dX11_joins_145 : decode cX11_joins 145 = .ok (.istore 6, 2) := by decide +kernel
theorem dX11_joins_147 : decode cX11_joins 147 = .ok (.iconst 0, 1) := by decide +kernel
theorem dX11_joins_148 : decode cX11_joins 148 = .ok (.istore 7, 2) := by decide +kernel
theorem dX11_joins_150 : decode cX11_joins 150 = .ok (.iload 7, 2) := by decide +kernel
theorem dX11_joins_152 : decode cX11_joins 152 = .ok (.iload_n 3, 1) := by decide +kernel
theorem dX11_joins_153 : decode cX11_joins 153 = .ok (.iload 4, 2) := by decide +kernel
theorem dX11_joins_155 : decode cX11_joins 155 = .ok (.imul, 1) := by decide +kernel
theorem dX11_joins_156 : decode cX11_joins 156 = .ok (.if_icmp .ge 148, 3) := by decide +kernel
theorem dX11_joins_159 : decode cX11_joins 159 = .ok (.iload 7, 2) := by decide +kernel
theorem dX11_joins_161 : decode cX11_joins 161 = .ok (.iload_n 3, 1) := by decide +kernel
theorem dX11_joins_162 : decode cX11_joins 162 = .ok (.irem, 1) := by decide +kernel
theorem dX11_joins_163 : decode cX11_joins 163 = .ok (.istore 8, 2) := by decide +kernel
theorem dX11_joins_165 : decode cX11_joins 165 = .ok (.iload 7, 2) := by decide +kernel
theorem dX11_joins_167 : decode cX11_joins 167 = .ok (.iload_n 3, 1) := by decide +kernel
theorem dX11_joins_168 : decode cX11_joins 168 = .ok (.idiv, 1) := by decide +kernel
theorem dX11_joins_169 : decode cX11_joins 169 = .ok (.istore 9, 2) := by decide +kernel
theorem dX11_joins_171 : decode cX11_joins 171 = .ok (.iload_n 2, 1) := by decide +kernel
theorem dX11_joins_172 : decode cX11_joins 172 = .ok (.ifCond .eq 22, 3) := by decide +kernel
theorem dX11_joins_175 : decode cX11_joins 175 = .ok (.iload 8, 2) := by decide +kernel
theorem dX11_joins_177 : decode cX11_joins 177 = .ok (.aload_n 0, 1) := by decide +kernel
theorem dX11_joins_178 : decode cX11_joins 178 = .ok (.getfield 35, 3) := by decide +kernel
theorem dX11_joins_181 : decode cX11_joins 181 = .ok (.iload_n 1, 1) := by decide +kernel
theorem dX11_joins_182 : decode cX11_joins 182 = .ok (.iaload, 1) := by decide +kernel
theorem dX11_joins_183 : decode cX11_joins 183 = .ok (.if_icmp .ge 7, 3) := by decide +kernel
theorem dX11_joins_186 : decode cX11_joins 186 = .ok (.iconst 1, 1) := by decide +kernel
theorem dX11_joins_187 : decode cX11_joins 187 = .ok (.goto 23, 3) := by decide +kernel
theorem dX11_joins_190 : decode cX11_joins 190 = .ok (.iconst 0, 1) := by decide +kernel
theorem dX11_joins_191 : decode cX11_joins 191 = .ok (.goto 19, 3) := by decide +kernel
theorem dX11_joins_194 : decode cX11_joins 194 = .ok (.iload 9, 2) := by decide +kernel
theorem dX11_joins_196 : decode cX11_joins 196 = .ok (.aload_n 0, 1) := by decide +kernel
theorem dX11_joins_197 : decode cX11_joins 197 = .ok (.getfield 38, 3) := by decide +kernel
theorem dX11_joins_200 : decode cX11_joins 200 = .ok (.iload_n 1, 1) := by decide +kernel
theorem dX11_joins_201 : decode cX11_joins 201 = .ok (.iaload, 1) := by decide +kernel
theorem dX11_joins_202 : decode cX11_joins 202 = .ok (.if_icmp .ge 7, 3) := by decide +kernel
theorem dX11_joins_205 : decode cX11_joins 205 = .ok (.iconst 1, 1) := by decide +kernel
theorem dX11_joins_206 : decode cX11_joins 206 = .ok (.goto 4, 3) := by decide +kernel
theorem dX11_joins_209 : decode cX11_joins 209 = .ok (.iconst 0, 1) := by decide +kernel
theorem dX11_joins_210 : decode cX11_joins 210 = .ok (.istore 10, 2) := by decide +kernel
theorem dX11_joins_212 : decode cX11_joins 212 = .ok (.aload_n 0, 1) := by decide +kernel
theorem dX11_joins_213 : decode cX11_joins 213 = .ok (.getfield 47, 3) := by decide +kernel
theorem dX11_joins_216 : decode cX11_joins 216 = .ok (.iload 7, 2) := by decide +kernel
theorem dX11_joins_218 : decode cX11_joins 218 = .ok (.iload 10, 2) := by decide +kernel
theorem dX11_joins_220 : decode cX11_joins 220 = .ok (.ifCond .eq 26, 3) := by decide +kernel
theorem dX11_joins_223 : decode cX11_joins 223 = .ok (.aload_n 0, 1) := by decide +kernel
theorem dX11_joins_224 : decode cX11_joins 224 = .ok (.getfield 41, 3) := by decide +kernel
theorem dX11_joins_227 : decode cX11_joins 227 = .ok (.iload 6, 2) := by decide +kernel
theorem dX11_joins_229 : decode cX11_joins 229 = .ok (.iload 9, 2) := by decide +kernel
theorem dX11_joins_231 : decode cX11_joins 231 = .ok (.aload_n 0, 1) := by decide +kernel
theorem dX11_joins_232 : decode cX11_joins 232 = .ok (.getfield 35, 3) := by decide +kernel
theorem dX11_joins_235 : decode cX11_joins 235 = .ok (.iload_n 1, 1) := by decide +kernel
theorem dX11_joins_236 : decode cX11_joins 236 = .ok (.iaload, 1) := by decide +kernel
theorem dX11_joins_237 : decode cX11_joins 237 = .ok (.imul, 1) := by decide +kernel
theorem dX11_joins_238 : decode cX11_joins 238 = .ok (.iadd, 1) := by decide +kernel
theorem dX11_joins_239 : decode cX11_joins 239 = .ok (.iload 8, 2) := by decide +kernel
theorem dX11_joins_241 : decode cX11_joins 241 = .ok (.iadd, 1) := by decide +kernel
theorem dX11_joins_242 : decode cX11_joins 242 = .ok (.iaload, 1) := by decide +kernel
theorem dX11_joins_243 : decode cX11_joins 243 = .ok (.goto 54, 3) := by decide +kernel
theorem dX11_joins_246 : decode cX11_joins 246 = .ok (.iload_n 2, 1) := by decide +kernel
theorem dX11_joins_247 : decode cX11_joins 247 = .ok (.ifCond .eq 28, 3) := by decide +kernel
theorem dX11_joins_250 : decode cX11_joins 250 = .ok (.aload_n 0, 1) := by decide +kernel
theorem dX11_joins_251 : decode cX11_joins 251 = .ok (.getfield 44, 3) := by decide +kernel
theorem dX11_joins_254 : decode cX11_joins 254 = .ok (.iload 9, 2) := by decide +kernel
theorem dX11_joins_256 : decode cX11_joins 256 = .ok (.aload_n 0, 1) := by decide +kernel
theorem dX11_joins_257 : decode cX11_joins 257 = .ok (.getfield 90, 3) := by decide +kernel
theorem dX11_joins_260 : decode cX11_joins 260 = .ok (.imul, 1) := by decide +kernel
theorem dX11_joins_261 : decode cX11_joins 261 = .ok (.iload 8, 2) := by decide +kernel
theorem dX11_joins_263 : decode cX11_joins 263 = .ok (.iadd, 1) := by decide +kernel
theorem dX11_joins_264 : decode cX11_joins 264 = .ok (.aload_n 0, 1) := by decide +kernel
theorem dX11_joins_265 : decode cX11_joins 265 = .ok (.getfield 35, 3) := by decide +kernel
theorem dX11_joins_268 : decode cX11_joins 268 = .ok (.iload_n 1, 1) := by decide +kernel
theorem dX11_joins_269 : decode cX11_joins 269 = .ok (.iaload, 1) := by decide +kernel
theorem dX11_joins_270 : decode cX11_joins 270 = .ok (.isub, 1) := by decide +kernel
theorem dX11_joins_271 : decode cX11_joins 271 = .ok (.iaload, 1) := by decide +kernel
theorem dX11_joins_272 : decode cX11_joins 272 = .ok (.goto 25, 3) := by decide +kernel
theorem dX11_joins_275 : decode cX11_joins 275 = .ok (.aload_n 0, 1) := by decide +kernel
theorem dX11_joins_276 : decode cX11_joins 276 = .ok (.getfield 44, 3) := by decide +kernel
theorem dX11_joins_279 : decode cX11_joins 279 = .ok (.iload 9, 2) := by decide +kernel
theorem dX11_joins_281 : decode cX11_joins 281 = .ok (.aload_n 0, 1) := by decide +kernel
theorem dX11_joins_282 : decode cX11_joins 282 = .ok (.getfield 38, 3) := by decide +kernel
theorem dX11_joins_285 : decode cX11_joins 285 = .ok (.iload_n 1, 1) := by decide +kernel
theorem dX11_joins_286 : decode cX11_joins 286 = .ok (.iaload, 1) := by decide +kernel
theorem dX11_joins_287 : decode cX11_joins 287 = .ok (.isub, 1) := by decide +kernel
theorem dX11_joins_288 : decode cX11_joins 288 = .ok (.aload_n 0, 1) := by decide +kernel
theorem dX11_joins_289 : decode cX11_joins 289 = .ok (.getfield 90, 3) := by decide +kernel
theorem dX11_joins_292 : decode cX11_joins 292 = .ok (.imul, 1) := by decide +kernel
theorem dX11_joins_293 : decode cX11_joins 293 = .ok (.iload 8, 2) := by decide +kernel
theorem dX11_joins_295 : decode cX11_joins 295 = .ok (.iadd, 1) := by decide +kernel
theorem dX11_joins_296 : decode cX11_joins 296 = .ok (.iaload, 1) := by decide +kernel
theorem dX11_joins_297 : decode cX11_joins 297 = .ok (.iastore, 1) := by decide +kernel
theorem dX11_joins_298 : decode cX11_joins 298 = .ok (.iinc 7 1, 3) := by decide +kernel
theorem dX11_joins_301 : decode cX11_joins 301 = .ok (.goto (-151), 3) := by decide +kernel
theorem dX11_joins_304 : decode cX11_joins 304 = .ok (.iconst 0, 1) := by decide +kernel
theorem dX11_joins_305 : decode cX11_joins 305 = .ok (.istore 7, 2) := by decide +kernel
theorem dX11_joins_307 : decode cX11_joins 307 = .ok (.iload 7, 2) := by decide +kernel
theorem dX11_joins_309 : decode cX11_joins 309 = .ok (.iload_n 3, 1) := by decide +kernel
theorem dX11_joins_310 : decode cX11_joins 310 = .ok (.iload 4, 2) := by decide +kernel
theorem dX11_joins_312 : decode cX11_joins 312 = .ok (.imul, 1) := by decide +kernel
theorem dX11_joins_313 : decode cX11_joins 313 = .ok (.if_icmp .ge 26, 3) := by decide +kernel
theorem dX11_joins_316 : decode cX11_joins 316 = .ok (.aload_n 0, 1) := by decide +kernel
theorem dX11_joins_317 : decode cX11_joins 317 = .ok (.getfield 41, 3) := by decide +kernel
theorem dX11_joins_320 : decode cX11_joins 320 = .ok (.iload 6, 2) := by decide +kernel
theorem dX11_joins_322 : decode cX11_joins 322 = .ok (.iload 7, 2) := by decide +kernel
theorem dX11_joins_324 : decode cX11_joins 324 = .ok (.iadd, 1) := by decide +kernel
theorem dX11_joins_325 : decode cX11_joins 325 = .ok (.aload_n 0, 1) := by decide +kernel
theorem dX11_joins_326 : decode cX11_joins 326 = .ok (.getfield 47, 3) := by decide +kernel
theorem dX11_joins_329 : decode cX11_joins 329 = .ok (.iload 7, 2) := by decide +kernel
theorem dX11_joins_331 : decode cX11_joins 331 = .ok (.iaload, 1) := by decide +kernel
theorem dX11_joins_332 : decode cX11_joins 332 = .ok (.iastore, 1) := by decide +kernel
theorem dX11_joins_333 : decode cX11_joins 333 = .ok (.iinc 7 1, 3) := by decide +kernel
theorem dX11_joins_336 : decode cX11_joins 336 = .ok (.goto (-29), 3) := by decide +kernel
theorem dX11_joins_339 : decode cX11_joins 339 = .ok (.aload_n 0, 1) := by decide +kernel
theorem dX11_joins_340 : decode cX11_joins 340 = .ok (.getfield 35, 3) := by decide +kernel
theorem dX11_joins_343 : decode cX11_joins 343 = .ok (.iload_n 1, 1) := by decide +kernel
theorem dX11_joins_344 : decode cX11_joins 344 = .ok (.iload_n 3, 1) := by decide +kernel
theorem dX11_joins_345 : decode cX11_joins 345 = .ok (.iastore, 1) := by decide +kernel
theorem dX11_joins_346 : decode cX11_joins 346 = .ok (.aload_n 0, 1) := by decide +kernel
theorem dX11_joins_347 : decode cX11_joins 347 = .ok (.getfield 38, 3) := by decide +kernel
theorem dX11_joins_350 : decode cX11_joins 350 = .ok (.iload_n 1, 1) := by decide +kernel
theorem dX11_joins_351 : decode cX11_joins 351 = .ok (.iload 4, 2) := by decide +kernel
theorem dX11_joins_353 : decode cX11_joins 353 = .ok (.iastore, 1) := by decide +kernel
theorem dX11_joins_354 : decode cX11_joins 354 = .ok (.iconst 1, 1) := by decide +kernel
theorem dX11_joins_355 : decode cX11_joins 355 = .ok (.ireturn, 1) := by decide +kernel
theorem dX11_ends_0 : decode cX11_ends 0 = .ok (.aload_n 0, 1) := by decide +kernel
theorem dX11_ends_1 : decode cX11_ends 1 = .ok (.getfield 87, 3) := by decide +kernel
theorem dX11_ends_4 : decode cX11_ends 4 = .ok (.ifCond .le 84, 3) := by decide +kernel
theorem dX11_ends_7 : decode cX11_ends 7 = .ok (.aload_n 0, 1) := by decide +kernel
theorem dX11_ends_8 : decode cX11_ends 8 = .ok (.getfield 29, 3) := by decide +kernel
theorem dX11_ends_11 : decode cX11_ends 11 = .ok (.aload_n 0, 1) := by decide +kernel
theorem dX11_ends_12 : decode cX11_ends 12 = .ok (.getfield 87, 3) := by decide +kernel
theorem dX11_ends_15 : decode cX11_ends 15 = .ok (.iconst 1, 1) := by decide +kernel
theorem dX11_ends_16 : decode cX11_ends 16 = .ok (.isub, 1) := by decide +kernel
theorem dX11_ends_17 : decode cX11_ends 17 = .ok (.iaload, 1) := by decide +kernel
theorem dX11_ends_18 : decode cX11_ends 18 = .ok (.invokestatic 100, 3) := by decide +kernel
theorem dX11_ends_21 : decode cX11_ends 21 = .ok (.ifCond .eq 67, 3) := by decide +kernel
theorem dX11_ends_24 : decode cX11_ends 24 = .ok (.aload_n 0, 1) := by decide +kernel
theorem dX11_ends_25 : decode cX11_ends 25 = .ok (.getfield 104, 3) := by decide +kernel
theorem dX11_ends_28 : decode cX11_ends 28 = .ok (.ifCond .ge 60, 3) := by decide +kernel
theorem dX11_ends_31 : decode cX11_ends 31 = .ok (.aload_n 0, 1) := by decide +kernel
theorem dX11_ends_32 : decode cX11_ends 32 = .ok (.aload_n 0, 1) := by decide +kernel
theorem dX11_ends_33 : decode cX11_ends 33 = .ok (.getfield 32, 3) := by decide +kernel
theorem dX11_ends_36 : decode cX11_ends 36 = .ok (.aload_n 0, 1) := by decide +kernel
theorem dX11_ends_37 : decode cX11_ends 37 = .ok (.getfield 87, 3) := by decide +kernel
theorem dX11_ends_40 : decode cX11_ends 40 = .ok (.iconst 1, 1) := by decide +kernel
theorem dX11_ends_41 : decode cX11_ends 41 = .ok (.isub, 1) := by decide +kernel
theorem dX11_ends_42 : decode cX11_ends 42 = .ok (.iaload, 1) := by decide +kernel
theorem dX11_ends_43 : decode cX11_ends 43 = .ok (.putfield 107, 3) := by decide +kernel
theorem dX11_ends_46 : decode cX11_ends 46 = .ok (.aload_n 0, 1) := by decide +kernel
theorem dX11_ends_47 : decode cX11_ends 47 = .ok (.aload_n 0, 1) := by decide +kernel
theorem dX11_ends_48 : decode cX11_ends 48 = .ok (.getfield 29, 3) := by decide +kernel
theorem dX11_ends_51 : decode cX11_ends 51 = .ok (.aload_n 0, 1) := by decide +kernel
theorem dX11_ends_52 : decode cX11_ends 52 = .ok (.getfield 87, 3) := by decide +kernel
theorem dX11_ends_55 : decode cX11_ends 55 = .ok (.iconst 1, 1) := by decide +kernel
theorem dX11_ends_56 : decode cX11_ends 56 = .ok (.isub, 1) := by decide +kernel
theorem dX11_ends_57 : decode cX11_ends 57 = .ok (.iaload, 1) := by decide +kernel
theorem dX11_ends_58 : decode cX11_ends 58 = .ok (.invokevirtual 110, 3) := by decide +kernel
theorem dX11_ends_61 : decode cX11_ends 61 = .ok (.ifCond .eq 16, 3) := by decide +kernel
theorem dX11_ends_64 : decode cX11_ends 64 = .ok (.aload_n 0, 1) := by decide +kernel
theorem dX11_ends_65 : decode cX11_ends 65 = .ok (.dup, 1) := by decide +kernel
theorem dX11_ends_66 : decode cX11_ends 66 = .ok (.getfield 87, 3) := by decide +kernel
theorem dX11_ends_69 : decode cX11_ends 69 = .ok (.iconst 1, 1) := by decide +kernel
theorem dX11_ends_70 : decode cX11_ends 70 = .ok (.isub, 1) := by decide +kernel
theorem dX11_ends_71 : decode cX11_ends 71 = .ok (.putfield 87, 3) := by decide +kernel
theorem dX11_ends_74 : decode cX11_ends 74 = .ok (.goto (-74), 3) := by decide +kernel
theorem dX11_ends_77 : decode cX11_ends 77 = .ok (.aload_n 0, 1) := by decide +kernel
theorem dX11_ends_78 : decode cX11_ends 78 = .ok (.aload_n 0, 1) := by decide +kernel
theorem dX11_ends_79 : decode cX11_ends 79 = .ok (.getfield 107, 3) := by decide +kernel
theorem dX11_ends_82 : decode cX11_ends 82 = .ok (.putfield 104, 3) := by decide +kernel
theorem dX11_ends_85 : decode cX11_ends 85 = .ok (.goto (-85), 3) := by decide +kernel
theorem dX11_ends_88 : decode cX11_ends 88 = .ok (.aload_n 0, 1) := by decide +kernel
theorem dX11_ends_89 : decode cX11_ends 89 = .ok (.getfield 104, 3) := by decide +kernel
theorem dX11_ends_92 : decode cX11_ends 92 = .ok (.ifCond .lt 4, 3) := by decide +kernel
theorem dX11_ends_95 : decode cX11_ends 95 = .ok (.return_, 1) := by decide +kernel
theorem dX11_ends_96 : decode cX11_ends 96 = .ok (.aload_n 0, 1) := by decide +kernel
theorem dX11_ends_97 : decode cX11_ends 97 = .ok (.aload_n 0, 1) := by decide +kernel
theorem dX11_ends_98 : decode cX11_ends 98 = .ok (.getfield 87, 3) := by decide +kernel
theorem dX11_ends_101 : decode cX11_ends 101 = .ok (.ifCond .ne 7, 3) := by decide +kernel
theorem dX11_ends_104 : decode cX11_ends 104 = .ok (.iconst 1, 1) := by decide +kernel
theorem dX11_ends_105 : decode cX11_ends 105 = .ok (.goto 4, 3) := by decide +kernel
theorem dX11_ends_108 : decode cX11_ends 108 = .ok (.iconst 0, 1) := by decide +kernel
theorem dX11_ends_109 : decode cX11_ends 109 = .ok (.putfield 113, 3) := by decide +kernel
theorem dX11_ends_112 : decode cX11_ends 112 = .ok (.aload_n 0, 1) := by decide +kernel
theorem dX11_ends_113 : decode cX11_ends 113 = .ok (.getfield 87, 3) := by decide +kernel
theorem dX11_ends_116 : decode cX11_ends 116 = .ok (.ifCond .le 18, 3) := by decide +kernel
theorem dX11_ends_119 : decode cX11_ends 119 = .ok (.aload_n 0, 1) := by decide +kernel
theorem dX11_ends_120 : decode cX11_ends 120 = .ok (.invokevirtual 117, 3) := by decide +kernel
theorem dX11_ends_123 : decode cX11_ends 123 = .ok (.ifCond .ne 11, 3) := by decide +kernel
theorem dX11_ends_126 : decode cX11_ends 126 = .ok (.aload_n 0, 1) := by decide +kernel
theorem dX11_ends_127 : decode cX11_ends 127 = .ok (.aload_n 0, 1) := by decide +kernel
theorem dX11_ends_128 : decode cX11_ends 128 = .ok (.getfield 107, 3) := by decide +kernel
theorem dX11_ends_131 : decode cX11_ends 131 = .ok (.putfield 104, 3) := by decide +kernel
theorem dX11_ends_134 : decode cX11_ends 134 = .ok (.return_, 1) := by decide +kernel
theorem dX11_closes_0 : decode cX11_closes 0 = .ok (.aload_n 0, 1) := by decide +kernel
theorem dX11_closes_1 : decode cX11_closes 1 = .ok (.getfield 87, 3) := by decide +kernel
theorem dX11_closes_4 : decode cX11_closes 4 = .ok (.ifCond .eq 17, 3) := by decide +kernel
theorem dX11_closes_7 : decode cX11_closes 7 = .ok (.aload_n 0, 1) := by decide +kernel
theorem dX11_closes_8 : decode cX11_closes 8 = .ok (.getfield 35, 3) := by decide +kernel
theorem dX11_closes_11 : decode cX11_closes 11 = .ok (.aload_n 0, 1) := by decide +kernel
theorem dX11_closes_12 : decode cX11_closes 12 = .ok (.getfield 87, 3) := by decide +kernel
