theorem dX8_missing_10 : decode cX8_missing 10 = .ok (.istore 5, 2) := by decide +kernel
theorem dX8_missing_12 : decode cX8_missing 12 = .ok (.iload 5, 2) := by decide +kernel
theorem dX8_missing_14 : decode cX8_missing 14 = .ok (.iconst 3, 1) := by decide +kernel
theorem dX8_missing_15 : decode cX8_missing 15 = .ok (.if_icmp .ge 52, 3) := by decide +kernel
theorem dX8_missing_18 : decode cX8_missing 18 = .ok (.aload_n 0, 1) := by decide +kernel
theorem dX8_missing_19 : decode cX8_missing 19 = .ok (.iload 5, 2) := by decide +kernel
theorem dX8_missing_21 : decode cX8_missing 21 = .ok (.invokevirtual 36, 3) := by decide +kernel
theorem dX8_missing_24 : decode cX8_missing 24 = .ok (.astore 6, 2) := by decide +kernel
theorem dX8_missing_26 : decode cX8_missing 26 = .ok (.iload_n 1, 1) := by decide +kernel
theorem dX8_missing_27 : decode cX8_missing 27 = .ok (.iload 5, 2) := by decide +kernel
theorem dX8_missing_29 : decode cX8_missing 29 = .ok (.ishr, 1) := by decide +kernel
theorem dX8_missing_30 : decode cX8_missing 30 = .ok (.iconst 1, 1) := by decide +kernel
theorem dX8_missing_31 : decode cX8_missing 31 = .ok (.iand, 1) := by decide +kernel
theorem dX8_missing_32 : decode cX8_missing 32 = .ok (.ifCond .eq 29, 3) := by decide +kernel
theorem dX8_missing_35 : decode cX8_missing 35 = .ok (.aload 6, 2) := by decide +kernel
theorem dX8_missing_37 : decode cX8_missing 37 = .ok (.ifnull 24, 3) := by decide +kernel
theorem dX8_missing_40 : decode cX8_missing 40 = .ok (.iload 4, 2) := by decide +kernel
theorem dX8_missing_42 : decode cX8_missing 42 = .ok (.aload 6, 2) := by decide +kernel
theorem dX8_missing_44 : decode cX8_missing 44 = .ok (.iload_n 2, 1) := by decide +kernel
theorem dX8_missing_45 : decode cX8_missing 45 = .ok (.aload 6, 2) := by decide +kernel
theorem dX8_missing_47 : decode cX8_missing 47 = .ok (.getfield 91, 3) := by decide +kernel
theorem dX8_missing_50 : decode cX8_missing 50 = .ok (.aload 6, 2) := by decide +kernel
theorem dX8_missing_52 : decode cX8_missing 52 = .ok (.invokevirtual 103, 3) := by decide +kernel
theorem dX8_missing_55 : decode cX8_missing 55 = .ok (.invokevirtual 92, 3) := by decide +kernel
theorem dX8_missing_58 : decode cX8_missing 58 = .ok (.iadd, 1) := by decide +kernel
theorem dX8_missing_59 : decode cX8_missing 59 = .ok (.istore 4, 2) := by decide +kernel
theorem dX8_missing_61 : decode cX8_missing 61 = .ok (.iinc 5 1, 3) := by decide +kernel
theorem dX8_missing_64 : decode cX8_missing 64 = .ok (.goto (-52), 3) := by decide +kernel
theorem dX8_missing_67 : decode cX8_missing 67 = .ok (.aload_n 3, 1) := by decide +kernel
theorem dX8_missing_68 : decode cX8_missing 68 = .ok (.ifnonnull 8, 3) := by decide +kernel
theorem dX8_missing_71 : decode cX8_missing 71 = .ok (.iload 4, 2) := by decide +kernel
theorem dX8_missing_73 : decode cX8_missing 73 = .ok (.goto 14, 3) := by decide +kernel
theorem dX8_missing_76 : decode cX8_missing 76 = .ok (.iconst 0, 1) := by decide +kernel
theorem dX8_missing_77 : decode cX8_missing 77 = .ok (.iload 4, 2) := by decide +kernel
theorem dX8_missing_79 : decode cX8_missing 79 = .ok (.aload_n 3, 1) := by decide +kernel
theorem dX8_missing_80 : decode cX8_missing 80 = .ok (.getfield 64, 3) := by decide +kernel
theorem dX8_missing_83 : decode cX8_missing 83 = .ok (.isub, 1) := by decide +kernel
theorem dX8_missing_84 : decode cX8_missing 84 = .ok (.invokestatic 137, 3) := by decide +kernel
theorem dX8_missing_87 : decode cX8_missing 87 = .ok (.ireturn, 1) := by decide +kernel
theorem dX8_canFinishAll_0 : decode cX8_canFinishAll 0 = .ok (.iconst 0, 1) := by decide +kernel
theorem dX8_canFinishAll_1 : decode cX8_canFinishAll 1 = .ok (.istore_n 2, 1) := by decide +kernel
theorem dX8_canFinishAll_2 : decode cX8_canFinishAll 2 = .ok (.iload_n 2, 1) := by decide +kernel
theorem dX8_canFinishAll_3 : decode cX8_canFinishAll 3 = .ok (.iconst 3, 1) := by decide +kernel
theorem dX8_canFinishAll_4 : decode cX8_canFinishAll 4 = .ok (.if_icmp .ge 36, 3) := by decide +kernel
theorem dX8_canFinishAll_7 : decode cX8_canFinishAll 7 = .ok (.aload_n 0, 1) := by decide +kernel
theorem dX8_canFinishAll_8 : decode cX8_canFinishAll 8 = .ok (.iload_n 2, 1) := by decide +kernel
theorem dX8_canFinishAll_9 : decode cX8_canFinishAll 9 = .ok (.invokevirtual 36, 3) := by decide +kernel
theorem dX8_canFinishAll_12 : decode cX8_canFinishAll 12 = .ok (.astore_n 3, 1) := by decide +kernel
theorem dX8_canFinishAll_13 : decode cX8_canFinishAll 13 = .ok (.iload_n 1, 1) := by decide +kernel
theorem dX8_canFinishAll_14 : decode cX8_canFinishAll 14 = .ok (.iload_n 2, 1) := by decide +kernel
theorem dX8_canFinishAll_15 : decode cX8_canFinishAll 15 = .ok (.ishr, 1) := by decide +kernel
theorem dX8_canFinishAll_16 : decode cX8_canFinishAll 16 = .ok (.iconst 1, 1) := by decide +kernel
theorem dX8_canFinishAll_17 : decode cX8_canFinishAll 17 = .ok (.iand, 1) := by decide +kernel
theorem dX8_canFinishAll_18 : decode cX8_canFinishAll 18 = .ok (.ifCond .eq 16, 3) := by decide +kernel
theorem dX8_canFinishAll_21 : decode cX8_canFinishAll 21 = .ok (.aload_n 3, 1) := by decide +kernel
theorem dX8_canFinishAll_22 : decode cX8_canFinishAll 22 = .ok (.ifnull 10, 3) := by decide +kernel
theorem dX8_canFinishAll_25 : decode cX8_canFinishAll 25 = .ok (.aload_n 3, 1) := by decide +kernel
theorem dX8_canFinishAll_26 : decode cX8_canFinishAll 26 = .ok (.invokevirtual 40, 3) := by decide +kernel
theorem dX8_canFinishAll_29 : decode cX8_canFinishAll 29 = .ok (.ifCond .eq 5, 3) := by decide +kernel
theorem dX8_canFinishAll_32 : decode cX8_canFinishAll 32 = .ok (.iconst 0, 1) := by decide +kernel
theorem dX8_canFinishAll_33 : decode cX8_canFinishAll 33 = .ok (.ireturn, 1) := by decide +kernel
theorem dX8_canFinishAll_34 : decode cX8_canFinishAll 34 = .ok (.iinc 2 1, 3) := by decide +kernel
theorem dX8_canFinishAll_37 : decode cX8_canFinishAll 37 = .ok (.goto (-35), 3) := by decide +kernel
theorem dX8_canFinishAll_40 : decode cX8_canFinishAll 40 = .ok (.iconst 0, 1) := by decide +kernel
theorem dX8_canFinishAll_41 : decode cX8_canFinishAll 41 = .ok (.istore_n 2, 1) := by decide +kernel
theorem dX8_canFinishAll_42 : decode cX8_canFinishAll 42 = .ok (.iload_n 2, 1) := by decide +kernel
theorem dX8_canFinishAll_43 : decode cX8_canFinishAll 43 = .ok (.bipush 6, 2) := by decide +kernel
theorem dX8_canFinishAll_45 : decode cX8_canFinishAll 45 = .ok (.if_icmp .ge 20, 3) := by decide +kernel
theorem dX8_canFinishAll_48 : decode cX8_canFinishAll 48 = .ok (.aload_n 0, 1) := by decide +kernel
theorem dX8_canFinishAll_49 : decode cX8_canFinishAll 49 = .ok (.iload_n 1, 1) := by decide +kernel
theorem dX8_canFinishAll_50 : decode cX8_canFinishAll 50 = .ok (.iload_n 2, 1) := by decide +kernel
theorem dX8_canFinishAll_51 : decode cX8_canFinishAll 51 = .ok (.invokevirtual 142, 3) := by decide +kernel
theorem dX8_canFinishAll_54 : decode cX8_canFinishAll 54 = .ok (.ifCond .le 5, 3) := by decide +kernel
theorem dX8_canFinishAll_57 : decode cX8_canFinishAll 57 = .ok (.iconst 0, 1) := by decide +kernel
theorem dX8_canFinishAll_58 : decode cX8_canFinishAll 58 = .ok (.ireturn, 1) := by decide +kernel
theorem dX8_canFinishAll_59 : decode cX8_canFinishAll 59 = .ok (.iinc 2 1, 3) := by decide +kernel
theorem dX8_canFinishAll_62 : decode cX8_canFinishAll 62 = .ok (.goto (-20), 3) := by decide +kernel
theorem dX8_canFinishAll_65 : decode cX8_canFinishAll 65 = .ok (.iconst 1, 1) := by decide +kernel
theorem dX8_canFinishAll_66 : decode cX8_canFinishAll 66 = .ok (.ireturn, 1) := by decide +kernel
theorem dX8_copyFrom_0 : decode cX8_copyFrom 0 = .ok (.aload_n 0, 1) := by decide +kernel
theorem dX8_copyFrom_1 : decode cX8_copyFrom 1 = .ok (.aload_n 1, 1) := by decide +kernel
theorem dX8_copyFrom_2 : decode cX8_copyFrom 2 = .ok (.getfield 32, 3) := by decide +kernel
theorem dX8_copyFrom_5 : decode cX8_copyFrom 5 = .ok (.putfield 32, 3) := by decide +kernel
theorem dX8_copyFrom_8 : decode cX8_copyFrom 8 = .ok (.aload_n 0, 1) := by decide +kernel
theorem dX8_copyFrom_9 : decode cX8_copyFrom 9 = .ok (.aload_n 1, 1) := by decide +kernel
theorem dX8_copyFrom_10 : decode cX8_copyFrom 10 = .ok (.getfield 71, 3) := by decide +kernel
theorem dX8_copyFrom_13 : decode cX8_copyFrom 13 = .ok (.putfield 71, 3) := by decide +kernel
theorem dX8_copyFrom_16 : decode cX8_copyFrom 16 = .ok (.aload_n 0, 1) := by decide +kernel
theorem dX8_copyFrom_17 : decode cX8_copyFrom 17 = .ok (.aload_n 1, 1) := by decide +kernel
theorem dX8_copyFrom_18 : decode cX8_copyFrom 18 = .ok (.getfield 113, 3) := by decide +kernel
theorem dX8_copyFrom_21 : decode cX8_copyFrom 21 = .ok (.putfield 113, 3) := by decide +kernel
theorem dX8_copyFrom_24 : decode cX8_copyFrom 24 = .ok (.aload_n 0, 1) := by decide +kernel
theorem dX8_copyFrom_25 : decode cX8_copyFrom 25 = .ok (.aload_n 1, 1) := by decide +kernel
theorem dX8_copyFrom_26 : decode cX8_copyFrom 26 = .ok (.getfield 116, 3) := by decide +kernel
theorem dX8_copyFrom_29 : decode cX8_copyFrom 29 = .ok (.putfield 116, 3) := by decide +kernel
theorem dX8_copyFrom_32 : decode cX8_copyFrom 32 = .ok (.aload_n 0, 1) := by decide +kernel
theorem dX8_copyFrom_33 : decode cX8_copyFrom 33 = .ok (.aload_n 1, 1) := by decide +kernel
theorem dX8_copyFrom_34 : decode cX8_copyFrom 34 = .ok (.getfield 119, 3) := by decide +kernel
theorem dX8_copyFrom_37 : decode cX8_copyFrom 37 = .ok (.putfield 119, 3) := by decide +kernel
theorem dX8_copyFrom_40 : decode cX8_copyFrom 40 = .ok (.aload_n 0, 1) := by decide +kernel
theorem dX8_copyFrom_41 : decode cX8_copyFrom 41 = .ok (.aload_n 1, 1) := by decide +kernel
theorem dX8_copyFrom_42 : decode cX8_copyFrom 42 = .ok (.invokevirtual 159, 3) := by decide +kernel
theorem dX8_copyFrom_45 : decode cX8_copyFrom 45 = .ok (.aload_n 0, 1) := by decide +kernel
theorem dX8_copyFrom_46 : decode cX8_copyFrom 46 = .ok (.aload_n 1, 1) := by decide +kernel
theorem dX8_copyFrom_47 : decode cX8_copyFrom 47 = .ok (.invokevirtual 163, 3) := by decide +kernel
theorem dX8_copyFrom_50 : decode cX8_copyFrom 50 = .ok (.aload_n 0, 1) := by decide +kernel
theorem dX8_copyFrom_51 : decode cX8_copyFrom 51 = .ok (.aload_n 1, 1) := by decide +kernel
theorem dX8_copyFrom_52 : decode cX8_copyFrom 52 = .ok (.invokevirtual 166, 3) := by decide +kernel
theorem dX8_copyFrom_55 : decode cX8_copyFrom 55 = .ok (.return_, 1) := by decide +kernel
theorem dX8_copyMembers_0 : decode cX8_copyMembers 0 = .ok (.iconst 0, 1) := by decide +kernel
theorem dX8_copyMembers_1 : decode cX8_copyMembers 1 = .ok (.istore_n 2, 1) := by decide +kernel
theorem dX8_copyMembers_2 : decode cX8_copyMembers 2 = .ok (.iload_n 2, 1) := by decide +kernel
theorem dX8_copyMembers_3 : decode cX8_copyMembers 3 = .ok (.aload_n 0, 1) := by decide +kernel
theorem dX8_copyMembers_4 : decode cX8_copyMembers 4 = .ok (.getfield 11, 3) := by decide +kernel
theorem dX8_copyMembers_7 : decode cX8_copyMembers 7 = .ok (.arraylength, 1) := by decide +kernel
theorem dX8_copyMembers_8 : decode cX8_copyMembers 8 = .ok (.if_icmp .ge 48, 3) := by decide +kernel
theorem dX8_copyMembers_11 : decode cX8_copyMembers 11 = .ok (.iload_n 2, 1) := by decide +kernel
theorem dX8_copyMembers_12 : decode cX8_copyMembers 12 = .ok (.aload_n 1, 1) := by decide +kernel
theorem dX8_copyMembers_13 : decode cX8_copyMembers 13 = .ok (.getfield 11, 3) := by decide +kernel
theorem dX8_copyMembers_16 : decode cX8_copyMembers 16 = .ok (.arraylength, 1) := by decide +kernel
theorem dX8_copyMembers_17 : decode cX8_copyMembers 17 = .ok (.if_icmp .ge 39, 3) := by decide +kernel
theorem dX8_copyMembers_20 : decode cX8_copyMembers 20 = .ok (.aload_n 0, 1) := by decide +kernel
theorem dX8_copyMembers_21 : decode cX8_copyMembers 21 = .ok (.getfield 11, 3) := by decide +kernel
theorem dX8_copyMembers_24 : decode cX8_copyMembers 24 = .ok (.iload_n 2, 1) := by decide +kernel
theorem dX8_copyMembers_25 : decode cX8_copyMembers 25 = .ok (.aaload, 1) := by decide +kernel
theorem dX8_copyMembers_26 : decode cX8_copyMembers 26 = .ok (.astore_n 3, 1) := by decide +kernel
theorem dX8_copyMembers_27 : decode cX8_copyMembers 27 = .ok (.aload_n 1, 1) := by decide +kernel
theorem dX8_copyMembers_28 : decode cX8_copyMembers 28 = .ok (.getfield 11, 3) := by decide +kernel
theorem dX8_copyMembers_31 : decode cX8_copyMembers 31 = .ok (.iload_n 2, 1) := by decide +kernel
theorem dX8_copyMembers_32 : decode cX8_copyMembers 32 = .ok (.aaload, 1) := by decide +kernel
theorem dX8_copyMembers_33 : decode cX8_copyMembers 33 = .ok (.astore 4, 2) := by decide +kernel
theorem dX8_copyMembers_35 : decode cX8_copyMembers 35 = .ok (.aload_n 3, 1) := by decide +kernel
theorem dX8_copyMembers_36 : decode cX8_copyMembers 36 = .ok (.ifnull 14, 3) := by decide +kernel
theorem dX8_copyMembers_39 : decode cX8_copyMembers 39 = .ok (.aload 4, 2) := by decide +kernel
theorem dX8_copyMembers_41 : decode cX8_copyMembers 41 = .ok (.ifnull 9, 3) := by decide +kernel
theorem dX8_copyMembers_44 : decode cX8_copyMembers 44 = .ok (.aload_n 3, 1) := by decide +kernel
theorem dX8_copyMembers_45 : decode cX8_copyMembers 45 = .ok (.aload 4, 2) := by decide +kernel
theorem dX8_copyMembers_47 : decode cX8_copyMembers 47 = .ok (.invokevirtual 169, 3) := by decide +kernel
theorem dX8_copyMembers_50 : decode cX8_copyMembers 50 = .ok (.iinc 2 1, 3) := by decide +kernel
theorem dX8_copyMembers_53 : decode cX8_copyMembers 53 = .ok (.goto (-51), 3) := by decide +kernel
theorem dX8_copyMembers_56 : decode cX8_copyMembers 56 = .ok (.return_, 1) := by decide +kernel
theorem dX8_copyCloths_0 : decode cX8_copyCloths 0 = .ok (.iconst 0, 1) := by decide +kernel
theorem dX8_copyCloths_1 : decode cX8_copyCloths 1 = .ok (.istore_n 2, 1) := by decide +kernel
theorem dX8_copyCloths_2 : decode cX8_copyCloths 2 = .ok (.iload_n 2, 1) := by decide +kernel
theorem dX8_copyCloths_3 : decode cX8_copyCloths 3 = .ok (.aload_n 0, 1) := by decide +kernel
theorem dX8_copyCloths_4 : decode cX8_copyCloths 4 = .ok (.getfield 19, 3) := by decide +kernel
theorem dX8_copyCloths_7 : decode cX8_copyCloths 7 = .ok (.arraylength, 1) := by decide +kernel
theorem dX8_copyCloths_8 : decode cX8_copyCloths 8 = .ok (.if_icmp .ge 48, 3) := by decide +kernel
theorem dX8_copyCloths_11 : decode cX8_copyCloths 11 = .ok (.iload_n 2, 1) := by decide +kernel
theorem dX8_copyCloths_12 : decode cX8_copyCloths 12 = .ok (.aload_n 1, 1) := by decide +kernel
theorem dX8_copyCloths_13 : decode cX8_copyCloths 13 = .ok (.getfield 19, 3) := by decide +kernel
theorem dX8_copyCloths_16 : decode cX8_copyCloths 16 = .ok (.arraylength, 1) := by decide +kernel
theorem dX8_copyCloths_17 : decode cX8_copyCloths 17 = .ok (.if_icmp .ge 39, 3) := by decide +kernel
theorem dX8_copyCloths_20 : decode cX8_copyCloths 20 = .ok (.aload_n 0, 1) := by decide +kernel
theorem dX8_copyCloths_21 : decode cX8_copyCloths 21 = .ok (.getfield 19, 3) := by decide +kernel
theorem dX8_copyCloths_24 : decode cX8_copyCloths 24 = .ok (.iload_n 2, 1) := by decide +kernel
theorem dX8_copyCloths_25 : decode cX8_copyCloths 25 = .ok (.aaload, 1) := by decide +kernel
theorem dX8_copyCloths_26 : decode cX8_copyCloths 26 = .ok (.astore_n 3, 1) := by decide +kernel
theorem dX8_copyCloths_27 : decode cX8_copyCloths 27 = .ok (.aload_n 1, 1) := by decide +kernel
theorem dX8_copyCloths_28 : decode cX8_copyCloths 28 = .ok (.getfield 19, 3) := by decide +kernel
theorem dX8_copyCloths_31 : decode cX8_copyCloths 31 = .ok (.iload_n 2, 1) := by decide +kernel
theorem dX8_copyCloths_32 : decode cX8_copyCloths 32 = .ok (.aaload, 1) := by decide +kernel
theorem dX8_copyCloths_33 : decode cX8_copyCloths 33 = .ok (.astore 4, 2) := by decide +kernel
theorem dX8_copyCloths_35 : decode cX8_copyCloths 35 = .ok (.aload_n 3, 1) := by decide +kernel
theorem dX8_copyCloths_36 : decode cX8_copyCloths 36 = .ok (.ifnull 14, 3) := by decide +kernel
theorem dX8_copyCloths_39 : decode cX8_copyCloths 39 = .ok (.aload 4, 2) := by decide +kernel
theorem dX8_copyCloths_41 : decode cX8_copyCloths 41 = .ok (.ifnull 9, 3) := by decide +kernel
theorem dX8_copyCloths_44 : decode cX8_copyCloths 44 = .ok (.aload_n 3, 1) := by decide +kernel
theorem dX8_copyCloths_45 : decode cX8_copyCloths 45 = .ok (.aload 4, 2) := by decide +kernel
theorem dX8_copyCloths_47 : decode cX8_copyCloths 47 = .ok (.invokevirtual 173, 3) := by decide +kernel
theorem dX8_copyCloths_50 : decode cX8_copyCloths 50 = .ok (.iinc 2 1, 3) := by decide +kernel
theorem dX8_copyCloths_53 : decode cX8_copyCloths 53 = .ok (.goto (-51), 3) := by decide +kernel
theorem dX8_copyCloths_56 : decode cX8_copyCloths 56 = .ok (.return_, 1) := by decide +kernel
theorem dX8_copyFrames_0 : decode cX8_copyFrames 0 = .ok (.iconst 0, 1) := by decide +kernel
theorem dX8_copyFrames_1 : decode cX8_copyFrames 1 = .ok (.istore_n 2, 1) := by decide +kernel
theorem dX8_copyFrames_2 : decode cX8_copyFrames 2 = .ok (.iload_n 2, 1) := by decide +kernel
theorem dX8_copyFrames_3 : decode cX8_copyFrames 3 = .ok (.aload_n 0, 1) := by decide +kernel
theorem dX8_copyFrames_4 : decode cX8_copyFrames 4 = .ok (.getfield 25, 3) := by decide +kernel
theorem dX8_copyFrames_7 : decode cX8_copyFrames 7 = .ok (.arraylength, 1) := by decide +kernel
theorem dX8_copyFrames_8 : decode cX8_copyFrames 8 = .ok (.if_icmp .ge 48, 3) := by decide +kernel
theorem dX8_copyFrames_11 : decode cX8_copyFrames 11 = .ok (.iload_n 2, 1) := by decide +kernel
theorem dX8_copyFrames_12 : decode cX8_copyFrames 12 = .ok (.aload_n 1, 1) := by decide +kernel
theorem dX8_copyFrames_13 : decode cX8_copyFrames 13 = .ok (.getfield 25, 3) := by decide +kernel
theorem dX8_copyFrames_16 : decode cX8_copyFrames 16 = .ok (.arraylength, 1) := by decide +kernel
theorem dX8_copyFrames_17 : decode cX8_copyFrames 17 = .ok (.if_icmp .ge 39, 3) := by decide +kernel
theorem dX8_copyFrames_20 : decode cX8_copyFrames 20 = .ok (.aload_n 0, 1) := by decide +kernel
theorem dX8_copyFrames_21 : decode cX8_copyFrames 21 = .ok (.getfield 25, 3) := by decide +kernel
theorem dX8_copyFrames_24 : decode cX8_copyFrames 24 = .ok (.iload_n 2, 1) := by decide +kernel
theorem dX8_copyFrames_25 : decode cX8_copyFrames 25 = .ok (.aaload, 1) := by decide +kernel
theorem dX8_copyFrames_26 : decode cX8_copyFrames 26 = .ok (.astore_n 3, 1) := by decide +kernel
theorem dX8_copyFrames_27 : decode cX8_copyFrames 27 = .ok (.aload_n 1, 1) := by decide +kernel
theorem dX8_copyFrames_28 : decode cX8_copyFrames 28 = .ok (.getfield 25, 3) := by decide +kernel
theorem dX8_copyFrames_31 : decode cX8_copyFrames 31 = .ok (.iload_n 2, 1) := by decide +kernel
theorem dX8_copyFrames_32 : decode cX8_copyFrames 32 = .ok (.aaload, 1) := by decide +kernel
theorem dX8_copyFrames_33 : decode cX8_copyFrames 33 = .ok (.astore 4, 2) := by decide +kernel
theorem dX8_copyFrames_35 : decode cX8_copyFrames 35 = .ok (.aload_n 3, 1) := by decide +kernel
theorem dX8_copyFrames_36 : decode cX8_copyFrames 36 = .ok (.ifnull 14, 3) := by decide +kernel
theorem dX8_copyFrames_39 : decode cX8_copyFrames 39 = .ok (.aload 4, 2) := by decide +kernel
theorem dX8_copyFrames_41 : decode cX8_copyFrames 41 = .ok (.ifnull 9, 3) := by decide +kernel
theorem dX8_copyFrames_44 : decode cX8_copyFrames 44 = .ok (.aload_n 3, 1) := by decide +kernel
theorem dX8_copyFrames_45 : decode cX8_copyFrames 45 = .ok (.aload 4, 2) := by decide +kernel
theorem dX8_copyFrames_47 : decode cX8_copyFrames 47 = .ok (.invokevirtual 176, 3) := by decide +kernel
theorem dX8_copyFrames_50 : decode cX8_copyFrames 50 = .ok (.iinc 2 1, 3) := by decide +kernel
theorem dX8_copyFrames_53 : decode cX8_copyFrames 53 = .ok (.goto (-51), 3) := by decide +kernel
theorem dX8_copyFrames_56 : decode cX8_copyFrames 56 = .ok (.return_, 1) := by decide +kernel
theorem dX8_storedAt_0 : decode cX8_storedAt 0 = .ok (.iload_n 1, 1) := by decide +kernel
theorem dX8_storedAt_1 : decode cX8_storedAt 1 = .ok (.ifCond .lt 15, 3) := by decide +kernel
theorem dX8_storedAt_4 : decode cX8_storedAt 4 = .ok (.iload_n 1, 1) := by decide +kernel
theorem dX8_storedAt_5 : decode cX8_storedAt 5 = .ok (.aload_n 0, 1) := by decide +kernel
theorem dX8_storedAt_6 : decode cX8_storedAt 6 = .ok (.arraylength, 1) := by decide +kernel
theorem dX8_storedAt_7 : decode cX8_storedAt 7 = .ok (.if_icmp .ge 9, 3) := by decide +kernel
theorem dX8_storedAt_10 : decode cX8_storedAt 10 = .ok (.aload_n 0, 1) := by decide +kernel
theorem dX8_storedAt_11 : decode cX8_storedAt 11 = .ok (.iload_n 1, 1) := by decide +kernel
theorem dX8_storedAt_12 : decode cX8_storedAt 12 = .ok (.aaload, 1) := by decide +kernel
theorem dX8_storedAt_13 : decode cX8_storedAt 13 = .ok (.goto 4, 3) := by decide +kernel
theorem dX8_storedAt_16 : decode cX8_storedAt 16 = .ok (.aconst_null, 1) := by decide +kernel
theorem dX8_storedAt_17 : decode cX8_storedAt 17 = .ok (.areturn, 1) := by decide +kernel
theorem dX8_storeAt_0 : decode cX8_storeAt 0 = .ok (.iload_n 1, 1) := by decide +kernel
theorem dX8_storeAt_1 : decode cX8_storeAt 1 = .ok (.ifCond .lt 9, 3) := by decide +kernel
theorem dX8_storeAt_4 : decode cX8_storeAt 4 = .ok (.iload_n 1, 1) := by decide +kernel
theorem dX8_storeAt_5 : decode cX8_storeAt 5 = .ok (.aload_n 0, 1) := by decide +kernel
theorem dX8_storeAt_6 : decode cX8_storeAt 6 = .ok (.arraylength, 1) := by decide +kernel
theorem dX8_storeAt_7 : decode cX8_storeAt 7 = .ok (.if_icmp .lt 4, 3) := by decide +kernel
theorem dX8_storeAt_10 : decode cX8_storeAt 10 = .ok (.return_, 1) := by decide +kernel
theorem dX8_storeAt_11 : decode cX8_storeAt 11 = .ok (.aload_n 0, 1) := by decide +kernel
theorem dX8_storeAt_12 : decode cX8_storeAt 12 = .ok (.iload_n 1, 1) := by decide +kernel
theorem dX8_storeAt_13 : decode cX8_storeAt 13 = .ok (.aaload, 1) := by decide +kernel
theorem dX8_storeAt_14 : decode cX8_storeAt 14 = .ok (.astore_n 3, 1) := by decide +kernel
theorem dX8_storeAt_15 : decode cX8_storeAt 15 = .ok (.aload_n 3, 1) := by decide +kernel
theorem dX8_storeAt_16 : decode cX8_storeAt 16 = .ok (.ifnonnull 15, 3) := by decide +kernel
theorem dX8_storeAt_19 : decode cX8_storeAt 19 = .ok (.new 12, 3) := by decide +kernel
theorem dX8_storeAt_22 : decode cX8_storeAt 22 = .ok (.dup, 1) := by decide +kernel
theorem dX8_storeAt_23 : decode cX8_storeAt 23 = .ok (.invokespecial 179, 3) := by decide +kernel
theorem dX8_storeAt_26 : decode cX8_storeAt 26 = .ok (.astore_n 3, 1) := by decide +kernel
theorem dX8_storeAt_27 : decode cX8_storeAt 27 = .ok (.aload_n 0, 1) := by decide +kernel
theorem dX8_storeAt_28 : decode cX8_storeAt 28 = .ok (.iload_n 1, 1) := by decide +kernel
theorem dX8_storeAt_29 : decode cX8_storeAt 29 = .ok (.aload_n 3, 1) := by decide +kernel
theorem dX8_storeAt_30 : decode cX8_storeAt 30 = .ok (.aastore, 1) := by decide +kernel
theorem dX8_storeAt_31 : decode cX8_storeAt 31 = .ok (.aload_n 3, 1) := by decide +kernel
theorem dX8_storeAt_32 : decode cX8_storeAt 32 = .ok (.aload_n 2, 1) := by decide +kernel
theorem dX8_storeAt_33 : decode cX8_storeAt 33 = .ok (.invokevirtual 180, 3) := by decide +kernel
theorem dX8_storeAt_36 : decode cX8_storeAt 36 = .ok (.return_, 1) := by decide +kernel
theorem dX9_init_0 : decode cX9_init 0 = .ok (.aload_n 0, 1) := by decide +kernel
theorem dX9_init_1 : decode cX9_init 1 = .ok (.invokespecial 3, 3) := by decide +kernel
theorem dX9_init_4 : decode cX9_init 4 = .ok (.aload_n 0, 1) := by decide +kernel
theorem dX9_init_5 : decode cX9_init 5 = .ok (.bipush 60, 2) := by decide +kernel
theorem dX9_init_7 : decode cX9_init 7 = .ok (.newarray .int, 2) := by decide +kernel
theorem dX9_init_9 : decode cX9_init 9 = .ok (.putfield 9, 3) := by decide +kernel
theorem dX9_init_12 : decode cX9_init 12 = .ok (.aload_n 0, 1) := by decide +kernel
theorem dX9_init_13 : decode cX9_init 13 = .ok (.bipush 60, 2) := by decide +kernel
theorem dX9_init_15 : decode cX9_init 15 = .ok (.newarray .int, 2) := by decide +kernel
theorem dX9_init_17 : decode cX9_init 17 = .ok (.putfield 15, 3) := by decide +kernel
theorem dX9_init_20 : decode cX9_init 20 = .ok (.aload_n 0, 1) := by decide +kernel
theorem dX9_init_21 : decode cX9_init 21 = .ok (.bipush 60, 2) := by decide +kernel
theorem dX9_init_23 : decode cX9_init 23 = .ok (.newarray .int, 2) := by decide +kernel
theorem dX9_init_25 : decode cX9_init 25 = .ok (.putfield 18, 3) := by decide +kernel
theorem dX9_init_28 : decode cX9_init 28 = .ok (.aload_n 0, 1) := by decide +kernel
theorem dX9_init_29 : decode cX9_init 29 = .ok (.bipush 60, 2) := by decide +kernel
theorem dX9_init_31 : decode cX9_init 31 = .ok (.newarray .int, 2) := by decide +kernel
theorem dX9_init_33 : decode cX9_init 33 = .ok (.putfield 21, 3) := by decide +kernel
theorem dX9_init_36 : decode cX9_init 36 = .ok (.aload_n 0, 1) := by decide +kernel
theorem dX9_init_37 : decode cX9_init 37 = .ok (.bipush 60, 2) := by decide +kernel
theorem dX9_init_39 : decode cX9_init 39 = .ok (.newarray .int, 2) := by decide +kernel
theorem dX9_init_41 : decode cX9_init 41 = .ok (.putfield 24, 3) := by decide +kernel
theorem dX9_init_44 : decode cX9_init 44 = .ok (.aload_n 0, 1) := by decide +kernel
theorem dX9_init_45 : decode cX9_init 45 = .ok (.bipush 60, 2) := by decide +kernel
theorem dX9_init_47 : decode cX9_init 47 = .ok (.newarray .int, 2) := by decide +kernel
theorem dX9_init_49 : decode cX9_init 49 = .ok (.putfield 27, 3) := by decide +kernel
theorem dX9_init_52 : decode cX9_init 52 = .ok (.aload_n 0, 1) := by decide +kernel
theorem dX9_init_53 : decode cX9_init 53 = .ok (.bipush 60, 2) := by decide +kernel
theorem dX9_init_55 : decode cX9_init 55 = .ok (.newarray .int, 2) := by decide +kernel
theorem dX9_init_57 : decode cX9_init 57 = .ok (.putfield 30, 3) := by decide +kernel
theorem dX9_init_60 : decode cX9_init 60 = .ok (.aload_n 0, 1) := by decide +kernel
theorem dX9_init_61 : decode cX9_init 61 = .ok (.bipush 60, 2) := by decide +kernel
theorem dX9_init_63 : decode cX9_init 63 = .ok (.newarray .int, 2) := by decide +kernel
theorem dX9_init_65 : decode cX9_init 65 = .ok (.putfield 33, 3) := by decide +kernel
theorem dX9_init_68 : decode cX9_init 68 = .ok (.aload_n 0, 1) := by decide +kernel
theorem dX9_init_69 : decode cX9_init 69 = .ok (.bipush (-9), 2) := by decide +kernel
theorem dX9_init_71 : decode cX9_init 71 = .ok (.putfield 36, 3) := by decide +kernel
theorem dX9_init_74 : decode cX9_init 74 = .ok (.return_, 1) := by decide +kernel
theorem dX9_isFull_0 : decode cX9_isFull 0 = .ok (.aload_n 0, 1) := by decide +kernel
theorem dX9_isFull_1 : decode cX9_isFull 1 = .ok (.getfield 40, 3) := by decide +kernel
theorem dX9_isFull_4 : decode cX9_isFull 4 = .ok (.bipush 60, 2) := by decide +kernel
theorem dX9_isFull_6 : decode cX9_isFull 6 = .ok (.if_icmp .lt 7, 3) := by decide +kernel
theorem dX9_isFull_9 : decode cX9_isFull 9 = .ok (.iconst 1, 1) := by decide +kernel
theorem dX9_isFull_10 : decode cX9_isFull 10 = .ok (.goto 4, 3) := by decide +kernel
theorem dX9_isFull_13 : decode cX9_isFull 13 = .ok (.iconst 0, 1) := by decide +kernel
theorem dX9_isFull_14 : decode cX9_isFull 14 = .ok (.ireturn, 1) := by decide +kernel
theorem dX9_add_0 : decode cX9_add 0 = .ok (.aload_n 0, 1) := by decide +kernel
theorem dX9_add_1 : decode cX9_add 1 = .ok (.getfield 9, 3) := by decide +kernel
theorem dX9_add_4 : decode cX9_add 4 = .ok (.aload_n 0, 1) := by decide +kernel
theorem dX9_add_5 : decode cX9_add 5 = .ok (.getfield 40, 3) := by decide +kernel
theorem dX9_add_8 : decode cX9_add 8 = .ok (.iload_n 1, 1) := by decide +kernel
theorem dX9_add_9 : decode cX9_add 9 = .ok (.invokestatic 43, 3) := by decide +kernel
theorem dX9_add_12 : decode cX9_add 12 = .ok (.aload_n 0, 1) := by decide +kernel
theorem dX9_add_13 : decode cX9_add 13 = .ok (.dup, 1) := by decide +kernel
theorem dX9_add_14 : decode cX9_add 14 = .ok (.getfield 40, 3) := by decide +kernel
theorem dX9_add_17 : decode cX9_add 17 = .ok (.iconst 1, 1) := by decide +kernel
theorem dX9_add_18 : decode cX9_add 18 = .ok (.iadd, 1) := by decide +kernel
theorem dX9_add_19 : decode cX9_add 19 = .ok (.putfield 40, 3) := by decide +kernel
theorem dX9_add_22 : decode cX9_add 22 = .ok (.aload_n 0, 1) := by decide +kernel
theorem dX9_add_23 : decode cX9_add 23 = .ok (.getfield 40, 3) := by decide +kernel
theorem dX9_add_26 : decode cX9_add 26 = .ok (.ireturn, 1) := by decide +kernel
theorem dX9_empty_0 : decode cX9_empty 0 = .ok (.aload_n 0, 1) := by decide +kernel
theorem dX9_empty_1 : decode cX9_empty 1 = .ok (.getfield 40, 3) := by decide +kernel
theorem dX9_empty_4 : decode cX9_empty 4 = .ok (.istore_n 1, 1) := by decide +kernel
theorem dX9_empty_5 : decode cX9_empty 5 = .ok (.aload_n 0, 1) := by decide +kernel
theorem dX9_empty_6 : decode cX9_empty 6 = .ok (.iconst 0, 1) := by decide +kernel
theorem dX9_empty_7 : decode cX9_empty 7 = .ok (.putfield 40, 3) := by decide +kernel
theorem dX9_empty_10 : decode cX9_empty 10 = .ok (.iload_n 1, 1) := by decide +kernel
theorem dX9_empty_11 : decode cX9_empty 11 = .ok (.ireturn, 1) := by decide +kernel
theorem dX9_check_0 : decode cX9_check 0 = .ok (.aload_n 0, 1) := by decide +kernel
theorem dX9_check_1 : decode cX9_check 1 = .ok (.iconst 0, 1) := by decide +kernel
theorem dX9_check_2 : decode cX9_check 2 = .ok (.putfield 49, 3) := by decide +kernel
theorem dX9_check_5 : decode cX9_check 5 = .ok (.aload_n 0, 1) := by decide +kernel
theorem dX9_check_6 : decode cX9_check 6 = .ok (.bipush (-9), 2) := by decide +kernel
theorem dX9_check_8 : decode cX9_check 8 = .ok (.putfield 36, 3) := by decide +kernel
theorem dX9_check_11 : decode cX9_check 11 = .ok (.iconst 0, 1) := by decide +kernel
theorem dX9_check_12 : decode cX9_check 12 = .ok (.istore_n 1, 1) := by decide +kernel
theorem dX9_check_13 : decode cX9_check 13 = .ok (.iload_n 1, 1) := by decide +kernel
theorem dX9_check_14 : decode cX9_check 14 = .ok (.aload_n 0, 1) := by decide +kernel
theorem dX9_check_15 : decode cX9_check 15 = .ok (.getfield 40, 3) := by decide +kernel
theorem dX9_check_18 : decode cX9_check 18 = .ok (.if_icmp .ge 29, 3) := by decide +kernel
theorem dX9_check_21 : decode cX9_check 21 = .ok (.iload_n 1, 1) := by decide +kernel
theorem dX9_check_22 : decode cX9_check 22 = .ok (.bipush 60, 2) := by decide +kernel
theorem dX9_check_24 : decode cX9_check 24 = .ok (.if_icmp .ge 23, 3) := by decide +kernel
theorem dX9_check_27 : decode cX9_check 27 = .ok (.aload_n 0, 1) := by decide +kernel
theorem dX9_check_28 : decode cX9_check 28 = .ok (.iload_n 1, 1) := by decide +kernel
theorem dX9_check_29 : decode cX9_check 29 = .ok (.invokevirtual 52, 3) := by decide +kernel
theorem dX9_check_32 : decode cX9_check 32 = .ok (.istore_n 2, 1) := by decide +kernel
theorem dX9_check_33 : decode cX9_check 33 = .ok (.iload_n 2, 1) := by decide +kernel
theorem dX9_check_34 : decode cX9_check 34 = .ok (.bipush (-9), 2) := by decide +kernel
theorem dX9_check_36 : decode cX9_check 36 = .ok (.if_icmp .eq 5, 3) := by decide +kernel
theorem dX9_check_39 : decode cX9_check 39 = .ok (.iload_n 2, 1) := by decide +kernel
theorem dX9_check_40 : decode cX9_check 40 = .ok (.ireturn, 1) := by decide +kernel
theorem dX9_check_41 : decode cX9_check 41 = .ok (.iinc 1 1, 3) := by decide +kernel
theorem dX9_check_44 : decode cX9_check 44 = .ok (.goto (-31), 3) := by decide +kernel
theorem dX9_check_47 : decode cX9_check 47 = .ok (.aload_n 0, 1) := by decide +kernel
theorem dX9_check_48 : decode cX9_check 48 = .ok (.getfield 36, 3) := by decide +kernel
theorem dX9_check_51 : decode cX9_check 51 = .ok (.bipush (-9), 2) := by decide +kernel
theorem dX9_check_53 : decode cX9_check 53 = .ok (.if_icmp .ne 10, 3) := by decide +kernel
theorem dX9_check_56 : decode cX9_check 56 = .ok (.aload_n 0, 1) := by decide +kernel
theorem dX9_check_57 : decode cX9_check 57 = .ok (.getfield 40, 3) := by decide +kernel
theorem dX9_check_60 : decode cX9_check 60 = .ok (.goto 5, 3) := by decide +kernel
theorem dX9_check_63 : decode cX9_check 63 = .ok (.bipush (-9), 2) := by decide +kernel
theorem dX9_check_65 : decode cX9_check 65 = .ok (.ireturn, 1) := by decide +kernel
theorem dX9_toPattern_0 : decode cX9_toPattern 0 = .ok (.aload_n 0, 1) := by decide +kernel
theorem dX9_toPattern_1 : decode cX9_toPattern 1 = .ok (.getfield 36, 3) := by decide +kernel
theorem dX9_toPattern_4 : decode cX9_toPattern 4 = .ok (.bipush (-9), 2) := by decide +kernel
theorem dX9_toPattern_6 : decode cX9_toPattern 6 = .ok (.if_icmp .ne 5, 3) := by decide +kernel
theorem dX9_toPattern_9 : decode cX9_toPattern 9 = .ok (.aconst_null, 1) := by decide +kernel
theorem dX9_toPattern_10 : decode cX9_toPattern 10 = .ok (.areturn, 1) := by decide +kernel
theorem dX9_toPattern_11 : decode cX9_toPattern 11 = .ok (.aload_n 0, 1) := by decide +kernel
theorem dX9_toPattern_12 : decode cX9_toPattern 12 = .ok (.getfield 15, 3) := by decide +kernel
theorem dX9_toPattern_15 : decode cX9_toPattern 15 = .ok (.aload_n 0, 1) := by decide +kernel
theorem dX9_toPattern_16 : decode cX9_toPattern 16 = .ok (.getfield 36, 3) := by decide +kernel
theorem dX9_toPattern_19 : decode cX9_toPattern 19 = .ok (.invokestatic 56, 3) := by decide +kernel
theorem dX9_toPattern_22 : decode cX9_toPattern 22 = .ok (.istore_n 1, 1) := by decide +kernel
theorem dX9_toPattern_23 : decode cX9_toPattern 23 = .ok (.aload_n 0, 1) := by decide +kernel
theorem dX9_toPattern_24 : decode cX9_toPattern 24 = .ok (.getfield 18, 3) := by decide +kernel
theorem dX9_toPattern_27 : decode cX9_toPattern 27 = .ok (.aload_n 0, 1) := by decide +kernel
theorem dX9_toPattern_28 : decode cX9_toPattern 28 = .ok (.getfield 36, 3) := by decide +kernel
theorem dX9_toPattern_31 : decode cX9_toPattern 31 = .ok (.invokestatic 56, 3) := by decide +kernel
theorem dX9_toPattern_34 : decode cX9_toPattern 34 = .ok (.istore_n 2, 1) := by decide +kernel
theorem dX9_toPattern_35 : decode cX9_toPattern 35 = .ok (.iload_n 1, 1) := by decide +kernel
theorem dX9_toPattern_36 : decode cX9_toPattern 36 = .ok (.iconst 1, 1) := by decide +kernel
theorem dX9_toPattern_37 : decode cX9_toPattern 37 = .ok (.if_icmp .lt 20, 3) := by decide +kernel
theorem dX9_toPattern_40 : decode cX9_toPattern 40 = .ok (.iload_n 1, 1) := by decide +kernel
theorem dX9_toPattern_41 : decode cX9_toPattern 41 = .ok (.bipush 16, 2) := by decide +kernel
theorem dX9_toPattern_43 : decode cX9_toPattern 43 = .ok (.if_icmp .gt 14, 3) := by decide +kernel
theorem dX9_toPattern_46 : decode cX9_toPattern 46 = .ok (.iload_n 2, 1) := by decide +kernel
theorem dX9_toPattern_47 : decode cX9_toPattern 47 = .ok (.iconst 1, 1) := by decide +kernel
theorem dX9_toPattern_48 : decode cX9_toPattern 48 = .ok (.if_icmp .lt 9, 3) := by decide +kernel
theorem dX9_toPattern_51 : decode cX9_toPattern 51 = .ok (.iload_n 2, 1) := by decide +kernel
theorem dX9_toPattern_52 : decode cX9_toPattern 52 = .ok (.bipush 16, 2) := by decide +kernel
theorem dX9_toPattern_54 : decode cX9_toPattern 54 = .ok (.if_icmp .le 5, 3) := by decide +kernel
theorem dX9_toPattern_57 : decode cX9_toPattern 57 = .ok (.aconst_null, 1) := by decide +kernel
theorem dX9_toPattern_58 : decode cX9_toPattern 58 = .ok (.areturn, 1) := by decide +kernel
theorem dX9_toPattern_59 : decode cX9_toPattern 59 = .ok (.iload_n 1, 1) := by decide +kernel
theorem dX9_toPattern_60 : decode cX9_toPattern 60 = .ok (.iload_n 2, 1) := by decide +kernel
theorem dX9_toPattern_61 : decode cX9_toPattern 61 = .ok (.imul, 1) := by decide +kernel
theorem dX9_toPattern_62 : decode cX9_toPattern 62 = .ok (.newarray .byte, 2) := by decide +kernel
theorem dX9_toPattern_64 : decode cX9_toPattern 64 = .ok (.astore_n 3, 1) := by decide +kernel
theorem dX9_toPattern_65 : decode cX9_toPattern 65 = .ok (.iconst 0, 1) := by decide +kernel
theorem dX9_toPattern_66 : decode cX9_toPattern 66 = .ok (.istore 4, 2) := by decide +kernel
theorem dX9_toPattern_68 : decode cX9_toPattern 68 = .ok (.iload 4, 2) := by decide +kernel
theorem dX9_toPattern_70 : decode cX9_toPattern 70 = .ok (.aload_n 3, 1) := by decide +kernel
theorem dX9_toPattern_71 : decode cX9_toPattern 71 = .ok (.arraylength, 1) := by decide +kernel
theorem dX9_toPattern_72 : decode cX9_toPattern 72 = .ok (.if_icmp .ge 26, 3) := by decide +kernel
theorem dX9_toPattern_75 : decode cX9_toPattern 75 = .ok (.aload_n 3, 1) := by decide +kernel
theorem dX9_toPattern_76 : decode cX9_toPattern 76 = .ok (.iload 4, 2) := by decide +kernel
theorem dX9_toPattern_78 : decode cX9_toPattern 78 = .ok (.aload_n 0, 1) := by decide +kernel
theorem dX9_toPattern_79 : decode cX9_toPattern 79 = .ok (.iload 4, 2) := by decide +kernel
theorem dX9_toPattern_81 : decode cX9_toPattern 81 = .ok (.iload_n 1, 1) := by decide +kernel
theorem dX9_toPattern_82 : decode cX9_toPattern 82 = .ok (.irem, 1) := by decide +kernel
theorem dX9_toPattern_83 : decode cX9_toPattern 83 = .ok (.iload 4, 2) := by decide +kernel
theorem dX9_toPattern_85 : decode cX9_toPattern 85 = .ok (.iload_n 1, 1) := by decide +kernel
theorem dX9_toPattern_86 : decode cX9_toPattern 86 = .ok (.idiv, 1) := by decide +kernel
theorem dX9_toPattern_87 : decode cX9_toPattern 87 = .ok (.invokevirtual 60, 3) := by decide +kernel
theorem dX9_toPattern_90 : decode cX9_toPattern 90 = .ok (.i2b, 1) := by decide +kernel
theorem dX9_toPattern_91 : decode cX9_toPattern 91 = .ok (.bastore, 1) := by decide +kernel
theorem dX9_toPattern_92 : decode cX9_toPattern 92 = .ok (.iinc 4 1, 3) := by decide +kernel
theorem dX9_toPattern_95 : decode cX9_toPattern 95 = .ok (.goto (-27), 3) := by decide +kernel
theorem dX9_toPattern_98 : decode cX9_toPattern 98 = .ok (.new 64, 3) := by decide +kernel
theorem dX9_toPattern_101 : decode cX9_toPattern 101 = .ok (.dup, 1) := by decide +kernel
theorem dX9_toPattern_102 : decode cX9_toPattern 102 = .ok (.iload_n 1, 1) := by decide +kernel
theorem dX9_toPattern_103 : decode cX9_toPattern 103 = .ok (.iload_n 2, 1) := by decide +kernel
theorem dX9_toPattern_104 : decode cX9_toPattern 104 = .ok (.aload_n 3, 1) := by decide +kernel
theorem dX9_toPattern_105 : decode cX9_toPattern 105 = .ok (.invokespecial 66, 3) := by decide +kernel
theorem dX9_toPattern_108 : decode cX9_toPattern 108 = .ok (.areturn, 1) := by decide +kernel
theorem dX9_read_0 : decode cX9_read 0 = .ok (.aload_n 0, 1) := by decide +kernel
theorem dX9_read_1 : decode cX9_read 1 = .ok (.getfield 9, 3) := by decide +kernel
theorem dX9_read_4 : decode cX9_read 4 = .ok (.iload_n 1, 1) := by decide +kernel
theorem dX9_read_5 : decode cX9_read 5 = .ok (.invokestatic 56, 3) := by decide +kernel
theorem dX9_read_8 : decode cX9_read 8 = .ok (.istore_n 2, 1) := by decide +kernel
theorem dX9_read_9 : decode cX9_read 9 = .ok (.aload_n 0, 1) := by decide +kernel
theorem dX9_read_10 : decode cX9_read 10 = .ok (.getfield 36, 3) := by decide +kernel
theorem dX9_read_13 : decode cX9_read 13 = .ok (.bipush (-9), 2) := by decide +kernel
theorem dX9_read_15 : decode cX9_read 15 = .ok (.if_icmp .eq 5, 3) := by decide +kernel
theorem dX9_read_18 : decode cX9_read 18 = .ok (.iload_n 1, 1) := by decide +kernel
theorem dX9_read_19 : decode cX9_read 19 = .ok (.ireturn, 1) := by decide +kernel
theorem dX9_read_20 : decode cX9_read 20 = .ok (.iload_n 2, 1) := by decide +kernel
theorem dX9_read_21 : decode cX9_read 21 = .ok (.invokestatic 69, 3) := by decide +kernel
theorem dX9_read_24 : decode cX9_read 24 = .ok (.ifCond .eq 9, 3) := by decide +kernel
theorem dX9_read_27 : decode cX9_read 27 = .ok (.aload_n 0, 1) := by decide +kernel
theorem dX9_read_28 : decode cX9_read 28 = .ok (.iload_n 1, 1) := by decide +kernel
theorem dX9_read_29 : decode cX9_read 29 = .ok (.invokevirtual 73, 3) := by decide +kernel
theorem dX9_read_32 : decode cX9_read 32 = .ok (.ireturn, 1) := by decide +kernel
theorem dX9_read_33 : decode cX9_read 33 = .ok (.iload_n 2, 1) := by decide +kernel
theorem dX9_read_34 : decode cX9_read 34 = .ok (.invokestatic 76, 3) := by decide +kernel
theorem dX9_read_37 : decode cX9_read 37 = .ok (.ifCond .ne 10, 3) := by decide +kernel
theorem dX9_read_40 : decode cX9_read 40 = .ok (.iload_n 2, 1) := by decide +kernel
theorem dX9_read_41 : decode cX9_read 41 = .ok (.invokestatic 79, 3) := by decide +kernel
theorem dX9_read_44 : decode cX9_read 44 = .ok (.ifCond .eq 9, 3) := by decide +kernel
theorem dX9_read_47 : decode cX9_read 47 = .ok (.aload_n 0, 1) := by decide +kernel
theorem dX9_read_48 : decode cX9_read 48 = .ok (.iload_n 1, 1) := by decide +kernel
theorem dX9_read_49 : decode cX9_read 49 = .ok (.invokevirtual 82, 3) := by decide +kernel
theorem dX9_read_52 : decode cX9_read 52 = .ok (.ireturn, 1) := by decide +kernel
theorem dX9_read_53 : decode cX9_read 53 = .ok (.iload_n 2, 1) := by decide +kernel
theorem dX9_read_54 : decode cX9_read 54 = .ok (.bipush 41, 2) := by decide +kernel
theorem dX9_read_56 : decode cX9_read 56 = .ok (.if_icmp .eq 9, 3) := by decide +kernel
theorem dX9_read_59 : decode cX9_read 59 = .ok (.iload_n 2, 1) := by decide +kernel
theorem dX9_read_60 : decode cX9_read 60 = .ok (.bipush 93, 2) := by decide +kernel
theorem dX9_read_62 : decode cX9_read 62 = .ok (.if_icmp .ne 24, 3) := by decide +kernel
theorem dX9_read_65 : decode cX9_read 65 = .ok (.aload_n 0, 1) := by decide +kernel
theorem dX9_read_66 : decode cX9_read 66 = .ok (.iload_n 1, 1) := by decide +kernel
theorem dX9_read_67 : decode cX9_read 67 = .ok (.iload_n 2, 1) := by decide +kernel
theorem dX9_read_68 : decode cX9_read 68 = .ok (.bipush 41, 2) := by decide +kernel
theorem dX9_read_70 : decode cX9_read 70 = .ok (.if_icmp .ne 8, 3) := by decide +kernel
theorem dX9_read_73 : decode cX9_read 73 = .ok (.bipush 40, 2) := by decide +kernel
theorem dX9_read_75 : decode cX9_read 75 = .ok (.goto 5, 3) := by decide +kernel
theorem dX9_read_78 : decode cX9_read 78 = .ok (.bipush 91, 2) := by decide +kernel
theorem dX9_read_80 : decode cX9_read 80 = .ok (.invokevirtual 85, 3) := by decide +kernel
theorem dX9_read_83 : decode cX9_read 83 = .ok (.goto 4, 3) := by decide +kernel
theorem dX9_read_86 : decode cX9_read 86 = .ok (.iload_n 1, 1) := by decide +kernel
theorem dX9_read_87 : decode cX9_read 87 = .ok (.ireturn, 1) := by decide +kernel
theorem dX9_readColour_0 : decode cX9_readColour 0 = .ok (.aload_n 0, 1) := by decide +kernel
theorem dX9_readColour_1 : decode cX9_readColour 1 = .ok (.iload_n 1, 1) := by decide +kernel
theorem dX9_readColour_2 : decode cX9_readColour 2 = .ok (.iconst 1, 1) := by decide +kernel
theorem dX9_readColour_3 : decode cX9_readColour 3 = .ok (.iconst 1, 1) := by decide +kernel
theorem dX9_readColour_4 : decode cX9_readColour 4 = .ok (.invokevirtual 88, 3) := by decide +kernel
theorem dX9_readColour_7 : decode cX9_readColour 7 = .ok (.aload_n 0, 1) := by decide +kernel
theorem dX9_readColour_8 : decode cX9_readColour 8 = .ok (.getfield 27, 3) := by decide +kernel
theorem dX9_readColour_11 : decode cX9_readColour 11 = .ok (.iload_n 1, 1) := by decide +kernel
theorem dX9_readColour_12 : decode cX9_readColour 12 = .ok (.bipush (-9), 2) := by decide +kernel
theorem dX9_readColour_14 : decode cX9_readColour 14 = .ok (.invokestatic 43, 3) := by decide +kernel
theorem dX9_readColour_17 : decode cX9_readColour 17 = .ok (.aload_n 0, 1) := by decide +kernel
theorem dX9_readColour_18 : decode cX9_readColour 18 = .ok (.iload_n 1, 1) := by decide +kernel
theorem dX9_readColour_19 : decode cX9_readColour 19 = .ok (.invokevirtual 92, 3) := by decide +kernel
theorem dX9_readColour_22 : decode cX9_readColour 22 = .ok (.ireturn, 1) := by decide +kernel
theorem dX9_openBlock_0 : decode cX9_openBlock 0 = .ok (.aload_n 0, 1) := by decide +kernel
theorem dX9_openBlock_1 : decode cX9_openBlock 1 = .ok (.iload_n 1, 1) := by decide +kernel
theorem dX9_openBlock_2 : decode cX9_openBlock 2 = .ok (.iconst 0, 1) := by decide +kernel
theorem dX9_openBlock_3 : decode cX9_openBlock 3 = .ok (.iconst 0, 1) := by decide +kernel
theorem dX9_openBlock_4 : decode cX9_openBlock 4 = .ok (.invokevirtual 88, 3) := by decide +kernel
theorem dX9_openBlock_7 : decode cX9_openBlock 7 = .ok (.aload_n 0, 1) := by decide +kernel
theorem dX9_openBlock_8 : decode cX9_openBlock 8 = .ok (.getfield 21, 3) := by decide +kernel
theorem dX9_openBlock_11 : decode cX9_openBlock 11 = .ok (.iload_n 1, 1) := by decide +kernel
theorem dX9_openBlock_12 : decode cX9_openBlock 12 = .ok (.bipush (-9), 2) := by decide +kernel
theorem dX9_openBlock_14 : decode cX9_openBlock 14 = .ok (.invokestatic 43, 3) := by decide +kernel
theorem dX9_openBlock_17 : decode cX9_openBlock 17 = .ok (.aload_n 0, 1) := by decide +kernel
theorem dX9_openBlock_18 : decode cX9_openBlock 18 = .ok (.getfield 24, 3) := by decide +kernel
theorem dX9_openBlock_21 : decode cX9_openBlock 21 = .ok (.iload_n 1, 1) := by decide +kernel
theorem dX9_openBlock_22 : decode cX9_openBlock 22 = .ok (.bipush (-9), 2) := by decide +kernel
theorem dX9_openBlock_24 : decode cX9_openBlock 24 = .ok (.invokestatic 43, 3) := by decide +kernel
theorem dX9_openBlock_27 : decode cX9_openBlock 27 = .ok (.aload_n 0, 1) := by decide +kernel
theorem dX9_openBlock_28 : decode cX9_openBlock 28 = .ok (.getfield 27, 3) := by decide +kernel
theorem dX9_openBlock_31 : decode cX9_openBlock 31 = .ok (.iload_n 1, 1) := by decide +kernel
theorem dX9_openBlock_32 : decode cX9_openBlock 32 = .ok (.bipush (-9), 2) := by decide +kernel
theorem dX9_openBlock_34 : decode cX9_openBlock 34 = .ok (.invokestatic 43, 3) := by decide +kernel
theorem dX9_openBlock_37 : decode cX9_openBlock 37 = .ok (.aload_n 0, 1) := by decide +kernel
theorem dX9_openBlock_38 : decode cX9_openBlock 38 = .ok (.getfield 33, 3) := by decide +kernel
theorem dX9_openBlock_41 : decode cX9_openBlock 41 = .ok (.aload_n 0, 1) := by decide +kernel
theorem dX9_openBlock_42 : decode cX9_openBlock 42 = .ok (.getfield 49, 3) := by decide +kernel
theorem dX9_openBlock_45 : decode cX9_openBlock 45 = .ok (.iload_n 1, 1) := by decide +kernel
theorem dX9_openBlock_46 : decode cX9_openBlock 46 = .ok (.invokestatic 43, 3) := by decide +kernel
theorem dX9_openBlock_49 : decode cX9_openBlock 49 = .ok (.aload_n 0, 1) := by decide +kernel
theorem dX9_openBlock_50 : decode cX9_openBlock 50 = .ok (.dup, 1) := by decide +kernel
theorem dX9_openBlock_51 : decode cX9_openBlock 51 = .ok (.getfield 49, 3) := by decide +kernel
theorem dX9_openBlock_54 : decode cX9_openBlock 54 = .ok (.iconst 1, 1) := by decide +kernel
theorem dX9_openBlock_55 : decode cX9_openBlock 55 = .ok (.iadd, 1) := by decide +kernel
theorem dX9_openBlock_56 : decode cX9_openBlock 56 = .ok (.putfield 49, 3) := by decide +kernel
theorem dX9_openBlock_59 : decode cX9_openBlock 59 = .ok (.bipush (-9), 2) := by decide +kernel
theorem dX9_openBlock_61 : decode cX9_openBlock 61 = .ok (.ireturn, 1) := by decide +kernel
theorem dX9_closeBlock_0 : decode cX9_closeBlock 0 = .ok (.aload_n 0, 1) := by decide +kernel
theorem dX9_closeBlock_1 : decode cX9_closeBlock 1 = .ok (.invokevirtual 95, 3) := by decide +kernel
theorem dX9_closeBlock_4 : decode cX9_closeBlock 4 = .ok (.istore_n 3, 1) := by decide +kernel
theorem dX9_closeBlock_5 : decode cX9_closeBlock 5 = .ok (.iload_n 3, 1) := by decide +kernel
theorem dX9_closeBlock_6 : decode cX9_closeBlock 6 = .ok (.bipush (-9), 2) := by decide +kernel
theorem dX9_closeBlock_8 : decode cX9_closeBlock 8 = .ok (.if_icmp .eq 28, 3) := by decide +kernel
theorem dX9_closeBlock_11 : decode cX9_closeBlock 11 = .ok (.aload_n 0, 1) := by decide +kernel
theorem dX9_closeBlock_12 : decode cX9_closeBlock 12 = .ok (.getfield 9, 3) := by decide +kernel
theorem dX9_closeBlock_15 : decode cX9_closeBlock 15 = .ok (.iload_n 3, 1) := by decide +kernel
theorem dX9_closeBlock_16 : decode cX9_closeBlock 16 = .ok (.invokestatic 56, 3) := by decide +kernel
theorem dX9_closeBlock_19 : decode cX9_closeBlock 19 = .ok (.iload_n 2, 1) := by decide +kernel
theorem dX9_closeBlock_20 : decode cX9_closeBlock 20 = .ok (.if_icmp .ne 16, 3) := by decide +kernel
theorem dX9_closeBlock_23 : decode cX9_closeBlock 23 = .ok (.aload_n 0, 1) := by decide +kernel
theorem dX9_closeBlock_24 : decode cX9_closeBlock 24 = .ok (.getfield 21, 3) := by decide +kernel
theorem dX9_closeBlock_27 : decode cX9_closeBlock 27 = .ok (.iload_n 3, 1) := by decide +kernel
theorem dX9_closeBlock_28 : decode cX9_closeBlock 28 = .ok (.invokestatic 56, 3) := by decide +kernel
theorem dX9_closeBlock_31 : decode cX9_closeBlock 31 = .ok (.bipush (-9), 2) := by decide +kernel
theorem dX9_closeBlock_33 : decode cX9_closeBlock 33 = .ok (.if_icmp .ne 5, 3) := by decide +kernel
theorem dX9_closeBlock_36 : decode cX9_closeBlock 36 = .ok (.iload_n 1, 1) := by decide +kernel
theorem dX9_closeBlock_37 : decode cX9_closeBlock 37 = .ok (.ireturn, 1) := by decide +kernel
theorem dX9_closeBlock_38 : decode cX9_closeBlock 38 = .ok (.aload_n 0, 1) := by decide +kernel
theorem dX9_closeBlock_39 : decode cX9_closeBlock 39 = .ok (.dup, 1) := by decide +kernel
theorem dX9_closeBlock_40 : decode cX9_closeBlock 40 = .ok (.getfield 49, 3) := by decide +kernel
theorem dX9_closeBlock_43 : decode cX9_closeBlock 43 = .ok (.iconst 1, 1) := by decide +kernel
theorem dX9_closeBlock_44 : decode cX9_closeBlock 44 = .ok (.isub, 1) := by decide +kernel
theorem dX9_closeBlock_45 : decode cX9_closeBlock 45 = .ok (.putfield 49, 3) := by decide +kernel
theorem dX9_closeBlock_48 : decode cX9_closeBlock 48 = .ok (.aload_n 0, 1) := by decide +kernel
theorem dX9_closeBlock_49 : decode cX9_closeBlock 49 = .ok (.iload_n 3, 1) := by decide +kernel
theorem dX9_closeBlock_50 : decode cX9_closeBlock 50 = .ok (.invokevirtual 92, 3) := by decide +kernel
theorem dX9_closeBlock_53 : decode cX9_closeBlock 53 = .ok (.ireturn, 1) := by decide +kernel
theorem dX9_endBlock_0 : decode cX9_endBlock 0 = .ok (.iload_n 1, 1) := by decide +kernel
theorem dX9_endBlock_1 : decode cX9_endBlock 1 = .ok (.istore_n 2, 1) := by decide +kernel
theorem dX9_endBlock_2 : decode cX9_endBlock 2 = .ok (.iconst 0, 1) := by decide +kernel
theorem dX9_endBlock_3 : decode cX9_endBlock 3 = .ok (.istore_n 3, 1) := by decide +kernel
theorem dX9_endBlock_4 : decode cX9_endBlock 4 = .ok (.iload_n 3, 1) := by decide +kernel
theorem dX9_endBlock_5 : decode cX9_endBlock 5 = .ok (.bipush 60, 2) := by decide +kernel
theorem dX9_endBlock_7 : decode cX9_endBlock 7 = .ok (.if_icmp .ge 79, 3) := by decide +kernel
theorem dX9_endBlock_10 : decode cX9_endBlock 10 = .ok (.aload_n 0, 1) := by decide +kernel
theorem dX9_endBlock_11 : decode cX9_endBlock 11 = .ok (.invokevirtual 95, 3) := by decide +kernel
theorem dX9_endBlock_14 : decode cX9_endBlock 14 = .ok (.istore 4, 2) := by decide +kernel
theorem dX9_endBlock_16 : decode cX9_endBlock 16 = .ok (.iload 4, 2) := by decide +kernel
theorem dX9_endBlock_18 : decode cX9_endBlock 18 = .ok (.bipush (-9), 2) := by decide +kernel
theorem dX9_endBlock_20 : decode cX9_endBlock 20 = .ok (.if_icmp .ne 11, 3) := by decide +kernel
theorem dX9_endBlock_23 : decode cX9_endBlock 23 = .ok (.aload_n 0, 1) := by decide +kernel
theorem dX9_endBlock_24 : decode cX9_endBlock 24 = .ok (.iload_n 2, 1) := by decide +kernel
theorem dX9_endBlock_25 : decode cX9_endBlock 25 = .ok (.putfield 36, 3) := by decide +kernel
theorem dX9_endBlock_28 : decode cX9_endBlock 28 = .ok (.bipush (-9), 2) := by decide +kernel
theorem dX9_endBlock_30 : decode cX9_endBlock 30 = .ok (.ireturn, 1) := by decide +kernel
theorem dX9_endBlock_31 : decode cX9_endBlock 31 = .ok (.aload_n 0, 1) := by decide +kernel
theorem dX9_endBlock_32 : decode cX9_endBlock 32 = .ok (.getfield 9, 3) := by decide +kernel
theorem dX9_endBlock_35 : decode cX9_endBlock 35 = .ok (.iload 4, 2) := by decide +kernel
theorem dX9_endBlock_37 : decode cX9_endBlock 37 = .ok (.invokestatic 56, 3) := by decide +kernel
theorem dX9_endBlock_40 : decode cX9_endBlock 40 = .ok (.invokestatic 76, 3) := by decide +kernel
theorem dX9_endBlock_43 : decode cX9_endBlock 43 = .ok (.ifCond .eq 11, 3) := by decide +kernel
theorem dX9_endBlock_46 : decode cX9_endBlock 46 = .ok (.aload_n 0, 1) := by decide +kernel
theorem dX9_endBlock_47 : decode cX9_endBlock 47 = .ok (.iload_n 2, 1) := by decide +kernel
theorem dX9_endBlock_48 : decode cX9_endBlock 48 = .ok (.iload 4, 2) := by decide +kernel
theorem dX9_endBlock_50 : decode cX9_endBlock 50 = .ok (.invokevirtual 99, 3) := by decide +kernel
theorem dX9_endBlock_53 : decode cX9_endBlock 53 = .ok (.ireturn, 1) := by decide +kernel
theorem dX9_endBlock_54 : decode cX9_endBlock 54 = .ok (.aload_n 0, 1) := by decide +kernel
theorem dX9_endBlock_55 : decode cX9_endBlock 55 = .ok (.iload 4, 2) := by decide +kernel
theorem dX9_endBlock_57 : decode cX9_endBlock 57 = .ok (.iload_n 2, 1) := by decide +kernel
theorem dX9_endBlock_58 : decode cX9_endBlock 58 = .ok (.invokevirtual 102, 3) := by decide +kernel
theorem dX9_endBlock_61 : decode cX9_endBlock 61 = .ok (.ifCond .ne 6, 3) := by decide +kernel
theorem dX9_endBlock_64 : decode cX9_endBlock 64 = .ok (.iload 4, 2) := by decide +kernel
theorem dX9_endBlock_66 : decode cX9_endBlock 66 = .ok (.ireturn, 1) := by decide +kernel
theorem dX9_endBlock_67 : decode cX9_endBlock 67 = .ok (.aload_n 0, 1) := by decide +kernel
theorem dX9_endBlock_68 : decode cX9_endBlock 68 = .ok (.dup, 1) := by decide +kernel
theorem dX9_endBlock_69 : decode cX9_endBlock 69 = .ok (.getfield 49, 3) := by decide +kernel
theorem dX9_endBlock_72 : decode cX9_endBlock 72 = .ok (.iconst 1, 1) := by decide +kernel
theorem dX9_endBlock_73 : decode cX9_endBlock 73 = .ok (.isub, 1) := by decide +kernel
theorem dX9_endBlock_74 : decode cX9_endBlock 74 = .ok (.putfield 49, 3) := by decide +kernel
theorem dX9_endBlock_77 : decode cX9_endBlock 77 = .ok (.iload 4, 2) := by decide +kernel
theorem dX9_endBlock_79 : decode cX9_endBlock 79 = .ok (.istore_n 2, 1) := by decide +kernel
theorem dX9_endBlock_80 : decode cX9_endBlock 80 = .ok (.iinc 3 1, 3) := by decide +kernel
theorem dX9_endBlock_83 : decode cX9_endBlock 83 = .ok (.goto (-79), 3) := by decide +kernel
theorem dX9_endBlock_86 : decode cX9_endBlock 86 = .ok (.bipush (-9), 2) := by decide +kernel
theorem dX9_endBlock_88 : decode cX9_endBlock 88 = .ok (.ireturn, 1) := by decide +kernel
theorem dX9_innermost_0 : decode cX9_innermost 0 = .ok (.aload_n 0, 1) := by decide +kernel
theorem dX9_innermost_1 : decode cX9_innermost 1 = .ok (.getfield 49, 3) := by decide +kernel
theorem dX9_innermost_4 : decode cX9_innermost 4 = .ok (.ifCond .le 19, 3) := by decide +kernel
theorem dX9_innermost_7 : decode cX9_innermost 7 = .ok (.aload_n 0, 1) := by decide +kernel
theorem dX9_innermost_8 : decode cX9_innermost 8 = .ok (.getfield 33, 3) := by decide +kernel
theorem dX9_innermost_11 : decode cX9_innermost 11 = .ok (.aload_n 0, 1) := by decide +kernel
theorem dX9_innermost_12 : decode cX9_innermost 12 = .ok (.getfield 49, 3) := by decide +kernel
theorem dX9_innermost_15 : decode cX9_innermost 15 = .ok (.iconst 1, 1) := by decide +kernel
theorem dX9_innermost_16 : decode cX9_innermost 16 = .ok (.isub, 1) := by decide +kernel
theorem dX9_innermost_17 : decode cX9_innermost 17 = .ok (.invokestatic 56, 3) := by decide +kernel
theorem dX9_innermost_20 : decode cX9_innermost 20 = .ok (.goto 5, 3) := by decide +kernel
theorem dX9_innermost_23 : decode cX9_innermost 23 = .ok (.bipush (-9), 2) := by decide +kernel
theorem dX9_innermost_25 : decode cX9_innermost 25 = .ok (.ireturn, 1) := by decide +kernel
theorem dX9_putInside_0 : decode cX9_putInside 0 = .ok (.aload_n 0, 1) := by decide +kernel
theorem dX9_putInside_1 : decode cX9_putInside 1 = .ok (.getfield 9, 3) := by decide +kernel
theorem dX9_putInside_4 : decode cX9_putInside 4 = .ok (.iload_n 2, 1) := by decide +kernel
theorem dX9_putInside_5 : decode cX9_putInside 5 = .ok (.invokestatic 56, 3) := by decide +kernel
theorem dX9_putInside_8 : decode cX9_putInside 8 = .ok (.bipush 40, 2) := by decide +kernel
theorem dX9_putInside_10 : decode cX9_putInside 10 = .ok (.if_icmp .ne 7, 3) := by decide +kernel
theorem dX9_putInside_13 : decode cX9_putInside 13 = .ok (.iconst 1, 1) := by decide +kernel
theorem dX9_putInside_14 : decode cX9_putInside 14 = .ok (.goto 4, 3) := by decide +kernel
theorem dX9_putInside_17 : decode cX9_putInside 17 = .ok (.iconst 0, 1) := by decide +kernel
theorem dX9_putInside_18 : decode cX9_putInside 18 = .ok (.istore_n 3, 1) := by decide +kernel
theorem dX9_putInside_19 : decode cX9_putInside 19 = .ok (.aload_n 0, 1) := by decide +kernel
theorem dX9_putInside_20 : decode cX9_putInside 20 = .ok (.getfield 21, 3) := by decide +kernel
theorem dX9_putInside_23 : decode cX9_putInside 23 = .ok (.iload_n 2, 1) := by decide +kernel
theorem dX9_putInside_24 : decode cX9_putInside 24 = .ok (.invokestatic 56, 3) := by decide +kernel
theorem dX9_putInside_27 : decode cX9_putInside 27 = .ok (.bipush (-9), 2) := by decide +kernel
theorem dX9_putInside_29 : decode cX9_putInside 29 = .ok (.if_icmp .ne 7, 3) := by decide +kernel
theorem dX9_putInside_32 : decode cX9_putInside 32 = .ok (.iconst 1, 1) := by decide +kernel
theorem dX9_putInside_33 : decode cX9_putInside 33 = .ok (.goto 4, 3) := by decide +kernel
theorem dX9_putInside_36 : decode cX9_putInside 36 = .ok (.iconst 0, 1) := by decide +kernel
theorem dX9_putInside_37 : decode cX9_putInside 37 = .ok (.istore 4, 2) := by decide +kernel
theorem dX9_putInside_39 : decode cX9_putInside 39 = .ok (.aload_n 0, 1) := by decide +kernel
theorem dX9_putInside_40 : decode cX9_putInside 40 = .ok (.getfield 15, 3) := by decide +kernel
theorem dX9_putInside_43 : decode cX9_putInside 43 = .ok (.iload_n 1, 1) := by decide +kernel
theorem dX9_putInside_44 : decode cX9_putInside 44 = .ok (.invokestatic 56, 3) := by decide +kernel
theorem dX9_putInside_47 : decode cX9_putInside 47 = .ok (.istore 5, 2) := by decide +kernel
theorem dX9_putInside_49 : decode cX9_putInside 49 = .ok (.aload_n 0, 1) := by decide +kernel
theorem dX9_putInside_50 : decode cX9_putInside 50 = .ok (.getfield 18, 3) := by decide +kernel
theorem dX9_putInside_53 : decode cX9_putInside 53 = .ok (.iload_n 1, 1) := by decide +kernel
theorem dX9_putInside_54 : decode cX9_putInside 54 = .ok (.invokestatic 56, 3) := by decide +kernel
theorem dX9_putInside_57 : decode cX9_putInside 57 = .ok (.istore 6, 2) := by decide +kernel
theorem dX9_putInside_59 : decode cX9_putInside 59 = .ok (.iload 4, 2) := by decide +kernel
theorem dX9_putInside_61 : decode cX9_putInside 61 = .ok (.ifCond .ne 38, 3) := by decide +kernel
theorem dX9_putInside_64 : decode cX9_putInside 64 = .ok (.iload_n 3, 1) := by decide +kernel
theorem dX9_putInside_65 : decode cX9_putInside 65 = .ok (.ifCond .eq 19, 3) := by decide +kernel
theorem dX9_putInside_68 : decode cX9_putInside 68 = .ok (.iload 6, 2) := by decide +kernel
theorem dX9_putInside_70 : decode cX9_putInside 70 = .ok (.aload_n 0, 1) := by decide +kernel
theorem dX9_putInside_71 : decode cX9_putInside 71 = .ok (.getfield 18, 3) := by decide +kernel
theorem dX9_putInside_74 : decode cX9_putInside 74 = .ok (.iload_n 2, 1) := by decide +kernel
theorem dX9_putInside_75 : decode cX9_putInside 75 = .ok (.invokestatic 56, 3) := by decide +kernel
theorem dX9_putInside_78 : decode cX9_putInside 78 = .ok (.if_icmp .eq 21, 3) := by decide +kernel
theorem dX9_putInside_81 : decode cX9_putInside 81 = .ok (.goto 16, 3) := by decide +kernel
theorem dX9_putInside_84 : decode cX9_putInside 84 = .ok (.iload 5, 2) := by decide +kernel
theorem dX9_putInside_86 : decode cX9_putInside 86 = .ok (.aload_n 0, 1) := by decide +kernel
theorem dX9_putInside_87 : decode cX9_putInside 87 = .ok (.getfield 15, 3) := by decide +kernel
theorem dX9_putInside_90 : decode cX9_putInside 90 = .ok (.iload_n 2, 1) := by decide +kernel
theorem dX9_putInside_91 : decode cX9_putInside 91 = .ok (.invokestatic 56, 3) := by decide +kernel
theorem dX9_putInside_94 : decode cX9_putInside 94 = .ok (.if_icmp .eq 5, 3) := by decide +kernel
theorem dX9_putInside_97 : decode cX9_putInside 97 = .ok (.iload_n 1, 1) := by decide +kernel
theorem dX9_putInside_98 : decode cX9_putInside 98 = .ok (.ireturn, 1) := by decide +kernel
theorem dX9_putInside_99 : decode cX9_putInside 99 = .ok (.iload_n 3, 1) := by decide +kernel
theorem dX9_putInside_100 : decode cX9_putInside 100 = .ok (.ifCond .eq 10, 3) := by decide +kernel
theorem dX9_putInside_103 : decode cX9_putInside 103 = .ok (.aload_n 0, 1) := by decide +kernel
theorem dX9_putInside_104 : decode cX9_putInside 104 = .ok (.getfield 15, 3) := by decide +kernel
theorem dX9_putInside_107 : decode cX9_putInside 107 = .ok (.goto 7, 3) := by decide +kernel
theorem dX9_putInside_110 : decode cX9_putInside 110 = .ok (.aload_n 0, 1) := by decide +kernel
theorem dX9_putInside_111 : decode cX9_putInside 111 = .ok (.getfield 18, 3) := by decide +kernel
theorem dX9_putInside_114 : decode cX9_putInside 114 = .ok (.iload_n 2, 1) := by decide +kernel
theorem dX9_putInside_115 : decode cX9_putInside 115 = .ok (.invokestatic 56, 3) := by decide +kernel
theorem dX9_putInside_118 : decode cX9_putInside 118 = .ok (.istore 7, 2) := by decide +kernel
theorem dX9_putInside_120 : decode cX9_putInside 120 = .ok (.iload_n 3, 1) := by decide +kernel
theorem dX9_putInside_121 : decode cX9_putInside 121 = .ok (.ifCond .eq 11, 3) := by decide +kernel
theorem dX9_putInside_124 : decode cX9_putInside 124 = .ok (.iload 7, 2) := by decide +kernel
theorem dX9_putInside_126 : decode cX9_putInside 126 = .ok (.iload 5, 2) := by decide +kernel
theorem dX9_putInside_128 : decode cX9_putInside 128 = .ok (.iadd, 1) := by decide +kernel
theorem dX9_putInside_129 : decode cX9_putInside 129 = .ok (.goto 5, 3) := by decide +kernel
theorem dX9_putInside_132 : decode cX9_putInside 132 = .ok (.iload 5, 2) := by decide +kernel
theorem dX9_putInside_134 : decode cX9_putInside 134 = .ok (.istore 8, 2) := by decide +kernel
theorem dX9_putInside_136 : decode cX9_putInside 136 = .ok (.iload_n 3, 1) := by decide +kernel
theorem dX9_putInside_137 : decode cX9_putInside 137 = .ok (.ifCond .eq 8, 3) := by decide +kernel
theorem dX9_putInside_140 : decode cX9_putInside 140 = .ok (.iload 6, 2) := by decide +kernel
theorem dX9_putInside_142 : decode cX9_putInside 142 = .ok (.goto 8, 3) := by decide +kernel
theorem dX9_putInside_145 : decode cX9_putInside 145 = .ok (.iload 7, 2) := by decide +kernel
theorem dX9_putInside_147 : decode cX9_putInside 147 = .ok (.iload 6, 2) := by decide +kernel
theorem dX9_putInside_149 : decode cX9_putInside 149 = .ok (.iadd, 1) := by decide +kernel
theorem dX9_putInside_150 : decode cX9_putInside 150 = .ok (.istore 9, 2) := by decide +kernel
theorem dX9_putInside_152 : decode cX9_putInside 152 = .ok (.iload 8, 2) := by decide +kernel
theorem dX9_putInside_154 : decode cX9_putInside 154 = .ok (.bipush 16, 2) := by decide +kernel
theorem dX9_putInside_156 : decode cX9_putInside 156 = .ok (.if_icmp .gt 10, 3) := by decide +kernel
theorem dX9_putInside_159 : decode cX9_putInside 159 = .ok (.iload 9, 2) := by decide +kernel
theorem dX9_putInside_161 : decode cX9_putInside 161 = .ok (.bipush 16, 2) := by decide +kernel
theorem dX9_putInside_163 : decode cX9_putInside 163 = .ok (.if_icmp .le 5, 3) := by decide +kernel
theorem dX9_putInside_166 : decode cX9_putInside 166 = .ok (.iload_n 1, 1) := by decide +kernel
theorem dX9_putInside_167 : decode cX9_putInside 167 = .ok (.ireturn, 1) := by decide +kernel
theorem dX9_putInside_168 : decode cX9_putInside 168 = .ok (.aload_n 0, 1) := by decide +kernel
theorem dX9_putInside_169 : decode cX9_putInside 169 = .ok (.iload_n 2, 1) := by decide +kernel
theorem dX9_putInside_170 : decode cX9_putInside 170 = .ok (.iload 8, 2) := by decide +kernel
theorem dX9_putInside_172 : decode cX9_putInside 172 = .ok (.iload 9, 2) := by decide +kernel
theorem dX9_putInside_174 : decode cX9_putInside 174 = .ok (.invokevirtual 88, 3) := by decide +kernel
theorem dX9_putInside_177 : decode cX9_putInside 177 = .ok (.aload_n 0, 1) := by decide +kernel
theorem dX9_putInside_178 : decode cX9_putInside 178 = .ok (.getfield 30, 3) := by decide +kernel
theorem dX9_putInside_181 : decode cX9_putInside 181 = .ok (.iload_n 1, 1) := by decide +kernel
theorem dX9_putInside_182 : decode cX9_putInside 182 = .ok (.iload 7, 2) := by decide +kernel
theorem dX9_putInside_184 : decode cX9_putInside 184 = .ok (.invokestatic 43, 3) := by decide +kernel
theorem dX9_putInside_187 : decode cX9_putInside 187 = .ok (.iload 4, 2) := by decide +kernel
theorem dX9_putInside_189 : decode cX9_putInside 189 = .ok (.ifCond .eq 15, 3) := by decide +kernel
theorem dX9_putInside_192 : decode cX9_putInside 192 = .ok (.aload_n 0, 1) := by decide +kernel
theorem dX9_putInside_193 : decode cX9_putInside 193 = .ok (.getfield 21, 3) := by decide +kernel
theorem dX9_putInside_196 : decode cX9_putInside 196 = .ok (.iload_n 2, 1) := by decide +kernel
theorem dX9_putInside_197 : decode cX9_putInside 197 = .ok (.iload_n 1, 1) := by decide +kernel
theorem dX9_putInside_198 : decode cX9_putInside 198 = .ok (.invokestatic 43, 3) := by decide +kernel
theorem dX9_putInside_201 : decode cX9_putInside 201 = .ok (.goto 19, 3) := by decide +kernel
theorem dX9_putInside_204 : decode cX9_putInside 204 = .ok (.aload_n 0, 1) := by decide +kernel
theorem dX9_putInside_205 : decode cX9_putInside 205 = .ok (.getfield 27, 3) := by decide +kernel
theorem dX9_putInside_208 : decode cX9_putInside 208 = .ok (.aload_n 0, 1) := by decide +kernel
theorem dX9_putInside_209 : decode cX9_putInside 209 = .ok (.getfield 24, 3) := by decide +kernel
theorem dX9_putInside_212 : decode cX9_putInside 212 = .ok (.iload_n 2, 1) := by decide +kernel
theorem dX9_putInside_213 : decode cX9_putInside 213 = .ok (.invokestatic 56, 3) := by decide +kernel
theorem dX9_putInside_216 : decode cX9_putInside 216 = .ok (.iload_n 1, 1) := by decide +kernel
theorem dX9_putInside_217 : decode cX9_putInside 217 = .ok (.invokestatic 43, 3) := by decide +kernel
theorem dX9_putInside_220 : decode cX9_putInside 220 = .ok (.aload_n 0, 1) := by decide +kernel
theorem dX9_putInside_221 : decode cX9_putInside 221 = .ok (.getfield 24, 3) := by decide +kernel
theorem dX9_putInside_224 : decode cX9_putInside 224 = .ok (.iload_n 2, 1) := by decide +kernel
theorem dX9_putInside_225 : decode cX9_putInside 225 = .ok (.iload_n 1, 1) := by decide +kernel
theorem dX9_putInside_226 : decode cX9_putInside 226 = .ok (.invokestatic 43, 3) := by decide +kernel
theorem dX9_putInside_229 : decode cX9_putInside 229 = .ok (.bipush (-9), 2) := by decide +kernel
theorem dX9_putInside_231 : decode cX9_putInside 231 = .ok (.ireturn, 1) := by decide +kernel
theorem dX9_applyPrefix_0 : decode cX9_applyPrefix 0 = .ok (.aload_n 0, 1) := by decide +kernel
theorem dX9_applyPrefix_1 : decode cX9_applyPrefix 1 = .ok (.getfield 9, 3) := by decide +kernel
theorem dX9_applyPrefix_4 : decode cX9_applyPrefix 4 = .ok (.iload_n 1, 1) := by decide +kernel
theorem dX9_applyPrefix_5 : decode cX9_applyPrefix 5 = .ok (.invokestatic 56, 3) := by decide +kernel
theorem dX9_applyPrefix_8 : decode cX9_applyPrefix 8 = .ok (.istore_n 3, 1) := by decide +kernel
theorem dX9_applyPrefix_9 : decode cX9_applyPrefix 9 = .ok (.aload_n 0, 1) := by decide +kernel
theorem dX9_applyPrefix_10 : decode cX9_applyPrefix 10 = .ok (.getfield 15, 3) := by decide +kernel
theorem dX9_applyPrefix_13 : decode cX9_applyPrefix 13 = .ok (.iload_n 2, 1) := by decide +kernel
theorem dX9_applyPrefix_14 : decode cX9_applyPrefix 14 = .ok (.invokestatic 56, 3) := by decide +kernel
theorem dX9_applyPrefix_17 : decode cX9_applyPrefix 17 = .ok (.istore 4, 2) := by decide +kernel
theorem dX9_applyPrefix_19 : decode cX9_applyPrefix 19 = .ok (.aload_n 0, 1) := by decide +kernel
theorem dX9_applyPrefix_20 : decode cX9_applyPrefix 20 = .ok (.getfield 18, 3) := by decide +kernel
theorem dX9_applyPrefix_23 : decode cX9_applyPrefix 23 = .ok (.iload_n 2, 1) := by decide +kernel
theorem dX9_applyPrefix_24 : decode cX9_applyPrefix 24 = .ok (.invokestatic 56, 3) := by decide +kernel
theorem dX9_applyPrefix_27 : decode cX9_applyPrefix 27 = .ok (.istore 5, 2) := by decide +kernel
theorem dX9_applyPrefix_29 : decode cX9_applyPrefix 29 = .ok (.aload_n 0, 1) := by decide +kernel
theorem dX9_applyPrefix_30 : decode cX9_applyPrefix 30 = .ok (.getfield 21, 3) := by decide +kernel
theorem dX9_applyPrefix_33 : decode cX9_applyPrefix 33 = .ok (.iload_n 1, 1) := by decide +kernel
theorem dX9_applyPrefix_34 : decode cX9_applyPrefix 34 = .ok (.iload_n 2, 1) := by decide +kernel
theorem dX9_applyPrefix_35 : decode cX9_applyPrefix 35 = .ok (.invokestatic 43, 3) := by decide +kernel
theorem dX9_applyPrefix_38 : decode cX9_applyPrefix 38 = .ok (.iload_n 3, 1) := by decide +kernel
theorem dX9_applyPrefix_39 : decode cX9_applyPrefix 39 = .ok (.bipush 94, 2) := by decide +kernel
theorem dX9_applyPrefix_41 : decode cX9_applyPrefix 41 = .ok (.if_icmp .ne 15, 3) := by decide +kernel
theorem dX9_applyPrefix_44 : decode cX9_applyPrefix 44 = .ok (.aload_n 0, 1) := by decide +kernel
theorem dX9_applyPrefix_45 : decode cX9_applyPrefix 45 = .ok (.iload_n 1, 1) := by decide +kernel
theorem dX9_applyPrefix_46 : decode cX9_applyPrefix 46 = .ok (.iload 5, 2) := by decide +kernel
theorem dX9_applyPrefix_48 : decode cX9_applyPrefix 48 = .ok (.iload 4, 2) := by decide +kernel
theorem dX9_applyPrefix_50 : decode cX9_applyPrefix 50 = .ok (.invokevirtual 88, 3) := by decide +kernel
theorem dX9_applyPrefix_53 : decode cX9_applyPrefix 53 = .ok (.goto 52, 3) := by decide +kernel
theorem dX9_applyPrefix_56 : decode cX9_applyPrefix 56 = .ok (.iload_n 3, 1) := by decide +kernel
theorem dX9_applyPrefix_57 : decode cX9_applyPrefix 57 = .ok (.bipush 60, 2) := by decide +kernel
theorem dX9_applyPrefix_59 : decode cX9_applyPrefix 59 = .ok (.if_icmp .ne 15, 3) := by decide +kernel
theorem dX9_applyPrefix_62 : decode cX9_applyPrefix 62 = .ok (.aload_n 0, 1) := by decide +kernel
theorem dX9_applyPrefix_63 : decode cX9_applyPrefix 63 = .ok (.iload_n 1, 1) := by decide +kernel
theorem dX9_applyPrefix_64 : decode cX9_applyPrefix 64 = .ok (.iload 4, 2) := by decide +kernel
theorem dX9_applyPrefix_66 : decode cX9_applyPrefix 66 = .ok (.iload 5, 2) := by decide +kernel
theorem dX9_applyPrefix_68 : decode cX9_applyPrefix 68 = .ok (.invokevirtual 88, 3) := by decide +kernel
theorem dX9_applyPrefix_71 : decode cX9_applyPrefix 71 = .ok (.goto 34, 3) := by decide +kernel
theorem dX9_applyPrefix_74 : decode cX9_applyPrefix 74 = .ok (.iload 4, 2) := by decide +kernel
theorem dX9_applyPrefix_76 : decode cX9_applyPrefix 76 = .ok (.iload_n 3, 1) := by decide +kernel
theorem dX9_applyPrefix_77 : decode cX9_applyPrefix 77 = .ok (.bipush 48, 2) := by decide +kernel
theorem dX9_applyPrefix_79 : decode cX9_applyPrefix 79 = .ok (.isub, 1) := by decide +kernel
theorem dX9_applyPrefix_80 : decode cX9_applyPrefix 80 = .ok (.imul, 1) := by decide +kernel
theorem dX9_applyPrefix_81 : decode cX9_applyPrefix 81 = .ok (.bipush 16, 2) := by decide +kernel
theorem dX9_applyPrefix_83 : decode cX9_applyPrefix 83 = .ok (.if_icmp .gt 20, 3) := by decide +kernel
theorem dX9_applyPrefix_86 : decode cX9_applyPrefix 86 = .ok (.aload_n 0, 1) := by decide +kernel
theorem dX9_applyPrefix_87 : decode cX9_applyPrefix 87 = .ok (.iload_n 1, 1) := by decide +kernel
theorem dX9_applyPrefix_88 : decode cX9_applyPrefix 88 = .ok (.iload 4, 2) := by decide +kernel
theorem dX9_applyPrefix_90 : decode cX9_applyPrefix 90 = .ok (.iload_n 3, 1) := by decide +kernel
theorem dX9_applyPrefix_91 : decode cX9_applyPrefix 91 = .ok (.bipush 48, 2) := by decide +kernel
theorem dX9_applyPrefix_93 : decode cX9_applyPrefix 93 = .ok (.isub, 1) := by decide +kernel
theorem dX9_applyPrefix_94 : decode cX9_applyPrefix 94 = .ok (.imul, 1) := by decide +kernel
theorem dX9_applyPrefix_95 : decode cX9_applyPrefix 95 = .ok (.iload 5, 2) := by decide +kernel
theorem dX9_applyPrefix_97 : decode cX9_applyPrefix 97 = .ok (.invokevirtual 88, 3) := by decide +kernel
theorem dX9_applyPrefix_100 : decode cX9_applyPrefix 100 = .ok (.goto 5, 3) := by decide +kernel
theorem dX9_applyPrefix_103 : decode cX9_applyPrefix 103 = .ok (.iconst 0, 1) := by decide +kernel
theorem dX9_applyPrefix_104 : decode cX9_applyPrefix 104 = .ok (.ireturn, 1) := by decide +kernel
theorem dX9_applyPrefix_105 : decode cX9_applyPrefix 105 = .ok (.iconst 1, 1) := by decide +kernel
theorem dX9_applyPrefix_106 : decode cX9_applyPrefix 106 = .ok (.ireturn, 1) := by decide +kernel
theorem dX9_setSize_0 : decode cX9_setSize 0 = .ok (.iload_n 1, 1) := by decide +kernel
theorem dX9_setSize_1 : decode cX9_setSize 1 = .ok (.ifCond .lt 35, 3) := by decide +kernel
theorem dX9_setSize_4 : decode cX9_setSize 4 = .ok (.iload_n 1, 1) := by decide +kernel
theorem dX9_setSize_5 : decode cX9_setSize 5 = .ok (.aload_n 0, 1) := by decide +kernel
theorem dX9_setSize_6 : decode cX9_setSize 6 = .ok (.getfield 15, 3) := by decide +kernel
theorem dX9_setSize_9 : decode cX9_setSize 9 = .ok (.arraylength, 1) := by decide +kernel
theorem dX9_setSize_10 : decode cX9_setSize 10 = .ok (.if_icmp .ge 26, 3) := by decide +kernel
theorem dX9_setSize_13 : decode cX9_setSize 13 = .ok (.iload_n 1, 1) := by decide +kernel
theorem dX9_setSize_14 : decode cX9_setSize 14 = .ok (.aload_n 0, 1) := by decide +kernel
theorem dX9_setSize_15 : decode cX9_setSize 15 = .ok (.getfield 18, 3) := by decide +kernel
theorem dX9_setSize_18 : decode cX9_setSize 18 = .ok (.arraylength, 1) := by decide +kernel
theorem dX9_setSize_19 : decode cX9_setSize 19 = .ok (.if_icmp .ge 17, 3) := by decide +kernel
theorem dX9_setSize_22 : decode cX9_setSize 22 = .ok (.aload_n 0, 1) := by decide +kernel
theorem dX9_setSize_23 : decode cX9_setSize 23 = .ok (.getfield 15, 3) := by decide +kernel
theorem dX9_setSize_26 : decode cX9_setSize 26 = .ok (.iload_n 1, 1) := by decide +kernel
theorem dX9_setSize_27 : decode cX9_setSize 27 = .ok (.iload_n 2, 1) := by decide +kernel
theorem dX9_setSize_28 : decode cX9_setSize 28 = .ok (.iastore, 1) := by decide +kernel
theorem dX9_setSize_29 : decode cX9_setSize 29 = .ok (.aload_n 0, 1) := by decide +kernel
theorem dX9_setSize_30 : decode cX9_setSize 30 = .ok (.getfield 18, 3) := by decide +kernel
theorem dX9_setSize_33 : decode cX9_setSize 33 = .ok (.iload_n 1, 1) := by decide +kernel
theorem dX9_setSize_34 : decode cX9_setSize 34 = .ok (.iload_n 3, 1) := by decide +kernel
theorem dX9_setSize_35 : decode cX9_setSize 35 = .ok (.iastore, 1) := by decide +kernel
theorem dX9_setSize_36 : decode cX9_setSize 36 = .ok (.return_, 1) := by decide +kernel
theorem dX9_colourOfWhole_0 : decode cX9_colourOfWhole 0 = .ok (.iload_n 1, 1) := by decide +kernel
theorem dX9_colourOfWhole_1 : decode cX9_colourOfWhole 1 = .ok (.istore_n 3, 1) := by decide +kernel
theorem dX9_colourOfWhole_2 : decode cX9_colourOfWhole 2 = .ok (.iload_n 2, 1) := by decide +kernel
theorem dX9_colourOfWhole_3 : decode cX9_colourOfWhole 3 = .ok (.istore 4, 2) := by decide +kernel
theorem dX9_colourOfWhole_5 : decode cX9_colourOfWhole 5 = .ok (.aload_n 0, 1) := by decide +kernel
theorem dX9_colourOfWhole_6 : decode cX9_colourOfWhole 6 = .ok (.getfield 36, 3) := by decide +kernel
theorem dX9_colourOfWhole_9 : decode cX9_colourOfWhole 9 = .ok (.istore 5, 2) := by decide +kernel
theorem dX9_colourOfWhole_11 : decode cX9_colourOfWhole 11 = .ok (.iconst 0, 1) := by decide +kernel
theorem dX9_colourOfWhole_12 : decode cX9_colourOfWhole 12 = .ok (.istore 6, 2) := by decide +kernel
theorem dX9_colourOfWhole_14 : decode cX9_colourOfWhole 14 = .ok (.iload 6, 2) := by decide +kernel
theorem dX9_colourOfWhole_16 : decode cX9_colourOfWhole 16 = .ok (.bipush 60, 2) := by decide +kernel
theorem dX9_colourOfWhole_18 : decode cX9_colourOfWhole 18 = .ok (.if_icmp .ge 195, 3) := by decide +kernel
theorem dX9_colourOfWhole_21 : decode cX9_colourOfWhole 21 = .ok (.aload_n 0, 1) := by decide +kernel
theorem dX9_colourOfWhole_22 : decode cX9_colourOfWhole 22 = .ok (.getfield 9, 3) := by decide +kernel
theorem dX9_colourOfWhole_25 : decode cX9_colourOfWhole 25 = .ok (.iload 5, 2) := by decide +kernel
theorem dX9_colourOfWhole_27 : decode cX9_colourOfWhole 27 = .ok (.invokestatic 56, 3) := by decide +kernel
theorem dX9_colourOfWhole_30 : decode cX9_colourOfWhole 30 = .ok (.istore 7, 2) := by decide +kernel
theorem dX9_colourOfWhole_32 : decode cX9_colourOfWhole 32 = .ok (.iload 7, 2) := by decide +kernel
theorem dX9_colourOfWhole_34 : decode cX9_colourOfWhole 34 = .ok (.invokestatic 69, 3) := by decide +kernel
theorem dX9_colourOfWhole_37 : decode cX9_colourOfWhole 37 = .ok (.ifCond .eq 9, 3) := by decide +kernel
theorem dX9_colourOfWhole_40 : decode cX9_colourOfWhole 40 = .ok (.iload 7, 2) := by decide +kernel
theorem dX9_colourOfWhole_42 : decode cX9_colourOfWhole 42 = .ok (.bipush 97, 2) := by decide +kernel
theorem dX9_colourOfWhole_44 : decode cX9_colourOfWhole 44 = .ok (.isub, 1) := by decide +kernel
theorem dX9_colourOfWhole_45 : decode cX9_colourOfWhole 45 = .ok (.ireturn, 1) := by decide +kernel
theorem dX9_colourOfWhole_46 : decode cX9_colourOfWhole 46 = .ok (.aload_n 0, 1) := by decide +kernel
theorem dX9_colourOfWhole_47 : decode cX9_colourOfWhole 47 = .ok (.getfield 21, 3) := by decide +kernel
theorem dX9_colourOfWhole_50 : decode cX9_colourOfWhole 50 = .ok (.iload 5, 2) := by decide +kernel
theorem dX9_colourOfWhole_52 : decode cX9_colourOfWhole 52 = .ok (.invokestatic 56, 3) := by decide +kernel
theorem dX9_colourOfWhole_55 : decode cX9_colourOfWhole 55 = .ok (.istore 8, 2) := by decide +kernel
theorem dX9_colourOfWhole_57 : decode cX9_colourOfWhole 57 = .ok (.iload 7, 2) := by decide +kernel
theorem dX9_colourOfWhole_59 : decode cX9_colourOfWhole 59 = .ok (.bipush 40, 2) := by decide +kernel
theorem dX9_colourOfWhole_61 : decode cX9_colourOfWhole 61 = .ok (.if_icmp .ne 27, 3) := by decide +kernel
theorem dX9_colourOfWhole_64 : decode cX9_colourOfWhole 64 = .ok (.aload_n 0, 1) := by decide +kernel
theorem dX9_colourOfWhole_65 : decode cX9_colourOfWhole 65 = .ok (.iload 5, 2) := by decide +kernel
theorem dX9_colourOfWhole_67 : decode cX9_colourOfWhole 67 = .ok (.iload_n 3, 1) := by decide +kernel
theorem dX9_colourOfWhole_68 : decode cX9_colourOfWhole 68 = .ok (.invokevirtual 106, 3) := by decide +kernel
theorem dX9_colourOfWhole_71 : decode cX9_colourOfWhole 71 = .ok (.istore 8, 2) := by decide +kernel
theorem dX9_colourOfWhole_73 : decode cX9_colourOfWhole 73 = .ok (.iload_n 3, 1) := by decide +kernel
theorem dX9_colourOfWhole_74 : decode cX9_colourOfWhole 74 = .ok (.aload_n 0, 1) := by decide +kernel
theorem dX9_colourOfWhole_75 : decode cX9_colourOfWhole 75 = .ok (.getfield 30, 3) := by decide +kernel
theorem dX9_colourOfWhole_78 : decode cX9_colourOfWhole 78 = .ok (.iload 8, 2) := by decide +kernel
theorem dX9_colourOfWhole_80 : decode cX9_colourOfWhole 80 = .ok (.invokestatic 56, 3) := by decide +kernel
theorem dX9_colourOfWhole_83 : decode cX9_colourOfWhole 83 = .ok (.isub, 1) := by decide +kernel
theorem dX9_colourOfWhole_84 : decode cX9_colourOfWhole 84 = .ok (.istore_n 3, 1) := by decide +kernel
theorem dX9_colourOfWhole_85 : decode cX9_colourOfWhole 85 = .ok (.goto 118, 3) := by decide +kernel
theorem dX9_colourOfWhole_88 : decode cX9_colourOfWhole 88 = .ok (.iload 7, 2) := by decide +kernel
theorem dX9_colourOfWhole_90 : decode cX9_colourOfWhole 90 = .ok (.bipush 91, 2) := by decide +kernel
theorem dX9_colourOfWhole_92 : decode cX9_colourOfWhole 92 = .ok (.if_icmp .ne 30, 3) := by decide +kernel
theorem dX9_colourOfWhole_95 : decode cX9_colourOfWhole 95 = .ok (.aload_n 0, 1) := by decide +kernel
theorem dX9_colourOfWhole_96 : decode cX9_colourOfWhole 96 = .ok (.iload 5, 2) := by decide +kernel
theorem dX9_colourOfWhole_98 : decode cX9_colourOfWhole 98 = .ok (.iload 4, 2) := by decide +kernel
theorem dX9_colourOfWhole_100 : decode cX9_colourOfWhole 100 = .ok (.invokevirtual 106, 3) := by decide +kernel
theorem dX9_colourOfWhole_103 : decode cX9_colourOfWhole 103 = .ok (.istore 8, 2) := by decide +kernel
theorem dX9_colourOfWhole_105 : decode cX9_colourOfWhole 105 = .ok (.iload 4, 2) := by decide +kernel
theorem dX9_colourOfWhole_107 : decode cX9_colourOfWhole 107 = .ok (.aload_n 0, 1) := by decide +kernel
theorem dX9_colourOfWhole_108 : decode cX9_colourOfWhole 108 = .ok (.getfield 30, 3) := by decide +kernel
theorem dX9_colourOfWhole_111 : decode cX9_colourOfWhole 111 = .ok (.iload 8, 2) := by decide +kernel
theorem dX9_colourOfWhole_113 : decode cX9_colourOfWhole 113 = .ok (.invokestatic 56, 3) := by decide +kernel
theorem dX9_colourOfWhole_116 : decode cX9_colourOfWhole 116 = .ok (.isub, 1) := by decide +kernel
theorem dX9_colourOfWhole_117 : decode cX9_colourOfWhole 117 = .ok (.istore 4, 2) := by decide +kernel
theorem dX9_colourOfWhole_119 : decode cX9_colourOfWhole 119 = .ok (.goto 84, 3) := by decide +kernel
theorem dX9_colourOfWhole_122 : decode cX9_colourOfWhole 122 = .ok (.iload 7, 2) := by decide +kernel
theorem dX9_colourOfWhole_124 : decode cX9_colourOfWhole 124 = .ok (.bipush 60, 2) := by decide +kernel
theorem dX9_colourOfWhole_126 : decode cX9_colourOfWhole 126 = .ok (.if_icmp .ne 20, 3) := by decide +kernel
theorem dX9_colourOfWhole_129 : decode cX9_colourOfWhole 129 = .ok (.aload_n 0, 1) := by decide +kernel
theorem dX9_colourOfWhole_130 : decode cX9_colourOfWhole 130 = .ok (.getfield 15, 3) := by decide +kernel
theorem dX9_colourOfWhole_133 : decode cX9_colourOfWhole 133 = .ok (.iload 8, 2) := by decide +kernel
theorem dX9_colourOfWhole_135 : decode cX9_colourOfWhole 135 = .ok (.invokestatic 56, 3) := by decide +kernel
theorem dX9_colourOfWhole_138 : decode cX9_colourOfWhole 138 = .ok (.iconst 1, 1) := by decide +kernel
theorem dX9_colourOfWhole_139 : decode cX9_colourOfWhole 139 = .ok (.isub, 1) := by decide +kernel
theorem dX9_colourOfWhole_140 : decode cX9_colourOfWhole 140 = .ok (.iload_n 3, 1) := by decide +kernel
theorem dX9_colourOfWhole_141 : decode cX9_colourOfWhole 141 = .ok (.isub, 1) := by decide +kernel
theorem dX9_colourOfWhole_142 : decode cX9_colourOfWhole 142 = .ok (.istore_n 3, 1) := by decide +kernel
theorem dX9_colourOfWhole_143 : decode cX9_colourOfWhole 143 = .ok (.goto 60, 3) := by decide +kernel
theorem dX9_colourOfWhole_146 : decode cX9_colourOfWhole 146 = .ok (.iload 7, 2) := by decide +kernel
theorem dX9_colourOfWhole_148 : decode cX9_colourOfWhole 148 = .ok (.bipush 94, 2) := by decide +kernel
theorem dX9_colourOfWhole_150 : decode cX9_colourOfWhole 150 = .ok (.if_icmp .ne 28, 3) := by decide +kernel
theorem dX9_colourOfWhole_153 : decode cX9_colourOfWhole 153 = .ok (.iload_n 3, 1) := by decide +kernel
theorem dX9_colourOfWhole_154 : decode cX9_colourOfWhole 154 = .ok (.istore 9, 2) := by decide +kernel
theorem dX9_colourOfWhole_156 : decode cX9_colourOfWhole 156 = .ok (.iload 4, 2) := by decide +kernel
theorem dX9_colourOfWhole_158 : decode cX9_colourOfWhole 158 = .ok (.istore_n 3, 1) := by decide +kernel
theorem dX9_colourOfWhole_159 : decode cX9_colourOfWhole 159 = .ok (.aload_n 0, 1) := by decide +kernel
theorem dX9_colourOfWhole_160 : decode cX9_colourOfWhole 160 = .ok (.getfield 18, 3) := by decide +kernel
theorem dX9_colourOfWhole_163 : decode cX9_colourOfWhole 163 = .ok (.iload 8, 2) := by decide +kernel
theorem dX9_colourOfWhole_165 : decode cX9_colourOfWhole 165 = .ok (.invokestatic 56, 3) := by decide +kernel
theorem dX9_colourOfWhole_168 : decode cX9_colourOfWhole 168 = .ok (.iconst 1, 1) := by decide +kernel
theorem dX9_colourOfWhole_169 : decode cX9_colourOfWhole 169 = .ok (.isub, 1) := by decide +kernel
theorem dX9_colourOfWhole_170 : decode cX9_colourOfWhole 170 = .ok (.iload 9, 2) := by decide +kernel
theorem dX9_colourOfWhole_172 : decode cX9_colourOfWhole 172 = .ok (.isub, 1) := by decide +kernel
theorem dX9_colourOfWhole_173 : decode cX9_colourOfWhole 173 = .ok (.istore 4, 2) := by decide +kernel
theorem dX9_colourOfWhole_175 : decode cX9_colourOfWhole 175 = .ok (.goto 28, 3) := by decide +kernel
theorem dX9_colourOfWhole_178 : decode cX9_colourOfWhole 178 = .ok (.aload_n 0, 1) := by decide +kernel
theorem dX9_colourOfWhole_179 : decode cX9_colourOfWhole 179 = .ok (.getfield 15, 3) := by decide +kernel
theorem dX9_colourOfWhole_182 : decode cX9_colourOfWhole 182 = .ok (.iload 8, 2) := by decide +kernel
theorem dX9_colourOfWhole_184 : decode cX9_colourOfWhole 184 = .ok (.invokestatic 56, 3) := by decide +kernel
theorem dX9_colourOfWhole_187 : decode cX9_colourOfWhole 187 = .ok (.istore 9, 2) := by decide +kernel
theorem dX9_colourOfWhole_189 : decode cX9_colourOfWhole 189 = .ok (.iload 9, 2) := by decide +kernel
theorem dX9_colourOfWhole_191 : decode cX9_colourOfWhole 191 = .ok (.ifCond .le 10, 3) := by decide +kernel
theorem dX9_colourOfWhole_194 : decode cX9_colourOfWhole 194 = .ok (.iload_n 3, 1) := by decide +kernel
theorem dX9_colourOfWhole_195 : decode cX9_colourOfWhole 195 = .ok (.iload 9, 2) := by decide +kernel
theorem dX9_colourOfWhole_197 : decode cX9_colourOfWhole 197 = .ok (.irem, 1) := by decide +kernel
theorem dX9_colourOfWhole_198 : decode cX9_colourOfWhole 198 = .ok (.goto 4, 3) := by decide +kernel
theorem dX9_colourOfWhole_201 : decode cX9_colourOfWhole 201 = .ok (.iconst 0, 1) := by decide +kernel
theorem dX9_colourOfWhole_202 : decode cX9_colourOfWhole 202 = .ok (.istore_n 3, 1) := by decide +kernel
theorem dX9_colourOfWhole_203 : decode cX9_colourOfWhole 203 = .ok (.iload 8, 2) := by decide +kernel
theorem dX9_colourOfWhole_205 : decode cX9_colourOfWhole 205 = .ok (.istore 5, 2) := by decide +kernel
theorem dX9_colourOfWhole_207 : decode cX9_colourOfWhole 207 = .ok (.iinc 6 1, 3) := by decide +kernel
theorem dX9_colourOfWhole_210 : decode cX9_colourOfWhole 210 = .ok (.goto (-196), 3) := by decide +kernel
theorem dX9_colourOfWhole_213 : decode cX9_colourOfWhole 213 = .ok (.iconst 0, 1) := by decide +kernel
theorem dX9_colourOfWhole_214 : decode cX9_colourOfWhole 214 = .ok (.ireturn, 1) := by decide +kernel
theorem dX9_blockInsideAt_0 : decode cX9_blockInsideAt 0 = .ok (.aload_n 0, 1) := by decide +kernel
theorem dX9_blockInsideAt_1 : decode cX9_blockInsideAt 1 = .ok (.getfield 21, 3) := by decide +kernel
theorem dX9_blockInsideAt_4 : decode cX9_blockInsideAt 4 = .ok (.iload_n 1, 1) := by decide +kernel
theorem dX9_blockInsideAt_5 : decode cX9_blockInsideAt 5 = .ok (.invokestatic 56, 3) := by decide +kernel
theorem dX9_blockInsideAt_8 : decode cX9_blockInsideAt 8 = .ok (.istore_n 3, 1) := by decide +kernel
theorem dX9_blockInsideAt_9 : decode cX9_blockInsideAt 9 = .ok (.iconst 0, 1) := by decide +kernel
theorem dX9_blockInsideAt_10 : decode cX9_blockInsideAt 10 = .ok (.istore 4, 2) := by decide +kernel
theorem dX9_blockInsideAt_12 : decode cX9_blockInsideAt 12 = .ok (.iload 4, 2) := by decide +kernel
theorem dX9_blockInsideAt_14 : decode cX9_blockInsideAt 14 = .ok (.bipush 60, 2) := by decide +kernel
theorem dX9_blockInsideAt_16 : decode cX9_blockInsideAt 16 = .ok (.if_icmp .ge 44, 3) := by decide +kernel
theorem dX9_blockInsideAt_19 : decode cX9_blockInsideAt 19 = .ok (.aload_n 0, 1) := by decide +kernel
theorem dX9_blockInsideAt_20 : decode cX9_blockInsideAt 20 = .ok (.getfield 27, 3) := by decide +kernel
theorem dX9_blockInsideAt_23 : decode cX9_blockInsideAt 23 = .ok (.iload_n 3, 1) := by decide +kernel
theorem dX9_blockInsideAt_24 : decode cX9_blockInsideAt 24 = .ok (.invokestatic 56, 3) := by decide +kernel
theorem dX9_blockInsideAt_27 : decode cX9_blockInsideAt 27 = .ok (.istore 5, 2) := by decide +kernel
theorem dX9_blockInsideAt_29 : decode cX9_blockInsideAt 29 = .ok (.iload 5, 2) := by decide +kernel
theorem dX9_blockInsideAt_31 : decode cX9_blockInsideAt 31 = .ok (.bipush (-9), 2) := by decide +kernel
theorem dX9_blockInsideAt_33 : decode cX9_blockInsideAt 33 = .ok (.if_icmp .eq 16, 3) := by decide +kernel
theorem dX9_blockInsideAt_36 : decode cX9_blockInsideAt 36 = .ok (.aload_n 0, 1) := by decide +kernel
theorem dX9_blockInsideAt_37 : decode cX9_blockInsideAt 37 = .ok (.getfield 30, 3) := by decide +kernel
theorem dX9_blockInsideAt_40 : decode cX9_blockInsideAt 40 = .ok (.iload 5, 2) := by decide +kernel
theorem dX9_blockInsideAt_42 : decode cX9_blockInsideAt 42 = .ok (.invokestatic 56, 3) := by decide +kernel
theorem dX9_blockInsideAt_45 : decode cX9_blockInsideAt 45 = .ok (.iload_n 2, 1) := by decide +kernel
theorem dX9_blockInsideAt_46 : decode cX9_blockInsideAt 46 = .ok (.if_icmp .le 5, 3) := by decide +kernel
theorem dX9_blockInsideAt_49 : decode cX9_blockInsideAt 49 = .ok (.iload_n 3, 1) := by decide +kernel
theorem dX9_blockInsideAt_50 : decode cX9_blockInsideAt 50 = .ok (.ireturn, 1) := by decide +kernel
theorem dX9_blockInsideAt_51 : decode cX9_blockInsideAt 51 = .ok (.iload 5, 2) := by decide +kernel
theorem dX9_blockInsideAt_53 : decode cX9_blockInsideAt 53 = .ok (.istore_n 3, 1) := by decide +kernel
theorem dX9_blockInsideAt_54 : decode cX9_blockInsideAt 54 = .ok (.iinc 4 1, 3) := by decide +kernel
theorem dX9_blockInsideAt_57 : decode cX9_blockInsideAt 57 = .ok (.goto (-45), 3) := by decide +kernel
theorem dX9_blockInsideAt_60 : decode cX9_blockInsideAt 60 = .ok (.iload_n 3, 1) := by decide +kernel
theorem dX9_blockInsideAt_61 : decode cX9_blockInsideAt 61 = .ok (.ireturn, 1) := by decide +kernel
theorem dX9_isColour_0 : decode cX9_isColour 0 = .ok (.iload_n 0, 1) := by decide +kernel
theorem dX9_isColour_1 : decode cX9_isColour 1 = .ok (.bipush 97, 2) := by decide +kernel
theorem dX9_isColour_3 : decode cX9_isColour 3 = .ok (.if_icmp .lt 13, 3) := by decide +kernel
theorem dX9_isColour_6 : decode cX9_isColour 6 = .ok (.iload_n 0, 1) := by decide +kernel
theorem dX9_isColour_7 : decode cX9_isColour 7 = .ok (.bipush 103, 2) := by decide +kernel
theorem dX9_isColour_9 : decode cX9_isColour 9 = .ok (.if_icmp .ge 7, 3) := by decide +kernel
theorem dX9_isColour_12 : decode cX9_isColour 12 = .ok (.iconst 1, 1) := by decide +kernel
theorem dX9_isColour_13 : decode cX9_isColour 13 = .ok (.goto 4, 3) := by decide +kernel
theorem dX9_isColour_16 : decode cX9_isColour 16 = .ok (.iconst 0, 1) := by decide +kernel
theorem dX9_isColour_17 : decode cX9_isColour 17 = .ok (.ireturn, 1) := by decide +kernel
theorem dX9_isOpening_0 : decode cX9_isOpening 0 = .ok (.iload_n 0, 1) := by decide +kernel
theorem dX9_isOpening_1 : decode cX9_isOpening 1 = .ok (.bipush 40, 2) := by decide +kernel
theorem dX9_isOpening_3 : decode cX9_isOpening 3 = .ok (.if_icmp .eq 9, 3) := by decide +kernel
theorem dX9_isOpening_6 : decode cX9_isOpening 6 = .ok (.iload_n 0, 1) := by decide +kernel
theorem dX9_isOpening_7 : decode cX9_isOpening 7 = .ok (.bipush 91, 2) := by decide +kernel
theorem dX9_isOpening_9 : decode cX9_isOpening 9 = .ok (.if_icmp .ne 7, 3) := by decide +kernel
theorem dX9_isOpening_12 : decode cX9_isOpening 12 = .ok (.iconst 1, 1) := by decide +kernel
theorem dX9_isOpening_13 : decode cX9_isOpening 13 = .ok (.goto 4, 3) := by decide +kernel
theorem dX9_isOpening_16 : decode cX9_isOpening 16 = .ok (.iconst 0, 1) := by decide +kernel
theorem dX9_isOpening_17 : decode cX9_isOpening 17 = .ok (.ireturn, 1) := by decide +kernel
theorem dX9_isPrefix_0 : decode cX9_isPrefix 0 = .ok (.iload_n 0, 1) := by decide +kernel
theorem dX9_isPrefix_1 : decode cX9_isPrefix 1 = .ok (.bipush 60, 2) := by decide +kernel
theorem dX9_isPrefix_3 : decode cX9_isPrefix 3 = .ok (.if_icmp .eq 21, 3) := by decide +kernel
theorem dX9_isPrefix_6 : decode cX9_isPrefix 6 = .ok (.iload_n 0, 1) := by decide +kernel
theorem dX9_isPrefix_7 : decode cX9_isPrefix 7 = .ok (.bipush 94, 2) := by decide +kernel
theorem dX9_isPrefix_9 : decode cX9_isPrefix 9 = .ok (.if_icmp .eq 15, 3) := by decide +kernel
theorem dX9_isPrefix_12 : decode cX9_isPrefix 12 = .ok (.iload_n 0, 1) := by decide +kernel
theorem dX9_isPrefix_13 : decode cX9_isPrefix 13 = .ok (.bipush 50, 2) := by decide +kernel
theorem dX9_isPrefix_15 : decode cX9_isPrefix 15 = .ok (.if_icmp .lt 13, 3) := by decide +kernel
theorem dX9_isPrefix_18 : decode cX9_isPrefix 18 = .ok (.iload_n 0, 1) := by decide +kernel
theorem dX9_isPrefix_19 : decode cX9_isPrefix 19 = .ok (.bipush 57, 2) := by decide +kernel
theorem dX9_isPrefix_21 : decode cX9_isPrefix 21 = .ok (.if_icmp .gt 7, 3) := by decide +kernel
theorem dX9_isPrefix_24 : decode cX9_isPrefix 24 = .ok (.iconst 1, 1) := by decide +kernel
theorem dX9_isPrefix_25 : decode cX9_isPrefix 25 = .ok (.goto 4, 3) := by decide +kernel
theorem dX9_isPrefix_28 : decode cX9_isPrefix 28 = .ok (.iconst 0, 1) := by decide +kernel
theorem dX9_isPrefix_29 : decode cX9_isPrefix 29 = .ok (.ireturn, 1) := by decide +kernel
theorem dX10_init_0 : decode cX10_init 0 = .ok (.aload_n 0, 1) := by decide +kernel
theorem dX10_init_1 : decode cX10_init 1 = .ok (.invokespecial 1, 3) := by decide +kernel
theorem dX10_init_4 : decode cX10_init 4 = .ok (.aload_n 0, 1) := by decide +kernel
theorem dX10_init_5 : decode cX10_init 5 = .ok (.new 7, 3) := by decide +kernel
theorem dX10_init_8 : decode cX10_init 8 = .ok (.dup, 1) := by decide +kernel
theorem dX10_init_9 : decode cX10_init 9 = .ok (.invokespecial 9, 3) := by decide +kernel
theorem dX10_init_12 : decode cX10_init 12 = .ok (.putfield 10, 3) := by decide +kernel
theorem dX10_init_15 : decode cX10_init 15 = .ok (.aload_n 0, 1) := by decide +kernel
theorem dX10_init_16 : decode cX10_init 16 = .ok (.new 16, 3) := by decide +kernel
theorem dX10_init_19 : decode cX10_init 19 = .ok (.dup, 1) := by decide +kernel
theorem dX10_init_20 : decode cX10_init 20 = .ok (.invokespecial 18, 3) := by decide +kernel
theorem dX10_init_23 : decode cX10_init 23 = .ok (.putfield 19, 3) := by decide +kernel
theorem dX10_init_26 : decode cX10_init 26 = .ok (.aload_n 0, 1) := by decide +kernel
theorem dX10_init_27 : decode cX10_init 27 = .ok (.new 16, 3) := by decide +kernel
theorem dX10_init_30 : decode cX10_init 30 = .ok (.dup, 1) := by decide +kernel
theorem dX10_init_31 : decode cX10_init 31 = .ok (.invokespecial 18, 3) := by decide +kernel
theorem dX10_init_34 : decode cX10_init 34 = .ok (.putfield 23, 3) := by decide +kernel
theorem dX10_init_37 : decode cX10_init 37 = .ok (.aload_n 0, 1) := by decide +kernel
theorem dX10_init_38 : decode cX10_init 38 = .ok (.new 26, 3) := by decide +kernel
theorem dX10_init_41 : decode cX10_init 41 = .ok (.dup, 1) := by decide +kernel
theorem dX10_init_42 : decode cX10_init 42 = .ok (.invokespecial 28, 3) := by decide +kernel
theorem dX10_init_45 : decode cX10_init 45 = .ok (.putfield 29, 3) := by decide +kernel
theorem dX10_init_48 : decode cX10_init 48 = .ok (.aload_n 0, 1) := by decide +kernel
theorem dX10_init_49 : decode cX10_init 49 = .ok (.iconst 2, 1) := by decide +kernel
theorem dX10_init_50 : decode cX10_init 50 = .ok (.anewarray 16, 3) := by decide +kernel
theorem dX10_init_53 : decode cX10_init 53 = .ok (.putfield 33, 3) := by decide +kernel
theorem dX10_init_56 : decode cX10_init 56 = .ok (.aload_n 0, 1) := by decide +kernel
theorem dX10_init_57 : decode cX10_init 57 = .ok (.new 37, 3) := by decide +kernel
theorem dX10_init_60 : decode cX10_init 60 = .ok (.dup, 1) := by decide +kernel
theorem dX10_init_61 : decode cX10_init 61 = .ok (.invokespecial 39, 3) := by decide +kernel
theorem dX10_init_64 : decode cX10_init 64 = .ok (.putfield 40, 3) := by decide +kernel
theorem dX10_init_67 : decode cX10_init 67 = .ok (.return_, 1) := by decide +kernel
theorem dX10_append_0 : decode cX10_append 0 = .ok (.iload_n 1, 1) := by decide +kernel
theorem dX10_append_1 : decode cX10_append 1 = .ok (.iconst 0, 1) := by decide +kernel
theorem dX10_append_2 : decode cX10_append 2 = .ok (.sipush 255, 3) := by decide +kernel
theorem dX10_append_5 : decode cX10_append 5 = .ok (.invokestatic 44, 3) := by decide +kernel
theorem dX10_append_8 : decode cX10_append 8 = .ok (.aload_n 0, 1) := by decide +kernel
theorem dX10_append_9 : decode cX10_append 9 = .ok (.getfield 10, 3) := by decide +kernel
theorem dX10_append_12 : decode cX10_append 12 = .ok (.invokevirtual 48, 3) := by decide +kernel
theorem dX10_append_15 : decode cX10_append 15 = .ok (.ifCond .ne 7, 3) := by decide +kernel
theorem dX10_append_18 : decode cX10_append 18 = .ok (.iconst 1, 1) := by decide +kernel
theorem dX10_append_19 : decode cX10_append 19 = .ok (.goto 4, 3) := by decide +kernel
theorem dX10_append_22 : decode cX10_append 22 = .ok (.iconst 0, 1) := by decide +kernel
theorem dX10_append_23 : decode cX10_append 23 = .ok (.invokestatic 52, 3) := by decide +kernel
theorem dX10_append_26 : decode cX10_append 26 = .ok (.aload_n 0, 1) := by decide +kernel
theorem dX10_append_27 : decode cX10_append 27 = .ok (.getfield 10, 3) := by decide +kernel
theorem dX10_append_30 : decode cX10_append 30 = .ok (.iload_n 1, 1) := by decide +kernel
theorem dX10_append_31 : decode cX10_append 31 = .ok (.invokevirtual 56, 3) := by decide +kernel
theorem dX10_append_34 : decode cX10_append 34 = .ok (.ireturn, 1) := by decide +kernel
theorem dX10_clearText_0 : decode cX10_clearText 0 = .ok (.aload_n 0, 1) := by decide +kernel
theorem dX10_clearText_1 : decode cX10_clearText 1 = .ok (.getfield 10, 3) := by decide +kernel
theorem dX10_clearText_4 : decode cX10_clearText 4 = .ok (.invokevirtual 60, 3) := by decide +kernel
theorem dX10_clearText_7 : decode cX10_clearText 7 = .ok (.ireturn, 1) := by decide +kernel
theorem dX10_errorPosition_0 : decode cX10_errorPosition 0 = .ok (.aload_n 0, 1) := by decide +kernel
theorem dX10_errorPosition_1 : decode cX10_errorPosition 1 = .ok (.getfield 10, 3) := by decide +kernel
theorem dX10_errorPosition_4 : decode cX10_errorPosition 4 = .ok (.invokevirtual 64, 3) := by decide +kernel
theorem dX10_errorPosition_7 : decode cX10_errorPosition 7 = .ok (.ireturn, 1) := by decide +kernel
theorem dX10_about_0 : decode cX10_about 0 = .ok (.iload_n 1, 1) := by decide +kernel
theorem dX10_about_1 : decode cX10_about 1 = .ok (.iconst 0, 1) := by decide +kernel
theorem dX10_about_2 : decode cX10_about 2 = .ok (.bipush 8, 2) := by decide +kernel
theorem dX10_about_4 : decode cX10_about 4 = .ok (.invokestatic 44, 3) := by decide +kernel
theorem dX10_about_7 : decode cX10_about 7 = .ok (.iload_n 1, 1) := by decide +kernel
theorem dX10_about_8 : decode cX10_about 8 = .ok (.tableswitch 129 0 7 #[48, 56, 79, 87, 95, 103, 111, 120], 48) := by decide +kernel
theorem dX10_about_56 : decode cX10_about 56 = .ok (.aload_n 0, 1) := by decide +kernel
theorem dX10_about_57 : decode cX10_about 57 = .ok (.getfield 19, 3) := by decide +kernel
theorem dX10_about_60 : decode cX10_about 60 = .ok (.getfield 67, 3) := by decide +kernel
theorem dX10_about_63 : decode cX10_about 63 = .ok (.ireturn, 1) := by decide +kernel
theorem dX10_about_64 : decode cX10_about 64 = .ok (.aload_n 0, 1) := by decide +kernel
theorem dX10_about_65 : decode cX10_about 65 = .ok (.getfield 19, 3) := by decide +kernel
theorem dX10_about_68 : decode cX10_about 68 = .ok (.getfield 67, 3) := by decide +kernel
theorem dX10_about_71 : decode cX10_about 71 = .ok (.ifCond .le 13, 3) := by decide +kernel
theorem dX10_about_74 : decode cX10_about 74 = .ok (.aload_n 0, 1) := by decide +kernel
theorem dX10_about_75 : decode cX10_about 75 = .ok (.getfield 19, 3) := by decide +kernel
theorem dX10_about_78 : decode cX10_about 78 = .ok (.getfield 71, 3) := by decide +kernel
theorem dX10_about_81 : decode cX10_about 81 = .ok (.goto 5, 3) := by decide +kernel
theorem dX10_about_84 : decode cX10_about 84 = .ok (.bipush (-9), 2) := by decide +kernel
theorem dX10_about_86 : decode cX10_about 86 = .ok (.ireturn, 1) := by decide +kernel
theorem dX10_about_87 : decode cX10_about 87 = .ok (.aload_n 0, 1) := by decide +kernel
theorem dX10_about_88 : decode cX10_about 88 = .ok (.getfield 19, 3) := by decide +kernel
theorem dX10_about_91 : decode cX10_about 91 = .ok (.invokevirtual 74, 3) := by decide +kernel
theorem dX10_about_94 : decode cX10_about 94 = .ok (.ireturn, 1) := by decide +kernel
theorem dX10_about_95 : decode cX10_about 95 = .ok (.aload_n 0, 1) := by decide +kernel
theorem dX10_about_96 : decode cX10_about 96 = .ok (.getfield 19, 3) := by decide +kernel
theorem dX10_about_99 : decode cX10_about 99 = .ok (.getfield 77, 3) := by decide +kernel
theorem dX10_about_102 : decode cX10_about 102 = .ok (.ireturn, 1) := by decide +kernel
theorem dX10_about_103 : decode cX10_about 103 = .ok (.aload_n 0, 1) := by decide +kernel
theorem dX10_about_104 : decode cX10_about 104 = .ok (.getfield 19, 3) := by decide +kernel
theorem dX10_about_107 : decode cX10_about 107 = .ok (.getfield 80, 3) := by decide +kernel
theorem dX10_about_110 : decode cX10_about 110 = .ok (.ireturn, 1) := by decide +kernel
theorem dX10_about_111 : decode cX10_about 111 = .ok (.aload_n 0, 1) := by decide +kernel
theorem dX10_about_112 : decode cX10_about 112 = .ok (.getfield 19, 3) := by decide +kernel
theorem dX10_about_115 : decode cX10_about 115 = .ok (.getfield 83, 3) := by decide +kernel
theorem dX10_about_118 : decode cX10_about 118 = .ok (.ireturn, 1) := by decide +kernel
theorem dX10_about_119 : decode cX10_about 119 = .ok (.aload_n 0, 1) := by decide +kernel
theorem dX10_about_120 : decode cX10_about 120 = .ok (.getfield 19, 3) := by decide +kernel
theorem dX10_about_123 : decode cX10_about 123 = .ok (.iconst 0, 1) := by decide +kernel
theorem dX10_about_124 : decode cX10_about 124 = .ok (.invokevirtual 88, 3) := by decide +kernel
theorem dX10_about_127 : decode cX10_about 127 = .ok (.ireturn, 1) := by decide +kernel
theorem dX10_about_128 : decode cX10_about 128 = .ok (.aload_n 0, 1) := by decide +kernel
theorem dX10_about_129 : decode cX10_about 129 = .ok (.getfield 19, 3) := by decide +kernel
theorem dX10_about_132 : decode cX10_about 132 = .ok (.iconst 3, 1) := by decide +kernel
theorem dX10_about_133 : decode cX10_about 133 = .ok (.invokevirtual 88, 3) := by decide +kernel
theorem dX10_about_136 : decode cX10_about 136 = .ok (.ireturn, 1) := by decide +kernel
theorem dX10_about_137 : decode cX10_about 137 = .ok (.aload_n 0, 1) := by decide +kernel
theorem dX10_about_138 : decode cX10_about 138 = .ok (.getfield 19, 3) := by decide +kernel
theorem dX10_about_141 : decode cX10_about 141 = .ok (.iconst 4, 1) := by decide +kernel
theorem dX10_about_142 : decode cX10_about 142 = .ok (.invokevirtual 88, 3) := by decide +kernel
theorem dX10_about_145 : decode cX10_about 145 = .ok (.ireturn, 1) := by decide +kernel
theorem dX10_member_0 : decode cX10_member 0 = .ok (.aload_n 0, 1) := by decide +kernel
theorem dX10_member_1 : decode cX10_member 1 = .ok (.iload_n 1, 1) := by decide +kernel
theorem dX10_member_2 : decode cX10_member 2 = .ok (.invokevirtual 91, 3) := by decide +kernel
theorem dX10_member_5 : decode cX10_member 5 = .ok (.astore_n 3, 1) := by decide +kernel
theorem dX10_member_6 : decode cX10_member 6 = .ok (.iload_n 2, 1) := by decide +kernel
theorem dX10_member_7 : decode cX10_member 7 = .ok (.iconst 0, 1) := by decide +kernel
theorem dX10_member_8 : decode cX10_member 8 = .ok (.iconst 3, 1) := by decide +kernel
theorem dX10_member_9 : decode cX10_member 9 = .ok (.invokestatic 44, 3) := by decide +kernel
theorem dX10_member_12 : decode cX10_member 12 = .ok (.iload_n 2, 1) := by decide +kernel
theorem dX10_member_13 : decode cX10_member 13 = .ok (.tableswitch 45 0 2 #[27, 32, 37], 27) := by decide +kernel
theorem dX10_member_40 : decode cX10_member 40 = .ok (.aload_n 3, 1) := by decide +kernel
theorem dX10_member_41 : decode cX10_member 41 = .ok (.getfield 95, 3) := by decide +kernel
theorem dX10_member_44 : decode cX10_member 44 = .ok (.ireturn, 1) := by decide +kernel
theorem dX10_member_45 : decode cX10_member 45 = .ok (.aload_n 3, 1) := by decide +kernel
theorem dX10_member_46 : decode cX10_member 46 = .ok (.getfield 100, 3) := by decide +kernel
theorem dX10_member_49 : decode cX10_member 49 = .ok (.ireturn, 1) := by decide +kernel
theorem dX10_member_50 : decode cX10_member 50 = .ok (.aload_n 3, 1) := by decide +kernel
theorem dX10_member_51 : decode cX10_member 51 = .ok (.getfield 103, 3) := by decide +kernel
theorem dX10_member_54 : decode cX10_member 54 = .ok (.invokestatic 107, 3) := by decide +kernel
theorem dX10_member_57 : decode cX10_member 57 = .ok (.ireturn, 1) := by decide +kernel
theorem dX10_member_58 : decode cX10_member 58 = .ok (.aload_n 3, 1) := by decide +kernel
theorem dX10_member_59 : decode cX10_member 59 = .ok (.getfield 113, 3) := by decide +kernel
theorem dX10_member_62 : decode cX10_member 62 = .ok (.ireturn, 1) := by decide +kernel
theorem dX10_cloth_0 : decode cX10_cloth 0 = .ok (.aload_n 0, 1) := by decide +kernel
theorem dX10_cloth_1 : decode cX10_cloth 1 = .ok (.iload_n 1, 1) := by decide +kernel
theorem dX10_cloth_2 : decode cX10_cloth 2 = .ok (.invokevirtual 116, 3) := by decide +kernel
theorem dX10_cloth_5 : decode cX10_cloth 5 = .ok (.astore_n 3, 1) := by decide +kernel
theorem dX10_cloth_6 : decode cX10_cloth 6 = .ok (.iload_n 2, 1) := by decide +kernel
theorem dX10_cloth_7 : decode cX10_cloth 7 = .ok (.iconst 0, 1) := by decide +kernel
theorem dX10_cloth_8 : decode cX10_cloth 8 = .ok (.iconst 4, 1) := by decide +kernel
theorem dX10_cloth_9 : decode cX10_cloth 9 = .ok (.invokestatic 44, 3) := by decide +kernel
theorem dX10_cloth_12 : decode cX10_cloth 12 = .ok (.aload_n 3, 1) := by decide +kernel
theorem dX10_cloth_13 : decode cX10_cloth 13 = .ok (.iload_n 2, 1) := by decide +kernel
theorem dX10_cloth_14 : decode cX10_cloth 14 = .ok (.invokevirtual 120, 3) := by decide +kernel
theorem dX10_cloth_17 : decode cX10_cloth 17 = .ok (.ireturn, 1) := by decide +kernel
theorem dX10_frame_0 : decode cX10_frame 0 = .ok (.aload_n 0, 1) := by decide +kernel
theorem dX10_frame_1 : decode cX10_frame 1 = .ok (.iload_n 1, 1) := by decide +kernel
theorem dX10_frame_2 : decode cX10_frame 2 = .ok (.invokevirtual 123, 3) := by decide +kernel
theorem dX10_frame_5 : decode cX10_frame 5 = .ok (.astore_n 3, 1) := by decide +kernel
theorem dX10_frame_6 : decode cX10_frame 6 = .ok (.iload_n 2, 1) := by decide +kernel
theorem dX10_frame_7 : decode cX10_frame 7 = .ok (.iconst 0, 1) := by decide +kernel
theorem dX10_frame_8 : decode cX10_frame 8 = .ok (.bipush 6, 2) := by decide +kernel
theorem dX10_frame_10 : decode cX10_frame 10 = .ok (.invokestatic 44, 3) := by decide +kernel
theorem dX10_frame_13 : decode cX10_frame 13 = .ok (.aload_n 3, 1) := by decide +kernel
theorem dX10_frame_14 : decode cX10_frame 14 = .ok (.getfield 127, 3) := by decide +kernel
theorem dX10_frame_17 : decode cX10_frame 17 = .ok (.astore 4, 2) := by decide +kernel
theorem dX10_frame_19 : decode cX10_frame 19 = .ok (.aload 4, 2) := by decide +kernel
theorem dX10_frame_21 : decode cX10_frame 21 = .ok (.ifnonnull 5, 3) := by decide +kernel
theorem dX10_frame_24 : decode cX10_frame 24 = .ok (.iconst 0, 1) := by decide +kernel
theorem dX10_frame_25 : decode cX10_frame 25 = .ok (.ireturn, 1) := by decide +kernel
theorem dX10_frame_26 : decode cX10_frame 26 = .ok (.iload_n 2, 1) := by decide +kernel
theorem dX10_frame_27 : decode cX10_frame 27 = .ok (.tableswitch 76 0 5 #[37, 43, 49, 54, 60, 66], 37) := by decide +kernel
theorem dX10_frame_64 : decode cX10_frame 64 = .ok (.aload 4, 2) := by decide +kernel
theorem dX10_frame_66 : decode cX10_frame 66 = .ok (.getfield 133, 3) := by decide +kernel
theorem dX10_frame_69 : decode cX10_frame 69 = .ok (.ireturn, 1) := by decide +kernel
theorem dX10_frame_70 : decode cX10_frame 70 = .ok (.aload 4, 2) := by decide +kernel
theorem dX10_frame_72 : decode cX10_frame 72 = .ok (.getfield 138, 3) := by decide +kernel
theorem dX10_frame_75 : decode cX10_frame 75 = .ok (.ireturn, 1) := by decide +kernel
theorem dX10_frame_76 : decode cX10_frame 76 = .ok (.aload_n 3, 1) := by decide +kernel
theorem dX10_frame_77 : decode cX10_frame 77 = .ok (.getfield 141, 3) := by decide +kernel
theorem dX10_frame_80 : decode cX10_frame 80 = .ok (.ireturn, 1) := by decide +kernel
theorem dX10_frame_81 : decode cX10_frame 81 = .ok (.aload 4, 2) := by decide +kernel
theorem dX10_frame_83 : decode cX10_frame 83 = .ok (.invokevirtual 142, 3) := by decide +kernel
theorem dX10_frame_86 : decode cX10_frame 86 = .ok (.ireturn, 1) := by decide +kernel
theorem dX10_frame_87 : decode cX10_frame 87 = .ok (.aload 4, 2) := by decide +kernel
theorem dX10_frame_89 : decode cX10_frame 89 = .ok (.invokevirtual 145, 3) := by decide +kernel
theorem dX10_frame_92 : decode cX10_frame 92 = .ok (.ireturn, 1) := by decide +kernel
theorem dX10_frame_93 : decode cX10_frame 93 = .ok (.aload_n 0, 1) := by decide +kernel
theorem dX10_frame_94 : decode cX10_frame 94 = .ok (.getfield 40, 3) := by decide +kernel
theorem dX10_frame_97 : decode cX10_frame 97 = .ok (.aload 4, 2) := by decide +kernel
theorem dX10_frame_99 : decode cX10_frame 99 = .ok (.invokevirtual 148, 3) := by decide +kernel
theorem dX10_frame_102 : decode cX10_frame 102 = .ok (.ireturn, 1) := by decide +kernel
theorem dX10_frame_103 : decode cX10_frame 103 = .ok (.aload_n 0, 1) := by decide +kernel
theorem dX10_frame_104 : decode cX10_frame 104 = .ok (.getfield 40, 3) := by decide +kernel
theorem dX10_frame_107 : decode cX10_frame 107 = .ok (.aload 4, 2) := by decide +kernel
theorem dX10_frame_109 : decode cX10_frame 109 = .ok (.invokevirtual 152, 3) := by decide +kernel
theorem dX10_frame_112 : decode cX10_frame 112 = .ok (.ireturn, 1) := by decide +kernel
theorem dX10_patch_0 : decode cX10_patch 0 = .ok (.aload_n 0, 1) := by decide +kernel
theorem dX10_patch_1 : decode cX10_patch 1 = .ok (.iload_n 1, 1) := by decide +kernel
theorem dX10_patch_2 : decode cX10_patch 2 = .ok (.invokevirtual 123, 3) := by decide +kernel
theorem dX10_patch_5 : decode cX10_patch 5 = .ok (.astore 4, 2) := by decide +kernel
theorem dX10_patch_7 : decode cX10_patch 7 = .ok (.iload_n 2, 1) := by decide +kernel
theorem dX10_patch_8 : decode cX10_patch 8 = .ok (.ifCond .lt 11, 3) := by decide +kernel
theorem dX10_patch_11 : decode cX10_patch 11 = .ok (.iload_n 3, 1) := by decide +kernel
theorem dX10_patch_12 : decode cX10_patch 12 = .ok (.ifCond .lt 7, 3) := by decide +kernel
theorem dX10_patch_15 : decode cX10_patch 15 = .ok (.iconst 1, 1) := by decide +kernel
theorem dX10_patch_16 : decode cX10_patch 16 = .ok (.goto 4, 3) := by decide +kernel
theorem dX10_patch_19 : decode cX10_patch 19 = .ok (.iconst 0, 1) := by decide +kernel
theorem dX10_patch_20 : decode cX10_patch 20 = .ok (.invokestatic 155, 3) := by decide +kernel
theorem dX10_patch_23 : decode cX10_patch 23 = .ok (.aload 4, 2) := by decide +kernel
theorem dX10_patch_25 : decode cX10_patch 25 = .ok (.getfield 127, 3) := by decide +kernel
theorem dX10_patch_28 : decode cX10_patch 28 = .ok (.astore 5, 2) := by decide +kernel
theorem dX10_patch_30 : decode cX10_patch 30 = .ok (.aload 5, 2) := by decide +kernel
theorem dX10_patch_32 : decode cX10_patch 32 = .ok (.ifnonnull 8, 3) := by decide +kernel
theorem dX10_patch_35 : decode cX10_patch 35 = .ok (.bipush (-9), 2) := by decide +kernel
theorem dX10_patch_37 : decode cX10_patch 37 = .ok (.goto 10, 3) := by decide +kernel
theorem dX10_patch_40 : decode cX10_patch 40 = .ok (.aload 5, 2) := by decide +kernel
theorem dX10_patch_42 : decode cX10_patch 42 = .ok (.iload_n 2, 1) := by decide +kernel
theorem dX10_patch_43 : decode cX10_patch 43 = .ok (.iload_n 3, 1) := by decide +kernel
theorem dX10_patch_44 : decode cX10_patch 44 = .ok (.invokevirtual 158, 3) := by decide +kernel
theorem dX10_patch_47 : decode cX10_patch 47 = .ok (.ireturn, 1) := by decide +kernel
theorem dX10_count_0 : decode cX10_count 0 = .ok (.aload_n 0, 1) := by decide +kernel
theorem dX10_count_1 : decode cX10_count 1 = .ok (.iload_n 1, 1) := by decide +kernel
theorem dX10_count_2 : decode cX10_count 2 = .ok (.invokevirtual 123, 3) := by decide +kernel
theorem dX10_count_5 : decode cX10_count 5 = .ok (.astore 4, 2) := by decide +kernel
theorem dX10_count_7 : decode cX10_count 7 = .ok (.aload_n 0, 1) := by decide +kernel
theorem dX10_count_8 : decode cX10_count 8 = .ok (.iload_n 2, 1) := by decide +kernel
theorem dX10_count_9 : decode cX10_count 9 = .ok (.invokevirtual 116, 3) := by decide +kernel
theorem dX10_count_12 : decode cX10_count 12 = .ok (.pop, 1) := by decide +kernel
theorem dX10_count_13 : decode cX10_count 13 = .ok (.aload 4, 2) := by decide +kernel
theorem dX10_count_15 : decode cX10_count 15 = .ok (.iload_n 2, 1) := by decide +kernel
theorem dX10_count_16 : decode cX10_count 16 = .ok (.iconst 0, 1) := by decide +kernel
theorem dX10_count_17 : decode cX10_count 17 = .ok (.iload_n 3, 1) := by decide +kernel
theorem dX10_count_18 : decode cX10_count 18 = .ok (.ifCond .eq 11, 3) := by decide +kernel
theorem dX10_count_21 : decode cX10_count 21 = .ok (.aload 4, 2) := by decide +kernel
theorem dX10_count_23 : decode cX10_count 23 = .ok (.getfield 141, 3) := by decide +kernel
theorem dX10_count_26 : decode cX10_count 26 = .ok (.goto 8, 3) := by decide +kernel
theorem dX10_count_29 : decode cX10_count 29 = .ok (.aload 4, 2) := by decide +kernel
theorem dX10_count_31 : decode cX10_count 31 = .ok (.invokevirtual 162, 3) := by decide +kernel
theorem dX10_count_34 : decode cX10_count 34 = .ok (.invokevirtual 165, 3) := by decide +kernel
theorem dX10_count_37 : decode cX10_count 37 = .ok (.ireturn, 1) := by decide +kernel
theorem dX10_same_0 : decode cX10_same 0 = .ok (.aload_n 0, 1) := by decide +kernel
theorem dX10_same_1 : decode cX10_same 1 = .ok (.iload_n 1, 1) := by decide +kernel
theorem dX10_same_2 : decode cX10_same 2 = .ok (.invokevirtual 123, 3) := by decide +kernel
theorem dX10_same_5 : decode cX10_same 5 = .ok (.astore_n 3, 1) := by decide +kernel
theorem dX10_same_6 : decode cX10_same 6 = .ok (.iload_n 2, 1) := by decide +kernel
theorem dX10_same_7 : decode cX10_same 7 = .ok (.iconst 0, 1) := by decide +kernel
theorem dX10_same_8 : decode cX10_same 8 = .ok (.iconst 2, 1) := by decide +kernel
theorem dX10_same_9 : decode cX10_same 9 = .ok (.invokestatic 44, 3) := by decide +kernel
theorem dX10_same_12 : decode cX10_same 12 = .ok (.aload_n 3, 1) := by decide +kernel
theorem dX10_same_13 : decode cX10_same 13 = .ok (.getfield 127, 3) := by decide +kernel
theorem dX10_same_16 : decode cX10_same 16 = .ok (.astore 4, 2) := by decide +kernel
theorem dX10_same_18 : decode cX10_same 18 = .ok (.aload 4, 2) := by decide +kernel
theorem dX10_same_20 : decode cX10_same 20 = .ok (.ifnonnull 5, 3) := by decide +kernel
theorem dX10_same_23 : decode cX10_same 23 = .ok (.iconst 1, 1) := by decide +kernel
theorem dX10_same_24 : decode cX10_same 24 = .ok (.ireturn, 1) := by decide +kernel
theorem dX10_same_25 : decode cX10_same 25 = .ok (.iload_n 2, 1) := by decide +kernel
theorem dX10_same_26 : decode cX10_same 26 = .ok (.lookupswitch 44 #[(0, 26), (1, 35)], 26) := by decide +kernel
theorem dX10_same_52 : decode cX10_same 52 = .ok (.aload 4, 2) := by decide +kernel
theorem dX10_same_54 : decode cX10_same 54 = .ok (.iconst 4, 1) := by decide +kernel
theorem dX10_same_55 : decode cX10_same 55 = .ok (.aload 4, 2) := by decide +kernel
theorem dX10_same_57 : decode cX10_same 57 = .ok (.invokevirtual 169, 3) := by decide +kernel
theorem dX10_same_60 : decode cX10_same 60 = .ok (.ireturn, 1) := by decide +kernel
theorem dX10_same_61 : decode cX10_same 61 = .ok (.aload 4, 2) := by decide +kernel
theorem dX10_same_63 : decode cX10_same 63 = .ok (.iconst 2, 1) := by decide +kernel
theorem dX10_same_64 : decode cX10_same 64 = .ok (.aload 4, 2) := by decide +kernel
theorem dX10_same_66 : decode cX10_same 66 = .ok (.invokevirtual 169, 3) := by decide +kernel
theorem dX10_same_69 : decode cX10_same 69 = .ok (.ireturn, 1) := by decide +kernel
theorem dX10_same_70 : decode cX10_same 70 = .ok (.aload 4, 2) := by decide +kernel
theorem dX10_same_72 : decode cX10_same 72 = .ok (.iconst 1, 1) := by decide +kernel
theorem dX10_same_73 : decode cX10_same 73 = .ok (.aload 4, 2) := by decide +kernel
theorem dX10_same_75 : decode cX10_same 75 = .ok (.invokevirtual 169, 3) := by decide +kernel
theorem dX10_same_78 : decode cX10_same 78 = .ok (.ireturn, 1) := by decide +kernel
theorem dX10_addMember_0 : decode cX10_addMember 0 = .ok (.aload_n 0, 1) := by decide +kernel
theorem dX10_addMember_1 : decode cX10_addMember 1 = .ok (.getfield 19, 3) := by decide +kernel
theorem dX10_addMember_4 : decode cX10_addMember 4 = .ok (.getfield 67, 3) := by decide +kernel
theorem dX10_addMember_7 : decode cX10_addMember 7 = .ok (.iconst 5, 1) := by decide +kernel
theorem dX10_addMember_8 : decode cX10_addMember 8 = .ok (.if_icmp .ge 7, 3) := by decide +kernel
theorem dX10_addMember_11 : decode cX10_addMember 11 = .ok (.iconst 1, 1) := by decide +kernel
theorem dX10_addMember_12 : decode cX10_addMember 12 = .ok (.goto 4, 3) := by decide +kernel
theorem dX10_addMember_15 : decode cX10_addMember 15 = .ok (.iconst 0, 1) := by decide +kernel
theorem dX10_addMember_16 : decode cX10_addMember 16 = .ok (.invokestatic 52, 3) := by decide +kernel
theorem dX10_addMember_19 : decode cX10_addMember 19 = .ok (.aload_n 0, 1) := by decide +kernel
theorem dX10_addMember_20 : decode cX10_addMember 20 = .ok (.getfield 29, 3) := by decide +kernel
theorem dX10_addMember_23 : decode cX10_addMember 23 = .ok (.aload_n 0, 1) := by decide +kernel
theorem dX10_addMember_24 : decode cX10_addMember 24 = .ok (.getfield 19, 3) := by decide +kernel
theorem dX10_addMember_27 : decode cX10_addMember 27 = .ok (.invokevirtual 173, 3) := by decide +kernel
theorem dX10_addMember_30 : decode cX10_addMember 30 = .ok (.aload_n 0, 1) := by decide +kernel
theorem dX10_addMember_31 : decode cX10_addMember 31 = .ok (.getfield 19, 3) := by decide +kernel
theorem dX10_addMember_34 : decode cX10_addMember 34 = .ok (.invokevirtual 177, 3) := by decide +kernel
theorem dX10_addMember_37 : decode cX10_addMember 37 = .ok (.ireturn, 1) := by decide +kernel
theorem dX10_give_0 : decode cX10_give 0 = .ok (.aload_n 0, 1) := by decide +kernel
theorem dX10_give_1 : decode cX10_give 1 = .ok (.iload_n 1, 1) := by decide +kernel
theorem dX10_give_2 : decode cX10_give 2 = .ok (.invokevirtual 91, 3) := by decide +kernel
theorem dX10_give_5 : decode cX10_give 5 = .ok (.astore 4, 2) := by decide +kernel
theorem dX10_give_7 : decode cX10_give 7 = .ok (.aload_n 0, 1) := by decide +kernel
theorem dX10_give_8 : decode cX10_give 8 = .ok (.iload_n 2, 1) := by decide +kernel
theorem dX10_give_9 : decode cX10_give 9 = .ok (.invokevirtual 116, 3) := by decide +kernel
theorem dX10_give_12 : decode cX10_give 12 = .ok (.astore 5, 2) := by decide +kernel
theorem dX10_give_14 : decode cX10_give 14 = .ok (.iload_n 3, 1) := by decide +kernel
theorem dX10_give_15 : decode cX10_give 15 = .ok (.iconst 1, 1) := by decide +kernel
theorem dX10_give_16 : decode cX10_give 16 = .ok (.bipush 99, 2) := by decide +kernel
theorem dX10_give_18 : decode cX10_give 18 = .ok (.invokestatic 44, 3) := by decide +kernel
theorem dX10_give_21 : decode cX10_give 21 = .ok (.aload_n 0, 1) := by decide +kernel
theorem dX10_give_22 : decode cX10_give 22 = .ok (.getfield 29, 3) := by decide +kernel
theorem dX10_give_25 : decode cX10_give 25 = .ok (.aload_n 0, 1) := by decide +kernel
theorem dX10_give_26 : decode cX10_give 26 = .ok (.getfield 19, 3) := by decide +kernel
theorem dX10_give_29 : decode cX10_give 29 = .ok (.invokevirtual 173, 3) := by decide +kernel
theorem dX10_give_32 : decode cX10_give 32 = .ok (.aload_n 0, 1) := by decide +kernel
theorem dX10_give_33 : decode cX10_give 33 = .ok (.getfield 19, 3) := by decide +kernel
theorem dX10_give_36 : decode cX10_give 36 = .ok (.aload 4, 2) := by decide +kernel
theorem dX10_give_38 : decode cX10_give 38 = .ok (.iload_n 2, 1) := by decide +kernel
theorem dX10_give_39 : decode cX10_give 39 = .ok (.iload_n 3, 1) := by decide +kernel
theorem dX10_give_40 : decode cX10_give 40 = .ok (.invokevirtual 180, 3) := by decide +kernel
theorem dX10_give_43 : decode cX10_give 43 = .ok (.aload 5, 2) := by decide +kernel
theorem dX10_give_45 : decode cX10_give 45 = .ok (.getfield 184, 3) := by decide +kernel
theorem dX10_give_48 : decode cX10_give 48 = .ok (.ireturn, 1) := by decide +kernel
theorem dX10_start_0 : decode cX10_start 0 = .ok (.aload_n 0, 1) := by decide +kernel
theorem dX10_start_1 : decode cX10_start 1 = .ok (.iload_n 1, 1) := by decide +kernel
theorem dX10_start_2 : decode cX10_start 2 = .ok (.invokevirtual 123, 3) := by decide +kernel
theorem dX10_start_5 : decode cX10_start 5 = .ok (.astore_n 2, 1) := by decide +kernel
theorem dX10_start_6 : decode cX10_start 6 = .ok (.aload_n 2, 1) := by decide +kernel
theorem dX10_start_7 : decode cX10_start 7 = .ok (.invokevirtual 187, 3) := by decide +kernel
theorem dX10_start_10 : decode cX10_start 10 = .ok (.ifCond .eq 19, 3) := by decide +kernel
theorem dX10_start_13 : decode cX10_start 13 = .ok (.aload_n 0, 1) := by decide +kernel
theorem dX10_start_14 : decode cX10_start 14 = .ok (.getfield 10, 3) := by decide +kernel
theorem dX10_start_17 : decode cX10_start 17 = .ok (.invokevirtual 64, 3) := by decide +kernel
theorem dX10_start_20 : decode cX10_start 20 = .ok (.bipush (-9), 2) := by decide +kernel
theorem dX10_start_22 : decode cX10_start 22 = .ok (.if_icmp .ne 7, 3) := by decide +kernel
theorem dX10_start_25 : decode cX10_start 25 = .ok (.iconst 1, 1) := by decide +kernel
theorem dX10_start_26 : decode cX10_start 26 = .ok (.goto 4, 3) := by decide +kernel
theorem dX10_start_29 : decode cX10_start 29 = .ok (.iconst 0, 1) := by decide +kernel
theorem dX10_start_30 : decode cX10_start 30 = .ok (.invokestatic 52, 3) := by decide +kernel
theorem dX10_start_33 : decode cX10_start 33 = .ok (.aload_n 0, 1) := by decide +kernel
theorem dX10_start_34 : decode cX10_start 34 = .ok (.getfield 29, 3) := by decide +kernel
theorem dX10_start_37 : decode cX10_start 37 = .ok (.aload_n 0, 1) := by decide +kernel
theorem dX10_start_38 : decode cX10_start 38 = .ok (.getfield 19, 3) := by decide +kernel
theorem dX10_start_41 : decode cX10_start 41 = .ok (.invokevirtual 173, 3) := by decide +kernel
theorem dX10_start_44 : decode cX10_start 44 = .ok (.aload_n 2, 1) := by decide +kernel
theorem dX10_start_45 : decode cX10_start 45 = .ok (.aload_n 0, 1) := by decide +kernel
theorem dX10_start_46 : decode cX10_start 46 = .ok (.getfield 10, 3) := by decide +kernel
theorem dX10_start_49 : decode cX10_start 49 = .ok (.invokevirtual 190, 3) := by decide +kernel
theorem dX10_start_52 : decode cX10_start 52 = .ok (.invokevirtual 194, 3) := by decide +kernel
theorem dX10_start_55 : decode cX10_start 55 = .ok (.aload_n 2, 1) := by decide +kernel
theorem dX10_start_56 : decode cX10_start 56 = .ok (.invokevirtual 162, 3) := by decide +kernel
theorem dX10_start_59 : decode cX10_start 59 = .ok (.ireturn, 1) := by decide +kernel
theorem dX10_recolour_0 : decode cX10_recolour 0 = .ok (.aload_n 0, 1) := by decide +kernel
theorem dX10_recolour_1 : decode cX10_recolour 1 = .ok (.iload_n 1, 1) := by decide +kernel
theorem dX10_recolour_2 : decode cX10_recolour 2 = .ok (.invokevirtual 123, 3) := by decide +kernel
theorem dX10_recolour_5 : decode cX10_recolour 5 = .ok (.astore 4, 2) := by decide +kernel
theorem dX10_recolour_7 : decode cX10_recolour 7 = .ok (.aload_n 0, 1) := by decide +kernel
theorem dX10_recolour_8 : decode cX10_recolour 8 = .ok (.iload_n 2, 1) := by decide +kernel
theorem dX10_recolour_9 : decode cX10_recolour 9 = .ok (.invokevirtual 116, 3) := by decide +kernel
theorem dX10_recolour_12 : decode cX10_recolour 12 = .ok (.pop, 1) := by decide +kernel
theorem dX10_recolour_13 : decode cX10_recolour 13 = .ok (.aload_n 0, 1) := by decide +kernel
theorem dX10_recolour_14 : decode cX10_recolour 14 = .ok (.iload_n 3, 1) := by decide +kernel
theorem dX10_recolour_15 : decode cX10_recolour 15 = .ok (.invokevirtual 116, 3) := by decide +kernel
theorem dX10_recolour_18 : decode cX10_recolour 18 = .ok (.pop, 1) := by decide +kernel
theorem dX10_recolour_19 : decode cX10_recolour 19 = .ok (.aload 4, 2) := by decide +kernel
theorem dX10_recolour_21 : decode cX10_recolour 21 = .ok (.invokevirtual 198, 3) := by decide +kernel
theorem dX10_recolour_24 : decode cX10_recolour 24 = .ok (.invokestatic 52, 3) := by decide +kernel
theorem dX10_recolour_27 : decode cX10_recolour 27 = .ok (.aload_n 0, 1) := by decide +kernel
theorem dX10_recolour_28 : decode cX10_recolour 28 = .ok (.getfield 29, 3) := by decide +kernel
theorem dX10_recolour_31 : decode cX10_recolour 31 = .ok (.aload_n 0, 1) := by decide +kernel
theorem dX10_recolour_32 : decode cX10_recolour 32 = .ok (.getfield 19, 3) := by decide +kernel
theorem dX10_recolour_35 : decode cX10_recolour 35 = .ok (.invokevirtual 173, 3) := by decide +kernel
theorem dX10_recolour_38 : decode cX10_recolour 38 = .ok (.aload 4, 2) := by decide +kernel
theorem dX10_recolour_40 : decode cX10_recolour 40 = .ok (.iload_n 2, 1) := by decide +kernel
theorem dX10_recolour_41 : decode cX10_recolour 41 = .ok (.iload_n 3, 1) := by decide +kernel
theorem dX10_recolour_42 : decode cX10_recolour 42 = .ok (.invokevirtual 201, 3) := by decide +kernel
theorem dX10_recolour_45 : decode cX10_recolour 45 = .ok (.ireturn, 1) := by decide +kernel
theorem dX10_sew_0 : decode cX10_sew 0 = .ok (.aload_n 0, 1) := by decide +kernel
theorem dX10_sew_1 : decode cX10_sew 1 = .ok (.iload_n 1, 1) := by decide +kernel
theorem dX10_sew_2 : decode cX10_sew 2 = .ok (.invokevirtual 123, 3) := by decide +kernel
theorem dX10_sew_5 : decode cX10_sew 5 = .ok (.astore_n 3, 1) := by decide +kernel
theorem dX10_sew_6 : decode cX10_sew 6 = .ok (.iload_n 2, 1) := by decide +kernel
theorem dX10_sew_7 : decode cX10_sew 7 = .ok (.iconst 1, 1) := by decide +kernel
theorem dX10_sew_8 : decode cX10_sew 8 = .ok (.bipush 99, 2) := by decide +kernel
theorem dX10_sew_10 : decode cX10_sew 10 = .ok (.invokestatic 44, 3) := by decide +kernel
theorem dX10_sew_13 : decode cX10_sew 13 = .ok (.aload_n 0, 1) := by decide +kernel
theorem dX10_sew_14 : decode cX10_sew 14 = .ok (.getfield 19, 3) := by decide +kernel
theorem dX10_sew_17 : decode cX10_sew 17 = .ok (.aload_n 3, 1) := by decide +kernel
theorem dX10_sew_18 : decode cX10_sew 18 = .ok (.invokevirtual 204, 3) := by decide +kernel
theorem dX10_sew_21 : decode cX10_sew 21 = .ok (.invokestatic 52, 3) := by decide +kernel
theorem dX10_sew_24 : decode cX10_sew 24 = .ok (.aload_n 0, 1) := by decide +kernel
theorem dX10_sew_25 : decode cX10_sew 25 = .ok (.getfield 29, 3) := by decide +kernel
theorem dX10_sew_28 : decode cX10_sew 28 = .ok (.aload_n 0, 1) := by decide +kernel
theorem dX10_sew_29 : decode cX10_sew 29 = .ok (.getfield 19, 3) := by decide +kernel
theorem dX10_sew_32 : decode cX10_sew 32 = .ok (.invokevirtual 173, 3) := by decide +kernel
theorem dX10_sew_35 : decode cX10_sew 35 = .ok (.aload_n 0, 1) := by decide +kernel
theorem dX10_sew_36 : decode cX10_sew 36 = .ok (.getfield 19, 3) := by decide +kernel
theorem dX10_sew_39 : decode cX10_sew 39 = .ok (.aload_n 3, 1) := by decide +kernel
theorem dX10_sew_40 : decode cX10_sew 40 = .ok (.iload_n 2, 1) := by decide +kernel
theorem dX10_sew_41 : decode cX10_sew 41 = .ok (.invokevirtual 208, 3) := by decide +kernel
theorem dX10_sew_44 : decode cX10_sew 44 = .ok (.ireturn, 1) := by decide +kernel
theorem dX10_takeApart_0 : decode cX10_takeApart 0 = .ok (.aload_n 0, 1) := by decide +kernel
theorem dX10_takeApart_1 : decode cX10_takeApart 1 = .ok (.iload_n 1, 1) := by decide +kernel
theorem dX10_takeApart_2 : decode cX10_takeApart 2 = .ok (.invokevirtual 123, 3) := by decide +kernel
theorem dX10_takeApart_5 : decode cX10_takeApart 5 = .ok (.astore_n 2, 1) := by decide +kernel
theorem dX10_takeApart_6 : decode cX10_takeApart 6 = .ok (.aload_n 2, 1) := by decide +kernel
theorem dX10_takeApart_7 : decode cX10_takeApart 7 = .ok (.invokevirtual 187, 3) := by decide +kernel
theorem dX10_takeApart_10 : decode cX10_takeApart 10 = .ok (.ifCond .ne 7, 3) := by decide +kernel
theorem dX10_takeApart_13 : decode cX10_takeApart 13 = .ok (.iconst 1, 1) := by decide +kernel
theorem dX10_takeApart_14 : decode cX10_takeApart 14 = .ok (.goto 4, 3) := by decide +kernel
theorem dX10_takeApart_17 : decode cX10_takeApart 17 = .ok (.iconst 0, 1) := by decide +kernel
theorem dX10_takeApart_18 : decode cX10_takeApart 18 = .ok (.invokestatic 52, 3) := by decide +kernel
theorem dX10_takeApart_21 : decode cX10_takeApart 21 = .ok (.aload_n 0, 1) := by decide +kernel
theorem dX10_takeApart_22 : decode cX10_takeApart 22 = .ok (.getfield 29, 3) := by decide +kernel
theorem dX10_takeApart_25 : decode cX10_takeApart 25 = .ok (.aload_n 0, 1) := by decide +kernel
theorem dX10_takeApart_26 : decode cX10_takeApart 26 = .ok (.getfield 19, 3) := by decide +kernel
theorem dX10_takeApart_29 : decode cX10_takeApart 29 = .ok (.invokevirtual 173, 3) := by decide +kernel
theorem dX10_takeApart_32 : decode cX10_takeApart 32 = .ok (.aload_n 0, 1) := by decide +kernel
theorem dX10_takeApart_33 : decode cX10_takeApart 33 = .ok (.getfield 19, 3) := by decide +kernel
theorem dX10_takeApart_36 : decode cX10_takeApart 36 = .ok (.aload_n 2, 1) := by decide +kernel
theorem dX10_takeApart_37 : decode cX10_takeApart 37 = .ok (.invokevirtual 212, 3) := by decide +kernel
theorem dX10_takeApart_40 : decode cX10_takeApart 40 = .ok (.ireturn, 1) := by decide +kernel
theorem dX10_raffle_0 : decode cX10_raffle 0 = .ok (.aload_n 0, 1) := by decide +kernel
theorem dX10_raffle_1 : decode cX10_raffle 1 = .ok (.iload_n 1, 1) := by decide +kernel
theorem dX10_raffle_2 : decode cX10_raffle 2 = .ok (.invokevirtual 123, 3) := by decide +kernel
theorem dX10_raffle_5 : decode cX10_raffle 5 = .ok (.astore_n 3, 1) := by decide +kernel
theorem dX10_raffle_6 : decode cX10_raffle 6 = .ok (.iload_n 2, 1) := by decide +kernel
theorem dX10_raffle_7 : decode cX10_raffle 7 = .ok (.iconst 0, 1) := by decide +kernel
theorem dX10_raffle_8 : decode cX10_raffle 8 = .ok (.sipush 9999, 3) := by decide +kernel
theorem dX10_raffle_11 : decode cX10_raffle 11 = .ok (.invokestatic 44, 3) := by decide +kernel
theorem dX10_raffle_14 : decode cX10_raffle 14 = .ok (.aload_n 3, 1) := by decide +kernel
theorem dX10_raffle_15 : decode cX10_raffle 15 = .ok (.invokevirtual 216, 3) := by decide +kernel
theorem dX10_raffle_18 : decode cX10_raffle 18 = .ok (.invokestatic 52, 3) := by decide +kernel
theorem dX10_raffle_21 : decode cX10_raffle 21 = .ok (.aload_n 0, 1) := by decide +kernel
theorem dX10_raffle_22 : decode cX10_raffle 22 = .ok (.getfield 29, 3) := by decide +kernel
theorem dX10_raffle_25 : decode cX10_raffle 25 = .ok (.aload_n 0, 1) := by decide +kernel
theorem dX10_raffle_26 : decode cX10_raffle 26 = .ok (.getfield 19, 3) := by decide +kernel
theorem dX10_raffle_29 : decode cX10_raffle 29 = .ok (.invokevirtual 173, 3) := by decide +kernel
theorem dX10_raffle_32 : decode cX10_raffle 32 = .ok (.aload_n 0, 1) := by decide +kernel
theorem dX10_raffle_33 : decode cX10_raffle 33 = .ok (.getfield 19, 3) := by decide +kernel
theorem dX10_raffle_36 : decode cX10_raffle 36 = .ok (.aload_n 3, 1) := by decide +kernel
theorem dX10_raffle_37 : decode cX10_raffle 37 = .ok (.iload_n 2, 1) := by decide +kernel
theorem dX10_raffle_38 : decode cX10_raffle 38 = .ok (.invokevirtual 219, 3) := by decide +kernel
theorem dX10_raffle_41 : decode cX10_raffle 41 = .ok (.ireturn, 1) := by decide +kernel
theorem dX10_returnCloth_0 : decode cX10_returnCloth 0 = .ok (.aload_n 0, 1) := by decide +kernel
theorem dX10_returnCloth_1 : decode cX10_returnCloth 1 = .ok (.getfield 29, 3) := by decide +kernel
theorem dX10_returnCloth_4 : decode cX10_returnCloth 4 = .ok (.aload_n 0, 1) := by decide +kernel
