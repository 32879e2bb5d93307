theorem dX0_init_0 : decode cX0_init 0 = .ok (.aload_n 0, 1) := by decide +kernel
theorem dX0_init_1 : decode cX0_init 1 = .ok (.invokespecial 1, 3) := by decide +kernel
theorem dX0_init_4 : decode cX0_init 4 = .ok (.return_, 1) := by decide +kernel
theorem dX0_pieces_0 : decode cX0_pieces 0 = .ok (.iload_n 1, 1) := by decide +kernel
theorem dX0_pieces_1 : decode cX0_pieces 1 = .ok (.tableswitch 51 0 3 #[31, 36, 41, 46], 31) := by decide +kernel
theorem dX0_pieces_32 : decode cX0_pieces 32 = .ok (.aload_n 0, 1) := by decide +kernel
theorem dX0_pieces_33 : decode cX0_pieces 33 = .ok (.getfield 7, 3) := by decide +kernel
theorem dX0_pieces_36 : decode cX0_pieces 36 = .ok (.ireturn, 1) := by decide +kernel
theorem dX0_pieces_37 : decode cX0_pieces 37 = .ok (.aload_n 0, 1) := by decide +kernel
theorem dX0_pieces_38 : decode cX0_pieces 38 = .ok (.getfield 13, 3) := by decide +kernel
theorem dX0_pieces_41 : decode cX0_pieces 41 = .ok (.ireturn, 1) := by decide +kernel
theorem dX0_pieces_42 : decode cX0_pieces 42 = .ok (.aload_n 0, 1) := by decide +kernel
theorem dX0_pieces_43 : decode cX0_pieces 43 = .ok (.getfield 16, 3) := by decide +kernel
theorem dX0_pieces_46 : decode cX0_pieces 46 = .ok (.ireturn, 1) := by decide +kernel
theorem dX0_pieces_47 : decode cX0_pieces 47 = .ok (.aload_n 0, 1) := by decide +kernel
theorem dX0_pieces_48 : decode cX0_pieces 48 = .ok (.getfield 19, 3) := by decide +kernel
theorem dX0_pieces_51 : decode cX0_pieces 51 = .ok (.ireturn, 1) := by decide +kernel
theorem dX0_pieces_52 : decode cX0_pieces 52 = .ok (.aload_n 0, 1) := by decide +kernel
theorem dX0_pieces_53 : decode cX0_pieces 53 = .ok (.getfield 22, 3) := by decide +kernel
theorem dX0_pieces_56 : decode cX0_pieces 56 = .ok (.ireturn, 1) := by decide +kernel
theorem dX0_copyFrom_0 : decode cX0_copyFrom 0 = .ok (.aload_n 0, 1) := by decide +kernel
theorem dX0_copyFrom_1 : decode cX0_copyFrom 1 = .ok (.aload_n 1, 1) := by decide +kernel
theorem dX0_copyFrom_2 : decode cX0_copyFrom 2 = .ok (.getfield 7, 3) := by decide +kernel
theorem dX0_copyFrom_5 : decode cX0_copyFrom 5 = .ok (.putfield 7, 3) := by decide +kernel
theorem dX0_copyFrom_8 : decode cX0_copyFrom 8 = .ok (.aload_n 0, 1) := by decide +kernel
theorem dX0_copyFrom_9 : decode cX0_copyFrom 9 = .ok (.aload_n 1, 1) := by decide +kernel
theorem dX0_copyFrom_10 : decode cX0_copyFrom 10 = .ok (.getfield 13, 3) := by decide +kernel
theorem dX0_copyFrom_13 : decode cX0_copyFrom 13 = .ok (.putfield 13, 3) := by decide +kernel
theorem dX0_copyFrom_16 : decode cX0_copyFrom 16 = .ok (.aload_n 0, 1) := by decide +kernel
theorem dX0_copyFrom_17 : decode cX0_copyFrom 17 = .ok (.aload_n 1, 1) := by decide +kernel
theorem dX0_copyFrom_18 : decode cX0_copyFrom 18 = .ok (.getfield 16, 3) := by decide +kernel
theorem dX0_copyFrom_21 : decode cX0_copyFrom 21 = .ok (.putfield 16, 3) := by decide +kernel
theorem dX0_copyFrom_24 : decode cX0_copyFrom 24 = .ok (.aload_n 0, 1) := by decide +kernel
theorem dX0_copyFrom_25 : decode cX0_copyFrom 25 = .ok (.aload_n 1, 1) := by decide +kernel
theorem dX0_copyFrom_26 : decode cX0_copyFrom 26 = .ok (.getfield 19, 3) := by decide +kernel
theorem dX0_copyFrom_29 : decode cX0_copyFrom 29 = .ok (.putfield 19, 3) := by decide +kernel
theorem dX0_copyFrom_32 : decode cX0_copyFrom 32 = .ok (.aload_n 0, 1) := by decide +kernel
theorem dX0_copyFrom_33 : decode cX0_copyFrom 33 = .ok (.aload_n 1, 1) := by decide +kernel
theorem dX0_copyFrom_34 : decode cX0_copyFrom 34 = .ok (.getfield 22, 3) := by decide +kernel
theorem dX0_copyFrom_37 : decode cX0_copyFrom 37 = .ok (.putfield 22, 3) := by decide +kernel
theorem dX0_copyFrom_40 : decode cX0_copyFrom 40 = .ok (.return_, 1) := by decide +kernel
theorem dX1_init_0 : decode cX1_init 0 = .ok (.aload_n 0, 1) := by decide +kernel
theorem dX1_init_1 : decode cX1_init 1 = .ok (.invokespecial 3, 3) := by decide +kernel
theorem dX1_init_4 : decode cX1_init 4 = .ok (.aload_n 0, 1) := by decide +kernel
theorem dX1_init_5 : decode cX1_init 5 = .ok (.iconst 5, 1) := by decide +kernel
theorem dX1_init_6 : decode cX1_init 6 = .ok (.newarray .int, 2) := by decide +kernel
theorem dX1_init_8 : decode cX1_init 8 = .ok (.putfield 9, 3) := by decide +kernel
theorem dX1_init_11 : decode cX1_init 11 = .ok (.return_, 1) := by decide +kernel
theorem dX1_isEmpty_0 : decode cX1_isEmpty 0 = .ok (.aload_n 0, 1) := by decide +kernel
theorem dX1_isEmpty_1 : decode cX1_isEmpty 1 = .ok (.getfield 15, 3) := by decide +kernel
theorem dX1_isEmpty_4 : decode cX1_isEmpty 4 = .ok (.ifnonnull 7, 3) := by decide +kernel
theorem dX1_isEmpty_7 : decode cX1_isEmpty 7 = .ok (.iconst 1, 1) := by decide +kernel
theorem dX1_isEmpty_8 : decode cX1_isEmpty 8 = .ok (.goto 4, 3) := by decide +kernel
theorem dX1_isEmpty_11 : decode cX1_isEmpty 11 = .ok (.iconst 0, 1) := by decide +kernel
theorem dX1_isEmpty_12 : decode cX1_isEmpty 12 = .ok (.ireturn, 1) := by decide +kernel
theorem dX1_isFinished_0 : decode cX1_isFinished 0 = .ok (.aload_n 0, 1) := by decide +kernel
theorem dX1_isFinished_1 : decode cX1_isFinished 1 = .ok (.getfield 15, 3) := by decide +kernel
theorem dX1_isFinished_4 : decode cX1_isFinished 4 = .ok (.ifnull 18, 3) := by decide +kernel
theorem dX1_isFinished_7 : decode cX1_isFinished 7 = .ok (.aload_n 0, 1) := by decide +kernel
theorem dX1_isFinished_8 : decode cX1_isFinished 8 = .ok (.getfield 19, 3) := by decide +kernel
theorem dX1_isFinished_11 : decode cX1_isFinished 11 = .ok (.aload_n 0, 1) := by decide +kernel
theorem dX1_isFinished_12 : decode cX1_isFinished 12 = .ok (.invokevirtual 23, 3) := by decide +kernel
theorem dX1_isFinished_15 : decode cX1_isFinished 15 = .ok (.if_icmp .lt 7, 3) := by decide +kernel
theorem dX1_isFinished_18 : decode cX1_isFinished 18 = .ok (.iconst 1, 1) := by decide +kernel
theorem dX1_isFinished_19 : decode cX1_isFinished 19 = .ok (.goto 4, 3) := by decide +kernel
theorem dX1_isFinished_22 : decode cX1_isFinished 22 = .ok (.iconst 0, 1) := by decide +kernel
theorem dX1_isFinished_23 : decode cX1_isFinished 23 = .ok (.ireturn, 1) := by decide +kernel
theorem dX1_canBeRecoloured_0 : decode cX1_canBeRecoloured 0 = .ok (.aload_n 0, 1) := by decide +kernel
theorem dX1_canBeRecoloured_1 : decode cX1_canBeRecoloured 1 = .ok (.getfield 15, 3) := by decide +kernel
theorem dX1_canBeRecoloured_4 : decode cX1_canBeRecoloured 4 = .ok (.ifnull 14, 3) := by decide +kernel
theorem dX1_canBeRecoloured_7 : decode cX1_canBeRecoloured 7 = .ok (.aload_n 0, 1) := by decide +kernel
theorem dX1_canBeRecoloured_8 : decode cX1_canBeRecoloured 8 = .ok (.getfield 19, 3) := by decide +kernel
theorem dX1_canBeRecoloured_11 : decode cX1_canBeRecoloured 11 = .ok (.ifCond .ne 7, 3) := by decide +kernel
theorem dX1_canBeRecoloured_14 : decode cX1_canBeRecoloured 14 = .ok (.iconst 1, 1) := by decide +kernel
theorem dX1_canBeRecoloured_15 : decode cX1_canBeRecoloured 15 = .ok (.goto 4, 3) := by decide +kernel
theorem dX1_canBeRecoloured_18 : decode cX1_canBeRecoloured 18 = .ok (.iconst 0, 1) := by decide +kernel
theorem dX1_canBeRecoloured_19 : decode cX1_canBeRecoloured 19 = .ok (.ireturn, 1) := by decide +kernel
theorem dX1_patches_0 : decode cX1_patches 0 = .ok (.aload_n 0, 1) := by decide +kernel
theorem dX1_patches_1 : decode cX1_patches 1 = .ok (.getfield 15, 3) := by decide +kernel
theorem dX1_patches_4 : decode cX1_patches 4 = .ok (.ifnonnull 7, 3) := by decide +kernel
theorem dX1_patches_7 : decode cX1_patches 7 = .ok (.iconst 0, 1) := by decide +kernel
theorem dX1_patches_8 : decode cX1_patches 8 = .ok (.goto 10, 3) := by decide +kernel
theorem dX1_patches_11 : decode cX1_patches 11 = .ok (.aload_n 0, 1) := by decide +kernel
theorem dX1_patches_12 : decode cX1_patches 12 = .ok (.getfield 15, 3) := by decide +kernel
theorem dX1_patches_15 : decode cX1_patches 15 = .ok (.invokevirtual 27, 3) := by decide +kernel
theorem dX1_patches_18 : decode cX1_patches 18 = .ok (.ireturn, 1) := by decide +kernel
theorem dX1_patchesOf_0 : decode cX1_patchesOf 0 = .ok (.aload_n 0, 1) := by decide +kernel
theorem dX1_patchesOf_1 : decode cX1_patchesOf 1 = .ok (.getfield 15, 3) := by decide +kernel
theorem dX1_patchesOf_4 : decode cX1_patchesOf 4 = .ok (.ifnonnull 7, 3) := by decide +kernel
theorem dX1_patchesOf_7 : decode cX1_patchesOf 7 = .ok (.iconst 0, 1) := by decide +kernel
theorem dX1_patchesOf_8 : decode cX1_patchesOf 8 = .ok (.goto 13, 3) := by decide +kernel
theorem dX1_patchesOf_11 : decode cX1_patchesOf 11 = .ok (.aload_n 0, 1) := by decide +kernel
theorem dX1_patchesOf_12 : decode cX1_patchesOf 12 = .ok (.getfield 15, 3) := by decide +kernel
theorem dX1_patchesOf_15 : decode cX1_patchesOf 15 = .ok (.iload_n 1, 1) := by decide +kernel
theorem dX1_patchesOf_16 : decode cX1_patchesOf 16 = .ok (.iload_n 2, 1) := by decide +kernel
theorem dX1_patchesOf_17 : decode cX1_patchesOf 17 = .ok (.iload_n 3, 1) := by decide +kernel
theorem dX1_patchesOf_18 : decode cX1_patchesOf 18 = .ok (.invokevirtual 30, 3) := by decide +kernel
theorem dX1_patchesOf_21 : decode cX1_patchesOf 21 = .ok (.ireturn, 1) := by decide +kernel
theorem dX1_colourOfNext_0 : decode cX1_colourOfNext 0 = .ok (.aload_n 0, 1) := by decide +kernel
theorem dX1_colourOfNext_1 : decode cX1_colourOfNext 1 = .ok (.getfield 15, 3) := by decide +kernel
theorem dX1_colourOfNext_4 : decode cX1_colourOfNext 4 = .ok (.ifnonnull 8, 3) := by decide +kernel
theorem dX1_colourOfNext_7 : decode cX1_colourOfNext 7 = .ok (.bipush (-9), 2) := by decide +kernel
theorem dX1_colourOfNext_9 : decode cX1_colourOfNext 9 = .ok (.goto 14, 3) := by decide +kernel
theorem dX1_colourOfNext_12 : decode cX1_colourOfNext 12 = .ok (.aload_n 0, 1) := by decide +kernel
theorem dX1_colourOfNext_13 : decode cX1_colourOfNext 13 = .ok (.getfield 15, 3) := by decide +kernel
theorem dX1_colourOfNext_16 : decode cX1_colourOfNext 16 = .ok (.aload_n 0, 1) := by decide +kernel
theorem dX1_colourOfNext_17 : decode cX1_colourOfNext 17 = .ok (.getfield 19, 3) := by decide +kernel
theorem dX1_colourOfNext_20 : decode cX1_colourOfNext 20 = .ok (.invokevirtual 34, 3) := by decide +kernel
theorem dX1_colourOfNext_23 : decode cX1_colourOfNext 23 = .ok (.ireturn, 1) := by decide +kernel
theorem dX1_putOn_0 : decode cX1_putOn 0 = .ok (.aload_n 0, 1) := by decide +kernel
theorem dX1_putOn_1 : decode cX1_putOn 1 = .ok (.aload_n 1, 1) := by decide +kernel
theorem dX1_putOn_2 : decode cX1_putOn 2 = .ok (.putfield 15, 3) := by decide +kernel
theorem dX1_putOn_5 : decode cX1_putOn 5 = .ok (.aload_n 0, 1) := by decide +kernel
theorem dX1_putOn_6 : decode cX1_putOn 6 = .ok (.iconst 0, 1) := by decide +kernel
theorem dX1_putOn_7 : decode cX1_putOn 7 = .ok (.putfield 19, 3) := by decide +kernel
theorem dX1_putOn_10 : decode cX1_putOn 10 = .ok (.aload_n 0, 1) := by decide +kernel
theorem dX1_putOn_11 : decode cX1_putOn 11 = .ok (.getfield 9, 3) := by decide +kernel
theorem dX1_putOn_14 : decode cX1_putOn 14 = .ok (.invokestatic 38, 3) := by decide +kernel
theorem dX1_putOn_17 : decode cX1_putOn 17 = .ok (.return_, 1) := by decide +kernel
theorem dX1_exchangeColours_0 : decode cX1_exchangeColours 0 = .ok (.aload_n 0, 1) := by decide +kernel
theorem dX1_exchangeColours_1 : decode cX1_exchangeColours 1 = .ok (.getfield 15, 3) := by decide +kernel
theorem dX1_exchangeColours_4 : decode cX1_exchangeColours 4 = .ok (.ifnull 8, 3) := by decide +kernel
theorem dX1_exchangeColours_7 : decode cX1_exchangeColours 7 = .ok (.iload_n 1, 1) := by decide +kernel
theorem dX1_exchangeColours_8 : decode cX1_exchangeColours 8 = .ok (.iload_n 2, 1) := by decide +kernel
theorem dX1_exchangeColours_9 : decode cX1_exchangeColours 9 = .ok (.if_icmp .ne 5, 3) := by decide +kernel
theorem dX1_exchangeColours_12 : decode cX1_exchangeColours 12 = .ok (.iconst 0, 1) := by decide +kernel
theorem dX1_exchangeColours_13 : decode cX1_exchangeColours 13 = .ok (.ireturn, 1) := by decide +kernel
theorem dX1_exchangeColours_14 : decode cX1_exchangeColours 14 = .ok (.aload_n 0, 1) := by decide +kernel
theorem dX1_exchangeColours_15 : decode cX1_exchangeColours 15 = .ok (.aload_n 0, 1) := by decide +kernel
theorem dX1_exchangeColours_16 : decode cX1_exchangeColours 16 = .ok (.getfield 15, 3) := by decide +kernel
theorem dX1_exchangeColours_19 : decode cX1_exchangeColours 19 = .ok (.iload_n 1, 1) := by decide +kernel
theorem dX1_exchangeColours_20 : decode cX1_exchangeColours 20 = .ok (.iload_n 2, 1) := by decide +kernel
theorem dX1_exchangeColours_21 : decode cX1_exchangeColours 21 = .ok (.invokevirtual 44, 3) := by decide +kernel
theorem dX1_exchangeColours_24 : decode cX1_exchangeColours 24 = .ok (.putfield 15, 3) := by decide +kernel
theorem dX1_exchangeColours_27 : decode cX1_exchangeColours 27 = .ok (.aload_n 0, 1) := by decide +kernel
theorem dX1_exchangeColours_28 : decode cX1_exchangeColours 28 = .ok (.iload_n 1, 1) := by decide +kernel
theorem dX1_exchangeColours_29 : decode cX1_exchangeColours 29 = .ok (.iconst 0, 1) := by decide +kernel
theorem dX1_exchangeColours_30 : decode cX1_exchangeColours 30 = .ok (.aload_n 0, 1) := by decide +kernel
theorem dX1_exchangeColours_31 : decode cX1_exchangeColours 31 = .ok (.invokevirtual 23, 3) := by decide +kernel
theorem dX1_exchangeColours_34 : decode cX1_exchangeColours 34 = .ok (.invokevirtual 48, 3) := by decide +kernel
theorem dX1_exchangeColours_37 : decode cX1_exchangeColours 37 = .ok (.aload_n 0, 1) := by decide +kernel
theorem dX1_exchangeColours_38 : decode cX1_exchangeColours 38 = .ok (.iload_n 2, 1) := by decide +kernel
theorem dX1_exchangeColours_39 : decode cX1_exchangeColours 39 = .ok (.iconst 0, 1) := by decide +kernel
theorem dX1_exchangeColours_40 : decode cX1_exchangeColours 40 = .ok (.aload_n 0, 1) := by decide +kernel
theorem dX1_exchangeColours_41 : decode cX1_exchangeColours 41 = .ok (.invokevirtual 23, 3) := by decide +kernel
theorem dX1_exchangeColours_44 : decode cX1_exchangeColours 44 = .ok (.invokevirtual 48, 3) := by decide +kernel
theorem dX1_exchangeColours_47 : decode cX1_exchangeColours 47 = .ok (.iadd, 1) := by decide +kernel
theorem dX1_exchangeColours_48 : decode cX1_exchangeColours 48 = .ok (.ireturn, 1) := by decide +kernel
theorem dX1_shareOf_0 : decode cX1_shareOf 0 = .ok (.aload_n 0, 1) := by decide +kernel
theorem dX1_shareOf_1 : decode cX1_shareOf 1 = .ok (.invokevirtual 23, 3) := by decide +kernel
theorem dX1_shareOf_4 : decode cX1_shareOf 4 = .ok (.istore_n 3, 1) := by decide +kernel
theorem dX1_shareOf_5 : decode cX1_shareOf 5 = .ok (.iload_n 3, 1) := by decide +kernel
theorem dX1_shareOf_6 : decode cX1_shareOf 6 = .ok (.ifCond .gt 5, 3) := by decide +kernel
theorem dX1_shareOf_9 : decode cX1_shareOf 9 = .ok (.iconst 0, 1) := by decide +kernel
theorem dX1_shareOf_10 : decode cX1_shareOf 10 = .ok (.ireturn, 1) := by decide +kernel
theorem dX1_shareOf_11 : decode cX1_shareOf 11 = .ok (.iload_n 2, 1) := by decide +kernel
theorem dX1_shareOf_12 : decode cX1_shareOf 12 = .ok (.aload_n 0, 1) := by decide +kernel
theorem dX1_shareOf_13 : decode cX1_shareOf 13 = .ok (.getfield 9, 3) := by decide +kernel
theorem dX1_shareOf_16 : decode cX1_shareOf 16 = .ok (.iload_n 1, 1) := by decide +kernel
theorem dX1_shareOf_17 : decode cX1_shareOf 17 = .ok (.invokestatic 49, 3) := by decide +kernel
theorem dX1_shareOf_20 : decode cX1_shareOf 20 = .ok (.imul, 1) := by decide +kernel
theorem dX1_shareOf_21 : decode cX1_shareOf 21 = .ok (.istore 4, 2) := by decide +kernel
theorem dX1_shareOf_23 : decode cX1_shareOf 23 = .ok (.iload_n 2, 1) := by decide +kernel
theorem dX1_shareOf_24 : decode cX1_shareOf 24 = .ok (.istore 5, 2) := by decide +kernel
theorem dX1_shareOf_26 : decode cX1_shareOf 26 = .ok (.iconst 0, 1) := by decide +kernel
theorem dX1_shareOf_27 : decode cX1_shareOf 27 = .ok (.istore 6, 2) := by decide +kernel
theorem dX1_shareOf_29 : decode cX1_shareOf 29 = .ok (.iconst 0, 1) := by decide +kernel
theorem dX1_shareOf_30 : decode cX1_shareOf 30 = .ok (.istore 7, 2) := by decide +kernel
theorem dX1_shareOf_32 : decode cX1_shareOf 32 = .ok (.iload 7, 2) := by decide +kernel
theorem dX1_shareOf_34 : decode cX1_shareOf 34 = .ok (.iconst 5, 1) := by decide +kernel
theorem dX1_shareOf_35 : decode cX1_shareOf 35 = .ok (.if_icmp .ge 61, 3) := by decide +kernel
theorem dX1_shareOf_38 : decode cX1_shareOf 38 = .ok (.iload_n 2, 1) := by decide +kernel
theorem dX1_shareOf_39 : decode cX1_shareOf 39 = .ok (.aload_n 0, 1) := by decide +kernel
theorem dX1_shareOf_40 : decode cX1_shareOf 40 = .ok (.getfield 9, 3) := by decide +kernel
theorem dX1_shareOf_43 : decode cX1_shareOf 43 = .ok (.iload 7, 2) := by decide +kernel
theorem dX1_shareOf_45 : decode cX1_shareOf 45 = .ok (.invokestatic 49, 3) := by decide +kernel
theorem dX1_shareOf_48 : decode cX1_shareOf 48 = .ok (.imul, 1) := by decide +kernel
theorem dX1_shareOf_49 : decode cX1_shareOf 49 = .ok (.istore 8, 2) := by decide +kernel
theorem dX1_shareOf_51 : decode cX1_shareOf 51 = .ok (.iload 5, 2) := by decide +kernel
theorem dX1_shareOf_53 : decode cX1_shareOf 53 = .ok (.iload 8, 2) := by decide +kernel
theorem dX1_shareOf_55 : decode cX1_shareOf 55 = .ok (.iload_n 3, 1) := by decide +kernel
theorem dX1_shareOf_56 : decode cX1_shareOf 56 = .ok (.idiv, 1) := by decide +kernel
theorem dX1_shareOf_57 : decode cX1_shareOf 57 = .ok (.isub, 1) := by decide +kernel
theorem dX1_shareOf_58 : decode cX1_shareOf 58 = .ok (.istore 5, 2) := by decide +kernel
theorem dX1_shareOf_60 : decode cX1_shareOf 60 = .ok (.iload 8, 2) := by decide +kernel
theorem dX1_shareOf_62 : decode cX1_shareOf 62 = .ok (.iload_n 3, 1) := by decide +kernel
theorem dX1_shareOf_63 : decode cX1_shareOf 63 = .ok (.irem, 1) := by decide +kernel
theorem dX1_shareOf_64 : decode cX1_shareOf 64 = .ok (.iload 4, 2) := by decide +kernel
theorem dX1_shareOf_66 : decode cX1_shareOf 66 = .ok (.iload_n 3, 1) := by decide +kernel
theorem dX1_shareOf_67 : decode cX1_shareOf 67 = .ok (.irem, 1) := by decide +kernel
theorem dX1_shareOf_68 : decode cX1_shareOf 68 = .ok (.isub, 1) := by decide +kernel
theorem dX1_shareOf_69 : decode cX1_shareOf 69 = .ok (.istore 9, 2) := by decide +kernel
theorem dX1_shareOf_71 : decode cX1_shareOf 71 = .ok (.iload 9, 2) := by decide +kernel
theorem dX1_shareOf_73 : decode cX1_shareOf 73 = .ok (.ifCond .gt 14, 3) := by decide +kernel
theorem dX1_shareOf_76 : decode cX1_shareOf 76 = .ok (.iload 9, 2) := by decide +kernel
theorem dX1_shareOf_78 : decode cX1_shareOf 78 = .ok (.ifCond .ne 12, 3) := by decide +kernel
theorem dX1_shareOf_81 : decode cX1_shareOf 81 = .ok (.iload 7, 2) := by decide +kernel
theorem dX1_shareOf_83 : decode cX1_shareOf 83 = .ok (.iload_n 1, 1) := by decide +kernel
theorem dX1_shareOf_84 : decode cX1_shareOf 84 = .ok (.if_icmp .ge 6, 3) := by decide +kernel
theorem dX1_shareOf_87 : decode cX1_shareOf 87 = .ok (.iinc 6 1, 3) := by decide +kernel
theorem dX1_shareOf_90 : decode cX1_shareOf 90 = .ok (.iinc 7 1, 3) := by decide +kernel
theorem dX1_shareOf_93 : decode cX1_shareOf 93 = .ok (.goto (-61), 3) := by decide +kernel
theorem dX1_shareOf_96 : decode cX1_shareOf 96 = .ok (.iload 4, 2) := by decide +kernel
theorem dX1_shareOf_98 : decode cX1_shareOf 98 = .ok (.iload_n 3, 1) := by decide +kernel
theorem dX1_shareOf_99 : decode cX1_shareOf 99 = .ok (.idiv, 1) := by decide +kernel
theorem dX1_shareOf_100 : decode cX1_shareOf 100 = .ok (.iload 6, 2) := by decide +kernel
theorem dX1_shareOf_102 : decode cX1_shareOf 102 = .ok (.iload 5, 2) := by decide +kernel
theorem dX1_shareOf_104 : decode cX1_shareOf 104 = .ok (.if_icmp .ge 7, 3) := by decide +kernel
theorem dX1_shareOf_107 : decode cX1_shareOf 107 = .ok (.iconst 1, 1) := by decide +kernel
theorem dX1_shareOf_108 : decode cX1_shareOf 108 = .ok (.goto 4, 3) := by decide +kernel
theorem dX1_shareOf_111 : decode cX1_shareOf 111 = .ok (.iconst 0, 1) := by decide +kernel
theorem dX1_shareOf_112 : decode cX1_shareOf 112 = .ok (.iadd, 1) := by decide +kernel
theorem dX1_shareOf_113 : decode cX1_shareOf 113 = .ok (.ireturn, 1) := by decide +kernel
theorem dX1_copyFrom_0 : decode cX1_copyFrom 0 = .ok (.aload_n 0, 1) := by decide +kernel
theorem dX1_copyFrom_1 : decode cX1_copyFrom 1 = .ok (.aload_n 1, 1) := by decide +kernel
theorem dX1_copyFrom_2 : decode cX1_copyFrom 2 = .ok (.getfield 15, 3) := by decide +kernel
theorem dX1_copyFrom_5 : decode cX1_copyFrom 5 = .ok (.putfield 15, 3) := by decide +kernel
theorem dX1_copyFrom_8 : decode cX1_copyFrom 8 = .ok (.aload_n 0, 1) := by decide +kernel
theorem dX1_copyFrom_9 : decode cX1_copyFrom 9 = .ok (.aload_n 1, 1) := by decide +kernel
theorem dX1_copyFrom_10 : decode cX1_copyFrom 10 = .ok (.getfield 19, 3) := by decide +kernel
theorem dX1_copyFrom_13 : decode cX1_copyFrom 13 = .ok (.putfield 19, 3) := by decide +kernel
theorem dX1_copyFrom_16 : decode cX1_copyFrom 16 = .ok (.aload_n 1, 1) := by decide +kernel
theorem dX1_copyFrom_17 : decode cX1_copyFrom 17 = .ok (.getfield 9, 3) := by decide +kernel
theorem dX1_copyFrom_20 : decode cX1_copyFrom 20 = .ok (.aload_n 0, 1) := by decide +kernel
theorem dX1_copyFrom_21 : decode cX1_copyFrom 21 = .ok (.getfield 9, 3) := by decide +kernel
theorem dX1_copyFrom_24 : decode cX1_copyFrom 24 = .ok (.invokestatic 53, 3) := by decide +kernel
theorem dX1_copyFrom_27 : decode cX1_copyFrom 27 = .ok (.return_, 1) := by decide +kernel
theorem dX2_init_0 : decode cX2_init 0 = .ok (.aload_n 0, 1) := by decide +kernel
theorem dX2_init_1 : decode cX2_init 1 = .ok (.invokespecial 3, 3) := by decide +kernel
theorem dX2_init_4 : decode cX2_init 4 = .ok (.aload_n 0, 1) := by decide +kernel
theorem dX2_init_5 : decode cX2_init 5 = .ok (.bipush 14, 2) := by decide +kernel
theorem dX2_init_7 : decode cX2_init 7 = .ok (.anewarray 9, 3) := by decide +kernel
theorem dX2_init_10 : decode cX2_init 10 = .ok (.putfield 11, 3) := by decide +kernel
theorem dX2_init_13 : decode cX2_init 13 = .ok (.return_, 1) := by decide +kernel
theorem dX2_remember_0 : decode cX2_remember 0 = .ok (.aload_n 0, 1) := by decide +kernel
theorem dX2_remember_1 : decode cX2_remember 1 = .ok (.getfield 11, 3) := by decide +kernel
theorem dX2_remember_4 : decode cX2_remember 4 = .ok (.aload_n 0, 1) := by decide +kernel
theorem dX2_remember_5 : decode cX2_remember 5 = .ok (.getfield 17, 3) := by decide +kernel
theorem dX2_remember_8 : decode cX2_remember 8 = .ok (.aload_n 1, 1) := by decide +kernel
theorem dX2_remember_9 : decode cX2_remember 9 = .ok (.invokestatic 21, 3) := by decide +kernel
theorem dX2_remember_12 : decode cX2_remember 12 = .ok (.aload_n 0, 1) := by decide +kernel
theorem dX2_remember_13 : decode cX2_remember 13 = .ok (.aload_n 0, 1) := by decide +kernel
theorem dX2_remember_14 : decode cX2_remember 14 = .ok (.getfield 17, 3) := by decide +kernel
theorem dX2_remember_17 : decode cX2_remember 17 = .ok (.iconst 1, 1) := by decide +kernel
theorem dX2_remember_18 : decode cX2_remember 18 = .ok (.iadd, 1) := by decide +kernel
theorem dX2_remember_19 : decode cX2_remember 19 = .ok (.bipush 14, 2) := by decide +kernel
theorem dX2_remember_21 : decode cX2_remember 21 = .ok (.if_icmp .ge 12, 3) := by decide +kernel
theorem dX2_remember_24 : decode cX2_remember 24 = .ok (.aload_n 0, 1) := by decide +kernel
theorem dX2_remember_25 : decode cX2_remember 25 = .ok (.getfield 17, 3) := by decide +kernel
theorem dX2_remember_28 : decode cX2_remember 28 = .ok (.iconst 1, 1) := by decide +kernel
theorem dX2_remember_29 : decode cX2_remember 29 = .ok (.iadd, 1) := by decide +kernel
theorem dX2_remember_30 : decode cX2_remember 30 = .ok (.goto 4, 3) := by decide +kernel
theorem dX2_remember_33 : decode cX2_remember 33 = .ok (.iconst 0, 1) := by decide +kernel
theorem dX2_remember_34 : decode cX2_remember 34 = .ok (.putfield 17, 3) := by decide +kernel
theorem dX2_remember_37 : decode cX2_remember 37 = .ok (.aload_n 0, 1) := by decide +kernel
theorem dX2_remember_38 : decode cX2_remember 38 = .ok (.aload_n 0, 1) := by decide +kernel
theorem dX2_remember_39 : decode cX2_remember 39 = .ok (.getfield 25, 3) := by decide +kernel
theorem dX2_remember_42 : decode cX2_remember 42 = .ok (.iconst 1, 1) := by decide +kernel
theorem dX2_remember_43 : decode cX2_remember 43 = .ok (.iadd, 1) := by decide +kernel
theorem dX2_remember_44 : decode cX2_remember 44 = .ok (.bipush 14, 2) := by decide +kernel
theorem dX2_remember_46 : decode cX2_remember 46 = .ok (.invokestatic 28, 3) := by decide +kernel
theorem dX2_remember_49 : decode cX2_remember 49 = .ok (.putfield 25, 3) := by decide +kernel
theorem dX2_remember_52 : decode cX2_remember 52 = .ok (.return_, 1) := by decide +kernel
theorem dX2_takeBack_0 : decode cX2_takeBack 0 = .ok (.aload_n 0, 1) := by decide +kernel
theorem dX2_takeBack_1 : decode cX2_takeBack 1 = .ok (.aload_n 0, 1) := by decide +kernel
theorem dX2_takeBack_2 : decode cX2_takeBack 2 = .ok (.getfield 17, 3) := by decide +kernel
theorem dX2_takeBack_5 : decode cX2_takeBack 5 = .ok (.ifCond .le 12, 3) := by decide +kernel
theorem dX2_takeBack_8 : decode cX2_takeBack 8 = .ok (.aload_n 0, 1) := by decide +kernel
theorem dX2_takeBack_9 : decode cX2_takeBack 9 = .ok (.getfield 17, 3) := by decide +kernel
theorem dX2_takeBack_12 : decode cX2_takeBack 12 = .ok (.iconst 1, 1) := by decide +kernel
theorem dX2_takeBack_13 : decode cX2_takeBack 13 = .ok (.isub, 1) := by decide +kernel
theorem dX2_takeBack_14 : decode cX2_takeBack 14 = .ok (.goto 5, 3) := by decide +kernel
theorem dX2_takeBack_17 : decode cX2_takeBack 17 = .ok (.bipush 13, 2) := by decide +kernel
theorem dX2_takeBack_19 : decode cX2_takeBack 19 = .ok (.putfield 17, 3) := by decide +kernel
theorem dX2_takeBack_22 : decode cX2_takeBack 22 = .ok (.aload_n 0, 1) := by decide +kernel
theorem dX2_takeBack_23 : decode cX2_takeBack 23 = .ok (.dup, 1) := by decide +kernel
theorem dX2_takeBack_24 : decode cX2_takeBack 24 = .ok (.getfield 25, 3) := by decide +kernel
theorem dX2_takeBack_27 : decode cX2_takeBack 27 = .ok (.iconst 1, 1) := by decide +kernel
theorem dX2_takeBack_28 : decode cX2_takeBack 28 = .ok (.isub, 1) := by decide +kernel
theorem dX2_takeBack_29 : decode cX2_takeBack 29 = .ok (.putfield 25, 3) := by decide +kernel
theorem dX2_takeBack_32 : decode cX2_takeBack 32 = .ok (.aload_n 0, 1) := by decide +kernel
theorem dX2_takeBack_33 : decode cX2_takeBack 33 = .ok (.getfield 11, 3) := by decide +kernel
theorem dX2_takeBack_36 : decode cX2_takeBack 36 = .ok (.aload_n 0, 1) := by decide +kernel
theorem dX2_takeBack_37 : decode cX2_takeBack 37 = .ok (.getfield 17, 3) := by decide +kernel
theorem dX2_takeBack_40 : decode cX2_takeBack 40 = .ok (.invokestatic 34, 3) := by decide +kernel
theorem dX2_takeBack_43 : decode cX2_takeBack 43 = .ok (.astore_n 2, 1) := by decide +kernel
theorem dX2_takeBack_44 : decode cX2_takeBack 44 = .ok (.aload_n 2, 1) := by decide +kernel
theorem dX2_takeBack_45 : decode cX2_takeBack 45 = .ok (.ifnull 8, 3) := by decide +kernel
theorem dX2_takeBack_48 : decode cX2_takeBack 48 = .ok (.aload_n 1, 1) := by decide +kernel
theorem dX2_takeBack_49 : decode cX2_takeBack 49 = .ok (.aload_n 2, 1) := by decide +kernel
theorem dX2_takeBack_50 : decode cX2_takeBack 50 = .ok (.invokevirtual 38, 3) := by decide +kernel
theorem dX2_takeBack_53 : decode cX2_takeBack 53 = .ok (.aload_n 0, 1) := by decide +kernel
theorem dX2_takeBack_54 : decode cX2_takeBack 54 = .ok (.getfield 25, 3) := by decide +kernel
theorem dX2_takeBack_57 : decode cX2_takeBack 57 = .ok (.ireturn, 1) := by decide +kernel
theorem dX2_forgetAll_0 : decode cX2_forgetAll 0 = .ok (.aload_n 0, 1) := by decide +kernel
theorem dX2_forgetAll_1 : decode cX2_forgetAll 1 = .ok (.iconst 0, 1) := by decide +kernel
theorem dX2_forgetAll_2 : decode cX2_forgetAll 2 = .ok (.putfield 25, 3) := by decide +kernel
theorem dX2_forgetAll_5 : decode cX2_forgetAll 5 = .ok (.return_, 1) := by decide +kernel
theorem dX3_init_0 : decode cX3_init 0 = .ok (.aload_n 0, 1) := by decide +kernel
theorem dX3_init_1 : decode cX3_init 1 = .ok (.invokespecial 3, 3) := by decide +kernel
theorem dX3_init_4 : decode cX3_init 4 = .ok (.aload_n 0, 1) := by decide +kernel
theorem dX3_init_5 : decode cX3_init 5 = .ok (.bipush 6, 2) := by decide +kernel
theorem dX3_init_7 : decode cX3_init 7 = .ok (.newarray .int, 2) := by decide +kernel
theorem dX3_init_9 : decode cX3_init 9 = .ok (.putfield 9, 3) := by decide +kernel
theorem dX3_init_12 : decode cX3_init 12 = .ok (.return_, 1) := by decide +kernel
theorem dX3_copyFrom_0 : decode cX3_copyFrom 0 = .ok (.aload_n 0, 1) := by decide +kernel
theorem dX3_copyFrom_1 : decode cX3_copyFrom 1 = .ok (.aload_n 1, 1) := by decide +kernel
theorem dX3_copyFrom_2 : decode cX3_copyFrom 2 = .ok (.getfield 15, 3) := by decide +kernel
theorem dX3_copyFrom_5 : decode cX3_copyFrom 5 = .ok (.putfield 15, 3) := by decide +kernel
theorem dX3_copyFrom_8 : decode cX3_copyFrom 8 = .ok (.aload_n 0, 1) := by decide +kernel
theorem dX3_copyFrom_9 : decode cX3_copyFrom 9 = .ok (.aload_n 1, 1) := by decide +kernel
theorem dX3_copyFrom_10 : decode cX3_copyFrom 10 = .ok (.getfield 19, 3) := by decide +kernel
theorem dX3_copyFrom_13 : decode cX3_copyFrom 13 = .ok (.putfield 19, 3) := by decide +kernel
theorem dX3_copyFrom_16 : decode cX3_copyFrom 16 = .ok (.aload_n 0, 1) := by decide +kernel
theorem dX3_copyFrom_17 : decode cX3_copyFrom 17 = .ok (.aload_n 1, 1) := by decide +kernel
theorem dX3_copyFrom_18 : decode cX3_copyFrom 18 = .ok (.getfield 22, 3) := by decide +kernel
theorem dX3_copyFrom_21 : decode cX3_copyFrom 21 = .ok (.putfield 22, 3) := by decide +kernel
theorem dX3_copyFrom_24 : decode cX3_copyFrom 24 = .ok (.aload_n 1, 1) := by decide +kernel
theorem dX3_copyFrom_25 : decode cX3_copyFrom 25 = .ok (.getfield 9, 3) := by decide +kernel
theorem dX3_copyFrom_28 : decode cX3_copyFrom 28 = .ok (.aload_n 0, 1) := by decide +kernel
theorem dX3_copyFrom_29 : decode cX3_copyFrom 29 = .ok (.getfield 9, 3) := by decide +kernel
theorem dX3_copyFrom_32 : decode cX3_copyFrom 32 = .ok (.invokestatic 25, 3) := by decide +kernel
theorem dX3_copyFrom_35 : decode cX3_copyFrom 35 = .ok (.return_, 1) := by decide +kernel
theorem dX4_init_0 : decode cX4_init 0 = .ok (.aload_n 0, 1) := by decide +kernel
theorem dX4_init_1 : decode cX4_init 1 = .ok (.invokespecial 3, 3) := by decide +kernel
theorem dX4_init_4 : decode cX4_init 4 = .ok (.aload_n 0, 1) := by decide +kernel
theorem dX4_init_5 : decode cX4_init 5 = .ok (.iload_n 1, 1) := by decide +kernel
theorem dX4_init_6 : decode cX4_init 6 = .ok (.putfield 9, 3) := by decide +kernel
theorem dX4_init_9 : decode cX4_init 9 = .ok (.aload_n 0, 1) := by decide +kernel
theorem dX4_init_10 : decode cX4_init 10 = .ok (.iload_n 2, 1) := by decide +kernel
theorem dX4_init_11 : decode cX4_init 11 = .ok (.putfield 15, 3) := by decide +kernel
theorem dX4_init_14 : decode cX4_init 14 = .ok (.aload_n 0, 1) := by decide +kernel
theorem dX4_init_15 : decode cX4_init 15 = .ok (.aload_n 3, 1) := by decide +kernel
theorem dX4_init_16 : decode cX4_init 16 = .ok (.putfield 18, 3) := by decide +kernel
theorem dX4_init_19 : decode cX4_init 19 = .ok (.return_, 1) := by decide +kernel
theorem dX4_patches_0 : decode cX4_patches 0 = .ok (.aload_n 0, 1) := by decide +kernel
theorem dX4_patches_1 : decode cX4_patches 1 = .ok (.getfield 18, 3) := by decide +kernel
theorem dX4_patches_4 : decode cX4_patches 4 = .ok (.arraylength, 1) := by decide +kernel
theorem dX4_patches_5 : decode cX4_patches 5 = .ok (.ireturn, 1) := by decide +kernel
theorem dX4_colourOf_0 : decode cX4_colourOf 0 = .ok (.iload_n 1, 1) := by decide +kernel
theorem dX4_colourOf_1 : decode cX4_colourOf 1 = .ok (.ifCond .lt 21, 3) := by decide +kernel
theorem dX4_colourOf_4 : decode cX4_colourOf 4 = .ok (.iload_n 1, 1) := by decide +kernel
theorem dX4_colourOf_5 : decode cX4_colourOf 5 = .ok (.aload_n 0, 1) := by decide +kernel
theorem dX4_colourOf_6 : decode cX4_colourOf 6 = .ok (.getfield 18, 3) := by decide +kernel
theorem dX4_colourOf_9 : decode cX4_colourOf 9 = .ok (.arraylength, 1) := by decide +kernel
theorem dX4_colourOf_10 : decode cX4_colourOf 10 = .ok (.if_icmp .ge 12, 3) := by decide +kernel
theorem dX4_colourOf_13 : decode cX4_colourOf 13 = .ok (.aload_n 0, 1) := by decide +kernel
theorem dX4_colourOf_14 : decode cX4_colourOf 14 = .ok (.getfield 18, 3) := by decide +kernel
theorem dX4_colourOf_17 : decode cX4_colourOf 17 = .ok (.iload_n 1, 1) := by decide +kernel
theorem dX4_colourOf_18 : decode cX4_colourOf 18 = .ok (.baload, 1) := by decide +kernel
theorem dX4_colourOf_19 : decode cX4_colourOf 19 = .ok (.goto 5, 3) := by decide +kernel
theorem dX4_colourOf_22 : decode cX4_colourOf 22 = .ok (.bipush (-9), 2) := by decide +kernel
theorem dX4_colourOf_24 : decode cX4_colourOf 24 = .ok (.ireturn, 1) := by decide +kernel
theorem dX4_colourAt_0 : decode cX4_colourAt 0 = .ok (.iload_n 1, 1) := by decide +kernel
theorem dX4_colourAt_1 : decode cX4_colourAt 1 = .ok (.ifCond .lt 38, 3) := by decide +kernel
theorem dX4_colourAt_4 : decode cX4_colourAt 4 = .ok (.iload_n 1, 1) := by decide +kernel
theorem dX4_colourAt_5 : decode cX4_colourAt 5 = .ok (.aload_n 0, 1) := by decide +kernel
theorem dX4_colourAt_6 : decode cX4_colourAt 6 = .ok (.getfield 9, 3) := by decide +kernel
theorem dX4_colourAt_9 : decode cX4_colourAt 9 = .ok (.if_icmp .ge 30, 3) := by decide +kernel
theorem dX4_colourAt_12 : decode cX4_colourAt 12 = .ok (.iload_n 2, 1) := by decide +kernel
theorem dX4_colourAt_13 : decode cX4_colourAt 13 = .ok (.ifCond .lt 26, 3) := by decide +kernel
theorem dX4_colourAt_16 : decode cX4_colourAt 16 = .ok (.iload_n 2, 1) := by decide +kernel
theorem dX4_colourAt_17 : decode cX4_colourAt 17 = .ok (.aload_n 0, 1) := by decide +kernel
theorem dX4_colourAt_18 : decode cX4_colourAt 18 = .ok (.getfield 15, 3) := by decide +kernel
theorem dX4_colourAt_21 : decode cX4_colourAt 21 = .ok (.if_icmp .ge 18, 3) := by decide +kernel
theorem dX4_colourAt_24 : decode cX4_colourAt 24 = .ok (.aload_n 0, 1) := by decide +kernel
theorem dX4_colourAt_25 : decode cX4_colourAt 25 = .ok (.iload_n 2, 1) := by decide +kernel
theorem dX4_colourAt_26 : decode cX4_colourAt 26 = .ok (.aload_n 0, 1) := by decide +kernel
theorem dX4_colourAt_27 : decode cX4_colourAt 27 = .ok (.getfield 9, 3) := by decide +kernel
theorem dX4_colourAt_30 : decode cX4_colourAt 30 = .ok (.imul, 1) := by decide +kernel
theorem dX4_colourAt_31 : decode cX4_colourAt 31 = .ok (.iload_n 1, 1) := by decide +kernel
theorem dX4_colourAt_32 : decode cX4_colourAt 32 = .ok (.iadd, 1) := by decide +kernel
theorem dX4_colourAt_33 : decode cX4_colourAt 33 = .ok (.invokevirtual 22, 3) := by decide +kernel
theorem dX4_colourAt_36 : decode cX4_colourAt 36 = .ok (.goto 5, 3) := by decide +kernel
theorem dX4_colourAt_39 : decode cX4_colourAt 39 = .ok (.bipush (-9), 2) := by decide +kernel
theorem dX4_colourAt_41 : decode cX4_colourAt 41 = .ok (.ireturn, 1) := by decide +kernel
theorem dX4_patchesOf_0 : decode cX4_patchesOf 0 = .ok (.iconst 0, 1) := by decide +kernel
theorem dX4_patchesOf_1 : decode cX4_patchesOf 1 = .ok (.istore 4, 2) := by decide +kernel
theorem dX4_patchesOf_3 : decode cX4_patchesOf 3 = .ok (.iload_n 2, 1) := by decide +kernel
theorem dX4_patchesOf_4 : decode cX4_patchesOf 4 = .ok (.istore 5, 2) := by decide +kernel
theorem dX4_patchesOf_6 : decode cX4_patchesOf 6 = .ok (.iload 5, 2) := by decide +kernel
theorem dX4_patchesOf_8 : decode cX4_patchesOf 8 = .ok (.iload_n 3, 1) := by decide +kernel
theorem dX4_patchesOf_9 : decode cX4_patchesOf 9 = .ok (.if_icmp .ge 32, 3) := by decide +kernel
theorem dX4_patchesOf_12 : decode cX4_patchesOf 12 = .ok (.iload 5, 2) := by decide +kernel
theorem dX4_patchesOf_14 : decode cX4_patchesOf 14 = .ok (.aload_n 0, 1) := by decide +kernel
theorem dX4_patchesOf_15 : decode cX4_patchesOf 15 = .ok (.getfield 18, 3) := by decide +kernel
theorem dX4_patchesOf_18 : decode cX4_patchesOf 18 = .ok (.arraylength, 1) := by decide +kernel
theorem dX4_patchesOf_19 : decode cX4_patchesOf 19 = .ok (.if_icmp .ge 22, 3) := by decide +kernel
theorem dX4_patchesOf_22 : decode cX4_patchesOf 22 = .ok (.aload_n 0, 1) := by decide +kernel
theorem dX4_patchesOf_23 : decode cX4_patchesOf 23 = .ok (.iload 5, 2) := by decide +kernel
theorem dX4_patchesOf_25 : decode cX4_patchesOf 25 = .ok (.invokevirtual 22, 3) := by decide +kernel
theorem dX4_patchesOf_28 : decode cX4_patchesOf 28 = .ok (.iload_n 1, 1) := by decide +kernel
theorem dX4_patchesOf_29 : decode cX4_patchesOf 29 = .ok (.if_icmp .ne 6, 3) := by decide +kernel
theorem dX4_patchesOf_32 : decode cX4_patchesOf 32 = .ok (.iinc 4 1, 3) := by decide +kernel
theorem dX4_patchesOf_35 : decode cX4_patchesOf 35 = .ok (.iinc 5 1, 3) := by decide +kernel
theorem dX4_patchesOf_38 : decode cX4_patchesOf 38 = .ok (.goto (-32), 3) := by decide +kernel
theorem dX4_patchesOf_41 : decode cX4_patchesOf 41 = .ok (.iload 4, 2) := by decide +kernel
theorem dX4_patchesOf_43 : decode cX4_patchesOf 43 = .ok (.ireturn, 1) := by decide +kernel
theorem dX4_differentColours_0 : decode cX4_differentColours 0 = .ok (.iconst 0, 1) := by decide +kernel
theorem dX4_differentColours_1 : decode cX4_differentColours 1 = .ok (.istore_n 1, 1) := by decide +kernel
theorem dX4_differentColours_2 : decode cX4_differentColours 2 = .ok (.iconst 0, 1) := by decide +kernel
theorem dX4_differentColours_3 : decode cX4_differentColours 3 = .ok (.istore_n 2, 1) := by decide +kernel
theorem dX4_differentColours_4 : decode cX4_differentColours 4 = .ok (.iload_n 2, 1) := by decide +kernel
theorem dX4_differentColours_5 : decode cX4_differentColours 5 = .ok (.bipush 6, 2) := by decide +kernel
theorem dX4_differentColours_7 : decode cX4_differentColours 7 = .ok (.if_icmp .ge 25, 3) := by decide +kernel
theorem dX4_differentColours_10 : decode cX4_differentColours 10 = .ok (.aload_n 0, 1) := by decide +kernel
theorem dX4_differentColours_11 : decode cX4_differentColours 11 = .ok (.iload_n 2, 1) := by decide +kernel
theorem dX4_differentColours_12 : decode cX4_differentColours 12 = .ok (.iconst 0, 1) := by decide +kernel
theorem dX4_differentColours_13 : decode cX4_differentColours 13 = .ok (.aload_n 0, 1) := by decide +kernel
theorem dX4_differentColours_14 : decode cX4_differentColours 14 = .ok (.invokevirtual 26, 3) := by decide +kernel
theorem dX4_differentColours_17 : decode cX4_differentColours 17 = .ok (.invokevirtual 30, 3) := by decide +kernel
theorem dX4_differentColours_20 : decode cX4_differentColours 20 = .ok (.ifCond .le 6, 3) := by decide +kernel
theorem dX4_differentColours_23 : decode cX4_differentColours 23 = .ok (.iinc 1 1, 3) := by decide +kernel
theorem dX4_differentColours_26 : decode cX4_differentColours 26 = .ok (.iinc 2 1, 3) := by decide +kernel
theorem dX4_differentColours_29 : decode cX4_differentColours 29 = .ok (.goto (-25), 3) := by decide +kernel
theorem dX4_differentColours_32 : decode cX4_differentColours 32 = .ok (.iload_n 1, 1) := by decide +kernel
theorem dX4_differentColours_33 : decode cX4_differentColours 33 = .ok (.ireturn, 1) := by decide +kernel
theorem dX4_seams_0 : decode cX4_seams 0 = .ok (.iconst 0, 1) := by decide +kernel
theorem dX4_seams_1 : decode cX4_seams 1 = .ok (.istore_n 1, 1) := by decide +kernel
theorem dX4_seams_2 : decode cX4_seams 2 = .ok (.iconst 0, 1) := by decide +kernel
theorem dX4_seams_3 : decode cX4_seams 3 = .ok (.istore_n 2, 1) := by decide +kernel
theorem dX4_seams_4 : decode cX4_seams 4 = .ok (.iload_n 2, 1) := by decide +kernel
theorem dX4_seams_5 : decode cX4_seams 5 = .ok (.aload_n 0, 1) := by decide +kernel
theorem dX4_seams_6 : decode cX4_seams 6 = .ok (.getfield 15, 3) := by decide +kernel
theorem dX4_seams_9 : decode cX4_seams 9 = .ok (.if_icmp .ge 67, 3) := by decide +kernel
theorem dX4_seams_12 : decode cX4_seams 12 = .ok (.iconst 0, 1) := by decide +kernel
theorem dX4_seams_13 : decode cX4_seams 13 = .ok (.istore_n 3, 1) := by decide +kernel
theorem dX4_seams_14 : decode cX4_seams 14 = .ok (.iload_n 3, 1) := by decide +kernel
theorem dX4_seams_15 : decode cX4_seams 15 = .ok (.aload_n 0, 1) := by decide +kernel
theorem dX4_seams_16 : decode cX4_seams 16 = .ok (.getfield 9, 3) := by decide +kernel
theorem dX4_seams_19 : decode cX4_seams 19 = .ok (.if_icmp .ge 51, 3) := by decide +kernel
theorem dX4_seams_22 : decode cX4_seams 22 = .ok (.iload_n 1, 1) := by decide +kernel
theorem dX4_seams_23 : decode cX4_seams 23 = .ok (.aload_n 0, 1) := by decide +kernel
theorem dX4_seams_24 : decode cX4_seams 24 = .ok (.iload_n 3, 1) := by decide +kernel
theorem dX4_seams_25 : decode cX4_seams 25 = .ok (.iload_n 2, 1) := by decide +kernel
theorem dX4_seams_26 : decode cX4_seams 26 = .ok (.iload_n 3, 1) := by decide +kernel
theorem dX4_seams_27 : decode cX4_seams 27 = .ok (.iconst 1, 1) := by decide +kernel
theorem dX4_seams_28 : decode cX4_seams 28 = .ok (.iadd, 1) := by decide +kernel
theorem dX4_seams_29 : decode cX4_seams 29 = .ok (.iload_n 2, 1) := by decide +kernel
theorem dX4_seams_30 : decode cX4_seams 30 = .ok (.invokevirtual 34, 3) := by decide +kernel
theorem dX4_seams_33 : decode cX4_seams 33 = .ok (.ifCond .eq 7, 3) := by decide +kernel
theorem dX4_seams_36 : decode cX4_seams 36 = .ok (.iconst 1, 1) := by decide +kernel
theorem dX4_seams_37 : decode cX4_seams 37 = .ok (.goto 4, 3) := by decide +kernel
theorem dX4_seams_40 : decode cX4_seams 40 = .ok (.iconst 0, 1) := by decide +kernel
theorem dX4_seams_41 : decode cX4_seams 41 = .ok (.iadd, 1) := by decide +kernel
theorem dX4_seams_42 : decode cX4_seams 42 = .ok (.istore_n 1, 1) := by decide +kernel
theorem dX4_seams_43 : decode cX4_seams 43 = .ok (.iload_n 1, 1) := by decide +kernel
theorem dX4_seams_44 : decode cX4_seams 44 = .ok (.aload_n 0, 1) := by decide +kernel
theorem dX4_seams_45 : decode cX4_seams 45 = .ok (.iload_n 3, 1) := by decide +kernel
theorem dX4_seams_46 : decode cX4_seams 46 = .ok (.iload_n 2, 1) := by decide +kernel
theorem dX4_seams_47 : decode cX4_seams 47 = .ok (.iload_n 3, 1) := by decide +kernel
theorem dX4_seams_48 : decode cX4_seams 48 = .ok (.iload_n 2, 1) := by decide +kernel
theorem dX4_seams_49 : decode cX4_seams 49 = .ok (.iconst 1, 1) := by decide +kernel
theorem dX4_seams_50 : decode cX4_seams 50 = .ok (.iadd, 1) := by decide +kernel
theorem dX4_seams_51 : decode cX4_seams 51 = .ok (.invokevirtual 34, 3) := by decide +kernel
theorem dX4_seams_54 : decode cX4_seams 54 = .ok (.ifCond .eq 7, 3) := by decide +kernel
theorem dX4_seams_57 : decode cX4_seams 57 = .ok (.iconst 1, 1) := by decide +kernel
theorem dX4_seams_58 : decode cX4_seams 58 = .ok (.goto 4, 3) := by decide +kernel
theorem dX4_seams_61 : decode cX4_seams 61 = .ok (.iconst 0, 1) := by decide +kernel
theorem dX4_seams_62 : decode cX4_seams 62 = .ok (.iadd, 1) := by decide +kernel
theorem dX4_seams_63 : decode cX4_seams 63 = .ok (.istore_n 1, 1) := by decide +kernel
theorem dX4_seams_64 : decode cX4_seams 64 = .ok (.iinc 3 1, 3) := by decide +kernel
theorem dX4_seams_67 : decode cX4_seams 67 = .ok (.goto (-53), 3) := by decide +kernel
theorem dX4_seams_70 : decode cX4_seams 70 = .ok (.iinc 2 1, 3) := by decide +kernel
theorem dX4_seams_73 : decode cX4_seams 73 = .ok (.goto (-69), 3) := by decide +kernel
theorem dX4_seams_76 : decode cX4_seams 76 = .ok (.iload_n 1, 1) := by decide +kernel
theorem dX4_seams_77 : decode cX4_seams 77 = .ok (.ireturn, 1) := by decide +kernel
theorem dX4_isSeam_0 : decode cX4_isSeam 0 = .ok (.aload_n 0, 1) := by decide +kernel
theorem dX4_isSeam_1 : decode cX4_isSeam 1 = .ok (.iload_n 3, 1) := by decide +kernel
theorem dX4_isSeam_2 : decode cX4_isSeam 2 = .ok (.iload 4, 2) := by decide +kernel
theorem dX4_isSeam_4 : decode cX4_isSeam 4 = .ok (.invokevirtual 38, 3) := by decide +kernel
theorem dX4_isSeam_7 : decode cX4_isSeam 7 = .ok (.istore 5, 2) := by decide +kernel
theorem dX4_isSeam_9 : decode cX4_isSeam 9 = .ok (.iload 5, 2) := by decide +kernel
theorem dX4_isSeam_11 : decode cX4_isSeam 11 = .ok (.bipush (-9), 2) := by decide +kernel
theorem dX4_isSeam_13 : decode cX4_isSeam 13 = .ok (.if_icmp .eq 18, 3) := by decide +kernel
theorem dX4_isSeam_16 : decode cX4_isSeam 16 = .ok (.iload 5, 2) := by decide +kernel
theorem dX4_isSeam_18 : decode cX4_isSeam 18 = .ok (.aload_n 0, 1) := by decide +kernel
theorem dX4_isSeam_19 : decode cX4_isSeam 19 = .ok (.iload_n 1, 1) := by decide +kernel
theorem dX4_isSeam_20 : decode cX4_isSeam 20 = .ok (.iload_n 2, 1) := by decide +kernel
theorem dX4_isSeam_21 : decode cX4_isSeam 21 = .ok (.invokevirtual 38, 3) := by decide +kernel
theorem dX4_isSeam_24 : decode cX4_isSeam 24 = .ok (.if_icmp .eq 7, 3) := by decide +kernel
theorem dX4_isSeam_27 : decode cX4_isSeam 27 = .ok (.iconst 1, 1) := by decide +kernel
theorem dX4_isSeam_28 : decode cX4_isSeam 28 = .ok (.goto 4, 3) := by decide +kernel
theorem dX4_isSeam_31 : decode cX4_isSeam 31 = .ok (.iconst 0, 1) := by decide +kernel
theorem dX4_isSeam_32 : decode cX4_isSeam 32 = .ok (.ireturn, 1) := by decide +kernel
theorem dX4_becomesBy_0 : decode cX4_becomesBy 0 = .ok (.iload_n 1, 1) := by decide +kernel
theorem dX4_becomesBy_1 : decode cX4_becomesBy 1 = .ok (.iconst 2, 1) := by decide +kernel
theorem dX4_becomesBy_2 : decode cX4_becomesBy 2 = .ok (.irem, 1) := by decide +kernel
theorem dX4_becomesBy_3 : decode cX4_becomesBy 3 = .ok (.ifCond .eq 7, 3) := by decide +kernel
theorem dX4_becomesBy_6 : decode cX4_becomesBy 6 = .ok (.iconst 1, 1) := by decide +kernel
theorem dX4_becomesBy_7 : decode cX4_becomesBy 7 = .ok (.goto 4, 3) := by decide +kernel
theorem dX4_becomesBy_10 : decode cX4_becomesBy 10 = .ok (.iconst 0, 1) := by decide +kernel
theorem dX4_becomesBy_11 : decode cX4_becomesBy 11 = .ok (.istore_n 3, 1) := by decide +kernel
theorem dX4_becomesBy_12 : decode cX4_becomesBy 12 = .ok (.aload_n 2, 1) := by decide +kernel
theorem dX4_becomesBy_13 : decode cX4_becomesBy 13 = .ok (.getfield 9, 3) := by decide +kernel
theorem dX4_becomesBy_16 : decode cX4_becomesBy 16 = .ok (.iload_n 3, 1) := by decide +kernel
theorem dX4_becomesBy_17 : decode cX4_becomesBy 17 = .ok (.ifCond .eq 10, 3) := by decide +kernel
theorem dX4_becomesBy_20 : decode cX4_becomesBy 20 = .ok (.aload_n 0, 1) := by decide +kernel
theorem dX4_becomesBy_21 : decode cX4_becomesBy 21 = .ok (.getfield 15, 3) := by decide +kernel
theorem dX4_becomesBy_24 : decode cX4_becomesBy 24 = .ok (.goto 7, 3) := by decide +kernel
theorem dX4_becomesBy_27 : decode cX4_becomesBy 27 = .ok (.aload_n 0, 1) := by decide +kernel
theorem dX4_becomesBy_28 : decode cX4_becomesBy 28 = .ok (.getfield 9, 3) := by decide +kernel
theorem dX4_becomesBy_31 : decode cX4_becomesBy 31 = .ok (.if_icmp .ne 25, 3) := by decide +kernel
theorem dX4_becomesBy_34 : decode cX4_becomesBy 34 = .ok (.aload_n 2, 1) := by decide +kernel
theorem dX4_becomesBy_35 : decode cX4_becomesBy 35 = .ok (.getfield 15, 3) := by decide +kernel
theorem dX4_becomesBy_38 : decode cX4_becomesBy 38 = .ok (.iload_n 3, 1) := by decide +kernel
theorem dX4_becomesBy_39 : decode cX4_becomesBy 39 = .ok (.ifCond .eq 10, 3) := by decide +kernel
theorem dX4_becomesBy_42 : decode cX4_becomesBy 42 = .ok (.aload_n 0, 1) := by decide +kernel
theorem dX4_becomesBy_43 : decode cX4_becomesBy 43 = .ok (.getfield 9, 3) := by decide +kernel
theorem dX4_becomesBy_46 : decode cX4_becomesBy 46 = .ok (.goto 7, 3) := by decide +kernel
theorem dX4_becomesBy_49 : decode cX4_becomesBy 49 = .ok (.aload_n 0, 1) := by decide +kernel
theorem dX4_becomesBy_50 : decode cX4_becomesBy 50 = .ok (.getfield 15, 3) := by decide +kernel
theorem dX4_becomesBy_53 : decode cX4_becomesBy 53 = .ok (.if_icmp .eq 5, 3) := by decide +kernel
theorem dX4_becomesBy_56 : decode cX4_becomesBy 56 = .ok (.iconst 0, 1) := by decide +kernel
theorem dX4_becomesBy_57 : decode cX4_becomesBy 57 = .ok (.ireturn, 1) := by decide +kernel
theorem dX4_becomesBy_58 : decode cX4_becomesBy 58 = .ok (.iconst 0, 1) := by decide +kernel
theorem dX4_becomesBy_59 : decode cX4_becomesBy 59 = .ok (.istore 4, 2) := by decide +kernel
theorem dX4_becomesBy_61 : decode cX4_becomesBy 61 = .ok (.iload 4, 2) := by decide +kernel
theorem dX4_becomesBy_63 : decode cX4_becomesBy 63 = .ok (.aload_n 2, 1) := by decide +kernel
theorem dX4_becomesBy_64 : decode cX4_becomesBy 64 = .ok (.getfield 15, 3) := by decide +kernel
theorem dX4_becomesBy_67 : decode cX4_becomesBy 67 = .ok (.if_icmp .ge 49, 3) := by decide +kernel
theorem dX4_becomesBy_70 : decode cX4_becomesBy 70 = .ok (.iconst 0, 1) := by decide +kernel
theorem dX4_becomesBy_71 : decode cX4_becomesBy 71 = .ok (.istore 5, 2) := by decide +kernel
theorem dX4_becomesBy_73 : decode cX4_becomesBy 73 = .ok (.iload 5, 2) := by decide +kernel
theorem dX4_becomesBy_75 : decode cX4_becomesBy 75 = .ok (.aload_n 2, 1) := by decide +kernel
theorem dX4_becomesBy_76 : decode cX4_becomesBy 76 = .ok (.getfield 9, 3) := by decide +kernel
theorem dX4_becomesBy_79 : decode cX4_becomesBy 79 = .ok (.if_icmp .ge 31, 3) := by decide +kernel
theorem dX4_becomesBy_82 : decode cX4_becomesBy 82 = .ok (.aload_n 2, 1) := by decide +kernel
theorem dX4_becomesBy_83 : decode cX4_becomesBy 83 = .ok (.iload 5, 2) := by decide +kernel
theorem dX4_becomesBy_85 : decode cX4_becomesBy 85 = .ok (.iload 4, 2) := by decide +kernel
theorem dX4_becomesBy_87 : decode cX4_becomesBy 87 = .ok (.invokevirtual 38, 3) := by decide +kernel
theorem dX4_becomesBy_90 : decode cX4_becomesBy 90 = .ok (.aload_n 0, 1) := by decide +kernel
theorem dX4_becomesBy_91 : decode cX4_becomesBy 91 = .ok (.iload_n 1, 1) := by decide +kernel
theorem dX4_becomesBy_92 : decode cX4_becomesBy 92 = .ok (.iload 5, 2) := by decide +kernel
theorem dX4_becomesBy_94 : decode cX4_becomesBy 94 = .ok (.iload 4, 2) := by decide +kernel
theorem dX4_becomesBy_96 : decode cX4_becomesBy 96 = .ok (.invokevirtual 42, 3) := by decide +kernel
theorem dX4_becomesBy_99 : decode cX4_becomesBy 99 = .ok (.if_icmp .eq 5, 3) := by decide +kernel
theorem dX4_becomesBy_102 : decode cX4_becomesBy 102 = .ok (.iconst 0, 1) := by decide +kernel
theorem dX4_becomesBy_103 : decode cX4_becomesBy 103 = .ok (.ireturn, 1) := by decide +kernel
theorem dX4_becomesBy_104 : decode cX4_becomesBy 104 = .ok (.iinc 5 1, 3) := by decide +kernel
theorem dX4_becomesBy_107 : decode cX4_becomesBy 107 = .ok (.goto (-34), 3) := by decide +kernel
theorem dX4_becomesBy_110 : decode cX4_becomesBy 110 = .ok (.iinc 4 1, 3) := by decide +kernel
theorem dX4_becomesBy_113 : decode cX4_becomesBy 113 = .ok (.goto (-52), 3) := by decide +kernel
theorem dX4_becomesBy_116 : decode cX4_becomesBy 116 = .ok (.iconst 1, 1) := by decide +kernel
theorem dX4_becomesBy_117 : decode cX4_becomesBy 117 = .ok (.ireturn, 1) := by decide +kernel
theorem dX4_changedColourAt_0 : decode cX4_changedColourAt 0 = .ok (.iload_n 2, 1) := by decide +kernel
theorem dX4_changedColourAt_1 : decode cX4_changedColourAt 1 = .ok (.istore 4, 2) := by decide +kernel
theorem dX4_changedColourAt_3 : decode cX4_changedColourAt 3 = .ok (.iload_n 3, 1) := by decide +kernel
theorem dX4_changedColourAt_4 : decode cX4_changedColourAt 4 = .ok (.istore 5, 2) := by decide +kernel
theorem dX4_changedColourAt_6 : decode cX4_changedColourAt 6 = .ok (.iload_n 1, 1) := by decide +kernel
theorem dX4_changedColourAt_7 : decode cX4_changedColourAt 7 = .ok (.iconst 4, 1) := by decide +kernel
theorem dX4_changedColourAt_8 : decode cX4_changedColourAt 8 = .ok (.irem, 1) := by decide +kernel
theorem dX4_changedColourAt_9 : decode cX4_changedColourAt 9 = .ok (.istore 6, 2) := by decide +kernel
theorem dX4_changedColourAt_11 : decode cX4_changedColourAt 11 = .ok (.iload 6, 2) := by decide +kernel
theorem dX4_changedColourAt_13 : decode cX4_changedColourAt 13 = .ok (.ifCond .le 46, 3) := by decide +kernel
theorem dX4_changedColourAt_16 : decode cX4_changedColourAt 16 = .ok (.iload 6, 2) := by decide +kernel
theorem dX4_changedColourAt_18 : decode cX4_changedColourAt 18 = .ok (.iconst 2, 1) := by decide +kernel
theorem dX4_changedColourAt_19 : decode cX4_changedColourAt 19 = .ok (.irem, 1) := by decide +kernel
theorem dX4_changedColourAt_20 : decode cX4_changedColourAt 20 = .ok (.ifCond .eq 10, 3) := by decide +kernel
theorem dX4_changedColourAt_23 : decode cX4_changedColourAt 23 = .ok (.aload_n 0, 1) := by decide +kernel
theorem dX4_changedColourAt_24 : decode cX4_changedColourAt 24 = .ok (.getfield 15, 3) := by decide +kernel
theorem dX4_changedColourAt_27 : decode cX4_changedColourAt 27 = .ok (.goto 7, 3) := by decide +kernel
theorem dX4_changedColourAt_30 : decode cX4_changedColourAt 30 = .ok (.aload_n 0, 1) := by decide +kernel
theorem dX4_changedColourAt_31 : decode cX4_changedColourAt 31 = .ok (.getfield 9, 3) := by decide +kernel
theorem dX4_changedColourAt_34 : decode cX4_changedColourAt 34 = .ok (.istore 7, 2) := by decide +kernel
theorem dX4_changedColourAt_36 : decode cX4_changedColourAt 36 = .ok (.iload 4, 2) := by decide +kernel
theorem dX4_changedColourAt_38 : decode cX4_changedColourAt 38 = .ok (.istore 8, 2) := by decide +kernel
theorem dX4_changedColourAt_40 : decode cX4_changedColourAt 40 = .ok (.iload 5, 2) := by decide +kernel
theorem dX4_changedColourAt_42 : decode cX4_changedColourAt 42 = .ok (.istore 4, 2) := by decide +kernel
theorem dX4_changedColourAt_44 : decode cX4_changedColourAt 44 = .ok (.iload 7, 2) := by decide +kernel
theorem dX4_changedColourAt_46 : decode cX4_changedColourAt 46 = .ok (.iconst 1, 1) := by decide +kernel
theorem dX4_changedColourAt_47 : decode cX4_changedColourAt 47 = .ok (.isub, 1) := by decide +kernel
theorem dX4_changedColourAt_48 : decode cX4_changedColourAt 48 = .ok (.iload 8, 2) := by decide +kernel
theorem dX4_changedColourAt_50 : decode cX4_changedColourAt 50 = .ok (.isub, 1) := by decide +kernel
theorem dX4_changedColourAt_51 : decode cX4_changedColourAt 51 = .ok (.istore 5, 2) := by decide +kernel
theorem dX4_changedColourAt_53 : decode cX4_changedColourAt 53 = .ok (.iinc 6 (-1), 3) := by decide +kernel
theorem dX4_changedColourAt_56 : decode cX4_changedColourAt 56 = .ok (.goto (-45), 3) := by decide +kernel
theorem dX4_changedColourAt_59 : decode cX4_changedColourAt 59 = .ok (.aload_n 0, 1) := by decide +kernel
theorem dX4_changedColourAt_60 : decode cX4_changedColourAt 60 = .ok (.iload_n 1, 1) := by decide +kernel
theorem dX4_changedColourAt_61 : decode cX4_changedColourAt 61 = .ok (.iconst 4, 1) := by decide +kernel
theorem dX4_changedColourAt_62 : decode cX4_changedColourAt 62 = .ok (.if_icmp .lt 15, 3) := by decide +kernel
theorem dX4_changedColourAt_65 : decode cX4_changedColourAt 65 = .ok (.aload_n 0, 1) := by decide +kernel
theorem dX4_changedColourAt_66 : decode cX4_changedColourAt 66 = .ok (.getfield 9, 3) := by decide +kernel
theorem dX4_changedColourAt_69 : decode cX4_changedColourAt 69 = .ok (.iconst 1, 1) := by decide +kernel
theorem dX4_changedColourAt_70 : decode cX4_changedColourAt 70 = .ok (.isub, 1) := by decide +kernel
theorem dX4_changedColourAt_71 : decode cX4_changedColourAt 71 = .ok (.iload 4, 2) := by decide +kernel
theorem dX4_changedColourAt_73 : decode cX4_changedColourAt 73 = .ok (.isub, 1) := by decide +kernel
theorem dX4_changedColourAt_74 : decode cX4_changedColourAt 74 = .ok (.goto 5, 3) := by decide +kernel
theorem dX4_changedColourAt_77 : decode cX4_changedColourAt 77 = .ok (.iload 4, 2) := by decide +kernel
theorem dX4_changedColourAt_79 : decode cX4_changedColourAt 79 = .ok (.iload 5, 2) := by decide +kernel
theorem dX4_changedColourAt_81 : decode cX4_changedColourAt 81 = .ok (.invokevirtual 38, 3) := by decide +kernel
theorem dX4_changedColourAt_84 : decode cX4_changedColourAt 84 = .ok (.ireturn, 1) := by decide +kernel
theorem dX4_withExchanged_0 : decode cX4_withExchanged 0 = .ok (.aload_n 0, 1) := by decide +kernel
theorem dX4_withExchanged_1 : decode cX4_withExchanged 1 = .ok (.getfield 18, 3) := by decide +kernel
theorem dX4_withExchanged_4 : decode cX4_withExchanged 4 = .ok (.arraylength, 1) := by decide +kernel
theorem dX4_withExchanged_5 : decode cX4_withExchanged 5 = .ok (.newarray .byte, 2) := by decide +kernel
theorem dX4_withExchanged_7 : decode cX4_withExchanged 7 = .ok (.astore_n 3, 1) := by decide +kernel
theorem dX4_withExchanged_8 : decode cX4_withExchanged 8 = .ok (.iconst 0, 1) := by decide +kernel
theorem dX4_withExchanged_9 : decode cX4_withExchanged 9 = .ok (.istore 4, 2) := by decide +kernel
theorem dX4_withExchanged_11 : decode cX4_withExchanged 11 = .ok (.iload 4, 2) := by decide +kernel
theorem dX4_withExchanged_13 : decode cX4_withExchanged 13 = .ok (.aload_n 0, 1) := by decide +kernel
theorem dX4_withExchanged_14 : decode cX4_withExchanged 14 = .ok (.getfield 18, 3) := by decide +kernel
theorem dX4_withExchanged_17 : decode cX4_withExchanged 17 = .ok (.arraylength, 1) := by decide +kernel
theorem dX4_withExchanged_18 : decode cX4_withExchanged 18 = .ok (.if_icmp .ge 52, 3) := by decide +kernel
theorem dX4_withExchanged_21 : decode cX4_withExchanged 21 = .ok (.iload 4, 2) := by decide +kernel
theorem dX4_withExchanged_23 : decode cX4_withExchanged 23 = .ok (.aload_n 3, 1) := by decide +kernel
theorem dX4_withExchanged_24 : decode cX4_withExchanged 24 = .ok (.arraylength, 1) := by decide +kernel
theorem dX4_withExchanged_25 : decode cX4_withExchanged 25 = .ok (.if_icmp .ge 45, 3) := by decide +kernel
theorem dX4_withExchanged_28 : decode cX4_withExchanged 28 = .ok (.aload_n 0, 1) := by decide +kernel
theorem dX4_withExchanged_29 : decode cX4_withExchanged 29 = .ok (.getfield 18, 3) := by decide +kernel
theorem dX4_withExchanged_32 : decode cX4_withExchanged 32 = .ok (.iload 4, 2) := by decide +kernel
theorem dX4_withExchanged_34 : decode cX4_withExchanged 34 = .ok (.baload, 1) := by decide +kernel
theorem dX4_withExchanged_35 : decode cX4_withExchanged 35 = .ok (.istore 5, 2) := by decide +kernel
theorem dX4_withExchanged_37 : decode cX4_withExchanged 37 = .ok (.aload_n 3, 1) := by decide +kernel
theorem dX4_withExchanged_38 : decode cX4_withExchanged 38 = .ok (.iload 4, 2) := by decide +kernel
theorem dX4_withExchanged_40 : decode cX4_withExchanged 40 = .ok (.iload 5, 2) := by decide +kernel
theorem dX4_withExchanged_42 : decode cX4_withExchanged 42 = .ok (.iload_n 1, 1) := by decide +kernel
theorem dX4_withExchanged_43 : decode cX4_withExchanged 43 = .ok (.if_icmp .ne 7, 3) := by decide +kernel
theorem dX4_withExchanged_46 : decode cX4_withExchanged 46 = .ok (.iload_n 2, 1) := by decide +kernel
theorem dX4_withExchanged_47 : decode cX4_withExchanged 47 = .ok (.goto 15, 3) := by decide +kernel
theorem dX4_withExchanged_50 : decode cX4_withExchanged 50 = .ok (.iload 5, 2) := by decide +kernel
theorem dX4_withExchanged_52 : decode cX4_withExchanged 52 = .ok (.iload_n 2, 1) := by decide +kernel
theorem dX4_withExchanged_53 : decode cX4_withExchanged 53 = .ok (.if_icmp .ne 7, 3) := by decide +kernel
theorem dX4_withExchanged_56 : decode cX4_withExchanged 56 = .ok (.iload_n 1, 1) := by decide +kernel
theorem dX4_withExchanged_57 : decode cX4_withExchanged 57 = .ok (.goto 5, 3) := by decide +kernel
theorem dX4_withExchanged_60 : decode cX4_withExchanged 60 = .ok (.iload 5, 2) := by decide +kernel
theorem dX4_withExchanged_62 : decode cX4_withExchanged 62 = .ok (.i2b, 1) := by decide +kernel
theorem dX4_withExchanged_63 : decode cX4_withExchanged 63 = .ok (.bastore, 1) := by decide +kernel
theorem dX4_withExchanged_64 : decode cX4_withExchanged 64 = .ok (.iinc 4 1, 3) := by decide +kernel
theorem dX4_withExchanged_67 : decode cX4_withExchanged 67 = .ok (.goto (-56), 3) := by decide +kernel
theorem dX4_withExchanged_70 : decode cX4_withExchanged 70 = .ok (.new 10, 3) := by decide +kernel
theorem dX4_withExchanged_73 : decode cX4_withExchanged 73 = .ok (.dup, 1) := by decide +kernel
theorem dX4_withExchanged_74 : decode cX4_withExchanged 74 = .ok (.aload_n 0, 1) := by decide +kernel
theorem dX4_withExchanged_75 : decode cX4_withExchanged 75 = .ok (.getfield 9, 3) := by decide +kernel
theorem dX4_withExchanged_78 : decode cX4_withExchanged 78 = .ok (.aload_n 0, 1) := by decide +kernel
theorem dX4_withExchanged_79 : decode cX4_withExchanged 79 = .ok (.getfield 15, 3) := by decide +kernel
theorem dX4_withExchanged_82 : decode cX4_withExchanged 82 = .ok (.aload_n 3, 1) := by decide +kernel
theorem dX4_withExchanged_83 : decode cX4_withExchanged 83 = .ok (.invokespecial 45, 3) := by decide +kernel
theorem dX4_withExchanged_86 : decode cX4_withExchanged 86 = .ok (.areturn, 1) := by decide +kernel
theorem dX5_init_0 : decode cX5_init 0 = .ok (.aload_n 0, 1) := by decide +kernel
theorem dX5_init_1 : decode cX5_init 1 = .ok (.invokespecial 3, 3) := by decide +kernel
theorem dX5_init_4 : decode cX5_init 4 = .ok (.aload_n 0, 1) := by decide +kernel
theorem dX5_init_5 : decode cX5_init 5 = .ok (.sipush 256, 3) := by decide +kernel
theorem dX5_init_8 : decode cX5_init 8 = .ok (.newarray .boolean, 2) := by decide +kernel
theorem dX5_init_10 : decode cX5_init 10 = .ok (.putfield 9, 3) := by decide +kernel
theorem dX5_init_13 : decode cX5_init 13 = .ok (.aload_n 0, 1) := by decide +kernel
theorem dX5_init_14 : decode cX5_init 14 = .ok (.sipush 256, 3) := by decide +kernel
theorem dX5_init_17 : decode cX5_init 17 = .ok (.newarray .int, 2) := by decide +kernel
theorem dX5_init_19 : decode cX5_init 19 = .ok (.putfield 15, 3) := by decide +kernel
theorem dX5_init_22 : decode cX5_init 22 = .ok (.return_, 1) := by decide +kernel
theorem dX5_piecesOf_0 : decode cX5_piecesOf 0 = .ok (.iconst 0, 1) := by decide +kernel
theorem dX5_piecesOf_1 : decode cX5_piecesOf 1 = .ok (.istore_n 2, 1) := by decide +kernel
theorem dX5_piecesOf_2 : decode cX5_piecesOf 2 = .ok (.aload_n 0, 1) := by decide +kernel
theorem dX5_piecesOf_3 : decode cX5_piecesOf 3 = .ok (.invokevirtual 19, 3) := by decide +kernel
theorem dX5_piecesOf_6 : decode cX5_piecesOf 6 = .ok (.iconst 0, 1) := by decide +kernel
theorem dX5_piecesOf_7 : decode cX5_piecesOf 7 = .ok (.istore_n 3, 1) := by decide +kernel
theorem dX5_piecesOf_8 : decode cX5_piecesOf 8 = .ok (.iload_n 3, 1) := by decide +kernel
theorem dX5_piecesOf_9 : decode cX5_piecesOf 9 = .ok (.aload_n 1, 1) := by decide +kernel
theorem dX5_piecesOf_10 : decode cX5_piecesOf 10 = .ok (.invokevirtual 22, 3) := by decide +kernel
theorem dX5_piecesOf_13 : decode cX5_piecesOf 13 = .ok (.if_icmp .ge 36, 3) := by decide +kernel
theorem dX5_piecesOf_16 : decode cX5_piecesOf 16 = .ok (.iload_n 3, 1) := by decide +kernel
theorem dX5_piecesOf_17 : decode cX5_piecesOf 17 = .ok (.aload_n 0, 1) := by decide +kernel
theorem dX5_piecesOf_18 : decode cX5_piecesOf 18 = .ok (.getfield 9, 3) := by decide +kernel
theorem dX5_piecesOf_21 : decode cX5_piecesOf 21 = .ok (.arraylength, 1) := by decide +kernel
theorem dX5_piecesOf_22 : decode cX5_piecesOf 22 = .ok (.if_icmp .ge 27, 3) := by decide +kernel
theorem dX5_piecesOf_25 : decode cX5_piecesOf 25 = .ok (.aload_n 0, 1) := by decide +kernel
theorem dX5_piecesOf_26 : decode cX5_piecesOf 26 = .ok (.getfield 9, 3) := by decide +kernel
theorem dX5_piecesOf_29 : decode cX5_piecesOf 29 = .ok (.iload_n 3, 1) := by decide +kernel
theorem dX5_piecesOf_30 : decode cX5_piecesOf 30 = .ok (.baload, 1) := by decide +kernel
theorem dX5_piecesOf_31 : decode cX5_piecesOf 31 = .ok (.ifCond .ne 12, 3) := by decide +kernel
theorem dX5_piecesOf_34 : decode cX5_piecesOf 34 = .ok (.aload_n 0, 1) := by decide +kernel
theorem dX5_piecesOf_35 : decode cX5_piecesOf 35 = .ok (.aload_n 1, 1) := by decide +kernel
theorem dX5_piecesOf_36 : decode cX5_piecesOf 36 = .ok (.iload_n 3, 1) := by decide +kernel
theorem dX5_piecesOf_37 : decode cX5_piecesOf 37 = .ok (.invokevirtual 28, 3) := by decide +kernel
theorem dX5_piecesOf_40 : decode cX5_piecesOf 40 = .ok (.iinc 2 1, 3) := by decide +kernel
theorem dX5_piecesOf_43 : decode cX5_piecesOf 43 = .ok (.iinc 3 1, 3) := by decide +kernel
theorem dX5_piecesOf_46 : decode cX5_piecesOf 46 = .ok (.goto (-38), 3) := by decide +kernel
theorem dX5_piecesOf_49 : decode cX5_piecesOf 49 = .ok (.iload_n 2, 1) := by decide +kernel
theorem dX5_piecesOf_50 : decode cX5_piecesOf 50 = .ok (.ireturn, 1) := by decide +kernel
theorem dX5_greatestOf_0 : decode cX5_greatestOf 0 = .ok (.iconst 0, 1) := by decide +kernel
theorem dX5_greatestOf_1 : decode cX5_greatestOf 1 = .ok (.istore_n 2, 1) := by decide +kernel
theorem dX5_greatestOf_2 : decode cX5_greatestOf 2 = .ok (.aload_n 0, 1) := by decide +kernel
theorem dX5_greatestOf_3 : decode cX5_greatestOf 3 = .ok (.invokevirtual 19, 3) := by decide +kernel
theorem dX5_greatestOf_6 : decode cX5_greatestOf 6 = .ok (.iconst 0, 1) := by decide +kernel
theorem dX5_greatestOf_7 : decode cX5_greatestOf 7 = .ok (.istore_n 3, 1) := by decide +kernel
theorem dX5_greatestOf_8 : decode cX5_greatestOf 8 = .ok (.iload_n 3, 1) := by decide +kernel
theorem dX5_greatestOf_9 : decode cX5_greatestOf 9 = .ok (.aload_n 1, 1) := by decide +kernel
theorem dX5_greatestOf_10 : decode cX5_greatestOf 10 = .ok (.invokevirtual 22, 3) := by decide +kernel
theorem dX5_greatestOf_13 : decode cX5_greatestOf 13 = .ok (.if_icmp .ge 42, 3) := by decide +kernel
theorem dX5_greatestOf_16 : decode cX5_greatestOf 16 = .ok (.iload_n 3, 1) := by decide +kernel
theorem dX5_greatestOf_17 : decode cX5_greatestOf 17 = .ok (.aload_n 0, 1) := by decide +kernel
theorem dX5_greatestOf_18 : decode cX5_greatestOf 18 = .ok (.getfield 9, 3) := by decide +kernel
theorem dX5_greatestOf_21 : decode cX5_greatestOf 21 = .ok (.arraylength, 1) := by decide +kernel
theorem dX5_greatestOf_22 : decode cX5_greatestOf 22 = .ok (.if_icmp .ge 33, 3) := by decide +kernel
theorem dX5_greatestOf_25 : decode cX5_greatestOf 25 = .ok (.aload_n 0, 1) := by decide +kernel
theorem dX5_greatestOf_26 : decode cX5_greatestOf 26 = .ok (.getfield 9, 3) := by decide +kernel
theorem dX5_greatestOf_29 : decode cX5_greatestOf 29 = .ok (.iload_n 3, 1) := by decide +kernel
theorem dX5_greatestOf_30 : decode cX5_greatestOf 30 = .ok (.baload, 1) := by decide +kernel
theorem dX5_greatestOf_31 : decode cX5_greatestOf 31 = .ok (.ifCond .ne 18, 3) := by decide +kernel
theorem dX5_greatestOf_34 : decode cX5_greatestOf 34 = .ok (.aload_n 0, 1) := by decide +kernel
theorem dX5_greatestOf_35 : decode cX5_greatestOf 35 = .ok (.aload_n 1, 1) := by decide +kernel
theorem dX5_greatestOf_36 : decode cX5_greatestOf 36 = .ok (.iload_n 3, 1) := by decide +kernel
theorem dX5_greatestOf_37 : decode cX5_greatestOf 37 = .ok (.invokevirtual 28, 3) := by decide +kernel
theorem dX5_greatestOf_40 : decode cX5_greatestOf 40 = .ok (.iload_n 2, 1) := by decide +kernel
theorem dX5_greatestOf_41 : decode cX5_greatestOf 41 = .ok (.aload_n 0, 1) := by decide +kernel
theorem dX5_greatestOf_42 : decode cX5_greatestOf 42 = .ok (.getfield 32, 3) := by decide +kernel
theorem dX5_greatestOf_45 : decode cX5_greatestOf 45 = .ok (.invokestatic 36, 3) := by decide +kernel
theorem dX5_greatestOf_48 : decode cX5_greatestOf 48 = .ok (.istore_n 2, 1) := by decide +kernel
theorem dX5_greatestOf_49 : decode cX5_greatestOf 49 = .ok (.iinc 3 1, 3) := by decide +kernel
theorem dX5_greatestOf_52 : decode cX5_greatestOf 52 = .ok (.goto (-44), 3) := by decide +kernel
theorem dX5_greatestOf_55 : decode cX5_greatestOf 55 = .ok (.iload_n 2, 1) := by decide +kernel
theorem dX5_greatestOf_56 : decode cX5_greatestOf 56 = .ok (.ireturn, 1) := by decide +kernel
theorem dX5_forgetFound_0 : decode cX5_forgetFound 0 = .ok (.iconst 0, 1) := by decide +kernel
theorem dX5_forgetFound_1 : decode cX5_forgetFound 1 = .ok (.istore_n 1, 1) := by decide +kernel
theorem dX5_forgetFound_2 : decode cX5_forgetFound 2 = .ok (.iload_n 1, 1) := by decide +kernel
theorem dX5_forgetFound_3 : decode cX5_forgetFound 3 = .ok (.aload_n 0, 1) := by decide +kernel
theorem dX5_forgetFound_4 : decode cX5_forgetFound 4 = .ok (.getfield 9, 3) := by decide +kernel
theorem dX5_forgetFound_7 : decode cX5_forgetFound 7 = .ok (.arraylength, 1) := by decide +kernel
theorem dX5_forgetFound_8 : decode cX5_forgetFound 8 = .ok (.if_icmp .ge 16, 3) := by decide +kernel
theorem dX5_forgetFound_11 : decode cX5_forgetFound 11 = .ok (.aload_n 0, 1) := by decide +kernel
theorem dX5_forgetFound_12 : decode cX5_forgetFound 12 = .ok (.getfield 9, 3) := by decide +kernel
theorem dX5_forgetFound_15 : decode cX5_forgetFound 15 = .ok (.iload_n 1, 1) := by decide +kernel
theorem dX5_forgetFound_16 : decode cX5_forgetFound 16 = .ok (.iconst 0, 1) := by decide +kernel
theorem dX5_forgetFound_17 : decode cX5_forgetFound 17 = .ok (.bastore, 1) := by decide +kernel
theorem dX5_forgetFound_18 : decode cX5_forgetFound 18 = .ok (.iinc 1 1, 3) := by decide +kernel
theorem dX5_forgetFound_21 : decode cX5_forgetFound 21 = .ok (.goto (-19), 3) := by decide +kernel
theorem dX5_forgetFound_24 : decode cX5_forgetFound 24 = .ok (.return_, 1) := by decide +kernel
theorem dX5_findPiece_0 : decode cX5_findPiece 0 = .ok (.aload_n 1, 1) := by decide +kernel
theorem dX5_findPiece_1 : decode cX5_findPiece 1 = .ok (.getfield 42, 3) := by decide +kernel
theorem dX5_findPiece_4 : decode cX5_findPiece 4 = .ok (.istore_n 3, 1) := by decide +kernel
theorem dX5_findPiece_5 : decode cX5_findPiece 5 = .ok (.aload_n 1, 1) := by decide +kernel
theorem dX5_findPiece_6 : decode cX5_findPiece 6 = .ok (.iload_n 2, 1) := by decide +kernel
theorem dX5_findPiece_7 : decode cX5_findPiece 7 = .ok (.invokevirtual 45, 3) := by decide +kernel
theorem dX5_findPiece_10 : decode cX5_findPiece 10 = .ok (.istore 4, 2) := by decide +kernel
theorem dX5_findPiece_12 : decode cX5_findPiece 12 = .ok (.aload_n 0, 1) := by decide +kernel
theorem dX5_findPiece_13 : decode cX5_findPiece 13 = .ok (.iconst 0, 1) := by decide +kernel
theorem dX5_findPiece_14 : decode cX5_findPiece 14 = .ok (.putfield 32, 3) := by decide +kernel
theorem dX5_findPiece_17 : decode cX5_findPiece 17 = .ok (.iload_n 3, 1) := by decide +kernel
theorem dX5_findPiece_18 : decode cX5_findPiece 18 = .ok (.ifCond .gt 4, 3) := by decide +kernel
theorem dX5_findPiece_21 : decode cX5_findPiece 21 = .ok (.return_, 1) := by decide +kernel
theorem dX5_findPiece_22 : decode cX5_findPiece 22 = .ok (.aload_n 0, 1) := by decide +kernel
theorem dX5_findPiece_23 : decode cX5_findPiece 23 = .ok (.aload_n 1, 1) := by decide +kernel
theorem dX5_findPiece_24 : decode cX5_findPiece 24 = .ok (.iload_n 2, 1) := by decide +kernel
theorem dX5_findPiece_25 : decode cX5_findPiece 25 = .ok (.iload_n 3, 1) := by decide +kernel
theorem dX5_findPiece_26 : decode cX5_findPiece 26 = .ok (.irem, 1) := by decide +kernel
theorem dX5_findPiece_27 : decode cX5_findPiece 27 = .ok (.iload_n 2, 1) := by decide +kernel
theorem dX5_findPiece_28 : decode cX5_findPiece 28 = .ok (.iload_n 3, 1) := by decide +kernel
theorem dX5_findPiece_29 : decode cX5_findPiece 29 = .ok (.idiv, 1) := by decide +kernel
theorem dX5_findPiece_30 : decode cX5_findPiece 30 = .ok (.iload 4, 2) := by decide +kernel
theorem dX5_findPiece_32 : decode cX5_findPiece 32 = .ok (.invokevirtual 49, 3) := by decide +kernel
theorem dX5_findPiece_35 : decode cX5_findPiece 35 = .ok (.iconst 0, 1) := by decide +kernel
theorem dX5_findPiece_36 : decode cX5_findPiece 36 = .ok (.istore 5, 2) := by decide +kernel
theorem dX5_findPiece_38 : decode cX5_findPiece 38 = .ok (.iload 5, 2) := by decide +kernel
theorem dX5_findPiece_40 : decode cX5_findPiece 40 = .ok (.aload_n 0, 1) := by decide +kernel
theorem dX5_findPiece_41 : decode cX5_findPiece 41 = .ok (.getfield 32, 3) := by decide +kernel
theorem dX5_findPiece_44 : decode cX5_findPiece 44 = .ok (.if_icmp .ge 93, 3) := by decide +kernel
theorem dX5_findPiece_47 : decode cX5_findPiece 47 = .ok (.iload 5, 2) := by decide +kernel
theorem dX5_findPiece_49 : decode cX5_findPiece 49 = .ok (.aload_n 0, 1) := by decide +kernel
theorem dX5_findPiece_50 : decode cX5_findPiece 50 = .ok (.getfield 15, 3) := by decide +kernel
theorem dX5_findPiece_53 : decode cX5_findPiece 53 = .ok (.arraylength, 1) := by decide +kernel
theorem dX5_findPiece_54 : decode cX5_findPiece 54 = .ok (.if_icmp .ge 83, 3) := by decide +kernel
theorem dX5_findPiece_57 : decode cX5_findPiece 57 = .ok (.aload_n 0, 1) := by decide +kernel
theorem dX5_findPiece_58 : decode cX5_findPiece 58 = .ok (.getfield 15, 3) := by decide +kernel
theorem dX5_findPiece_61 : decode cX5_findPiece 61 = .ok (.iload 5, 2) := by decide +kernel
theorem dX5_findPiece_63 : decode cX5_findPiece 63 = .ok (.iaload, 1) := by decide +kernel
theorem dX5_findPiece_64 : decode cX5_findPiece 64 = .ok (.iload_n 3, 1) := by decide +kernel
theorem dX5_findPiece_65 : decode cX5_findPiece 65 = .ok (.irem, 1) := by decide +kernel
theorem dX5_findPiece_66 : decode cX5_findPiece 66 = .ok (.istore 6, 2) := by decide +kernel
theorem dX5_findPiece_68 : decode cX5_findPiece 68 = .ok (.aload_n 0, 1) := by decide +kernel
theorem dX5_findPiece_69 : decode cX5_findPiece 69 = .ok (.getfield 15, 3) := by decide +kernel
theorem dX5_findPiece_72 : decode cX5_findPiece 72 = .ok (.iload 5, 2) := by decide +kernel
theorem dX5_findPiece_74 : decode cX5_findPiece 74 = .ok (.iaload, 1) := by decide +kernel
theorem dX5_findPiece_75 : decode cX5_findPiece 75 = .ok (.iload_n 3, 1) := by decide +kernel
theorem dX5_findPiece_76 : decode cX5_findPiece 76 = .ok (.idiv, 1) := by decide +kernel
theorem dX5_findPiece_77 : decode cX5_findPiece 77 = .ok (.istore 7, 2) := by decide +kernel
theorem dX5_findPiece_79 : decode cX5_findPiece 79 = .ok (.aload_n 0, 1) := by decide +kernel
theorem dX5_findPiece_80 : decode cX5_findPiece 80 = .ok (.aload_n 1, 1) := by decide +kernel
theorem dX5_findPiece_81 : decode cX5_findPiece 81 = .ok (.iload 6, 2) := by decide +kernel
theorem dX5_findPiece_83 : decode cX5_findPiece 83 = .ok (.iconst 1, 1) := by decide +kernel
theorem dX5_findPiece_84 : decode cX5_findPiece 84 = .ok (.isub, 1) := by decide +kernel
theorem dX5_findPiece_85 : decode cX5_findPiece 85 = .ok (.iload 7, 2) := by decide +kernel
theorem dX5_findPiece_87 : decode cX5_findPiece 87 = .ok (.iload 4, 2) := by decide +kernel
theorem dX5_findPiece_89 : decode cX5_findPiece 89 = .ok (.invokevirtual 49, 3) := by decide +kernel
theorem dX5_findPiece_92 : decode cX5_findPiece 92 = .ok (.aload_n 0, 1) := by decide +kernel
theorem dX5_findPiece_93 : decode cX5_findPiece 93 = .ok (.aload_n 1, 1) := by decide +kernel
theorem dX5_findPiece_94 : decode cX5_findPiece 94 = .ok (.iload 6, 2) := by decide +kernel
theorem dX5_findPiece_96 : decode cX5_findPiece 96 = .ok (.iconst 1, 1) := by decide +kernel
theorem dX5_findPiece_97 : decode cX5_findPiece 97 = .ok (.iadd, 1) := by decide +kernel
theorem dX5_findPiece_98 : decode cX5_findPiece 98 = .ok (.iload 7, 2) := by decide +kernel
theorem dX5_findPiece_100 : decode cX5_findPiece 100 = .ok (.iload 4, 2) := by decide +kernel
theorem dX5_findPiece_102 : decode cX5_findPiece 102 = .ok (.invokevirtual 49, 3) := by decide +kernel
theorem dX5_findPiece_105 : decode cX5_findPiece 105 = .ok (.aload_n 0, 1) := by decide +kernel
theorem dX5_findPiece_106 : decode cX5_findPiece 106 = .ok (.aload_n 1, 1) := by decide +kernel
theorem dX5_findPiece_107 : decode cX5_findPiece 107 = .ok (.iload 6, 2) := by decide +kernel
theorem dX5_findPiece_109 : decode cX5_findPiece 109 = .ok (.iload 7, 2) := by decide +kernel
theorem dX5_findPiece_111 : decode cX5_findPiece 111 = .ok (.iconst 1, 1) := by decide +kernel
theorem dX5_findPiece_112 : decode cX5_findPiece 112 = .ok (.isub, 1) := by decide +kernel
theorem dX5_findPiece_113 : decode cX5_findPiece 113 = .ok (.iload 4, 2) := by decide +kernel
theorem dX5_findPiece_115 : decode cX5_findPiece 115 = .ok (.invokevirtual 49, 3) := by decide +kernel
theorem dX5_findPiece_118 : decode cX5_findPiece 118 = .ok (.aload_n 0, 1) := by decide +kernel
theorem dX5_findPiece_119 : decode cX5_findPiece 119 = .ok (.aload_n 1, 1) := by decide +kernel
theorem dX5_findPiece_120 : decode cX5_findPiece 120 = .ok (.iload 6, 2) := by decide +kernel
theorem dX5_findPiece_122 : decode cX5_findPiece 122 = .ok (.iload 7, 2) := by decide +kernel
theorem dX5_findPiece_124 : decode cX5_findPiece 124 = .ok (.iconst 1, 1) := by decide +kernel
theorem dX5_findPiece_125 : decode cX5_findPiece 125 = .ok (.iadd, 1) := by decide +kernel
theorem dX5_findPiece_126 : decode cX5_findPiece 126 = .ok (.iload 4, 2) := by decide +kernel
theorem dX5_findPiece_128 : decode cX5_findPiece 128 = .ok (.invokevirtual 49, 3) := by decide +kernel
theorem dX5_findPiece_131 : decode cX5_findPiece 131 = .ok (.iinc 5 1, 3) := by decide +kernel
theorem dX5_findPiece_134 : decode cX5_findPiece 134 = .ok (.goto (-96), 3) := by decide +kernel
theorem dX5_findPiece_137 : decode cX5_findPiece 137 = .ok (.return_, 1) := by decide +kernel
theorem dX5_join_0 : decode cX5_join 0 = .ok (.aload_n 1, 1) := by decide +kernel
theorem dX5_join_1 : decode cX5_join 1 = .ok (.iload_n 2, 1) := by decide +kernel
theorem dX5_join_2 : decode cX5_join 2 = .ok (.iload_n 3, 1) := by decide +kernel
theorem dX5_join_3 : decode cX5_join 3 = .ok (.invokevirtual 53, 3) := by decide +kernel
theorem dX5_join_6 : decode cX5_join 6 = .ok (.iload 4, 2) := by decide +kernel
theorem dX5_join_8 : decode cX5_join 8 = .ok (.if_icmp .eq 4, 3) := by decide +kernel
theorem dX5_join_11 : decode cX5_join 11 = .ok (.return_, 1) := by decide +kernel
theorem dX5_join_12 : decode cX5_join 12 = .ok (.iload_n 3, 1) := by decide +kernel
theorem dX5_join_13 : decode cX5_join 13 = .ok (.aload_n 1, 1) := by decide +kernel
theorem dX5_join_14 : decode cX5_join 14 = .ok (.getfield 42, 3) := by decide +kernel
theorem dX5_join_17 : decode cX5_join 17 = .ok (.imul, 1) := by decide +kernel
theorem dX5_join_18 : decode cX5_join 18 = .ok (.iload_n 2, 1) := by decide +kernel
theorem dX5_join_19 : decode cX5_join 19 = .ok (.iadd, 1) := by decide +kernel
theorem dX5_join_20 : decode cX5_join 20 = .ok (.istore 5, 2) := by decide +kernel
theorem dX5_join_22 : decode cX5_join 22 = .ok (.iload 5, 2) := by decide +kernel
theorem dX5_join_24 : decode cX5_join 24 = .ok (.ifCond .lt 54, 3) := by decide +kernel
theorem dX5_join_27 : decode cX5_join 27 = .ok (.iload 5, 2) := by decide +kernel
theorem dX5_join_29 : decode cX5_join 29 = .ok (.aload_n 0, 1) := by decide +kernel
theorem dX5_join_30 : decode cX5_join 30 = .ok (.getfield 9, 3) := by decide +kernel
theorem dX5_join_33 : decode cX5_join 33 = .ok (.arraylength, 1) := by decide +kernel
theorem dX5_join_34 : decode cX5_join 34 = .ok (.if_icmp .ge 44, 3) := by decide +kernel
theorem dX5_join_37 : decode cX5_join 37 = .ok (.aload_n 0, 1) := by decide +kernel
theorem dX5_join_38 : decode cX5_join 38 = .ok (.getfield 9, 3) := by decide +kernel
theorem dX5_join_41 : decode cX5_join 41 = .ok (.iload 5, 2) := by decide +kernel
theorem dX5_join_43 : decode cX5_join 43 = .ok (.baload, 1) := by decide +kernel
theorem dX5_join_44 : decode cX5_join 44 = .ok (.ifCond .ne 34, 3) := by decide +kernel
theorem dX5_join_47 : decode cX5_join 47 = .ok (.aload_n 0, 1) := by decide +kernel
theorem dX5_join_48 : decode cX5_join 48 = .ok (.getfield 9, 3) := by decide +kernel
theorem dX5_join_51 : decode cX5_join 51 = .ok (.iload 5, 2) := by decide +kernel
theorem dX5_join_53 : decode cX5_join 53 = .ok (.iconst 1, 1) := by decide +kernel
theorem dX5_join_54 : decode cX5_join 54 = .ok (.bastore, 1) := by decide +kernel
theorem dX5_join_55 : decode cX5_join 55 = .ok (.aload_n 0, 1) := by decide +kernel
theorem dX5_join_56 : decode cX5_join 56 = .ok (.getfield 15, 3) := by decide +kernel
theorem dX5_join_59 : decode cX5_join 59 = .ok (.aload_n 0, 1) := by decide +kernel
theorem dX5_join_60 : decode cX5_join 60 = .ok (.getfield 32, 3) := by decide +kernel
theorem dX5_join_63 : decode cX5_join 63 = .ok (.iload 5, 2) := by decide +kernel
theorem dX5_join_65 : decode cX5_join 65 = .ok (.invokestatic 56, 3) := by decide +kernel
theorem dX5_join_68 : decode cX5_join 68 = .ok (.aload_n 0, 1) := by decide +kernel
theorem dX5_join_69 : decode cX5_join 69 = .ok (.dup, 1) := by decide +kernel
theorem dX5_join_70 : decode cX5_join 70 = .ok (.getfield 32, 3) := by decide +kernel
theorem dX5_join_73 : decode cX5_join 73 = .ok (.iconst 1, 1) := by decide +kernel
theorem dX5_join_74 : decode cX5_join 74 = .ok (.iadd, 1) := by decide +kernel
theorem dX5_join_75 : decode cX5_join 75 = .ok (.putfield 32, 3) := by decide +kernel
theorem dX5_join_78 : decode cX5_join 78 = .ok (.return_, 1) := by decide +kernel
theorem dX6_at_0 : decode cX6_at 0 = .ok (.iload_n 1, 1) := by decide +kernel
theorem dX6_at_1 : decode cX6_at 1 = .ok (.ifCond .lt 15, 3) := by decide +kernel
theorem dX6_at_4 : decode cX6_at 4 = .ok (.iload_n 1, 1) := by decide +kernel
theorem dX6_at_5 : decode cX6_at 5 = .ok (.aload_n 0, 1) := by decide +kernel
theorem dX6_at_6 : decode cX6_at 6 = .ok (.arraylength, 1) := by decide +kernel
theorem dX6_at_7 : decode cX6_at 7 = .ok (.if_icmp .ge 9, 3) := by decide +kernel
theorem dX6_at_10 : decode cX6_at 10 = .ok (.aload_n 0, 1) := by decide +kernel
theorem dX6_at_11 : decode cX6_at 11 = .ok (.iload_n 1, 1) := by decide +kernel
theorem dX6_at_12 : decode cX6_at 12 = .ok (.iaload, 1) := by decide +kernel
theorem dX6_at_13 : decode cX6_at 13 = .ok (.goto 4, 3) := by decide +kernel
theorem dX6_at_16 : decode cX6_at 16 = .ok (.iconst 0, 1) := by decide +kernel
theorem dX6_at_17 : decode cX6_at 17 = .ok (.ireturn, 1) := by decide +kernel
theorem dX6_put_0 : decode cX6_put 0 = .ok (.iload_n 1, 1) := by decide +kernel
theorem dX6_put_1 : decode cX6_put 1 = .ok (.ifCond .lt 13, 3) := by decide +kernel
theorem dX6_put_4 : decode cX6_put 4 = .ok (.iload_n 1, 1) := by decide +kernel
theorem dX6_put_5 : decode cX6_put 5 = .ok (.aload_n 0, 1) := by decide +kernel
theorem dX6_put_6 : decode cX6_put 6 = .ok (.arraylength, 1) := by decide +kernel
theorem dX6_put_7 : decode cX6_put 7 = .ok (.if_icmp .ge 7, 3) := by decide +kernel
theorem dX6_put_10 : decode cX6_put 10 = .ok (.aload_n 0, 1) := by decide +kernel
theorem dX6_put_11 : decode cX6_put 11 = .ok (.iload_n 1, 1) := by decide +kernel
theorem dX6_put_12 : decode cX6_put 12 = .ok (.iload_n 2, 1) := by decide +kernel
theorem dX6_put_13 : decode cX6_put 13 = .ok (.iastore, 1) := by decide +kernel
theorem dX6_put_14 : decode cX6_put 14 = .ok (.return_, 1) := by decide +kernel
theorem dX6_add_0 : decode cX6_add 0 = .ok (.aload_n 0, 1) := by decide +kernel
theorem dX6_add_1 : decode cX6_add 1 = .ok (.iload_n 1, 1) := by decide +kernel
theorem dX6_add_2 : decode cX6_add 2 = .ok (.aload_n 0, 1) := by decide +kernel
theorem dX6_add_3 : decode cX6_add 3 = .ok (.iload_n 1, 1) := by decide +kernel
theorem dX6_add_4 : decode cX6_add 4 = .ok (.invokestatic 7, 3) := by decide +kernel
theorem dX6_add_7 : decode cX6_add 7 = .ok (.iload_n 2, 1) := by decide +kernel
theorem dX6_add_8 : decode cX6_add 8 = .ok (.iadd, 1) := by decide +kernel
theorem dX6_add_9 : decode cX6_add 9 = .ok (.invokestatic 13, 3) := by decide +kernel
theorem dX6_add_12 : decode cX6_add 12 = .ok (.return_, 1) := by decide +kernel
theorem dX6_sum_0 : decode cX6_sum 0 = .ok (.iconst 0, 1) := by decide +kernel
theorem dX6_sum_1 : decode cX6_sum 1 = .ok (.istore_n 1, 1) := by decide +kernel
theorem dX6_sum_2 : decode cX6_sum 2 = .ok (.iconst 0, 1) := by decide +kernel
theorem dX6_sum_3 : decode cX6_sum 3 = .ok (.istore_n 2, 1) := by decide +kernel
theorem dX6_sum_4 : decode cX6_sum 4 = .ok (.iload_n 2, 1) := by decide +kernel
theorem dX6_sum_5 : decode cX6_sum 5 = .ok (.aload_n 0, 1) := by decide +kernel
theorem dX6_sum_6 : decode cX6_sum 6 = .ok (.arraylength, 1) := by decide +kernel
theorem dX6_sum_7 : decode cX6_sum 7 = .ok (.if_icmp .ge 15, 3) := by decide +kernel
theorem dX6_sum_10 : decode cX6_sum 10 = .ok (.iload_n 1, 1) := by decide +kernel
theorem dX6_sum_11 : decode cX6_sum 11 = .ok (.aload_n 0, 1) := by decide +kernel
theorem dX6_sum_12 : decode cX6_sum 12 = .ok (.iload_n 2, 1) := by decide +kernel
theorem dX6_sum_13 : decode cX6_sum 13 = .ok (.iaload, 1) := by decide +kernel
theorem dX6_sum_14 : decode cX6_sum 14 = .ok (.iadd, 1) := by decide +kernel
theorem dX6_sum_15 : decode cX6_sum 15 = .ok (.istore_n 1, 1) := by decide +kernel
theorem dX6_sum_16 : decode cX6_sum 16 = .ok (.iinc 2 1, 3) := by decide +kernel
theorem dX6_sum_19 : decode cX6_sum 19 = .ok (.goto (-15), 3) := by decide +kernel
theorem dX6_sum_22 : decode cX6_sum 22 = .ok (.iload_n 1, 1) := by decide +kernel
theorem dX6_sum_23 : decode cX6_sum 23 = .ok (.ireturn, 1) := by decide +kernel
theorem dX6_clear_0 : decode cX6_clear 0 = .ok (.iconst 0, 1) := by decide +kernel
theorem dX6_clear_1 : decode cX6_clear 1 = .ok (.istore_n 1, 1) := by decide +kernel
theorem dX6_clear_2 : decode cX6_clear 2 = .ok (.iload_n 1, 1) := by decide +kernel
theorem dX6_clear_3 : decode cX6_clear 3 = .ok (.aload_n 0, 1) := by decide +kernel
theorem dX6_clear_4 : decode cX6_clear 4 = .ok (.arraylength, 1) := by decide +kernel
theorem dX6_clear_5 : decode cX6_clear 5 = .ok (.if_icmp .ge 13, 3) := by decide +kernel
theorem dX6_clear_8 : decode cX6_clear 8 = .ok (.aload_n 0, 1) := by decide +kernel
theorem dX6_clear_9 : decode cX6_clear 9 = .ok (.iload_n 1, 1) := by decide +kernel
theorem dX6_clear_10 : decode cX6_clear 10 = .ok (.iconst 0, 1) := by decide +kernel
theorem dX6_clear_11 : decode cX6_clear 11 = .ok (.iastore, 1) := by decide +kernel
theorem dX6_clear_12 : decode cX6_clear 12 = .ok (.iinc 1 1, 3) := by decide +kernel
theorem dX6_clear_15 : decode cX6_clear 15 = .ok (.goto (-13), 3) := by decide +kernel
theorem dX6_clear_18 : decode cX6_clear 18 = .ok (.return_, 1) := by decide +kernel
theorem dX6_copy_0 : decode cX6_copy 0 = .ok (.iconst 0, 1) := by decide +kernel
theorem dX6_copy_1 : decode cX6_copy 1 = .ok (.istore_n 2, 1) := by decide +kernel
theorem dX6_copy_2 : decode cX6_copy 2 = .ok (.iload_n 2, 1) := by decide +kernel
theorem dX6_copy_3 : decode cX6_copy 3 = .ok (.aload_n 0, 1) := by decide +kernel
theorem dX6_copy_4 : decode cX6_copy 4 = .ok (.arraylength, 1) := by decide +kernel
theorem dX6_copy_5 : decode cX6_copy 5 = .ok (.if_icmp .ge 21, 3) := by decide +kernel
theorem dX6_copy_8 : decode cX6_copy 8 = .ok (.iload_n 2, 1) := by decide +kernel
theorem dX6_copy_9 : decode cX6_copy 9 = .ok (.aload_n 1, 1) := by decide +kernel
theorem dX6_copy_10 : decode cX6_copy 10 = .ok (.arraylength, 1) := by decide +kernel
theorem dX6_copy_11 : decode cX6_copy 11 = .ok (.if_icmp .ge 15, 3) := by decide +kernel
theorem dX6_copy_14 : decode cX6_copy 14 = .ok (.aload_n 1, 1) := by decide +kernel
theorem dX6_copy_15 : decode cX6_copy 15 = .ok (.iload_n 2, 1) := by decide +kernel
theorem dX6_copy_16 : decode cX6_copy 16 = .ok (.aload_n 0, 1) := by decide +kernel
theorem dX6_copy_17 : decode cX6_copy 17 = .ok (.iload_n 2, 1) := by decide +kernel
theorem dX6_copy_18 : decode cX6_copy 18 = .ok (.iaload, 1) := by decide +kernel
theorem dX6_copy_19 : decode cX6_copy 19 = .ok (.iastore, 1) := by decide +kernel
theorem dX6_copy_20 : decode cX6_copy 20 = .ok (.iinc 2 1, 3) := by decide +kernel
theorem dX6_copy_23 : decode cX6_copy 23 = .ok (.goto (-21), 3) := by decide +kernel
theorem dX6_copy_26 : decode cX6_copy 26 = .ok (.return_, 1) := by decide +kernel
theorem dX8_init_0 : decode cX8_init 0 = .ok (.aload_n 0, 1) := by decide +kernel
theorem dX8_init_1 : decode cX8_init 1 = .ok (.invokespecial 3, 3) := by decide +kernel
theorem dX8_init_4 : decode cX8_init 4 = .ok (.aload_n 0, 1) := by decide +kernel
theorem dX8_init_5 : decode cX8_init 5 = .ok (.iconst 5, 1) := by decide +kernel
theorem dX8_init_6 : decode cX8_init 6 = .ok (.anewarray 9, 3) := by decide +kernel
theorem dX8_init_9 : decode cX8_init 9 = .ok (.putfield 11, 3) := by decide +kernel
theorem dX8_init_12 : decode cX8_init 12 = .ok (.aload_n 0, 1) := by decide +kernel
theorem dX8_init_13 : decode cX8_init 13 = .ok (.bipush 6, 2) := by decide +kernel
theorem dX8_init_15 : decode cX8_init 15 = .ok (.anewarray 17, 3) := by decide +kernel
theorem dX8_init_18 : decode cX8_init 18 = .ok (.putfield 19, 3) := by decide +kernel
theorem dX8_init_21 : decode cX8_init 21 = .ok (.aload_n 0, 1) := by decide +kernel
theorem dX8_init_22 : decode cX8_init 22 = .ok (.iconst 3, 1) := by decide +kernel
theorem dX8_init_23 : decode cX8_init 23 = .ok (.anewarray 23, 3) := by decide +kernel
theorem dX8_init_26 : decode cX8_init 26 = .ok (.putfield 25, 3) := by decide +kernel
theorem dX8_init_29 : decode cX8_init 29 = .ok (.iconst 0, 1) := by decide +kernel
theorem dX8_init_30 : decode cX8_init 30 = .ok (.istore_n 1, 1) := by decide +kernel
theorem dX8_init_31 : decode cX8_init 31 = .ok (.iload_n 1, 1) := by decide +kernel
theorem dX8_init_32 : decode cX8_init 32 = .ok (.aload_n 0, 1) := by decide +kernel
theorem dX8_init_33 : decode cX8_init 33 = .ok (.getfield 11, 3) := by decide +kernel
theorem dX8_init_36 : decode cX8_init 36 = .ok (.arraylength, 1) := by decide +kernel
theorem dX8_init_37 : decode cX8_init 37 = .ok (.if_icmp .ge 22, 3) := by decide +kernel
theorem dX8_init_40 : decode cX8_init 40 = .ok (.aload_n 0, 1) := by decide +kernel
theorem dX8_init_41 : decode cX8_init 41 = .ok (.getfield 11, 3) := by decide +kernel
theorem dX8_init_44 : decode cX8_init 44 = .ok (.iload_n 1, 1) := by decide +kernel
theorem dX8_init_45 : decode cX8_init 45 = .ok (.new 9, 3) := by decide +kernel
theorem dX8_init_48 : decode cX8_init 48 = .ok (.dup, 1) := by decide +kernel
theorem dX8_init_49 : decode cX8_init 49 = .ok (.invokespecial 29, 3) := by decide +kernel
theorem dX8_init_52 : decode cX8_init 52 = .ok (.aastore, 1) := by decide +kernel
theorem dX8_init_53 : decode cX8_init 53 = .ok (.iinc 1 1, 3) := by decide +kernel
theorem dX8_init_56 : decode cX8_init 56 = .ok (.goto (-25), 3) := by decide +kernel
theorem dX8_init_59 : decode cX8_init 59 = .ok (.iconst 0, 1) := by decide +kernel
theorem dX8_init_60 : decode cX8_init 60 = .ok (.istore_n 1, 1) := by decide +kernel
theorem dX8_init_61 : decode cX8_init 61 = .ok (.iload_n 1, 1) := by decide +kernel
theorem dX8_init_62 : decode cX8_init 62 = .ok (.aload_n 0, 1) := by decide +kernel
theorem dX8_init_63 : decode cX8_init 63 = .ok (.getfield 19, 3) := by decide +kernel
theorem dX8_init_66 : decode cX8_init 66 = .ok (.arraylength, 1) := by decide +kernel
theorem dX8_init_67 : decode cX8_init 67 = .ok (.if_icmp .ge 22, 3) := by decide +kernel
theorem dX8_init_70 : decode cX8_init 70 = .ok (.aload_n 0, 1) := by decide +kernel
theorem dX8_init_71 : decode cX8_init 71 = .ok (.getfield 19, 3) := by decide +kernel
theorem dX8_init_74 : decode cX8_init 74 = .ok (.iload_n 1, 1) := by decide +kernel
theorem dX8_init_75 : decode cX8_init 75 = .ok (.new 17, 3) := by decide +kernel
theorem dX8_init_78 : decode cX8_init 78 = .ok (.dup, 1) := by decide +kernel
theorem dX8_init_79 : decode cX8_init 79 = .ok (.invokespecial 30, 3) := by decide +kernel
theorem dX8_init_82 : decode cX8_init 82 = .ok (.aastore, 1) := by decide +kernel
theorem dX8_init_83 : decode cX8_init 83 = .ok (.iinc 1 1, 3) := by decide +kernel
theorem dX8_init_86 : decode cX8_init 86 = .ok (.goto (-25), 3) := by decide +kernel
theorem dX8_init_89 : decode cX8_init 89 = .ok (.iconst 0, 1) := by decide +kernel
theorem dX8_init_90 : decode cX8_init 90 = .ok (.istore_n 1, 1) := by decide +kernel
theorem dX8_init_91 : decode cX8_init 91 = .ok (.iload_n 1, 1) := by decide +kernel
theorem dX8_init_92 : decode cX8_init 92 = .ok (.aload_n 0, 1) := by decide +kernel
theorem dX8_init_93 : decode cX8_init 93 = .ok (.getfield 25, 3) := by decide +kernel
theorem dX8_init_96 : decode cX8_init 96 = .ok (.arraylength, 1) := by decide +kernel
theorem dX8_init_97 : decode cX8_init 97 = .ok (.if_icmp .ge 22, 3) := by decide +kernel
theorem dX8_init_100 : decode cX8_init 100 = .ok (.aload_n 0, 1) := by decide +kernel
theorem dX8_init_101 : decode cX8_init 101 = .ok (.getfield 25, 3) := by decide +kernel
theorem dX8_init_104 : decode cX8_init 104 = .ok (.iload_n 1, 1) := by decide +kernel
theorem dX8_init_105 : decode cX8_init 105 = .ok (.new 23, 3) := by decide +kernel
theorem dX8_init_108 : decode cX8_init 108 = .ok (.dup, 1) := by decide +kernel
theorem dX8_init_109 : decode cX8_init 109 = .ok (.invokespecial 31, 3) := by decide +kernel
theorem dX8_init_112 : decode cX8_init 112 = .ok (.aastore, 1) := by decide +kernel
theorem dX8_init_113 : decode cX8_init 113 = .ok (.iinc 1 1, 3) := by decide +kernel
theorem dX8_init_116 : decode cX8_init 116 = .ok (.goto (-25), 3) := by decide +kernel
theorem dX8_init_119 : decode cX8_init 119 = .ok (.return_, 1) := by decide +kernel
theorem dX8_memberAt_0 : decode cX8_memberAt 0 = .ok (.iload_n 1, 1) := by decide +kernel
theorem dX8_memberAt_1 : decode cX8_memberAt 1 = .ok (.ifCond .lt 29, 3) := by decide +kernel
theorem dX8_memberAt_4 : decode cX8_memberAt 4 = .ok (.iload_n 1, 1) := by decide +kernel
theorem dX8_memberAt_5 : decode cX8_memberAt 5 = .ok (.aload_n 0, 1) := by decide +kernel
theorem dX8_memberAt_6 : decode cX8_memberAt 6 = .ok (.getfield 32, 3) := by decide +kernel
theorem dX8_memberAt_9 : decode cX8_memberAt 9 = .ok (.if_icmp .ge 21, 3) := by decide +kernel
theorem dX8_memberAt_12 : decode cX8_memberAt 12 = .ok (.iload_n 1, 1) := by decide +kernel
theorem dX8_memberAt_13 : decode cX8_memberAt 13 = .ok (.aload_n 0, 1) := by decide +kernel
theorem dX8_memberAt_14 : decode cX8_memberAt 14 = .ok (.getfield 11, 3) := by decide +kernel
theorem dX8_memberAt_17 : decode cX8_memberAt 17 = .ok (.arraylength, 1) := by decide +kernel
theorem dX8_memberAt_18 : decode cX8_memberAt 18 = .ok (.if_icmp .ge 12, 3) := by decide +kernel
theorem dX8_memberAt_21 : decode cX8_memberAt 21 = .ok (.aload_n 0, 1) := by decide +kernel
theorem dX8_memberAt_22 : decode cX8_memberAt 22 = .ok (.getfield 11, 3) := by decide +kernel
theorem dX8_memberAt_25 : decode cX8_memberAt 25 = .ok (.iload_n 1, 1) := by decide +kernel
theorem dX8_memberAt_26 : decode cX8_memberAt 26 = .ok (.aaload, 1) := by decide +kernel
theorem dX8_memberAt_27 : decode cX8_memberAt 27 = .ok (.goto 4, 3) := by decide +kernel
theorem dX8_memberAt_30 : decode cX8_memberAt 30 = .ok (.aconst_null, 1) := by decide +kernel
theorem dX8_memberAt_31 : decode cX8_memberAt 31 = .ok (.areturn, 1) := by decide +kernel
theorem dX8_clothAt_0 : decode cX8_clothAt 0 = .ok (.iload_n 1, 1) := by decide +kernel
theorem dX8_clothAt_1 : decode cX8_clothAt 1 = .ok (.ifCond .lt 21, 3) := by decide +kernel
theorem dX8_clothAt_4 : decode cX8_clothAt 4 = .ok (.iload_n 1, 1) := by decide +kernel
theorem dX8_clothAt_5 : decode cX8_clothAt 5 = .ok (.aload_n 0, 1) := by decide +kernel
theorem dX8_clothAt_6 : decode cX8_clothAt 6 = .ok (.getfield 19, 3) := by decide +kernel
theorem dX8_clothAt_9 : decode cX8_clothAt 9 = .ok (.arraylength, 1) := by decide +kernel
theorem dX8_clothAt_10 : decode cX8_clothAt 10 = .ok (.if_icmp .ge 12, 3) := by decide +kernel
theorem dX8_clothAt_13 : decode cX8_clothAt 13 = .ok (.aload_n 0, 1) := by decide +kernel
theorem dX8_clothAt_14 : decode cX8_clothAt 14 = .ok (.getfield 19, 3) := by decide +kernel
theorem dX8_clothAt_17 : decode cX8_clothAt 17 = .ok (.iload_n 1, 1) := by decide +kernel
theorem dX8_clothAt_18 : decode cX8_clothAt 18 = .ok (.aaload, 1) := by decide +kernel
theorem dX8_clothAt_19 : decode cX8_clothAt 19 = .ok (.goto 4, 3) := by decide +kernel
theorem dX8_clothAt_22 : decode cX8_clothAt 22 = .ok (.aconst_null, 1) := by decide +kernel
theorem dX8_clothAt_23 : decode cX8_clothAt 23 = .ok (.areturn, 1) := by decide +kernel
theorem dX8_frameAt_0 : decode cX8_frameAt 0 = .ok (.iload_n 1, 1) := by decide +kernel
theorem dX8_frameAt_1 : decode cX8_frameAt 1 = .ok (.ifCond .lt 21, 3) := by decide +kernel
theorem dX8_frameAt_4 : decode cX8_frameAt 4 = .ok (.iload_n 1, 1) := by decide +kernel
theorem dX8_frameAt_5 : decode cX8_frameAt 5 = .ok (.aload_n 0, 1) := by decide +kernel
theorem dX8_frameAt_6 : decode cX8_frameAt 6 = .ok (.getfield 25, 3) := by decide +kernel
theorem dX8_frameAt_9 : decode cX8_frameAt 9 = .ok (.arraylength, 1) := by decide +kernel
theorem dX8_frameAt_10 : decode cX8_frameAt 10 = .ok (.if_icmp .ge 12, 3) := by decide +kernel
theorem dX8_frameAt_13 : decode cX8_frameAt 13 = .ok (.aload_n 0, 1) := by decide +kernel
theorem dX8_frameAt_14 : decode cX8_frameAt 14 = .ok (.getfield 25, 3) := by decide +kernel
theorem dX8_frameAt_17 : decode cX8_frameAt 17 = .ok (.iload_n 1, 1) := by decide +kernel
theorem dX8_frameAt_18 : decode cX8_frameAt 18 = .ok (.aaload, 1) := by decide +kernel
theorem dX8_frameAt_19 : decode cX8_frameAt 19 = .ok (.goto 4, 3) := by decide +kernel
theorem dX8_frameAt_22 : decode cX8_frameAt 22 = .ok (.aconst_null, 1) := by decide +kernel
theorem dX8_frameAt_23 : decode cX8_frameAt 23 = .ok (.areturn, 1) := by decide +kernel
theorem dX8_usedFrames_0 : decode cX8_usedFrames 0 = .ok (.iconst 0, 1) := by decide +kernel
theorem dX8_usedFrames_1 : decode cX8_usedFrames 1 = .ok (.istore_n 1, 1) := by decide +kernel
theorem dX8_usedFrames_2 : decode cX8_usedFrames 2 = .ok (.iconst 0, 1) := by decide +kernel
theorem dX8_usedFrames_3 : decode cX8_usedFrames 3 = .ok (.istore_n 2, 1) := by decide +kernel
theorem dX8_usedFrames_4 : decode cX8_usedFrames 4 = .ok (.iload_n 2, 1) := by decide +kernel
theorem dX8_usedFrames_5 : decode cX8_usedFrames 5 = .ok (.iconst 3, 1) := by decide +kernel
theorem dX8_usedFrames_6 : decode cX8_usedFrames 6 = .ok (.if_icmp .ge 29, 3) := by decide +kernel
theorem dX8_usedFrames_9 : decode cX8_usedFrames 9 = .ok (.aload_n 0, 1) := by decide +kernel
theorem dX8_usedFrames_10 : decode cX8_usedFrames 10 = .ok (.iload_n 2, 1) := by decide +kernel
theorem dX8_usedFrames_11 : decode cX8_usedFrames 11 = .ok (.invokevirtual 36, 3) := by decide +kernel
theorem dX8_usedFrames_14 : decode cX8_usedFrames 14 = .ok (.astore_n 3, 1) := by decide +kernel
theorem dX8_usedFrames_15 : decode cX8_usedFrames 15 = .ok (.aload_n 3, 1) := by decide +kernel
theorem dX8_usedFrames_16 : decode cX8_usedFrames 16 = .ok (.ifnull 13, 3) := by decide +kernel
theorem dX8_usedFrames_19 : decode cX8_usedFrames 19 = .ok (.aload_n 3, 1) := by decide +kernel
theorem dX8_usedFrames_20 : decode cX8_usedFrames 20 = .ok (.invokevirtual 40, 3) := by decide +kernel
theorem dX8_usedFrames_23 : decode cX8_usedFrames 23 = .ok (.ifCond .ne 6, 3) := by decide +kernel
theorem dX8_usedFrames_26 : decode cX8_usedFrames 26 = .ok (.iinc 1 1, 3) := by decide +kernel
theorem dX8_usedFrames_29 : decode cX8_usedFrames 29 = .ok (.iinc 2 1, 3) := by decide +kernel
theorem dX8_usedFrames_32 : decode cX8_usedFrames 32 = .ok (.goto (-28), 3) := by decide +kernel
theorem dX8_usedFrames_35 : decode cX8_usedFrames 35 = .ok (.iload_n 1, 1) := by decide +kernel
theorem dX8_usedFrames_36 : decode cX8_usedFrames 36 = .ok (.ireturn, 1) := by decide +kernel
theorem dX8_clothInAll_0 : decode cX8_clothInAll 0 = .ok (.iconst 0, 1) := by decide +kernel
theorem dX8_clothInAll_1 : decode cX8_clothInAll 1 = .ok (.istore_n 2, 1) := by decide +kernel
theorem dX8_clothInAll_2 : decode cX8_clothInAll 2 = .ok (.iconst 0, 1) := by decide +kernel
theorem dX8_clothInAll_3 : decode cX8_clothInAll 3 = .ok (.istore_n 3, 1) := by decide +kernel
theorem dX8_clothInAll_4 : decode cX8_clothInAll 4 = .ok (.iload_n 3, 1) := by decide +kernel
theorem dX8_clothInAll_5 : decode cX8_clothInAll 5 = .ok (.bipush 6, 2) := by decide +kernel
theorem dX8_clothInAll_7 : decode cX8_clothInAll 7 = .ok (.if_icmp .ge 30, 3) := by decide +kernel
theorem dX8_clothInAll_10 : decode cX8_clothInAll 10 = .ok (.aload_n 0, 1) := by decide +kernel
theorem dX8_clothInAll_11 : decode cX8_clothInAll 11 = .ok (.iload_n 3, 1) := by decide +kernel
theorem dX8_clothInAll_12 : decode cX8_clothInAll 12 = .ok (.invokevirtual 44, 3) := by decide +kernel
theorem dX8_clothInAll_15 : decode cX8_clothInAll 15 = .ok (.astore 4, 2) := by decide +kernel
theorem dX8_clothInAll_17 : decode cX8_clothInAll 17 = .ok (.aload 4, 2) := by decide +kernel
theorem dX8_clothInAll_19 : decode cX8_clothInAll 19 = .ok (.ifnull 12, 3) := by decide +kernel
theorem dX8_clothInAll_22 : decode cX8_clothInAll 22 = .ok (.iload_n 2, 1) := by decide +kernel
theorem dX8_clothInAll_23 : decode cX8_clothInAll 23 = .ok (.aload 4, 2) := by decide +kernel
theorem dX8_clothInAll_25 : decode cX8_clothInAll 25 = .ok (.iload_n 1, 1) := by decide +kernel
theorem dX8_clothInAll_26 : decode cX8_clothInAll 26 = .ok (.invokevirtual 48, 3) := by decide +kernel
theorem dX8_clothInAll_29 : decode cX8_clothInAll 29 = .ok (.iadd, 1) := by decide +kernel
theorem dX8_clothInAll_30 : decode cX8_clothInAll 30 = .ok (.istore_n 2, 1) := by decide +kernel
theorem dX8_clothInAll_31 : decode cX8_clothInAll 31 = .ok (.iinc 3 1, 3) := by decide +kernel
theorem dX8_clothInAll_34 : decode cX8_clothInAll 34 = .ok (.goto (-30), 3) := by decide +kernel
theorem dX8_clothInAll_37 : decode cX8_clothInAll 37 = .ok (.iload_n 2, 1) := by decide +kernel
theorem dX8_clothInAll_38 : decode cX8_clothInAll 38 = .ok (.ireturn, 1) := by decide +kernel
theorem dX8_welcomeMember_0 : decode cX8_welcomeMember 0 = .ok (.aload_n 0, 1) := by decide +kernel
theorem dX8_welcomeMember_1 : decode cX8_welcomeMember 1 = .ok (.dup, 1) := by decide +kernel
theorem dX8_welcomeMember_2 : decode cX8_welcomeMember 2 = .ok (.getfield 32, 3) := by decide +kernel
theorem dX8_welcomeMember_5 : decode cX8_welcomeMember 5 = .ok (.iconst 1, 1) := by decide +kernel
theorem dX8_welcomeMember_6 : decode cX8_welcomeMember 6 = .ok (.iadd, 1) := by decide +kernel
theorem dX8_welcomeMember_7 : decode cX8_welcomeMember 7 = .ok (.putfield 32, 3) := by decide +kernel
theorem dX8_welcomeMember_10 : decode cX8_welcomeMember 10 = .ok (.aload_n 0, 1) := by decide +kernel
theorem dX8_welcomeMember_11 : decode cX8_welcomeMember 11 = .ok (.getfield 32, 3) := by decide +kernel
theorem dX8_welcomeMember_14 : decode cX8_welcomeMember 14 = .ok (.iconst 1, 1) := by decide +kernel
theorem dX8_welcomeMember_15 : decode cX8_welcomeMember 15 = .ok (.isub, 1) := by decide +kernel
theorem dX8_welcomeMember_16 : decode cX8_welcomeMember 16 = .ok (.ireturn, 1) := by decide +kernel
theorem dX8_takeGift_0 : decode cX8_takeGift 0 = .ok (.aload_n 0, 1) := by decide +kernel
theorem dX8_takeGift_1 : decode cX8_takeGift 1 = .ok (.iload_n 2, 1) := by decide +kernel
theorem dX8_takeGift_2 : decode cX8_takeGift 2 = .ok (.invokevirtual 44, 3) := by decide +kernel
theorem dX8_takeGift_5 : decode cX8_takeGift 5 = .ok (.astore 4, 2) := by decide +kernel
theorem dX8_takeGift_7 : decode cX8_takeGift 7 = .ok (.aload_n 1, 1) := by decide +kernel
theorem dX8_takeGift_8 : decode cX8_takeGift 8 = .ok (.ifnull 8, 3) := by decide +kernel
theorem dX8_takeGift_11 : decode cX8_takeGift 11 = .ok (.aload 4, 2) := by decide +kernel
theorem dX8_takeGift_13 : decode cX8_takeGift 13 = .ok (.ifnonnull 4, 3) := by decide +kernel
theorem dX8_takeGift_16 : decode cX8_takeGift 16 = .ok (.return_, 1) := by decide +kernel
theorem dX8_takeGift_17 : decode cX8_takeGift 17 = .ok (.aload_n 1, 1) := by decide +kernel
theorem dX8_takeGift_18 : decode cX8_takeGift 18 = .ok (.getfield 52, 3) := by decide +kernel
theorem dX8_takeGift_21 : decode cX8_takeGift 21 = .ok (.iload_n 2, 1) := by decide +kernel
theorem dX8_takeGift_22 : decode cX8_takeGift 22 = .ok (.iload_n 3, 1) := by decide +kernel
theorem dX8_takeGift_23 : decode cX8_takeGift 23 = .ok (.invokestatic 56, 3) := by decide +kernel
theorem dX8_takeGift_26 : decode cX8_takeGift 26 = .ok (.aload 4, 2) := by decide +kernel
theorem dX8_takeGift_28 : decode cX8_takeGift 28 = .ok (.dup, 1) := by decide +kernel
theorem dX8_takeGift_29 : decode cX8_takeGift 29 = .ok (.getfield 62, 3) := by decide +kernel
theorem dX8_takeGift_32 : decode cX8_takeGift 32 = .ok (.iload_n 3, 1) := by decide +kernel
theorem dX8_takeGift_33 : decode cX8_takeGift 33 = .ok (.iadd, 1) := by decide +kernel
theorem dX8_takeGift_34 : decode cX8_takeGift 34 = .ok (.putfield 62, 3) := by decide +kernel
theorem dX8_takeGift_37 : decode cX8_takeGift 37 = .ok (.aload 4, 2) := by decide +kernel
theorem dX8_takeGift_39 : decode cX8_takeGift 39 = .ok (.dup, 1) := by decide +kernel
theorem dX8_takeGift_40 : decode cX8_takeGift 40 = .ok (.getfield 64, 3) := by decide +kernel
theorem dX8_takeGift_43 : decode cX8_takeGift 43 = .ok (.iload_n 3, 1) := by decide +kernel
theorem dX8_takeGift_44 : decode cX8_takeGift 44 = .ok (.iadd, 1) := by decide +kernel
theorem dX8_takeGift_45 : decode cX8_takeGift 45 = .ok (.putfield 64, 3) := by decide +kernel
theorem dX8_takeGift_48 : decode cX8_takeGift 48 = .ok (.return_, 1) := by decide +kernel
theorem dX8_canSewOn_0 : decode cX8_canSewOn 0 = .ok (.aload_n 1, 1) := by decide +kernel
theorem dX8_canSewOn_1 : decode cX8_canSewOn 1 = .ok (.invokevirtual 40, 3) := by decide +kernel
theorem dX8_canSewOn_4 : decode cX8_canSewOn 4 = .ok (.ifCond .ne 14, 3) := by decide +kernel
theorem dX8_canSewOn_7 : decode cX8_canSewOn 7 = .ok (.aload_n 0, 1) := by decide +kernel
theorem dX8_canSewOn_8 : decode cX8_canSewOn 8 = .ok (.getfield 32, 3) := by decide +kernel
theorem dX8_canSewOn_11 : decode cX8_canSewOn 11 = .ok (.ifCond .le 7, 3) := by decide +kernel
theorem dX8_canSewOn_14 : decode cX8_canSewOn 14 = .ok (.iconst 1, 1) := by decide +kernel
theorem dX8_canSewOn_15 : decode cX8_canSewOn 15 = .ok (.goto 4, 3) := by decide +kernel
theorem dX8_canSewOn_18 : decode cX8_canSewOn 18 = .ok (.iconst 0, 1) := by decide +kernel
theorem dX8_canSewOn_19 : decode cX8_canSewOn 19 = .ok (.ireturn, 1) := by decide +kernel
theorem dX8_sewPatches_0 : decode cX8_sewPatches 0 = .ok (.iconst 0, 1) := by decide +kernel
theorem dX8_sewPatches_1 : decode cX8_sewPatches 1 = .ok (.istore_n 3, 1) := by decide +kernel
theorem dX8_sewPatches_2 : decode cX8_sewPatches 2 = .ok (.iconst 0, 1) := by decide +kernel
theorem dX8_sewPatches_3 : decode cX8_sewPatches 3 = .ok (.istore 4, 2) := by decide +kernel
theorem dX8_sewPatches_5 : decode cX8_sewPatches 5 = .ok (.iload 4, 2) := by decide +kernel
theorem dX8_sewPatches_7 : decode cX8_sewPatches 7 = .ok (.iload_n 2, 1) := by decide +kernel
theorem dX8_sewPatches_8 : decode cX8_sewPatches 8 = .ok (.if_icmp .ge 20, 3) := by decide +kernel
theorem dX8_sewPatches_11 : decode cX8_sewPatches 11 = .ok (.aload_n 0, 1) := by decide +kernel
theorem dX8_sewPatches_12 : decode cX8_sewPatches 12 = .ok (.aload_n 1, 1) := by decide +kernel
theorem dX8_sewPatches_13 : decode cX8_sewPatches 13 = .ok (.invokevirtual 67, 3) := by decide +kernel
theorem dX8_sewPatches_16 : decode cX8_sewPatches 16 = .ok (.ifCond .eq 12, 3) := by decide +kernel
theorem dX8_sewPatches_19 : decode cX8_sewPatches 19 = .ok (.iinc 3 1, 3) := by decide +kernel
theorem dX8_sewPatches_22 : decode cX8_sewPatches 22 = .ok (.iinc 4 1, 3) := by decide +kernel
theorem dX8_sewPatches_25 : decode cX8_sewPatches 25 = .ok (.goto (-20), 3) := by decide +kernel
theorem dX8_sewPatches_28 : decode cX8_sewPatches 28 = .ok (.aload_n 0, 1) := by decide +kernel
theorem dX8_sewPatches_29 : decode cX8_sewPatches 29 = .ok (.aload_n 0, 1) := by decide +kernel
theorem dX8_sewPatches_30 : decode cX8_sewPatches 30 = .ok (.getfield 71, 3) := by decide +kernel
theorem dX8_sewPatches_33 : decode cX8_sewPatches 33 = .ok (.invokevirtual 74, 3) := by decide +kernel
theorem dX8_sewPatches_36 : decode cX8_sewPatches 36 = .ok (.astore 4, 2) := by decide +kernel
theorem dX8_sewPatches_38 : decode cX8_sewPatches 38 = .ok (.aload 4, 2) := by decide +kernel
theorem dX8_sewPatches_40 : decode cX8_sewPatches 40 = .ok (.ifnull 14, 3) := by decide +kernel
theorem dX8_sewPatches_43 : decode cX8_sewPatches 43 = .ok (.aload 4, 2) := by decide +kernel
theorem dX8_sewPatches_45 : decode cX8_sewPatches 45 = .ok (.dup, 1) := by decide +kernel
theorem dX8_sewPatches_46 : decode cX8_sewPatches 46 = .ok (.getfield 78, 3) := by decide +kernel
theorem dX8_sewPatches_49 : decode cX8_sewPatches 49 = .ok (.iload_n 3, 1) := by decide +kernel
theorem dX8_sewPatches_50 : decode cX8_sewPatches 50 = .ok (.iadd, 1) := by decide +kernel
theorem dX8_sewPatches_51 : decode cX8_sewPatches 51 = .ok (.putfield 78, 3) := by decide +kernel
theorem dX8_sewPatches_54 : decode cX8_sewPatches 54 = .ok (.aload_n 1, 1) := by decide +kernel
theorem dX8_sewPatches_55 : decode cX8_sewPatches 55 = .ok (.getfield 81, 3) := by decide +kernel
theorem dX8_sewPatches_58 : decode cX8_sewPatches 58 = .ok (.aload_n 0, 1) := by decide +kernel
theorem dX8_sewPatches_59 : decode cX8_sewPatches 59 = .ok (.getfield 71, 3) := by decide +kernel
theorem dX8_sewPatches_62 : decode cX8_sewPatches 62 = .ok (.iload_n 3, 1) := by decide +kernel
theorem dX8_sewPatches_63 : decode cX8_sewPatches 63 = .ok (.invokestatic 56, 3) := by decide +kernel
theorem dX8_sewPatches_66 : decode cX8_sewPatches 66 = .ok (.aload_n 0, 1) := by decide +kernel
theorem dX8_sewPatches_67 : decode cX8_sewPatches 67 = .ok (.aload_n 0, 1) := by decide +kernel
theorem dX8_sewPatches_68 : decode cX8_sewPatches 68 = .ok (.getfield 71, 3) := by decide +kernel
theorem dX8_sewPatches_71 : decode cX8_sewPatches 71 = .ok (.iconst 1, 1) := by decide +kernel
theorem dX8_sewPatches_72 : decode cX8_sewPatches 72 = .ok (.iadd, 1) := by decide +kernel
theorem dX8_sewPatches_73 : decode cX8_sewPatches 73 = .ok (.aload_n 0, 1) := by decide +kernel
theorem dX8_sewPatches_74 : decode cX8_sewPatches 74 = .ok (.getfield 32, 3) := by decide +kernel
theorem dX8_sewPatches_77 : decode cX8_sewPatches 77 = .ok (.if_icmp .ge 12, 3) := by decide +kernel
theorem dX8_sewPatches_80 : decode cX8_sewPatches 80 = .ok (.aload_n 0, 1) := by decide +kernel
theorem dX8_sewPatches_81 : decode cX8_sewPatches 81 = .ok (.getfield 71, 3) := by decide +kernel
theorem dX8_sewPatches_84 : decode cX8_sewPatches 84 = .ok (.iconst 1, 1) := by decide +kernel
theorem dX8_sewPatches_85 : decode cX8_sewPatches 85 = .ok (.iadd, 1) := by decide +kernel
theorem dX8_sewPatches_86 : decode cX8_sewPatches 86 = .ok (.goto 4, 3) := by decide +kernel
theorem dX8_sewPatches_89 : decode cX8_sewPatches 89 = .ok (.iconst 0, 1) := by decide +kernel
theorem dX8_sewPatches_90 : decode cX8_sewPatches 90 = .ok (.putfield 71, 3) := by decide +kernel
theorem dX8_sewPatches_93 : decode cX8_sewPatches 93 = .ok (.iload_n 3, 1) := by decide +kernel
theorem dX8_sewPatches_94 : decode cX8_sewPatches 94 = .ok (.ireturn, 1) := by decide +kernel
theorem dX8_sewOne_0 : decode cX8_sewOne 0 = .ok (.aload_n 0, 1) := by decide +kernel
theorem dX8_sewOne_1 : decode cX8_sewOne 1 = .ok (.aload_n 1, 1) := by decide +kernel
theorem dX8_sewOne_2 : decode cX8_sewOne 2 = .ok (.invokevirtual 84, 3) := by decide +kernel
theorem dX8_sewOne_5 : decode cX8_sewOne 5 = .ok (.invokevirtual 44, 3) := by decide +kernel
theorem dX8_sewOne_8 : decode cX8_sewOne 8 = .ok (.astore_n 2, 1) := by decide +kernel
theorem dX8_sewOne_9 : decode cX8_sewOne 9 = .ok (.aload_n 2, 1) := by decide +kernel
theorem dX8_sewOne_10 : decode cX8_sewOne 10 = .ok (.ifnull 10, 3) := by decide +kernel
theorem dX8_sewOne_13 : decode cX8_sewOne 13 = .ok (.aload_n 2, 1) := by decide +kernel
theorem dX8_sewOne_14 : decode cX8_sewOne 14 = .ok (.getfield 64, 3) := by decide +kernel
theorem dX8_sewOne_17 : decode cX8_sewOne 17 = .ok (.ifCond .gt 5, 3) := by decide +kernel
theorem dX8_sewOne_20 : decode cX8_sewOne 20 = .ok (.iconst 0, 1) := by decide +kernel
theorem dX8_sewOne_21 : decode cX8_sewOne 21 = .ok (.ireturn, 1) := by decide +kernel
theorem dX8_sewOne_22 : decode cX8_sewOne 22 = .ok (.aload_n 2, 1) := by decide +kernel
theorem dX8_sewOne_23 : decode cX8_sewOne 23 = .ok (.dup, 1) := by decide +kernel
theorem dX8_sewOne_24 : decode cX8_sewOne 24 = .ok (.getfield 64, 3) := by decide +kernel
theorem dX8_sewOne_27 : decode cX8_sewOne 27 = .ok (.iconst 1, 1) := by decide +kernel
theorem dX8_sewOne_28 : decode cX8_sewOne 28 = .ok (.isub, 1) := by decide +kernel
theorem dX8_sewOne_29 : decode cX8_sewOne 29 = .ok (.putfield 64, 3) := by decide +kernel
theorem dX8_sewOne_32 : decode cX8_sewOne 32 = .ok (.aload_n 2, 1) := by decide +kernel
theorem dX8_sewOne_33 : decode cX8_sewOne 33 = .ok (.dup, 1) := by decide +kernel
theorem dX8_sewOne_34 : decode cX8_sewOne 34 = .ok (.getfield 88, 3) := by decide +kernel
theorem dX8_sewOne_37 : decode cX8_sewOne 37 = .ok (.iconst 1, 1) := by decide +kernel
theorem dX8_sewOne_38 : decode cX8_sewOne 38 = .ok (.iadd, 1) := by decide +kernel
theorem dX8_sewOne_39 : decode cX8_sewOne 39 = .ok (.putfield 88, 3) := by decide +kernel
theorem dX8_sewOne_42 : decode cX8_sewOne 42 = .ok (.aload_n 1, 1) := by decide +kernel
theorem dX8_sewOne_43 : decode cX8_sewOne 43 = .ok (.dup, 1) := by decide +kernel
theorem dX8_sewOne_44 : decode cX8_sewOne 44 = .ok (.getfield 91, 3) := by decide +kernel
theorem dX8_sewOne_47 : decode cX8_sewOne 47 = .ok (.iconst 1, 1) := by decide +kernel
theorem dX8_sewOne_48 : decode cX8_sewOne 48 = .ok (.iadd, 1) := by decide +kernel
theorem dX8_sewOne_49 : decode cX8_sewOne 49 = .ok (.putfield 91, 3) := by decide +kernel
theorem dX8_sewOne_52 : decode cX8_sewOne 52 = .ok (.iconst 1, 1) := by decide +kernel
theorem dX8_sewOne_53 : decode cX8_sewOne 53 = .ok (.ireturn, 1) := by decide +kernel
theorem dX8_cutUp_0 : decode cX8_cutUp 0 = .ok (.aload_n 1, 1) := by decide +kernel
theorem dX8_cutUp_1 : decode cX8_cutUp 1 = .ok (.getfield 91, 3) := by decide +kernel
theorem dX8_cutUp_4 : decode cX8_cutUp 4 = .ok (.istore_n 2, 1) := by decide +kernel
theorem dX8_cutUp_5 : decode cX8_cutUp 5 = .ok (.iconst 0, 1) := by decide +kernel
theorem dX8_cutUp_6 : decode cX8_cutUp 6 = .ok (.istore_n 3, 1) := by decide +kernel
theorem dX8_cutUp_7 : decode cX8_cutUp 7 = .ok (.iload_n 3, 1) := by decide +kernel
theorem dX8_cutUp_8 : decode cX8_cutUp 8 = .ok (.bipush 6, 2) := by decide +kernel
theorem dX8_cutUp_10 : decode cX8_cutUp 10 = .ok (.if_icmp .ge 54, 3) := by decide +kernel
theorem dX8_cutUp_13 : decode cX8_cutUp 13 = .ok (.aload_n 0, 1) := by decide +kernel
theorem dX8_cutUp_14 : decode cX8_cutUp 14 = .ok (.iload_n 3, 1) := by decide +kernel
theorem dX8_cutUp_15 : decode cX8_cutUp 15 = .ok (.invokevirtual 44, 3) := by decide +kernel
theorem dX8_cutUp_18 : decode cX8_cutUp 18 = .ok (.astore 4, 2) := by decide +kernel
theorem dX8_cutUp_20 : decode cX8_cutUp 20 = .ok (.aload 4, 2) := by decide +kernel
theorem dX8_cutUp_22 : decode cX8_cutUp 22 = .ok (.ifnull 36, 3) := by decide +kernel
theorem dX8_cutUp_25 : decode cX8_cutUp 25 = .ok (.aload_n 1, 1) := by decide +kernel
theorem dX8_cutUp_26 : decode cX8_cutUp 26 = .ok (.iload_n 3, 1) := by decide +kernel
theorem dX8_cutUp_27 : decode cX8_cutUp 27 = .ok (.iconst 0, 1) := by decide +kernel
theorem dX8_cutUp_28 : decode cX8_cutUp 28 = .ok (.iload_n 2, 1) := by decide +kernel
theorem dX8_cutUp_29 : decode cX8_cutUp 29 = .ok (.invokevirtual 92, 3) := by decide +kernel
theorem dX8_cutUp_32 : decode cX8_cutUp 32 = .ok (.istore 5, 2) := by decide +kernel
theorem dX8_cutUp_34 : decode cX8_cutUp 34 = .ok (.aload 4, 2) := by decide +kernel
theorem dX8_cutUp_36 : decode cX8_cutUp 36 = .ok (.dup, 1) := by decide +kernel
theorem dX8_cutUp_37 : decode cX8_cutUp 37 = .ok (.getfield 88, 3) := by decide +kernel
theorem dX8_cutUp_40 : decode cX8_cutUp 40 = .ok (.iload 5, 2) := by decide +kernel
theorem dX8_cutUp_42 : decode cX8_cutUp 42 = .ok (.isub, 1) := by decide +kernel
theorem dX8_cutUp_43 : decode cX8_cutUp 43 = .ok (.putfield 88, 3) := by decide +kernel
theorem dX8_cutUp_46 : decode cX8_cutUp 46 = .ok (.aload 4, 2) := by decide +kernel
theorem dX8_cutUp_48 : decode cX8_cutUp 48 = .ok (.dup, 1) := by decide +kernel
theorem dX8_cutUp_49 : decode cX8_cutUp 49 = .ok (.getfield 96, 3) := by decide +kernel
theorem dX8_cutUp_52 : decode cX8_cutUp 52 = .ok (.iload 5, 2) := by decide +kernel
theorem dX8_cutUp_54 : decode cX8_cutUp 54 = .ok (.iadd, 1) := by decide +kernel
theorem dX8_cutUp_55 : decode cX8_cutUp 55 = .ok (.putfield 96, 3) := by decide +kernel
theorem dX8_cutUp_58 : decode cX8_cutUp 58 = .ok (.iinc 3 1, 3) := by decide +kernel
theorem dX8_cutUp_61 : decode cX8_cutUp 61 = .ok (.goto (-54), 3) := by decide +kernel
theorem dX8_cutUp_64 : decode cX8_cutUp 64 = .ok (.aload_n 1, 1) := by decide +kernel
theorem dX8_cutUp_65 : decode cX8_cutUp 65 = .ok (.aconst_null, 1) := by decide +kernel
theorem dX8_cutUp_66 : decode cX8_cutUp 66 = .ok (.invokevirtual 99, 3) := by decide +kernel
theorem dX8_cutUp_69 : decode cX8_cutUp 69 = .ok (.iload_n 2, 1) := by decide +kernel
theorem dX8_cutUp_70 : decode cX8_cutUp 70 = .ok (.ireturn, 1) := by decide +kernel
theorem dX8_raffleOff_0 : decode cX8_raffleOff 0 = .ok (.aload_n 1, 1) := by decide +kernel
theorem dX8_raffleOff_1 : decode cX8_raffleOff 1 = .ok (.invokevirtual 103, 3) := by decide +kernel
theorem dX8_raffleOff_4 : decode cX8_raffleOff 4 = .ok (.istore_n 3, 1) := by decide +kernel
theorem dX8_raffleOff_5 : decode cX8_raffleOff 5 = .ok (.iconst 0, 1) := by decide +kernel
theorem dX8_raffleOff_6 : decode cX8_raffleOff 6 = .ok (.istore 4, 2) := by decide +kernel
theorem dX8_raffleOff_8 : decode cX8_raffleOff 8 = .ok (.iload 4, 2) := by decide +kernel
theorem dX8_raffleOff_10 : decode cX8_raffleOff 10 = .ok (.iconst 5, 1) := by decide +kernel
theorem dX8_raffleOff_11 : decode cX8_raffleOff 11 = .ok (.if_icmp .ge 39, 3) := by decide +kernel
theorem dX8_raffleOff_14 : decode cX8_raffleOff 14 = .ok (.aload_n 0, 1) := by decide +kernel
theorem dX8_raffleOff_15 : decode cX8_raffleOff 15 = .ok (.iload 4, 2) := by decide +kernel
theorem dX8_raffleOff_17 : decode cX8_raffleOff 17 = .ok (.invokevirtual 74, 3) := by decide +kernel
theorem dX8_raffleOff_20 : decode cX8_raffleOff 20 = .ok (.astore 5, 2) := by decide +kernel
theorem dX8_raffleOff_22 : decode cX8_raffleOff 22 = .ok (.aload 5, 2) := by decide +kernel
theorem dX8_raffleOff_24 : decode cX8_raffleOff 24 = .ok (.ifnull 20, 3) := by decide +kernel
theorem dX8_raffleOff_27 : decode cX8_raffleOff 27 = .ok (.aload 5, 2) := by decide +kernel
theorem dX8_raffleOff_29 : decode cX8_raffleOff 29 = .ok (.dup, 1) := by decide +kernel
theorem dX8_raffleOff_30 : decode cX8_raffleOff 30 = .ok (.getfield 106, 3) := by decide +kernel
theorem dX8_raffleOff_33 : decode cX8_raffleOff 33 = .ok (.aload_n 1, 1) := by decide +kernel
theorem dX8_raffleOff_34 : decode cX8_raffleOff 34 = .ok (.iload 4, 2) := by decide +kernel
theorem dX8_raffleOff_36 : decode cX8_raffleOff 36 = .ok (.iload_n 2, 1) := by decide +kernel
theorem dX8_raffleOff_37 : decode cX8_raffleOff 37 = .ok (.invokevirtual 109, 3) := by decide +kernel
theorem dX8_raffleOff_40 : decode cX8_raffleOff 40 = .ok (.iadd, 1) := by decide +kernel
theorem dX8_raffleOff_41 : decode cX8_raffleOff 41 = .ok (.putfield 106, 3) := by decide +kernel
theorem dX8_raffleOff_44 : decode cX8_raffleOff 44 = .ok (.iinc 4 1, 3) := by decide +kernel
theorem dX8_raffleOff_47 : decode cX8_raffleOff 47 = .ok (.goto (-39), 3) := by decide +kernel
theorem dX8_raffleOff_50 : decode cX8_raffleOff 50 = .ok (.aload_n 0, 1) := by decide +kernel
theorem dX8_raffleOff_51 : decode cX8_raffleOff 51 = .ok (.dup, 1) := by decide +kernel
theorem dX8_raffleOff_52 : decode cX8_raffleOff 52 = .ok (.getfield 113, 3) := by decide +kernel
theorem dX8_raffleOff_55 : decode cX8_raffleOff 55 = .ok (.iconst 1, 1) := by decide +kernel
theorem dX8_raffleOff_56 : decode cX8_raffleOff 56 = .ok (.iadd, 1) := by decide +kernel
theorem dX8_raffleOff_57 : decode cX8_raffleOff 57 = .ok (.putfield 113, 3) := by decide +kernel
theorem dX8_raffleOff_60 : decode cX8_raffleOff 60 = .ok (.aload_n 0, 1) := by decide +kernel
theorem dX8_raffleOff_61 : decode cX8_raffleOff 61 = .ok (.dup, 1) := by decide +kernel
theorem dX8_raffleOff_62 : decode cX8_raffleOff 62 = .ok (.getfield 116, 3) := by decide +kernel
theorem dX8_raffleOff_65 : decode cX8_raffleOff 65 = .ok (.iload_n 3, 1) := by decide +kernel
theorem dX8_raffleOff_66 : decode cX8_raffleOff 66 = .ok (.iadd, 1) := by decide +kernel
theorem dX8_raffleOff_67 : decode cX8_raffleOff 67 = .ok (.putfield 116, 3) := by decide +kernel
theorem dX8_raffleOff_70 : decode cX8_raffleOff 70 = .ok (.aload_n 0, 1) := by decide +kernel
theorem dX8_raffleOff_71 : decode cX8_raffleOff 71 = .ok (.dup, 1) := by decide +kernel
theorem dX8_raffleOff_72 : decode cX8_raffleOff 72 = .ok (.getfield 119, 3) := by decide +kernel
theorem dX8_raffleOff_75 : decode cX8_raffleOff 75 = .ok (.iload_n 2, 1) := by decide +kernel
theorem dX8_raffleOff_76 : decode cX8_raffleOff 76 = .ok (.iadd, 1) := by decide +kernel
theorem dX8_raffleOff_77 : decode cX8_raffleOff 77 = .ok (.putfield 119, 3) := by decide +kernel
theorem dX8_raffleOff_80 : decode cX8_raffleOff 80 = .ok (.aload_n 1, 1) := by decide +kernel
theorem dX8_raffleOff_81 : decode cX8_raffleOff 81 = .ok (.aconst_null, 1) := by decide +kernel
theorem dX8_raffleOff_82 : decode cX8_raffleOff 82 = .ok (.invokevirtual 99, 3) := by decide +kernel
theorem dX8_raffleOff_85 : decode cX8_raffleOff 85 = .ok (.iload_n 3, 1) := by decide +kernel
theorem dX8_raffleOff_86 : decode cX8_raffleOff 86 = .ok (.ireturn, 1) := by decide +kernel
theorem dX8_giveBackStock_0 : decode cX8_giveBackStock 0 = .ok (.aload_n 0, 1) := by decide +kernel
theorem dX8_giveBackStock_1 : decode cX8_giveBackStock 1 = .ok (.iconst 4, 1) := by decide +kernel
theorem dX8_giveBackStock_2 : decode cX8_giveBackStock 2 = .ok (.invokevirtual 122, 3) := by decide +kernel
theorem dX8_giveBackStock_5 : decode cX8_giveBackStock 5 = .ok (.istore_n 1, 1) := by decide +kernel
theorem dX8_giveBackStock_6 : decode cX8_giveBackStock 6 = .ok (.iconst 0, 1) := by decide +kernel
theorem dX8_giveBackStock_7 : decode cX8_giveBackStock 7 = .ok (.istore_n 2, 1) := by decide +kernel
theorem dX8_giveBackStock_8 : decode cX8_giveBackStock 8 = .ok (.iload_n 2, 1) := by decide +kernel
theorem dX8_giveBackStock_9 : decode cX8_giveBackStock 9 = .ok (.bipush 6, 2) := by decide +kernel
theorem dX8_giveBackStock_11 : decode cX8_giveBackStock 11 = .ok (.if_icmp .ge 25, 3) := by decide +kernel
theorem dX8_giveBackStock_14 : decode cX8_giveBackStock 14 = .ok (.aload_n 0, 1) := by decide +kernel
theorem dX8_giveBackStock_15 : decode cX8_giveBackStock 15 = .ok (.iload_n 2, 1) := by decide +kernel
theorem dX8_giveBackStock_16 : decode cX8_giveBackStock 16 = .ok (.invokevirtual 44, 3) := by decide +kernel
theorem dX8_giveBackStock_19 : decode cX8_giveBackStock 19 = .ok (.astore_n 3, 1) := by decide +kernel
theorem dX8_giveBackStock_20 : decode cX8_giveBackStock 20 = .ok (.aload_n 3, 1) := by decide +kernel
theorem dX8_giveBackStock_21 : decode cX8_giveBackStock 21 = .ok (.ifnull 9, 3) := by decide +kernel
theorem dX8_giveBackStock_24 : decode cX8_giveBackStock 24 = .ok (.aload_n 0, 1) := by decide +kernel
theorem dX8_giveBackStock_25 : decode cX8_giveBackStock 25 = .ok (.aload_n 3, 1) := by decide +kernel
theorem dX8_giveBackStock_26 : decode cX8_giveBackStock 26 = .ok (.iload_n 2, 1) := by decide +kernel
theorem dX8_giveBackStock_27 : decode cX8_giveBackStock 27 = .ok (.invokevirtual 125, 3) := by decide +kernel
theorem dX8_giveBackStock_30 : decode cX8_giveBackStock 30 = .ok (.iinc 2 1, 3) := by decide +kernel
theorem dX8_giveBackStock_33 : decode cX8_giveBackStock 33 = .ok (.goto (-25), 3) := by decide +kernel
theorem dX8_giveBackStock_36 : decode cX8_giveBackStock 36 = .ok (.aload_n 0, 1) := by decide +kernel
theorem dX8_giveBackStock_37 : decode cX8_giveBackStock 37 = .ok (.iconst 4, 1) := by decide +kernel
theorem dX8_giveBackStock_38 : decode cX8_giveBackStock 38 = .ok (.invokevirtual 122, 3) := by decide +kernel
theorem dX8_giveBackStock_41 : decode cX8_giveBackStock 41 = .ok (.iload_n 1, 1) := by decide +kernel
theorem dX8_giveBackStock_42 : decode cX8_giveBackStock 42 = .ok (.isub, 1) := by decide +kernel
theorem dX8_giveBackStock_43 : decode cX8_giveBackStock 43 = .ok (.ireturn, 1) := by decide +kernel
theorem dX8_giveBackColour_0 : decode cX8_giveBackColour 0 = .ok (.aload_n 1, 1) := by decide +kernel
theorem dX8_giveBackColour_1 : decode cX8_giveBackColour 1 = .ok (.getfield 64, 3) := by decide +kernel
theorem dX8_giveBackColour_4 : decode cX8_giveBackColour 4 = .ok (.istore_n 3, 1) := by decide +kernel
theorem dX8_giveBackColour_5 : decode cX8_giveBackColour 5 = .ok (.iconst 0, 1) := by decide +kernel
theorem dX8_giveBackColour_6 : decode cX8_giveBackColour 6 = .ok (.istore 4, 2) := by decide +kernel
theorem dX8_giveBackColour_8 : decode cX8_giveBackColour 8 = .ok (.iload 4, 2) := by decide +kernel
theorem dX8_giveBackColour_10 : decode cX8_giveBackColour 10 = .ok (.iconst 5, 1) := by decide +kernel
theorem dX8_giveBackColour_11 : decode cX8_giveBackColour 11 = .ok (.if_icmp .ge 82, 3) := by decide +kernel
theorem dX8_giveBackColour_14 : decode cX8_giveBackColour 14 = .ok (.aload_n 0, 1) := by decide +kernel
theorem dX8_giveBackColour_15 : decode cX8_giveBackColour 15 = .ok (.iload 4, 2) := by decide +kernel
theorem dX8_giveBackColour_17 : decode cX8_giveBackColour 17 = .ok (.invokevirtual 74, 3) := by decide +kernel
theorem dX8_giveBackColour_20 : decode cX8_giveBackColour 20 = .ok (.astore 5, 2) := by decide +kernel
theorem dX8_giveBackColour_22 : decode cX8_giveBackColour 22 = .ok (.aload 5, 2) := by decide +kernel
theorem dX8_giveBackColour_24 : decode cX8_giveBackColour 24 = .ok (.ifnull 63, 3) := by decide +kernel
theorem dX8_giveBackColour_27 : decode cX8_giveBackColour 27 = .ok (.aload_n 1, 1) := by decide +kernel
theorem dX8_giveBackColour_28 : decode cX8_giveBackColour 28 = .ok (.getfield 62, 3) := by decide +kernel
theorem dX8_giveBackColour_31 : decode cX8_giveBackColour 31 = .ok (.ifCond .le 56, 3) := by decide +kernel
theorem dX8_giveBackColour_34 : decode cX8_giveBackColour 34 = .ok (.aload_n 1, 1) := by decide +kernel
theorem dX8_giveBackColour_35 : decode cX8_giveBackColour 35 = .ok (.getfield 64, 3) := by decide +kernel
theorem dX8_giveBackColour_38 : decode cX8_giveBackColour 38 = .ok (.i2l, 1) := by decide +kernel
theorem dX8_giveBackColour_39 : decode cX8_giveBackColour 39 = .ok (.aload 5, 2) := by decide +kernel
theorem dX8_giveBackColour_41 : decode cX8_giveBackColour 41 = .ok (.getfield 52, 3) := by decide +kernel
theorem dX8_giveBackColour_44 : decode cX8_giveBackColour 44 = .ok (.iload_n 2, 1) := by decide +kernel
theorem dX8_giveBackColour_45 : decode cX8_giveBackColour 45 = .ok (.invokestatic 129, 3) := by decide +kernel
theorem dX8_giveBackColour_48 : decode cX8_giveBackColour 48 = .ok (.i2l, 1) := by decide +kernel
theorem dX8_giveBackColour_49 : decode cX8_giveBackColour 49 = .ok (.lmul, 1) := by decide +kernel
theorem dX8_giveBackColour_50 : decode cX8_giveBackColour 50 = .ok (.aload_n 1, 1) := by decide +kernel
theorem dX8_giveBackColour_51 : decode cX8_giveBackColour 51 = .ok (.getfield 62, 3) := by decide +kernel
theorem dX8_giveBackColour_54 : decode cX8_giveBackColour 54 = .ok (.i2l, 1) := by decide +kernel
theorem dX8_giveBackColour_55 : decode cX8_giveBackColour 55 = .ok (.ldiv, 1) := by decide +kernel
theorem dX8_giveBackColour_56 : decode cX8_giveBackColour 56 = .ok (.l2i, 1) := by decide +kernel
theorem dX8_giveBackColour_57 : decode cX8_giveBackColour 57 = .ok (.istore 6, 2) := by decide +kernel
theorem dX8_giveBackColour_59 : decode cX8_giveBackColour 59 = .ok (.aload 5, 2) := by decide +kernel
theorem dX8_giveBackColour_61 : decode cX8_giveBackColour 61 = .ok (.dup, 1) := by decide +kernel
theorem dX8_giveBackColour_62 : decode cX8_giveBackColour 62 = .ok (.getfield 133, 3) := by decide +kernel
theorem dX8_giveBackColour_65 : decode cX8_giveBackColour 65 = .ok (.iload 6, 2) := by decide +kernel
theorem dX8_giveBackColour_67 : decode cX8_giveBackColour 67 = .ok (.iadd, 1) := by decide +kernel
theorem dX8_giveBackColour_68 : decode cX8_giveBackColour 68 = .ok (.putfield 133, 3) := by decide +kernel
theorem dX8_giveBackColour_71 : decode cX8_giveBackColour 71 = .ok (.aload_n 1, 1) := by decide +kernel
theorem dX8_giveBackColour_72 : decode cX8_giveBackColour 72 = .ok (.dup, 1) := by decide +kernel
theorem dX8_giveBackColour_73 : decode cX8_giveBackColour 73 = .ok (.getfield 136, 3) := by decide +kernel
theorem dX8_giveBackColour_76 : decode cX8_giveBackColour 76 = .ok (.iload 6, 2) := by decide +kernel
theorem dX8_giveBackColour_78 : decode cX8_giveBackColour 78 = .ok (.iadd, 1) := by decide +kernel
theorem dX8_giveBackColour_79 : decode cX8_giveBackColour 79 = .ok (.putfield 136, 3) := by decide +kernel
theorem dX8_giveBackColour_82 : decode cX8_giveBackColour 82 = .ok (.iload_n 3, 1) := by decide +kernel
theorem dX8_giveBackColour_83 : decode cX8_giveBackColour 83 = .ok (.iload 6, 2) := by decide +kernel
theorem dX8_giveBackColour_85 : decode cX8_giveBackColour 85 = .ok (.isub, 1) := by decide +kernel
theorem dX8_giveBackColour_86 : decode cX8_giveBackColour 86 = .ok (.istore_n 3, 1) := by decide +kernel
theorem dX8_giveBackColour_87 : decode cX8_giveBackColour 87 = .ok (.iinc 4 1, 3) := by decide +kernel
theorem dX8_giveBackColour_90 : decode cX8_giveBackColour 90 = .ok (.goto (-82), 3) := by decide +kernel
theorem dX8_giveBackColour_93 : decode cX8_giveBackColour 93 = .ok (.aload_n 1, 1) := by decide +kernel
theorem dX8_giveBackColour_94 : decode cX8_giveBackColour 94 = .ok (.dup, 1) := by decide +kernel
theorem dX8_giveBackColour_95 : decode cX8_giveBackColour 95 = .ok (.getfield 96, 3) := by decide +kernel
theorem dX8_giveBackColour_98 : decode cX8_giveBackColour 98 = .ok (.iload_n 3, 1) := by decide +kernel
theorem dX8_giveBackColour_99 : decode cX8_giveBackColour 99 = .ok (.iadd, 1) := by decide +kernel
theorem dX8_giveBackColour_100 : decode cX8_giveBackColour 100 = .ok (.putfield 96, 3) := by decide +kernel
theorem dX8_giveBackColour_103 : decode cX8_giveBackColour 103 = .ok (.aload_n 1, 1) := by decide +kernel
theorem dX8_giveBackColour_104 : decode cX8_giveBackColour 104 = .ok (.iconst 0, 1) := by decide +kernel
theorem dX8_giveBackColour_105 : decode cX8_giveBackColour 105 = .ok (.putfield 64, 3) := by decide +kernel
theorem dX8_giveBackColour_108 : decode cX8_giveBackColour 108 = .ok (.return_, 1) := by decide +kernel
theorem dX8_missing_0 : decode cX8_missing 0 = .ok (.aload_n 0, 1) := by decide +kernel
theorem dX8_missing_1 : decode cX8_missing 1 = .ok (.iload_n 2, 1) := by decide +kernel
theorem dX8_missing_2 : decode cX8_missing 2 = .ok (.invokevirtual 44, 3) := by decide +kernel
theorem dX8_missing_5 : decode cX8_missing 5 = .ok (.astore_n 3, 1) := by decide +kernel
theorem dX8_missing_6 : decode cX8_missing 6 = .ok (.iconst 0, 1) := by decide +kernel
theorem dX8_missing_7 : decode cX8_missing 7 = .ok (.istore 4, 2) := by decide +kernel
theorem dX8_missing_9 : decode cX8_missing 9 = .ok (.iconst 0, 1) := by decide +kernel
