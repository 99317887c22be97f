theorem d_X_isFile_0 : decode b_X_isFile 0 = .ok (.iload_n 0, 1) := by decide +kernel
theorem d_X_isFile_1 : decode b_X_isFile 1 = .ok (.ifCond .lt 13, 3) := by decide +kernel
theorem d_X_isFile_4 : decode b_X_isFile 4 = .ok (.iload_n 0, 1) := by decide +kernel
theorem d_X_isFile_5 : decode b_X_isFile 5 = .ok (.bipush 6, 2) := by decide +kernel
theorem d_X_isFile_7 : decode b_X_isFile 7 = .ok (.if_icmp .ge 7, 3) := by decide +kernel
theorem d_X_isFile_10 : decode b_X_isFile 10 = .ok (.iconst 1, 1) := by decide +kernel
theorem d_X_isFile_11 : decode b_X_isFile 11 = .ok (.goto 4, 3) := by decide +kernel
theorem d_X_isFile_14 : decode b_X_isFile 14 = .ok (.iconst 0, 1) := by decide +kernel
theorem d_X_isFile_15 : decode b_X_isFile 15 = .ok (.ireturn, 1) := by decide +kernel
theorem d_X_isWord_0 : decode b_X_isWord 0 = .ok (.iload_n 0, 1) := by decide +kernel
theorem d_X_isWord_1 : decode b_X_isWord 1 = .ok (.ifCond .lt 22, 3) := by decide +kernel
theorem d_X_isWord_4 : decode b_X_isWord 4 = .ok (.iload_n 0, 1) := by decide +kernel
theorem d_X_isWord_5 : decode b_X_isWord 5 = .ok (.bipush 23, 2) := by decide +kernel
theorem d_X_isWord_7 : decode b_X_isWord 7 = .ok (.if_icmp .ge 16, 3) := by decide +kernel
theorem d_X_isWord_10 : decode b_X_isWord 10 = .ok (.iload_n 1, 1) := by decide +kernel
theorem d_X_isWord_11 : decode b_X_isWord 11 = .ok (.ifCond .lt 12, 3) := by decide +kernel
theorem d_X_isWord_14 : decode b_X_isWord 14 = .ok (.iload_n 1, 1) := by decide +kernel
theorem d_X_isWord_15 : decode b_X_isWord 15 = .ok (.iconst 4, 1) := by decide +kernel
theorem d_X_isWord_16 : decode b_X_isWord 16 = .ok (.if_icmp .ge 7, 3) := by decide +kernel
theorem d_X_isWord_19 : decode b_X_isWord 19 = .ok (.iconst 1, 1) := by decide +kernel
theorem d_X_isWord_20 : decode b_X_isWord 20 = .ok (.goto 4, 3) := by decide +kernel
theorem d_X_isWord_23 : decode b_X_isWord 23 = .ok (.iconst 0, 1) := by decide +kernel
theorem d_X_isWord_24 : decode b_X_isWord 24 = .ok (.ireturn, 1) := by decide +kernel
theorem d_Mem_word_0 : decode b_Mem_word 0 = .ok (.iload_n 1, 1) := by decide +kernel
theorem d_Mem_word_1 : decode b_Mem_word 1 = .ok (.iload_n 2, 1) := by decide +kernel
theorem d_Mem_word_2 : decode b_Mem_word 2 = .ok (.invokestatic 53, 3) := by decide +kernel
theorem d_Mem_word_5 : decode b_Mem_word 5 = .ok (.ifCond .eq 16, 3) := by decide +kernel
theorem d_Mem_word_8 : decode b_Mem_word 8 = .ok (.aload_n 0, 1) := by decide +kernel
theorem d_Mem_word_9 : decode b_Mem_word 9 = .ok (.getfield 9, 3) := by decide +kernel
theorem d_Mem_word_12 : decode b_Mem_word 12 = .ok (.iload_n 1, 1) := by decide +kernel
theorem d_Mem_word_13 : decode b_Mem_word 13 = .ok (.iconst 4, 1) := by decide +kernel
theorem d_Mem_word_14 : decode b_Mem_word 14 = .ok (.imul, 1) := by decide +kernel
theorem d_Mem_word_15 : decode b_Mem_word 15 = .ok (.iload_n 2, 1) := by decide +kernel
theorem d_Mem_word_16 : decode b_Mem_word 16 = .ok (.iadd, 1) := by decide +kernel
theorem d_Mem_word_17 : decode b_Mem_word 17 = .ok (.iaload, 1) := by decide +kernel
theorem d_Mem_word_18 : decode b_Mem_word 18 = .ok (.goto 4, 3) := by decide +kernel
theorem d_Mem_word_21 : decode b_Mem_word 21 = .ok (.iconst 0, 1) := by decide +kernel
theorem d_Mem_word_22 : decode b_Mem_word 22 = .ok (.ireturn, 1) := by decide +kernel
theorem d_Mem_fileLength_0 : decode b_Mem_fileLength 0 = .ok (.aload_n 0, 1) := by decide +kernel
theorem d_Mem_fileLength_1 : decode b_Mem_fileLength 1 = .ok (.iload_n 1, 1) := by decide +kernel
theorem d_Mem_fileLength_2 : decode b_Mem_fileLength 2 = .ok (.iconst 0, 1) := by decide +kernel
theorem d_Mem_fileLength_3 : decode b_Mem_fileLength 3 = .ok (.invokevirtual 57, 3) := by decide +kernel
theorem d_Mem_fileLength_6 : decode b_Mem_fileLength 6 = .ok (.ireturn, 1) := by decide +kernel
theorem d_X_blocksToTake_0 : decode b_X_blocksToTake 0 = .ok (.iload_n 0, 1) := by decide +kernel
theorem d_X_blocksToTake_1 : decode b_X_blocksToTake 1 = .ok (.iload_n 1, 1) := by decide +kernel
theorem d_X_blocksToTake_2 : decode b_X_blocksToTake 2 = .ok (.if_icmp .ne 9, 3) := by decide +kernel
theorem d_X_blocksToTake_5 : decode b_X_blocksToTake 5 = .ok (.iload_n 0, 1) := by decide +kernel
theorem d_X_blocksToTake_6 : decode b_X_blocksToTake 6 = .ok (.iconst 4, 1) := by decide +kernel
theorem d_X_blocksToTake_7 : decode b_X_blocksToTake 7 = .ok (.irem, 1) := by decide +kernel
theorem d_X_blocksToTake_8 : decode b_X_blocksToTake 8 = .ok (.ifCond .eq 5, 3) := by decide +kernel
theorem d_X_blocksToTake_11 : decode b_X_blocksToTake 11 = .ok (.iconst 0, 1) := by decide +kernel
theorem d_X_blocksToTake_12 : decode b_X_blocksToTake 12 = .ok (.ireturn, 1) := by decide +kernel
theorem d_X_blocksToTake_13 : decode b_X_blocksToTake 13 = .ok (.iload_n 0, 1) := by decide +kernel
theorem d_X_blocksToTake_14 : decode b_X_blocksToTake 14 = .ok (.iconst 4, 1) := by decide +kernel
theorem d_X_blocksToTake_15 : decode b_X_blocksToTake 15 = .ok (.idiv, 1) := by decide +kernel
theorem d_X_blocksToTake_16 : decode b_X_blocksToTake 16 = .ok (.iconst 2, 1) := by decide +kernel
theorem d_X_blocksToTake_17 : decode b_X_blocksToTake 17 = .ok (.if_icmp .ne 7, 3) := by decide +kernel
theorem d_X_blocksToTake_20 : decode b_X_blocksToTake 20 = .ok (.iconst 2, 1) := by decide +kernel
theorem d_X_blocksToTake_21 : decode b_X_blocksToTake 21 = .ok (.goto 4, 3) := by decide +kernel
theorem d_X_blocksToTake_24 : decode b_X_blocksToTake 24 = .ok (.iconst 1, 1) := by decide +kernel
theorem d_X_blocksToTake_25 : decode b_X_blocksToTake 25 = .ok (.ireturn, 1) := by decide +kernel
theorem d_Mem_blocksInUse_0 : decode b_Mem_blocksInUse 0 = .ok (.aload_n 0, 1) := by decide +kernel
theorem d_Mem_blocksInUse_1 : decode b_Mem_blocksInUse 1 = .ok (.getfield 9, 3) := by decide +kernel
theorem d_Mem_blocksInUse_4 : decode b_Mem_blocksInUse 4 = .ok (.bipush 24, 2) := by decide +kernel
theorem d_Mem_blocksInUse_6 : decode b_Mem_blocksInUse 6 = .ok (.iaload, 1) := by decide +kernel
theorem d_Mem_blocksInUse_7 : decode b_Mem_blocksInUse 7 = .ok (.ireturn, 1) := by decide +kernel
theorem d_Mem_takeable_0 : decode b_Mem_takeable 0 = .ok (.aload_n 0, 1) := by decide +kernel
theorem d_Mem_takeable_1 : decode b_Mem_takeable 1 = .ok (.invokevirtual 40, 3) := by decide +kernel
theorem d_Mem_takeable_4 : decode b_Mem_takeable 4 = .ok (.aload_n 0, 1) := by decide +kernel
theorem d_Mem_takeable_5 : decode b_Mem_takeable 5 = .ok (.getfield 28, 3) := by decide +kernel
theorem d_Mem_takeable_8 : decode b_Mem_takeable 8 = .ok (.ior, 1) := by decide +kernel
theorem d_Mem_takeable_9 : decode b_Mem_takeable 9 = .ok (.iconst (-1), 1) := by decide +kernel
theorem d_Mem_takeable_10 : decode b_Mem_takeable 10 = .ok (.ixor, 1) := by decide +kernel
theorem d_Mem_takeable_11 : decode b_Mem_takeable 11 = .ok (.ldc 97, 2) := by decide +kernel
theorem d_Mem_takeable_13 : decode b_Mem_takeable 13 = .ok (.iand, 1) := by decide +kernel
theorem d_Mem_takeable_14 : decode b_Mem_takeable 14 = .ok (.ireturn, 1) := by decide +kernel
theorem d_Int_bitCount_0 : decode b_Int_bitCount 0 = .ok (.iload_n 0, 1) := by decide +kernel
theorem d_Int_bitCount_1 : decode b_Int_bitCount 1 = .ok (.iload_n 0, 1) := by decide +kernel
theorem d_Int_bitCount_2 : decode b_Int_bitCount 2 = .ok (.iconst 1, 1) := by decide +kernel
theorem d_Int_bitCount_3 : decode b_Int_bitCount 3 = .ok (.iushr, 1) := by decide +kernel
theorem d_Int_bitCount_4 : decode b_Int_bitCount 4 = .ok (.ldc_w 265, 3) := by decide +kernel
theorem d_Int_bitCount_7 : decode b_Int_bitCount 7 = .ok (.iand, 1) := by decide +kernel
theorem d_Int_bitCount_8 : decode b_Int_bitCount 8 = .ok (.isub, 1) := by decide +kernel
theorem d_Int_bitCount_9 : decode b_Int_bitCount 9 = .ok (.istore_n 0, 1) := by decide +kernel
theorem d_Int_bitCount_10 : decode b_Int_bitCount 10 = .ok (.iload_n 0, 1) := by decide +kernel
theorem d_Int_bitCount_11 : decode b_Int_bitCount 11 = .ok (.ldc_w 266, 3) := by decide +kernel
theorem d_Int_bitCount_14 : decode b_Int_bitCount 14 = .ok (.iand, 1) := by decide +kernel
theorem d_Int_bitCount_15 : decode b_Int_bitCount 15 = .ok (.iload_n 0, 1) := by decide +kernel
theorem d_Int_bitCount_16 : decode b_Int_bitCount 16 = .ok (.iconst 2, 1) := by decide +kernel
theorem d_Int_bitCount_17 : decode b_Int_bitCount 17 = .ok (.iushr, 1) := by decide +kernel
theorem d_Int_bitCount_18 : decode b_Int_bitCount 18 = .ok (.ldc_w 266, 3) := by decide +kernel
theorem d_Int_bitCount_21 : decode b_Int_bitCount 21 = .ok (.iand, 1) := by decide +kernel
theorem d_Int_bitCount_22 : decode b_Int_bitCount 22 = .ok (.iadd, 1) := by decide +kernel
theorem d_Int_bitCount_23 : decode b_Int_bitCount 23 = .ok (.istore_n 0, 1) := by decide +kernel
theorem d_Int_bitCount_24 : decode b_Int_bitCount 24 = .ok (.iload_n 0, 1) := by decide +kernel
theorem d_Int_bitCount_25 : decode b_Int_bitCount 25 = .ok (.iload_n 0, 1) := by decide +kernel
theorem d_Int_bitCount_26 : decode b_Int_bitCount 26 = .ok (.iconst 4, 1) := by decide +kernel
theorem d_Int_bitCount_27 : decode b_Int_bitCount 27 = .ok (.iushr, 1) := by decide +kernel
theorem d_Int_bitCount_28 : decode b_Int_bitCount 28 = .ok (.iadd, 1) := by decide +kernel
theorem d_Int_bitCount_29 : decode b_Int_bitCount 29 = .ok (.ldc_w 267, 3) := by decide +kernel
theorem d_Int_bitCount_32 : decode b_Int_bitCount 32 = .ok (.iand, 1) := by decide +kernel
theorem d_Int_bitCount_33 : decode b_Int_bitCount 33 = .ok (.istore_n 0, 1) := by decide +kernel
theorem d_Int_bitCount_34 : decode b_Int_bitCount 34 = .ok (.iload_n 0, 1) := by decide +kernel
theorem d_Int_bitCount_35 : decode b_Int_bitCount 35 = .ok (.iload_n 0, 1) := by decide +kernel
theorem d_Int_bitCount_36 : decode b_Int_bitCount 36 = .ok (.bipush 8, 2) := by decide +kernel
theorem d_Int_bitCount_38 : decode b_Int_bitCount 38 = .ok (.iushr, 1) := by decide +kernel
theorem d_Int_bitCount_39 : decode b_Int_bitCount 39 = .ok (.iadd, 1) := by decide +kernel
theorem d_Int_bitCount_40 : decode b_Int_bitCount 40 = .ok (.istore_n 0, 1) := by decide +kernel
theorem d_Int_bitCount_41 : decode b_Int_bitCount 41 = .ok (.iload_n 0, 1) := by decide +kernel
theorem d_Int_bitCount_42 : decode b_Int_bitCount 42 = .ok (.iload_n 0, 1) := by decide +kernel
theorem d_Int_bitCount_43 : decode b_Int_bitCount 43 = .ok (.bipush 16, 2) := by decide +kernel
theorem d_Int_bitCount_45 : decode b_Int_bitCount 45 = .ok (.iushr, 1) := by decide +kernel
theorem d_Int_bitCount_46 : decode b_Int_bitCount 46 = .ok (.iadd, 1) := by decide +kernel
theorem d_Int_bitCount_47 : decode b_Int_bitCount 47 = .ok (.istore_n 0, 1) := by decide +kernel
theorem d_Int_bitCount_48 : decode b_Int_bitCount 48 = .ok (.iload_n 0, 1) := by decide +kernel
theorem d_Int_bitCount_49 : decode b_Int_bitCount 49 = .ok (.bipush 63, 2) := by decide +kernel
theorem d_Int_bitCount_51 : decode b_Int_bitCount 51 = .ok (.iand, 1) := by decide +kernel
theorem d_Int_bitCount_52 : decode b_Int_bitCount 52 = .ok (.ireturn, 1) := by decide +kernel
theorem d_Mem_takeableCount_0 : decode b_Mem_takeableCount 0 = .ok (.aload_n 0, 1) := by decide +kernel
theorem d_Mem_takeableCount_1 : decode b_Mem_takeableCount 1 = .ok (.invokevirtual 82, 3) := by decide +kernel
theorem d_Mem_takeableCount_4 : decode b_Mem_takeableCount 4 = .ok (.invokestatic 44, 3) := by decide +kernel
theorem d_Mem_takeableCount_7 : decode b_Mem_takeableCount 7 = .ok (.ireturn, 1) := by decide +kernel
theorem d_X_blocksNaming_0 : decode b_X_blocksNaming 0 = .ok (.iload_n 0, 1) := by decide +kernel
theorem d_X_blocksNaming_1 : decode b_X_blocksNaming 1 = .ok (.iconst 4, 1) := by decide +kernel
theorem d_X_blocksNaming_2 : decode b_X_blocksNaming 2 = .ok (.iadd, 1) := by decide +kernel
theorem d_X_blocksNaming_3 : decode b_X_blocksNaming 3 = .ok (.iconst 1, 1) := by decide +kernel
theorem d_X_blocksNaming_4 : decode b_X_blocksNaming 4 = .ok (.isub, 1) := by decide +kernel
theorem d_X_blocksNaming_5 : decode b_X_blocksNaming 5 = .ok (.iconst 4, 1) := by decide +kernel
theorem d_X_blocksNaming_6 : decode b_X_blocksNaming 6 = .ok (.idiv, 1) := by decide +kernel
theorem d_X_blocksNaming_7 : decode b_X_blocksNaming 7 = .ok (.ireturn, 1) := by decide +kernel
theorem d_Mem_logBlocksNeeded_0 : decode b_Mem_logBlocksNeeded 0 = .ok (.aload_n 0, 1) := by decide +kernel
theorem d_Mem_logBlocksNeeded_1 : decode b_Mem_logBlocksNeeded 1 = .ok (.getfield 22, 3) := by decide +kernel
theorem d_Mem_logBlocksNeeded_4 : decode b_Mem_logBlocksNeeded 4 = .ok (.ifCond .ne 5, 3) := by decide +kernel
theorem d_Mem_logBlocksNeeded_7 : decode b_Mem_logBlocksNeeded 7 = .ok (.iconst 0, 1) := by decide +kernel
theorem d_Mem_logBlocksNeeded_8 : decode b_Mem_logBlocksNeeded 8 = .ok (.ireturn, 1) := by decide +kernel
theorem d_Mem_logBlocksNeeded_9 : decode b_Mem_logBlocksNeeded 9 = .ok (.aload_n 0, 1) := by decide +kernel
theorem d_Mem_logBlocksNeeded_10 : decode b_Mem_logBlocksNeeded 10 = .ok (.getfield 22, 3) := by decide +kernel
theorem d_Mem_logBlocksNeeded_13 : decode b_Mem_logBlocksNeeded 13 = .ok (.invokestatic 44, 3) := by decide +kernel
theorem d_Mem_logBlocksNeeded_16 : decode b_Mem_logBlocksNeeded 16 = .ok (.istore_n 1, 1) := by decide +kernel
theorem d_Mem_logBlocksNeeded_17 : decode b_Mem_logBlocksNeeded 17 = .ok (.iload_n 1, 1) := by decide +kernel
theorem d_Mem_logBlocksNeeded_18 : decode b_Mem_logBlocksNeeded 18 = .ok (.iload_n 1, 1) := by decide +kernel
theorem d_Mem_logBlocksNeeded_19 : decode b_Mem_logBlocksNeeded 19 = .ok (.invokestatic 50, 3) := by decide +kernel
theorem d_Mem_logBlocksNeeded_22 : decode b_Mem_logBlocksNeeded 22 = .ok (.iadd, 1) := by decide +kernel
theorem d_Mem_logBlocksNeeded_23 : decode b_Mem_logBlocksNeeded 23 = .ok (.aload_n 0, 1) := by decide +kernel
theorem d_Mem_logBlocksNeeded_24 : decode b_Mem_logBlocksNeeded 24 = .ok (.getfield 25, 3) := by decide +kernel
theorem d_Mem_logBlocksNeeded_27 : decode b_Mem_logBlocksNeeded 27 = .ok (.invokestatic 44, 3) := by decide +kernel
theorem d_Mem_logBlocksNeeded_30 : decode b_Mem_logBlocksNeeded 30 = .ok (.invokestatic 50, 3) := by decide +kernel
theorem d_Mem_logBlocksNeeded_33 : decode b_Mem_logBlocksNeeded 33 = .ok (.iadd, 1) := by decide +kernel
theorem d_Mem_logBlocksNeeded_34 : decode b_Mem_logBlocksNeeded 34 = .ok (.iconst 1, 1) := by decide +kernel
theorem d_Mem_logBlocksNeeded_35 : decode b_Mem_logBlocksNeeded 35 = .ok (.iadd, 1) := by decide +kernel
theorem d_Mem_logBlocksNeeded_36 : decode b_Mem_logBlocksNeeded 36 = .ok (.ireturn, 1) := by decide +kernel
theorem d_Log_slot_0 : decode b_Log_slot 0 = .ok (.aload_n 0, 1) := by decide +kernel
theorem d_Log_slot_1 : decode b_Log_slot 1 = .ok (.getfield 27, 3) := by decide +kernel
theorem d_Log_slot_4 : decode b_Log_slot 4 = .ok (.iload_n 1, 1) := by decide +kernel
theorem d_Log_slot_5 : decode b_Log_slot 5 = .ok (.iadd, 1) := by decide +kernel
theorem d_Log_slot_6 : decode b_Log_slot 6 = .ok (.bipush 8, 2) := by decide +kernel
theorem d_Log_slot_8 : decode b_Log_slot 8 = .ok (.irem, 1) := by decide +kernel
theorem d_Log_slot_9 : decode b_Log_slot 9 = .ok (.ireturn, 1) := by decide +kernel
theorem d_Log_freePlaces_0 : decode b_Log_freePlaces 0 = .ok (.bipush 24, 2) := by decide +kernel
theorem d_Log_freePlaces_2 : decode b_Log_freePlaces 2 = .ok (.istore_n 1, 1) := by decide +kernel
theorem d_Log_freePlaces_3 : decode b_Log_freePlaces 3 = .ok (.iconst 0, 1) := by decide +kernel
theorem d_Log_freePlaces_4 : decode b_Log_freePlaces 4 = .ok (.istore_n 2, 1) := by decide +kernel
theorem d_Log_freePlaces_5 : decode b_Log_freePlaces 5 = .ok (.iload_n 2, 1) := by decide +kernel
theorem d_Log_freePlaces_6 : decode b_Log_freePlaces 6 = .ok (.aload_n 0, 1) := by decide +kernel
theorem d_Log_freePlaces_7 : decode b_Log_freePlaces 7 = .ok (.getfield 31, 3) := by decide +kernel
theorem d_Log_freePlaces_10 : decode b_Log_freePlaces 10 = .ok (.if_icmp .ge 22, 3) := by decide +kernel
theorem d_Log_freePlaces_13 : decode b_Log_freePlaces 13 = .ok (.iload_n 1, 1) := by decide +kernel
theorem d_Log_freePlaces_14 : decode b_Log_freePlaces 14 = .ok (.aload_n 0, 1) := by decide +kernel
theorem d_Log_freePlaces_15 : decode b_Log_freePlaces 15 = .ok (.getfield 18, 3) := by decide +kernel
theorem d_Log_freePlaces_18 : decode b_Log_freePlaces 18 = .ok (.aload_n 0, 1) := by decide +kernel
theorem d_Log_freePlaces_19 : decode b_Log_freePlaces 19 = .ok (.iload_n 2, 1) := by decide +kernel
theorem d_Log_freePlaces_20 : decode b_Log_freePlaces 20 = .ok (.invokevirtual 37, 3) := by decide +kernel
theorem d_Log_freePlaces_23 : decode b_Log_freePlaces 23 = .ok (.iaload, 1) := by decide +kernel
theorem d_Log_freePlaces_24 : decode b_Log_freePlaces 24 = .ok (.isub, 1) := by decide +kernel
theorem d_Log_freePlaces_25 : decode b_Log_freePlaces 25 = .ok (.istore_n 1, 1) := by decide +kernel
theorem d_Log_freePlaces_26 : decode b_Log_freePlaces 26 = .ok (.iinc 2 1, 3) := by decide +kernel
theorem d_Log_freePlaces_29 : decode b_Log_freePlaces 29 = .ok (.goto (-24), 3) := by decide +kernel
theorem d_Log_freePlaces_32 : decode b_Log_freePlaces 32 = .ok (.iload_n 1, 1) := by decide +kernel
theorem d_Log_freePlaces_33 : decode b_Log_freePlaces 33 = .ok (.ireturn, 1) := by decide +kernel
theorem d_Log_oldestInTheWayOf_0 : decode b_Log_oldestInTheWayOf 0 = .ok (.aload_n 0, 1) := by decide +kernel
theorem d_Log_oldestInTheWayOf_1 : decode b_Log_oldestInTheWayOf 1 = .ok (.invokevirtual 41, 3) := by decide +kernel
theorem d_Log_oldestInTheWayOf_4 : decode b_Log_oldestInTheWayOf 4 = .ok (.istore_n 2, 1) := by decide +kernel
theorem d_Log_oldestInTheWayOf_5 : decode b_Log_oldestInTheWayOf 5 = .ok (.iconst 0, 1) := by decide +kernel
theorem d_Log_oldestInTheWayOf_6 : decode b_Log_oldestInTheWayOf 6 = .ok (.istore_n 3, 1) := by decide +kernel
theorem d_Log_oldestInTheWayOf_7 : decode b_Log_oldestInTheWayOf 7 = .ok (.iload_n 3, 1) := by decide +kernel
theorem d_Log_oldestInTheWayOf_8 : decode b_Log_oldestInTheWayOf 8 = .ok (.aload_n 0, 1) := by decide +kernel
theorem d_Log_oldestInTheWayOf_9 : decode b_Log_oldestInTheWayOf 9 = .ok (.getfield 31, 3) := by decide +kernel
theorem d_Log_oldestInTheWayOf_12 : decode b_Log_oldestInTheWayOf 12 = .ok (.if_icmp .ge 27, 3) := by decide +kernel
theorem d_Log_oldestInTheWayOf_15 : decode b_Log_oldestInTheWayOf 15 = .ok (.iload_n 2, 1) := by decide +kernel
theorem d_Log_oldestInTheWayOf_16 : decode b_Log_oldestInTheWayOf 16 = .ok (.iload_n 1, 1) := by decide +kernel
theorem d_Log_oldestInTheWayOf_17 : decode b_Log_oldestInTheWayOf 17 = .ok (.if_icmp .ge 22, 3) := by decide +kernel
theorem d_Log_oldestInTheWayOf_20 : decode b_Log_oldestInTheWayOf 20 = .ok (.iload_n 2, 1) := by decide +kernel
theorem d_Log_oldestInTheWayOf_21 : decode b_Log_oldestInTheWayOf 21 = .ok (.aload_n 0, 1) := by decide +kernel
theorem d_Log_oldestInTheWayOf_22 : decode b_Log_oldestInTheWayOf 22 = .ok (.getfield 18, 3) := by decide +kernel
theorem d_Log_oldestInTheWayOf_25 : decode b_Log_oldestInTheWayOf 25 = .ok (.aload_n 0, 1) := by decide +kernel
theorem d_Log_oldestInTheWayOf_26 : decode b_Log_oldestInTheWayOf 26 = .ok (.iload_n 3, 1) := by decide +kernel
theorem d_Log_oldestInTheWayOf_27 : decode b_Log_oldestInTheWayOf 27 = .ok (.invokevirtual 37, 3) := by decide +kernel
theorem d_Log_oldestInTheWayOf_30 : decode b_Log_oldestInTheWayOf 30 = .ok (.iaload, 1) := by decide +kernel
theorem d_Log_oldestInTheWayOf_31 : decode b_Log_oldestInTheWayOf 31 = .ok (.iadd, 1) := by decide +kernel
theorem d_Log_oldestInTheWayOf_32 : decode b_Log_oldestInTheWayOf 32 = .ok (.istore_n 2, 1) := by decide +kernel
theorem d_Log_oldestInTheWayOf_33 : decode b_Log_oldestInTheWayOf 33 = .ok (.iinc 3 1, 3) := by decide +kernel
theorem d_Log_oldestInTheWayOf_36 : decode b_Log_oldestInTheWayOf 36 = .ok (.goto (-29), 3) := by decide +kernel
theorem d_Log_oldestInTheWayOf_39 : decode b_Log_oldestInTheWayOf 39 = .ok (.iload_n 3, 1) := by decide +kernel
theorem d_Log_oldestInTheWayOf_40 : decode b_Log_oldestInTheWayOf 40 = .ok (.ireturn, 1) := by decide +kernel
theorem d_Log_unionBehind_0 : decode b_Log_unionBehind 0 = .ok (.iconst 0, 1) := by decide +kernel
theorem d_Log_unionBehind_1 : decode b_Log_unionBehind 1 = .ok (.istore_n 3, 1) := by decide +kernel
theorem d_Log_unionBehind_2 : decode b_Log_unionBehind 2 = .ok (.iload_n 1, 1) := by decide +kernel
theorem d_Log_unionBehind_3 : decode b_Log_unionBehind 3 = .ok (.iconst 1, 1) := by decide +kernel
theorem d_Log_unionBehind_4 : decode b_Log_unionBehind 4 = .ok (.iadd, 1) := by decide +kernel
theorem d_Log_unionBehind_5 : decode b_Log_unionBehind 5 = .ok (.istore 4, 2) := by decide +kernel
theorem d_Log_unionBehind_7 : decode b_Log_unionBehind 7 = .ok (.iload 4, 2) := by decide +kernel
theorem d_Log_unionBehind_9 : decode b_Log_unionBehind 9 = .ok (.aload_n 0, 1) := by decide +kernel
theorem d_Log_unionBehind_10 : decode b_Log_unionBehind 10 = .ok (.getfield 31, 3) := by decide +kernel
theorem d_Log_unionBehind_13 : decode b_Log_unionBehind 13 = .ok (.if_icmp .ge 20, 3) := by decide +kernel
theorem d_Log_unionBehind_16 : decode b_Log_unionBehind 16 = .ok (.iload_n 3, 1) := by decide +kernel
theorem d_Log_unionBehind_17 : decode b_Log_unionBehind 17 = .ok (.aload_n 2, 1) := by decide +kernel
theorem d_Log_unionBehind_18 : decode b_Log_unionBehind 18 = .ok (.aload_n 0, 1) := by decide +kernel
theorem d_Log_unionBehind_19 : decode b_Log_unionBehind 19 = .ok (.iload 4, 2) := by decide +kernel
theorem d_Log_unionBehind_21 : decode b_Log_unionBehind 21 = .ok (.invokevirtual 37, 3) := by decide +kernel
theorem d_Log_unionBehind_24 : decode b_Log_unionBehind 24 = .ok (.iaload, 1) := by decide +kernel
theorem d_Log_unionBehind_25 : decode b_Log_unionBehind 25 = .ok (.ior, 1) := by decide +kernel
theorem d_Log_unionBehind_26 : decode b_Log_unionBehind 26 = .ok (.istore_n 3, 1) := by decide +kernel
theorem d_Log_unionBehind_27 : decode b_Log_unionBehind 27 = .ok (.iinc 4 1, 3) := by decide +kernel
theorem d_Log_unionBehind_30 : decode b_Log_unionBehind 30 = .ok (.goto (-23), 3) := by decide +kernel
theorem d_Log_unionBehind_33 : decode b_Log_unionBehind 33 = .ok (.iload_n 3, 1) := by decide +kernel
theorem d_Log_unionBehind_34 : decode b_Log_unionBehind 34 = .ok (.ireturn, 1) := by decide +kernel
theorem d_Log_liveCopies_0 : decode b_Log_liveCopies 0 = .ok (.aload_n 0, 1) := by decide +kernel
theorem d_Log_liveCopies_1 : decode b_Log_liveCopies 1 = .ok (.getfield 21, 3) := by decide +kernel
theorem d_Log_liveCopies_4 : decode b_Log_liveCopies 4 = .ok (.aload_n 0, 1) := by decide +kernel
theorem d_Log_liveCopies_5 : decode b_Log_liveCopies 5 = .ok (.iload_n 1, 1) := by decide +kernel
theorem d_Log_liveCopies_6 : decode b_Log_liveCopies 6 = .ok (.invokevirtual 37, 3) := by decide +kernel
theorem d_Log_liveCopies_9 : decode b_Log_liveCopies 9 = .ok (.iaload, 1) := by decide +kernel
theorem d_Log_liveCopies_10 : decode b_Log_liveCopies 10 = .ok (.aload_n 0, 1) := by decide +kernel
theorem d_Log_liveCopies_11 : decode b_Log_liveCopies 11 = .ok (.iload_n 1, 1) := by decide +kernel
theorem d_Log_liveCopies_12 : decode b_Log_liveCopies 12 = .ok (.aload_n 0, 1) := by decide +kernel
theorem d_Log_liveCopies_13 : decode b_Log_liveCopies 13 = .ok (.getfield 21, 3) := by decide +kernel
theorem d_Log_liveCopies_16 : decode b_Log_liveCopies 16 = .ok (.invokevirtual 45, 3) := by decide +kernel
theorem d_Log_liveCopies_19 : decode b_Log_liveCopies 19 = .ok (.aload_n 0, 1) := by decide +kernel
theorem d_Log_liveCopies_20 : decode b_Log_liveCopies 20 = .ok (.iload_n 1, 1) := by decide +kernel
theorem d_Log_liveCopies_21 : decode b_Log_liveCopies 21 = .ok (.aload_n 0, 1) := by decide +kernel
theorem d_Log_liveCopies_22 : decode b_Log_liveCopies 22 = .ok (.getfield 24, 3) := by decide +kernel
theorem d_Log_liveCopies_25 : decode b_Log_liveCopies 25 = .ok (.invokevirtual 45, 3) := by decide +kernel
theorem d_Log_liveCopies_28 : decode b_Log_liveCopies 28 = .ok (.ior, 1) := by decide +kernel
theorem d_Log_liveCopies_29 : decode b_Log_liveCopies 29 = .ok (.iconst (-1), 1) := by decide +kernel
theorem d_Log_liveCopies_30 : decode b_Log_liveCopies 30 = .ok (.ixor, 1) := by decide +kernel
theorem d_Log_liveCopies_31 : decode b_Log_liveCopies 31 = .ok (.iand, 1) := by decide +kernel
theorem d_Log_liveCopies_32 : decode b_Log_liveCopies 32 = .ok (.ireturn, 1) := by decide +kernel
theorem d_X_isBlock_0 : decode b_X_isBlock 0 = .ok (.iload_n 0, 1) := by decide +kernel
theorem d_X_isBlock_1 : decode b_X_isBlock 1 = .ok (.ifCond .lt 13, 3) := by decide +kernel
theorem d_X_isBlock_4 : decode b_X_isBlock 4 = .ok (.iload_n 0, 1) := by decide +kernel
theorem d_X_isBlock_5 : decode b_X_isBlock 5 = .ok (.bipush 23, 2) := by decide +kernel
theorem d_X_isBlock_7 : decode b_X_isBlock 7 = .ok (.if_icmp .ge 7, 3) := by decide +kernel
theorem d_X_isBlock_10 : decode b_X_isBlock 10 = .ok (.iconst 1, 1) := by decide +kernel
theorem d_X_isBlock_11 : decode b_X_isBlock 11 = .ok (.goto 4, 3) := by decide +kernel
theorem d_X_isBlock_14 : decode b_X_isBlock 14 = .ok (.iconst 0, 1) := by decide +kernel
theorem d_X_isBlock_15 : decode b_X_isBlock 15 = .ok (.ireturn, 1) := by decide +kernel
theorem d_X_hasBlock_0 : decode b_X_hasBlock 0 = .ok (.iload_n 1, 1) := by decide +kernel
theorem d_X_hasBlock_1 : decode b_X_hasBlock 1 = .ok (.invokestatic 137, 3) := by decide +kernel
theorem d_X_hasBlock_4 : decode b_X_hasBlock 4 = .ok (.ifCond .eq 15, 3) := by decide +kernel
theorem d_X_hasBlock_7 : decode b_X_hasBlock 7 = .ok (.iload_n 0, 1) := by decide +kernel
theorem d_X_hasBlock_8 : decode b_X_hasBlock 8 = .ok (.iload_n 1, 1) := by decide +kernel
theorem d_X_hasBlock_9 : decode b_X_hasBlock 9 = .ok (.ishr, 1) := by decide +kernel
theorem d_X_hasBlock_10 : decode b_X_hasBlock 10 = .ok (.iconst 1, 1) := by decide +kernel
theorem d_X_hasBlock_11 : decode b_X_hasBlock 11 = .ok (.iand, 1) := by decide +kernel
theorem d_X_hasBlock_12 : decode b_X_hasBlock 12 = .ok (.ifCond .eq 7, 3) := by decide +kernel
theorem d_X_hasBlock_15 : decode b_X_hasBlock 15 = .ok (.iconst 1, 1) := by decide +kernel
theorem d_X_hasBlock_16 : decode b_X_hasBlock 16 = .ok (.goto 4, 3) := by decide +kernel
theorem d_X_hasBlock_19 : decode b_X_hasBlock 19 = .ok (.iconst 0, 1) := by decide +kernel
theorem d_X_hasBlock_20 : decode b_X_hasBlock 20 = .ok (.ireturn, 1) := by decide +kernel
theorem d_Log_copyOffset_0 : decode b_Log_copyOffset 0 = .ok (.aload_n 0, 1) := by decide +kernel
theorem d_Log_copyOffset_1 : decode b_Log_copyOffset 1 = .ok (.getfield 21, 3) := by decide +kernel
theorem d_Log_copyOffset_4 : decode b_Log_copyOffset 4 = .ok (.aload_n 0, 1) := by decide +kernel
theorem d_Log_copyOffset_5 : decode b_Log_copyOffset 5 = .ok (.iload_n 1, 1) := by decide +kernel
theorem d_Log_copyOffset_6 : decode b_Log_copyOffset 6 = .ok (.invokevirtual 37, 3) := by decide +kernel
theorem d_Log_copyOffset_9 : decode b_Log_copyOffset 9 = .ok (.iaload, 1) := by decide +kernel
theorem d_Log_copyOffset_10 : decode b_Log_copyOffset 10 = .ok (.iconst 1, 1) := by decide +kernel
theorem d_Log_copyOffset_11 : decode b_Log_copyOffset 11 = .ok (.iload_n 2, 1) := by decide +kernel
theorem d_Log_copyOffset_12 : decode b_Log_copyOffset 12 = .ok (.ishl, 1) := by decide +kernel
theorem d_Log_copyOffset_13 : decode b_Log_copyOffset 13 = .ok (.iconst 1, 1) := by decide +kernel
theorem d_Log_copyOffset_14 : decode b_Log_copyOffset 14 = .ok (.isub, 1) := by decide +kernel
theorem d_Log_copyOffset_15 : decode b_Log_copyOffset 15 = .ok (.iand, 1) := by decide +kernel
theorem d_Log_copyOffset_16 : decode b_Log_copyOffset 16 = .ok (.invokestatic 56, 3) := by decide +kernel
theorem d_Log_copyOffset_19 : decode b_Log_copyOffset 19 = .ok (.istore_n 3, 1) := by decide +kernel
theorem d_Log_copyOffset_20 : decode b_Log_copyOffset 20 = .ok (.aload_n 0, 1) := by decide +kernel
theorem d_Log_copyOffset_21 : decode b_Log_copyOffset 21 = .ok (.getfield 15, 3) := by decide +kernel
theorem d_Log_copyOffset_24 : decode b_Log_copyOffset 24 = .ok (.aload_n 0, 1) := by decide +kernel
theorem d_Log_copyOffset_25 : decode b_Log_copyOffset 25 = .ok (.iload_n 1, 1) := by decide +kernel
theorem d_Log_copyOffset_26 : decode b_Log_copyOffset 26 = .ok (.invokevirtual 37, 3) := by decide +kernel
theorem d_Log_copyOffset_29 : decode b_Log_copyOffset 29 = .ok (.iaload, 1) := by decide +kernel
theorem d_Log_copyOffset_30 : decode b_Log_copyOffset 30 = .ok (.iload_n 3, 1) := by decide +kernel
theorem d_Log_copyOffset_31 : decode b_Log_copyOffset 31 = .ok (.iadd, 1) := by decide +kernel
theorem d_Log_copyOffset_32 : decode b_Log_copyOffset 32 = .ok (.iload_n 3, 1) := by decide +kernel
theorem d_Log_copyOffset_33 : decode b_Log_copyOffset 33 = .ok (.iconst 4, 1) := by decide +kernel
theorem d_Log_copyOffset_34 : decode b_Log_copyOffset 34 = .ok (.idiv, 1) := by decide +kernel
theorem d_Log_copyOffset_35 : decode b_Log_copyOffset 35 = .ok (.iadd, 1) := by decide +kernel
theorem d_Log_copyOffset_36 : decode b_Log_copyOffset 36 = .ok (.iconst 1, 1) := by decide +kernel
theorem d_Log_copyOffset_37 : decode b_Log_copyOffset 37 = .ok (.iadd, 1) := by decide +kernel
theorem d_Log_copyOffset_38 : decode b_Log_copyOffset 38 = .ok (.istore 4, 2) := by decide +kernel
theorem d_Log_copyOffset_40 : decode b_Log_copyOffset 40 = .ok (.iload 4, 2) := by decide +kernel
theorem d_Log_copyOffset_42 : decode b_Log_copyOffset 42 = .ok (.bipush 24, 2) := by decide +kernel
theorem d_Log_copyOffset_44 : decode b_Log_copyOffset 44 = .ok (.irem, 1) := by decide +kernel
theorem d_Log_copyOffset_45 : decode b_Log_copyOffset 45 = .ok (.iconst 4, 1) := by decide +kernel
theorem d_Log_copyOffset_46 : decode b_Log_copyOffset 46 = .ok (.imul, 1) := by decide +kernel
theorem d_Log_copyOffset_47 : decode b_Log_copyOffset 47 = .ok (.ireturn, 1) := by decide +kernel
theorem d_Power_makeWrite_0 : decode b_Power_makeWrite 0 = .ok (.aload_n 0, 1) := by decide +kernel
theorem d_Power_makeWrite_1 : decode b_Power_makeWrite 1 = .ok (.getfield 15, 3) := by decide +kernel
theorem d_Power_makeWrite_4 : decode b_Power_makeWrite 4 = .ok (.ifCond .ne 15, 3) := by decide +kernel
theorem d_Power_makeWrite_7 : decode b_Power_makeWrite 7 = .ok (.aload_n 0, 1) := by decide +kernel
theorem d_Power_makeWrite_8 : decode b_Power_makeWrite 8 = .ok (.iconst 0, 1) := by decide +kernel
theorem d_Power_makeWrite_9 : decode b_Power_makeWrite 9 = .ok (.putfield 9, 3) := by decide +kernel
theorem d_Power_makeWrite_12 : decode b_Power_makeWrite 12 = .ok (.aload_n 0, 1) := by decide +kernel
theorem d_Power_makeWrite_13 : decode b_Power_makeWrite 13 = .ok (.iconst (-1), 1) := by decide +kernel
theorem d_Power_makeWrite_14 : decode b_Power_makeWrite 14 = .ok (.putfield 15, 3) := by decide +kernel
theorem d_Power_makeWrite_17 : decode b_Power_makeWrite 17 = .ok (.iconst 0, 1) := by decide +kernel
theorem d_Power_makeWrite_18 : decode b_Power_makeWrite 18 = .ok (.ireturn, 1) := by decide +kernel
theorem d_Power_makeWrite_19 : decode b_Power_makeWrite 19 = .ok (.aload_n 0, 1) := by decide +kernel
theorem d_Power_makeWrite_20 : decode b_Power_makeWrite 20 = .ok (.getfield 15, 3) := by decide +kernel
theorem d_Power_makeWrite_23 : decode b_Power_makeWrite 23 = .ok (.ifCond .le 13, 3) := by decide +kernel
theorem d_Power_makeWrite_26 : decode b_Power_makeWrite 26 = .ok (.aload_n 0, 1) := by decide +kernel
theorem d_Power_makeWrite_27 : decode b_Power_makeWrite 27 = .ok (.dup, 1) := by decide +kernel
theorem d_Power_makeWrite_28 : decode b_Power_makeWrite 28 = .ok (.getfield 15, 3) := by decide +kernel
theorem d_Power_makeWrite_31 : decode b_Power_makeWrite 31 = .ok (.iconst 1, 1) := by decide +kernel
theorem d_Power_makeWrite_32 : decode b_Power_makeWrite 32 = .ok (.isub, 1) := by decide +kernel
theorem d_Power_makeWrite_33 : decode b_Power_makeWrite 33 = .ok (.putfield 15, 3) := by decide +kernel
theorem d_Power_makeWrite_36 : decode b_Power_makeWrite 36 = .ok (.aload_n 0, 1) := by decide +kernel
theorem d_Power_makeWrite_37 : decode b_Power_makeWrite 37 = .ok (.dup, 1) := by decide +kernel
theorem d_Power_makeWrite_38 : decode b_Power_makeWrite 38 = .ok (.getfield 19, 3) := by decide +kernel
theorem d_Power_makeWrite_41 : decode b_Power_makeWrite 41 = .ok (.iconst 1, 1) := by decide +kernel
theorem d_Power_makeWrite_42 : decode b_Power_makeWrite 42 = .ok (.iadd, 1) := by decide +kernel
theorem d_Power_makeWrite_43 : decode b_Power_makeWrite 43 = .ok (.putfield 19, 3) := by decide +kernel
theorem d_Power_makeWrite_46 : decode b_Power_makeWrite 46 = .ok (.iconst 1, 1) := by decide +kernel
theorem d_Power_makeWrite_47 : decode b_Power_makeWrite 47 = .ok (.ireturn, 1) := by decide +kernel
theorem d_Disk_writeHome_0 : decode b_Disk_writeHome 0 = .ok (.aload_n 0, 1) := by decide +kernel
theorem d_Disk_writeHome_1 : decode b_Disk_writeHome 1 = .ok (.getfield 12, 3) := by decide +kernel
theorem d_Disk_writeHome_4 : decode b_Disk_writeHome 4 = .ok (.invokevirtual 29, 3) := by decide +kernel
theorem d_Disk_writeHome_7 : decode b_Disk_writeHome 7 = .ok (.ifCond .ne 5, 3) := by decide +kernel
theorem d_Disk_writeHome_10 : decode b_Disk_writeHome 10 = .ok (.iconst 0, 1) := by decide +kernel
theorem d_Disk_writeHome_11 : decode b_Disk_writeHome 11 = .ok (.ireturn, 1) := by decide +kernel
theorem d_Disk_writeHome_12 : decode b_Disk_writeHome 12 = .ok (.iload_n 1, 1) := by decide +kernel
theorem d_Disk_writeHome_13 : decode b_Disk_writeHome 13 = .ok (.invokestatic 33, 3) := by decide +kernel
theorem d_Disk_writeHome_16 : decode b_Disk_writeHome 16 = .ok (.ifCond .eq 28, 3) := by decide +kernel
theorem d_Disk_writeHome_19 : decode b_Disk_writeHome 19 = .ok (.iload_n 3, 1) := by decide +kernel
theorem d_Disk_writeHome_20 : decode b_Disk_writeHome 20 = .ok (.ifCond .lt 24, 3) := by decide +kernel
theorem d_Disk_writeHome_23 : decode b_Disk_writeHome 23 = .ok (.iload_n 3, 1) := by decide +kernel
theorem d_Disk_writeHome_24 : decode b_Disk_writeHome 24 = .ok (.iconst 4, 1) := by decide +kernel
theorem d_Disk_writeHome_25 : decode b_Disk_writeHome 25 = .ok (.iadd, 1) := by decide +kernel
theorem d_Disk_writeHome_26 : decode b_Disk_writeHome 26 = .ok (.aload_n 2, 1) := by decide +kernel
theorem d_Disk_writeHome_27 : decode b_Disk_writeHome 27 = .ok (.arraylength, 1) := by decide +kernel
theorem d_Disk_writeHome_28 : decode b_Disk_writeHome 28 = .ok (.if_icmp .gt 16, 3) := by decide +kernel
theorem d_Disk_writeHome_31 : decode b_Disk_writeHome 31 = .ok (.aload_n 2, 1) := by decide +kernel
theorem d_Disk_writeHome_32 : decode b_Disk_writeHome 32 = .ok (.iload_n 3, 1) := by decide +kernel
theorem d_Disk_writeHome_33 : decode b_Disk_writeHome 33 = .ok (.aload_n 0, 1) := by decide +kernel
theorem d_Disk_writeHome_34 : decode b_Disk_writeHome 34 = .ok (.getfield 18, 3) := by decide +kernel
theorem d_Disk_writeHome_37 : decode b_Disk_writeHome 37 = .ok (.iload_n 1, 1) := by decide +kernel
theorem d_Disk_writeHome_38 : decode b_Disk_writeHome 38 = .ok (.iconst 4, 1) := by decide +kernel
theorem d_Disk_writeHome_39 : decode b_Disk_writeHome 39 = .ok (.imul, 1) := by decide +kernel
theorem d_Disk_writeHome_40 : decode b_Disk_writeHome 40 = .ok (.iconst 4, 1) := by decide +kernel
theorem d_Disk_writeHome_41 : decode b_Disk_writeHome 41 = .ok (.invokestatic 37, 3) := by decide +kernel
theorem d_Disk_writeHome_44 : decode b_Disk_writeHome 44 = .ok (.iconst 1, 1) := by decide +kernel
theorem d_Disk_writeHome_45 : decode b_Disk_writeHome 45 = .ok (.ireturn, 1) := by decide +kernel
theorem d_Disk_writeCopiesHome_0 : decode b_Disk_writeCopiesHome 0 = .ok (.iconst 0, 1) := by decide +kernel
theorem d_Disk_writeCopiesHome_1 : decode b_Disk_writeCopiesHome 1 = .ok (.istore_n 3, 1) := by decide +kernel
theorem d_Disk_writeCopiesHome_2 : decode b_Disk_writeCopiesHome 2 = .ok (.iload_n 3, 1) := by decide +kernel
theorem d_Disk_writeCopiesHome_3 : decode b_Disk_writeCopiesHome 3 = .ok (.bipush 23, 2) := by decide +kernel
theorem d_Disk_writeCopiesHome_5 : decode b_Disk_writeCopiesHome 5 = .ok (.if_icmp .ge 43, 3) := by decide +kernel
theorem d_Disk_writeCopiesHome_8 : decode b_Disk_writeCopiesHome 8 = .ok (.iload_n 2, 1) := by decide +kernel
theorem d_Disk_writeCopiesHome_9 : decode b_Disk_writeCopiesHome 9 = .ok (.iload_n 3, 1) := by decide +kernel
theorem d_Disk_writeCopiesHome_10 : decode b_Disk_writeCopiesHome 10 = .ok (.invokestatic 65, 3) := by decide +kernel
theorem d_Disk_writeCopiesHome_13 : decode b_Disk_writeCopiesHome 13 = .ok (.ifCond .eq 29, 3) := by decide +kernel
theorem d_Disk_writeCopiesHome_16 : decode b_Disk_writeCopiesHome 16 = .ok (.aload_n 0, 1) := by decide +kernel
theorem d_Disk_writeCopiesHome_17 : decode b_Disk_writeCopiesHome 17 = .ok (.iload_n 3, 1) := by decide +kernel
theorem d_Disk_writeCopiesHome_18 : decode b_Disk_writeCopiesHome 18 = .ok (.aload_n 0, 1) := by decide +kernel
theorem d_Disk_writeCopiesHome_19 : decode b_Disk_writeCopiesHome 19 = .ok (.getfield 25, 3) := by decide +kernel
theorem d_Disk_writeCopiesHome_22 : decode b_Disk_writeCopiesHome 22 = .ok (.getfield 68, 3) := by decide +kernel
theorem d_Disk_writeCopiesHome_25 : decode b_Disk_writeCopiesHome 25 = .ok (.aload_n 0, 1) := by decide +kernel
theorem d_Disk_writeCopiesHome_26 : decode b_Disk_writeCopiesHome 26 = .ok (.getfield 25, 3) := by decide +kernel
theorem d_Disk_writeCopiesHome_29 : decode b_Disk_writeCopiesHome 29 = .ok (.iload_n 1, 1) := by decide +kernel
theorem d_Disk_writeCopiesHome_30 : decode b_Disk_writeCopiesHome 30 = .ok (.iload_n 3, 1) := by decide +kernel
theorem d_Disk_writeCopiesHome_31 : decode b_Disk_writeCopiesHome 31 = .ok (.invokevirtual 71, 3) := by decide +kernel
theorem d_Disk_writeCopiesHome_34 : decode b_Disk_writeCopiesHome 34 = .ok (.invokevirtual 75, 3) := by decide +kernel
theorem d_Disk_writeCopiesHome_37 : decode b_Disk_writeCopiesHome 37 = .ok (.ifCond .ne 5, 3) := by decide +kernel
theorem d_Disk_writeCopiesHome_40 : decode b_Disk_writeCopiesHome 40 = .ok (.iconst 0, 1) := by decide +kernel
theorem d_Disk_writeCopiesHome_41 : decode b_Disk_writeCopiesHome 41 = .ok (.ireturn, 1) := by decide +kernel
theorem d_Disk_writeCopiesHome_42 : decode b_Disk_writeCopiesHome 42 = .ok (.iinc 3 1, 3) := by decide +kernel
theorem d_Disk_writeCopiesHome_45 : decode b_Disk_writeCopiesHome 45 = .ok (.goto (-43), 3) := by decide +kernel
theorem d_Disk_writeCopiesHome_48 : decode b_Disk_writeCopiesHome 48 = .ok (.iconst 1, 1) := by decide +kernel
theorem d_Disk_writeCopiesHome_49 : decode b_Disk_writeCopiesHome 49 = .ok (.ireturn, 1) := by decide +kernel
theorem d_Log_forgetOldest_0 : decode b_Log_forgetOldest 0 = .ok (.aload_n 0, 1) := by decide +kernel
theorem d_Log_forgetOldest_1 : decode b_Log_forgetOldest 1 = .ok (.aload_n 0, 1) := by decide +kernel
theorem d_Log_forgetOldest_2 : decode b_Log_forgetOldest 2 = .ok (.iload_n 1, 1) := by decide +kernel
theorem d_Log_forgetOldest_3 : decode b_Log_forgetOldest 3 = .ok (.invokevirtual 37, 3) := by decide +kernel
theorem d_Log_forgetOldest_6 : decode b_Log_forgetOldest 6 = .ok (.putfield 27, 3) := by decide +kernel
theorem d_Log_forgetOldest_9 : decode b_Log_forgetOldest 9 = .ok (.aload_n 0, 1) := by decide +kernel
theorem d_Log_forgetOldest_10 : decode b_Log_forgetOldest 10 = .ok (.dup, 1) := by decide +kernel
theorem d_Log_forgetOldest_11 : decode b_Log_forgetOldest 11 = .ok (.getfield 31, 3) := by decide +kernel
theorem d_Log_forgetOldest_14 : decode b_Log_forgetOldest 14 = .ok (.iload_n 1, 1) := by decide +kernel
theorem d_Log_forgetOldest_15 : decode b_Log_forgetOldest 15 = .ok (.isub, 1) := by decide +kernel
theorem d_Log_forgetOldest_16 : decode b_Log_forgetOldest 16 = .ok (.putfield 31, 3) := by decide +kernel
theorem d_Log_forgetOldest_19 : decode b_Log_forgetOldest 19 = .ok (.return_, 1) := by decide +kernel
theorem d_Disk_dropOldest_0 : decode b_Disk_dropOldest 0 = .ok (.iload_n 1, 1) := by decide +kernel
theorem d_Disk_dropOldest_1 : decode b_Disk_dropOldest 1 = .ok (.ifCond .ne 5, 3) := by decide +kernel
theorem d_Disk_dropOldest_4 : decode b_Disk_dropOldest 4 = .ok (.iconst 1, 1) := by decide +kernel
theorem d_Disk_dropOldest_5 : decode b_Disk_dropOldest 5 = .ok (.ireturn, 1) := by decide +kernel
theorem d_Disk_dropOldest_6 : decode b_Disk_dropOldest 6 = .ok (.aload_n 0, 1) := by decide +kernel
theorem d_Disk_dropOldest_7 : decode b_Disk_dropOldest 7 = .ok (.getfield 12, 3) := by decide +kernel
theorem d_Disk_dropOldest_10 : decode b_Disk_dropOldest 10 = .ok (.invokevirtual 29, 3) := by decide +kernel
theorem d_Disk_dropOldest_13 : decode b_Disk_dropOldest 13 = .ok (.ifCond .ne 5, 3) := by decide +kernel
theorem d_Disk_dropOldest_16 : decode b_Disk_dropOldest 16 = .ok (.iconst 0, 1) := by decide +kernel
theorem d_Disk_dropOldest_17 : decode b_Disk_dropOldest 17 = .ok (.ireturn, 1) := by decide +kernel
theorem d_Disk_dropOldest_18 : decode b_Disk_dropOldest 18 = .ok (.aload_n 0, 1) := by decide +kernel
theorem d_Disk_dropOldest_19 : decode b_Disk_dropOldest 19 = .ok (.getfield 25, 3) := by decide +kernel
theorem d_Disk_dropOldest_22 : decode b_Disk_dropOldest 22 = .ok (.iload_n 1, 1) := by decide +kernel
theorem d_Disk_dropOldest_23 : decode b_Disk_dropOldest 23 = .ok (.invokevirtual 79, 3) := by decide +kernel
theorem d_Disk_dropOldest_26 : decode b_Disk_dropOldest 26 = .ok (.iconst 1, 1) := by decide +kernel
theorem d_Disk_dropOldest_27 : decode b_Disk_dropOldest 27 = .ok (.ireturn, 1) := by decide +kernel
theorem d_Disk_checkpointOldest_0 : decode b_Disk_checkpointOldest 0 = .ok (.iconst 0, 1) := by decide +kernel
theorem d_Disk_checkpointOldest_1 : decode b_Disk_checkpointOldest 1 = .ok (.istore_n 2, 1) := by decide +kernel
theorem d_Disk_checkpointOldest_2 : decode b_Disk_checkpointOldest 2 = .ok (.iload_n 2, 1) := by decide +kernel
theorem d_Disk_checkpointOldest_3 : decode b_Disk_checkpointOldest 3 = .ok (.iload_n 1, 1) := by decide +kernel
theorem d_Disk_checkpointOldest_4 : decode b_Disk_checkpointOldest 4 = .ok (.if_icmp .ge 27, 3) := by decide +kernel
theorem d_Disk_checkpointOldest_7 : decode b_Disk_checkpointOldest 7 = .ok (.aload_n 0, 1) := by decide +kernel
theorem d_Disk_checkpointOldest_8 : decode b_Disk_checkpointOldest 8 = .ok (.iload_n 2, 1) := by decide +kernel
theorem d_Disk_checkpointOldest_9 : decode b_Disk_checkpointOldest 9 = .ok (.aload_n 0, 1) := by decide +kernel
theorem d_Disk_checkpointOldest_10 : decode b_Disk_checkpointOldest 10 = .ok (.getfield 25, 3) := by decide +kernel
theorem d_Disk_checkpointOldest_13 : decode b_Disk_checkpointOldest 13 = .ok (.iload_n 2, 1) := by decide +kernel
theorem d_Disk_checkpointOldest_14 : decode b_Disk_checkpointOldest 14 = .ok (.invokevirtual 47, 3) := by decide +kernel
theorem d_Disk_checkpointOldest_17 : decode b_Disk_checkpointOldest 17 = .ok (.invokevirtual 51, 3) := by decide +kernel
theorem d_Disk_checkpointOldest_20 : decode b_Disk_checkpointOldest 20 = .ok (.ifCond .ne 5, 3) := by decide +kernel
theorem d_Disk_checkpointOldest_23 : decode b_Disk_checkpointOldest 23 = .ok (.iconst 0, 1) := by decide +kernel
theorem d_Disk_checkpointOldest_24 : decode b_Disk_checkpointOldest 24 = .ok (.ireturn, 1) := by decide +kernel
theorem d_Disk_checkpointOldest_25 : decode b_Disk_checkpointOldest 25 = .ok (.iinc 2 1, 3) := by decide +kernel
theorem d_Disk_checkpointOldest_28 : decode b_Disk_checkpointOldest 28 = .ok (.goto (-26), 3) := by decide +kernel
theorem d_Disk_checkpointOldest_31 : decode b_Disk_checkpointOldest 31 = .ok (.aload_n 0, 1) := by decide +kernel
theorem d_Disk_checkpointOldest_32 : decode b_Disk_checkpointOldest 32 = .ok (.iload_n 1, 1) := by decide +kernel
theorem d_Disk_checkpointOldest_33 : decode b_Disk_checkpointOldest 33 = .ok (.invokevirtual 55, 3) := by decide +kernel
theorem d_Disk_checkpointOldest_36 : decode b_Disk_checkpointOldest 36 = .ok (.ireturn, 1) := by decide +kernel
theorem d_Log_append_0 : decode b_Log_append 0 = .ok (.aload_n 0, 1) := by decide +kernel
theorem d_Log_append_1 : decode b_Log_append 1 = .ok (.getfield 31, 3) := by decide +kernel
theorem d_Log_append_4 : decode b_Log_append 4 = .ok (.istore_n 3, 1) := by decide +kernel
theorem d_Log_append_5 : decode b_Log_append 5 = .ok (.aload_n 0, 1) := by decide +kernel
theorem d_Log_append_6 : decode b_Log_append 6 = .ok (.dup, 1) := by decide +kernel
theorem d_Log_append_7 : decode b_Log_append 7 = .ok (.getfield 31, 3) := by decide +kernel
theorem d_Log_append_10 : decode b_Log_append 10 = .ok (.iconst 1, 1) := by decide +kernel
theorem d_Log_append_11 : decode b_Log_append 11 = .ok (.iadd, 1) := by decide +kernel
theorem d_Log_append_12 : decode b_Log_append 12 = .ok (.putfield 31, 3) := by decide +kernel
theorem d_Log_append_15 : decode b_Log_append 15 = .ok (.aload_n 0, 1) := by decide +kernel
theorem d_Log_append_16 : decode b_Log_append 16 = .ok (.getfield 15, 3) := by decide +kernel
theorem d_Log_append_19 : decode b_Log_append 19 = .ok (.aload_n 0, 1) := by decide +kernel
theorem d_Log_append_20 : decode b_Log_append 20 = .ok (.iload_n 3, 1) := by decide +kernel
theorem d_Log_append_21 : decode b_Log_append 21 = .ok (.invokevirtual 37, 3) := by decide +kernel
theorem d_Log_append_24 : decode b_Log_append 24 = .ok (.aload_n 0, 1) := by decide +kernel
theorem d_Log_append_25 : decode b_Log_append 25 = .ok (.getfield 34, 3) := by decide +kernel
theorem d_Log_append_28 : decode b_Log_append 28 = .ok (.iastore, 1) := by decide +kernel
theorem d_Log_append_29 : decode b_Log_append 29 = .ok (.aload_n 0, 1) := by decide +kernel
theorem d_Log_append_30 : decode b_Log_append 30 = .ok (.getfield 18, 3) := by decide +kernel
theorem d_Log_append_33 : decode b_Log_append 33 = .ok (.aload_n 0, 1) := by decide +kernel
theorem d_Log_append_34 : decode b_Log_append 34 = .ok (.iload_n 3, 1) := by decide +kernel
theorem d_Log_append_35 : decode b_Log_append 35 = .ok (.invokevirtual 37, 3) := by decide +kernel
theorem d_Log_append_38 : decode b_Log_append 38 = .ok (.iload_n 1, 1) := by decide +kernel
theorem d_Log_append_39 : decode b_Log_append 39 = .ok (.iastore, 1) := by decide +kernel
theorem d_Log_append_40 : decode b_Log_append 40 = .ok (.aload_n 0, 1) := by decide +kernel
theorem d_Log_append_41 : decode b_Log_append 41 = .ok (.getfield 21, 3) := by decide +kernel
theorem d_Log_append_44 : decode b_Log_append 44 = .ok (.aload_n 0, 1) := by decide +kernel
theorem d_Log_append_45 : decode b_Log_append 45 = .ok (.iload_n 3, 1) := by decide +kernel
theorem d_Log_append_46 : decode b_Log_append 46 = .ok (.invokevirtual 37, 3) := by decide +kernel
theorem d_Log_append_49 : decode b_Log_append 49 = .ok (.aload_n 2, 1) := by decide +kernel
theorem d_Log_append_50 : decode b_Log_append 50 = .ok (.getfield 61, 3) := by decide +kernel
theorem d_Log_append_53 : decode b_Log_append 53 = .ok (.iastore, 1) := by decide +kernel
theorem d_Log_append_54 : decode b_Log_append 54 = .ok (.aload_n 0, 1) := by decide +kernel
theorem d_Log_append_55 : decode b_Log_append 55 = .ok (.getfield 24, 3) := by decide +kernel
theorem d_Log_append_58 : decode b_Log_append 58 = .ok (.aload_n 0, 1) := by decide +kernel
theorem d_Log_append_59 : decode b_Log_append 59 = .ok (.iload_n 3, 1) := by decide +kernel
theorem d_Log_append_60 : decode b_Log_append 60 = .ok (.invokevirtual 37, 3) := by decide +kernel
theorem d_Log_append_63 : decode b_Log_append 63 = .ok (.aload_n 2, 1) := by decide +kernel
theorem d_Log_append_64 : decode b_Log_append 64 = .ok (.getfield 66, 3) := by decide +kernel
theorem d_Log_append_67 : decode b_Log_append 67 = .ok (.iastore, 1) := by decide +kernel
theorem d_Log_append_68 : decode b_Log_append 68 = .ok (.iconst 0, 1) := by decide +kernel
theorem d_Log_append_69 : decode b_Log_append 69 = .ok (.istore 4, 2) := by decide +kernel
theorem d_Log_append_71 : decode b_Log_append 71 = .ok (.iload 4, 2) := by decide +kernel
theorem d_Log_append_73 : decode b_Log_append 73 = .ok (.bipush 23, 2) := by decide +kernel
theorem d_Log_append_75 : decode b_Log_append 75 = .ok (.if_icmp .ge 44, 3) := by decide +kernel
theorem d_Log_append_78 : decode b_Log_append 78 = .ok (.aload_n 2, 1) := by decide +kernel
theorem d_Log_append_79 : decode b_Log_append 79 = .ok (.getfield 61, 3) := by decide +kernel
theorem d_Log_append_82 : decode b_Log_append 82 = .ok (.iload 4, 2) := by decide +kernel
theorem d_Log_append_84 : decode b_Log_append 84 = .ok (.invokestatic 52, 3) := by decide +kernel
theorem d_Log_append_87 : decode b_Log_append 87 = .ok (.ifCond .eq 26, 3) := by decide +kernel
theorem d_Log_append_90 : decode b_Log_append 90 = .ok (.aload_n 2, 1) := by decide +kernel
theorem d_Log_append_91 : decode b_Log_append 91 = .ok (.getfield 68, 3) := by decide +kernel
theorem d_Log_append_94 : decode b_Log_append 94 = .ok (.iload 4, 2) := by decide +kernel
theorem d_Log_append_96 : decode b_Log_append 96 = .ok (.iconst 4, 1) := by decide +kernel
theorem d_Log_append_97 : decode b_Log_append 97 = .ok (.imul, 1) := by decide +kernel
theorem d_Log_append_98 : decode b_Log_append 98 = .ok (.aload_n 0, 1) := by decide +kernel
theorem d_Log_append_99 : decode b_Log_append 99 = .ok (.getfield 9, 3) := by decide +kernel
theorem d_Log_append_102 : decode b_Log_append 102 = .ok (.aload_n 0, 1) := by decide +kernel
theorem d_Log_append_103 : decode b_Log_append 103 = .ok (.iload_n 3, 1) := by decide +kernel
theorem d_Log_append_104 : decode b_Log_append 104 = .ok (.iload 4, 2) := by decide +kernel
theorem d_Log_append_106 : decode b_Log_append 106 = .ok (.invokevirtual 69, 3) := by decide +kernel
theorem d_Log_append_109 : decode b_Log_append 109 = .ok (.iconst 4, 1) := by decide +kernel
theorem d_Log_append_110 : decode b_Log_append 110 = .ok (.invokestatic 73, 3) := by decide +kernel
theorem d_Log_append_113 : decode b_Log_append 113 = .ok (.iinc 4 1, 3) := by decide +kernel
theorem d_Log_append_116 : decode b_Log_append 116 = .ok (.goto (-45), 3) := by decide +kernel
theorem d_Log_append_119 : decode b_Log_append 119 = .ok (.aload_n 0, 1) := by decide +kernel
theorem d_Log_append_120 : decode b_Log_append 120 = .ok (.aload_n 0, 1) := by decide +kernel
theorem d_Log_append_121 : decode b_Log_append 121 = .ok (.getfield 34, 3) := by decide +kernel
theorem d_Log_append_124 : decode b_Log_append 124 = .ok (.iload_n 1, 1) := by decide +kernel
theorem d_Log_append_125 : decode b_Log_append 125 = .ok (.iadd, 1) := by decide +kernel
theorem d_Log_append_126 : decode b_Log_append 126 = .ok (.bipush 24, 2) := by decide +kernel
theorem d_Log_append_128 : decode b_Log_append 128 = .ok (.irem, 1) := by decide +kernel
theorem d_Log_append_129 : decode b_Log_append 129 = .ok (.putfield 34, 3) := by decide +kernel
theorem d_Log_append_132 : decode b_Log_append 132 = .ok (.return_, 1) := by decide +kernel
theorem d_Disk_writeTransaction_0 : decode b_Disk_writeTransaction 0 = .ok (.iconst 0, 1) := by decide +kernel
theorem d_Disk_writeTransaction_1 : decode b_Disk_writeTransaction 1 = .ok (.istore_n 3, 1) := by decide +kernel
theorem d_Disk_writeTransaction_2 : decode b_Disk_writeTransaction 2 = .ok (.iload_n 3, 1) := by decide +kernel
theorem d_Disk_writeTransaction_3 : decode b_Disk_writeTransaction 3 = .ok (.iload_n 1, 1) := by decide +kernel
theorem d_Disk_writeTransaction_4 : decode b_Disk_writeTransaction 4 = .ok (.if_icmp .ge 21, 3) := by decide +kernel
theorem d_Disk_writeTransaction_7 : decode b_Disk_writeTransaction 7 = .ok (.aload_n 0, 1) := by decide +kernel
theorem d_Disk_writeTransaction_8 : decode b_Disk_writeTransaction 8 = .ok (.getfield 12, 3) := by decide +kernel
theorem d_Disk_writeTransaction_11 : decode b_Disk_writeTransaction 11 = .ok (.invokevirtual 29, 3) := by decide +kernel
theorem d_Disk_writeTransaction_14 : decode b_Disk_writeTransaction 14 = .ok (.ifCond .ne 5, 3) := by decide +kernel
theorem d_Disk_writeTransaction_17 : decode b_Disk_writeTransaction 17 = .ok (.iconst 0, 1) := by decide +kernel
theorem d_Disk_writeTransaction_18 : decode b_Disk_writeTransaction 18 = .ok (.ireturn, 1) := by decide +kernel
theorem d_Disk_writeTransaction_19 : decode b_Disk_writeTransaction 19 = .ok (.iinc 3 1, 3) := by decide +kernel
theorem d_Disk_writeTransaction_22 : decode b_Disk_writeTransaction 22 = .ok (.goto (-20), 3) := by decide +kernel
theorem d_Disk_writeTransaction_25 : decode b_Disk_writeTransaction 25 = .ok (.aload_n 0, 1) := by decide +kernel
theorem d_Disk_writeTransaction_26 : decode b_Disk_writeTransaction 26 = .ok (.getfield 25, 3) := by decide +kernel
theorem d_Disk_writeTransaction_29 : decode b_Disk_writeTransaction 29 = .ok (.iload_n 1, 1) := by decide +kernel
theorem d_Disk_writeTransaction_30 : decode b_Disk_writeTransaction 30 = .ok (.aload_n 2, 1) := by decide +kernel
theorem d_Disk_writeTransaction_31 : decode b_Disk_writeTransaction 31 = .ok (.invokevirtual 43, 3) := by decide +kernel
theorem d_Disk_writeTransaction_34 : decode b_Disk_writeTransaction 34 = .ok (.iconst 1, 1) := by decide +kernel
theorem d_Disk_writeTransaction_35 : decode b_Disk_writeTransaction 35 = .ok (.ireturn, 1) := by decide +kernel
theorem d_Mem_startTransaction_0 : decode b_Mem_startTransaction 0 = .ok (.aload_n 0, 1) := by decide +kernel
theorem d_Mem_startTransaction_1 : decode b_Mem_startTransaction 1 = .ok (.iconst 0, 1) := by decide +kernel
theorem d_Mem_startTransaction_2 : decode b_Mem_startTransaction 2 = .ok (.putfield 22, 3) := by decide +kernel
theorem d_Mem_startTransaction_5 : decode b_Mem_startTransaction 5 = .ok (.aload_n 0, 1) := by decide +kernel
theorem d_Mem_startTransaction_6 : decode b_Mem_startTransaction 6 = .ok (.iconst 0, 1) := by decide +kernel
theorem d_Mem_startTransaction_7 : decode b_Mem_startTransaction 7 = .ok (.putfield 25, 3) := by decide +kernel
theorem d_Mem_startTransaction_10 : decode b_Mem_startTransaction 10 = .ok (.aload_n 0, 1) := by decide +kernel
theorem d_Mem_startTransaction_11 : decode b_Mem_startTransaction 11 = .ok (.aload_n 0, 1) := by decide +kernel
theorem d_Mem_startTransaction_12 : decode b_Mem_startTransaction 12 = .ok (.invokevirtual 40, 3) := by decide +kernel
theorem d_Mem_startTransaction_15 : decode b_Mem_startTransaction 15 = .ok (.putfield 28, 3) := by decide +kernel
theorem d_Mem_startTransaction_18 : decode b_Mem_startTransaction 18 = .ok (.return_, 1) := by decide +kernel
theorem d_Mem_dirtyAt_0 : decode b_Mem_dirtyAt 0 = .ok (.iload_n 1, 1) := by decide +kernel
theorem d_Mem_dirtyAt_1 : decode b_Mem_dirtyAt 1 = .ok (.ifCond .lt 20, 3) := by decide +kernel
theorem d_Mem_dirtyAt_4 : decode b_Mem_dirtyAt 4 = .ok (.iload_n 1, 1) := by decide +kernel
theorem d_Mem_dirtyAt_5 : decode b_Mem_dirtyAt 5 = .ok (.aload_n 0, 1) := by decide +kernel
theorem d_Mem_dirtyAt_6 : decode b_Mem_dirtyAt 6 = .ok (.getfield 18, 3) := by decide +kernel
theorem d_Mem_dirtyAt_9 : decode b_Mem_dirtyAt 9 = .ok (.if_icmp .ge 12, 3) := by decide +kernel
theorem d_Mem_dirtyAt_12 : decode b_Mem_dirtyAt 12 = .ok (.aload_n 0, 1) := by decide +kernel
theorem d_Mem_dirtyAt_13 : decode b_Mem_dirtyAt 13 = .ok (.getfield 15, 3) := by decide +kernel
theorem d_Mem_dirtyAt_16 : decode b_Mem_dirtyAt 16 = .ok (.iload_n 1, 1) := by decide +kernel
theorem d_Mem_dirtyAt_17 : decode b_Mem_dirtyAt 17 = .ok (.iaload, 1) := by decide +kernel
theorem d_Mem_dirtyAt_18 : decode b_Mem_dirtyAt 18 = .ok (.goto 4, 3) := by decide +kernel
theorem d_Mem_dirtyAt_21 : decode b_Mem_dirtyAt 21 = .ok (.iconst 0, 1) := by decide +kernel
theorem d_Mem_dirtyAt_22 : decode b_Mem_dirtyAt 22 = .ok (.ireturn, 1) := by decide +kernel
theorem d_Mem_dirtyPlace_0 : decode b_Mem_dirtyPlace 0 = .ok (.iconst 0, 1) := by decide +kernel
theorem d_Mem_dirtyPlace_1 : decode b_Mem_dirtyPlace 1 = .ok (.istore_n 2, 1) := by decide +kernel
theorem d_Mem_dirtyPlace_2 : decode b_Mem_dirtyPlace 2 = .ok (.iload_n 2, 1) := by decide +kernel
theorem d_Mem_dirtyPlace_3 : decode b_Mem_dirtyPlace 3 = .ok (.aload_n 0, 1) := by decide +kernel
theorem d_Mem_dirtyPlace_4 : decode b_Mem_dirtyPlace 4 = .ok (.getfield 18, 3) := by decide +kernel
theorem d_Mem_dirtyPlace_7 : decode b_Mem_dirtyPlace 7 = .ok (.if_icmp .ge 19, 3) := by decide +kernel
theorem d_Mem_dirtyPlace_10 : decode b_Mem_dirtyPlace 10 = .ok (.aload_n 0, 1) := by decide +kernel
theorem d_Mem_dirtyPlace_11 : decode b_Mem_dirtyPlace 11 = .ok (.getfield 15, 3) := by decide +kernel
theorem d_Mem_dirtyPlace_14 : decode b_Mem_dirtyPlace 14 = .ok (.iload_n 2, 1) := by decide +kernel
theorem d_Mem_dirtyPlace_15 : decode b_Mem_dirtyPlace 15 = .ok (.iaload, 1) := by decide +kernel
theorem d_Mem_dirtyPlace_16 : decode b_Mem_dirtyPlace 16 = .ok (.iload_n 1, 1) := by decide +kernel
theorem d_Mem_dirtyPlace_17 : decode b_Mem_dirtyPlace 17 = .ok (.if_icmp .eq 9, 3) := by decide +kernel
theorem d_Mem_dirtyPlace_20 : decode b_Mem_dirtyPlace 20 = .ok (.iinc 2 1, 3) := by decide +kernel
theorem d_Mem_dirtyPlace_23 : decode b_Mem_dirtyPlace 23 = .ok (.goto (-21), 3) := by decide +kernel
theorem d_Mem_dirtyPlace_26 : decode b_Mem_dirtyPlace 26 = .ok (.iload_n 2, 1) := by decide +kernel
theorem d_Mem_dirtyPlace_27 : decode b_Mem_dirtyPlace 27 = .ok (.ireturn, 1) := by decide +kernel
theorem d_Mem_makeClean_0 : decode b_Mem_makeClean 0 = .ok (.aload_n 0, 1) := by decide +kernel
theorem d_Mem_makeClean_1 : decode b_Mem_makeClean 1 = .ok (.iload_n 1, 1) := by decide +kernel
theorem d_Mem_makeClean_2 : decode b_Mem_makeClean 2 = .ok (.invokevirtual 94, 3) := by decide +kernel
theorem d_Mem_makeClean_5 : decode b_Mem_makeClean 5 = .ok (.istore_n 2, 1) := by decide +kernel
theorem d_Mem_makeClean_6 : decode b_Mem_makeClean 6 = .ok (.iload_n 2, 1) := by decide +kernel
theorem d_Mem_makeClean_7 : decode b_Mem_makeClean 7 = .ok (.aload_n 0, 1) := by decide +kernel
theorem d_Mem_makeClean_8 : decode b_Mem_makeClean 8 = .ok (.getfield 18, 3) := by decide +kernel
theorem d_Mem_makeClean_11 : decode b_Mem_makeClean 11 = .ok (.if_icmp .ne 4, 3) := by decide +kernel
theorem d_Mem_makeClean_14 : decode b_Mem_makeClean 14 = .ok (.return_, 1) := by decide +kernel
theorem d_Mem_makeClean_15 : decode b_Mem_makeClean 15 = .ok (.aload_n 0, 1) := by decide +kernel
theorem d_Mem_makeClean_16 : decode b_Mem_makeClean 16 = .ok (.dup, 1) := by decide +kernel
theorem d_Mem_makeClean_17 : decode b_Mem_makeClean 17 = .ok (.getfield 18, 3) := by decide +kernel
theorem d_Mem_makeClean_20 : decode b_Mem_makeClean 20 = .ok (.iconst 1, 1) := by decide +kernel
theorem d_Mem_makeClean_21 : decode b_Mem_makeClean 21 = .ok (.isub, 1) := by decide +kernel
theorem d_Mem_makeClean_22 : decode b_Mem_makeClean 22 = .ok (.putfield 18, 3) := by decide +kernel
theorem d_Mem_makeClean_25 : decode b_Mem_makeClean 25 = .ok (.aload_n 0, 1) := by decide +kernel
theorem d_Mem_makeClean_26 : decode b_Mem_makeClean 26 = .ok (.getfield 15, 3) := by decide +kernel
theorem d_Mem_makeClean_29 : decode b_Mem_makeClean 29 = .ok (.iload_n 2, 1) := by decide +kernel
theorem d_Mem_makeClean_30 : decode b_Mem_makeClean 30 = .ok (.iconst 1, 1) := by decide +kernel
theorem d_Mem_makeClean_31 : decode b_Mem_makeClean 31 = .ok (.iadd, 1) := by decide +kernel
theorem d_Mem_makeClean_32 : decode b_Mem_makeClean 32 = .ok (.aload_n 0, 1) := by decide +kernel
theorem d_Mem_makeClean_33 : decode b_Mem_makeClean 33 = .ok (.getfield 15, 3) := by decide +kernel
theorem d_Mem_makeClean_36 : decode b_Mem_makeClean 36 = .ok (.iload_n 2, 1) := by decide +kernel
theorem d_Mem_makeClean_37 : decode b_Mem_makeClean 37 = .ok (.aload_n 0, 1) := by decide +kernel
theorem d_Mem_makeClean_38 : decode b_Mem_makeClean 38 = .ok (.getfield 18, 3) := by decide +kernel
theorem d_Mem_makeClean_41 : decode b_Mem_makeClean 41 = .ok (.iload_n 2, 1) := by decide +kernel
theorem d_Mem_makeClean_42 : decode b_Mem_makeClean 42 = .ok (.isub, 1) := by decide +kernel
theorem d_Mem_makeClean_43 : decode b_Mem_makeClean 43 = .ok (.invokestatic 31, 3) := by decide +kernel
theorem d_Mem_makeClean_46 : decode b_Mem_makeClean 46 = .ok (.return_, 1) := by decide +kernel
theorem d_X_writeDirtyHome_0 : decode b_X_writeDirtyHome 0 = .ok (.aload_n 0, 1) := by decide +kernel
theorem d_X_writeDirtyHome_1 : decode b_X_writeDirtyHome 1 = .ok (.getfield 10, 3) := by decide +kernel
theorem d_X_writeDirtyHome_4 : decode b_X_writeDirtyHome 4 = .ok (.iload_n 1, 1) := by decide +kernel
theorem d_X_writeDirtyHome_5 : decode b_X_writeDirtyHome 5 = .ok (.aload_n 0, 1) := by decide +kernel
theorem d_X_writeDirtyHome_6 : decode b_X_writeDirtyHome 6 = .ok (.getfield 24, 3) := by decide +kernel
theorem d_X_writeDirtyHome_9 : decode b_X_writeDirtyHome 9 = .ok (.getfield 193, 3) := by decide +kernel
theorem d_X_writeDirtyHome_12 : decode b_X_writeDirtyHome 12 = .ok (.iload_n 1, 1) := by decide +kernel
theorem d_X_writeDirtyHome_13 : decode b_X_writeDirtyHome 13 = .ok (.iconst 4, 1) := by decide +kernel
theorem d_X_writeDirtyHome_14 : decode b_X_writeDirtyHome 14 = .ok (.imul, 1) := by decide +kernel
theorem d_X_writeDirtyHome_15 : decode b_X_writeDirtyHome 15 = .ok (.invokevirtual 196, 3) := by decide +kernel
theorem d_X_writeDirtyHome_18 : decode b_X_writeDirtyHome 18 = .ok (.ifCond .ne 5, 3) := by decide +kernel
theorem d_X_writeDirtyHome_21 : decode b_X_writeDirtyHome 21 = .ok (.iconst 0, 1) := by decide +kernel
theorem d_X_writeDirtyHome_22 : decode b_X_writeDirtyHome 22 = .ok (.ireturn, 1) := by decide +kernel
theorem d_X_writeDirtyHome_23 : decode b_X_writeDirtyHome 23 = .ok (.aload_n 0, 1) := by decide +kernel
theorem d_X_writeDirtyHome_24 : decode b_X_writeDirtyHome 24 = .ok (.getfield 24, 3) := by decide +kernel
theorem d_X_writeDirtyHome_27 : decode b_X_writeDirtyHome 27 = .ok (.iload_n 1, 1) := by decide +kernel
theorem d_X_writeDirtyHome_28 : decode b_X_writeDirtyHome 28 = .ok (.invokevirtual 200, 3) := by decide +kernel
theorem d_X_writeDirtyHome_31 : decode b_X_writeDirtyHome 31 = .ok (.iconst 1, 1) := by decide +kernel
theorem d_X_writeDirtyHome_32 : decode b_X_writeDirtyHome 32 = .ok (.ireturn, 1) := by decide +kernel
theorem d_X_writeFirstDirty_0 : decode b_X_writeFirstDirty 0 = .ok (.iconst 0, 1) := by decide +kernel
theorem d_X_writeFirstDirty_1 : decode b_X_writeFirstDirty 1 = .ok (.istore_n 2, 1) := by decide +kernel
theorem d_X_writeFirstDirty_2 : decode b_X_writeFirstDirty 2 = .ok (.iload_n 2, 1) := by decide +kernel
theorem d_X_writeFirstDirty_3 : decode b_X_writeFirstDirty 3 = .ok (.iload_n 1, 1) := by decide +kernel
theorem d_X_writeFirstDirty_4 : decode b_X_writeFirstDirty 4 = .ok (.if_icmp .ge 26, 3) := by decide +kernel
theorem d_X_writeFirstDirty_7 : decode b_X_writeFirstDirty 7 = .ok (.aload_n 0, 1) := by decide +kernel
theorem d_X_writeFirstDirty_8 : decode b_X_writeFirstDirty 8 = .ok (.aload_n 0, 1) := by decide +kernel
theorem d_X_writeFirstDirty_9 : decode b_X_writeFirstDirty 9 = .ok (.getfield 24, 3) := by decide +kernel
theorem d_X_writeFirstDirty_12 : decode b_X_writeFirstDirty 12 = .ok (.iconst 0, 1) := by decide +kernel
theorem d_X_writeFirstDirty_13 : decode b_X_writeFirstDirty 13 = .ok (.invokevirtual 184, 3) := by decide +kernel
theorem d_X_writeFirstDirty_16 : decode b_X_writeFirstDirty 16 = .ok (.invokevirtual 187, 3) := by decide +kernel
theorem d_X_writeFirstDirty_19 : decode b_X_writeFirstDirty 19 = .ok (.ifCond .ne 5, 3) := by decide +kernel
theorem d_X_writeFirstDirty_22 : decode b_X_writeFirstDirty 22 = .ok (.iconst 0, 1) := by decide +kernel
theorem d_X_writeFirstDirty_23 : decode b_X_writeFirstDirty 23 = .ok (.ireturn, 1) := by decide +kernel
theorem d_X_writeFirstDirty_24 : decode b_X_writeFirstDirty 24 = .ok (.iinc 2 1, 3) := by decide +kernel
theorem d_X_writeFirstDirty_27 : decode b_X_writeFirstDirty 27 = .ok (.goto (-25), 3) := by decide +kernel
theorem d_X_writeFirstDirty_30 : decode b_X_writeFirstDirty 30 = .ok (.iconst 1, 1) := by decide +kernel
theorem d_X_writeFirstDirty_31 : decode b_X_writeFirstDirty 31 = .ok (.ireturn, 1) := by decide +kernel
theorem d_X_commitRunning_0 : decode b_X_commitRunning 0 = .ok (.aload_n 0, 1) := by decide +kernel
theorem d_X_commitRunning_1 : decode b_X_commitRunning 1 = .ok (.getfield 28, 3) := by decide +kernel
theorem d_X_commitRunning_4 : decode b_X_commitRunning 4 = .ok (.iconst 1, 1) := by decide +kernel
theorem d_X_commitRunning_5 : decode b_X_commitRunning 5 = .ok (.if_icmp .ne 20, 3) := by decide +kernel
theorem d_X_commitRunning_8 : decode b_X_commitRunning 8 = .ok (.aload_n 0, 1) := by decide +kernel
theorem d_X_commitRunning_9 : decode b_X_commitRunning 9 = .ok (.aload_n 0, 1) := by decide +kernel
theorem d_X_commitRunning_10 : decode b_X_commitRunning 10 = .ok (.getfield 24, 3) := by decide +kernel
theorem d_X_commitRunning_13 : decode b_X_commitRunning 13 = .ok (.getfield 84, 3) := by decide +kernel
theorem d_X_commitRunning_16 : decode b_X_commitRunning 16 = .ok (.invokevirtual 92, 3) := by decide +kernel
theorem d_X_commitRunning_19 : decode b_X_commitRunning 19 = .ok (.ifCond .ne 6, 3) := by decide +kernel
theorem d_X_commitRunning_22 : decode b_X_commitRunning 22 = .ok (.bipush (-2), 2) := by decide +kernel
theorem d_X_commitRunning_24 : decode b_X_commitRunning 24 = .ok (.ireturn, 1) := by decide +kernel
theorem d_X_commitRunning_25 : decode b_X_commitRunning 25 = .ok (.aload_n 0, 1) := by decide +kernel
theorem d_X_commitRunning_26 : decode b_X_commitRunning 26 = .ok (.getfield 24, 3) := by decide +kernel
theorem d_X_commitRunning_29 : decode b_X_commitRunning 29 = .ok (.invokevirtual 128, 3) := by decide +kernel
theorem d_X_commitRunning_32 : decode b_X_commitRunning 32 = .ok (.istore_n 1, 1) := by decide +kernel
theorem d_X_commitRunning_33 : decode b_X_commitRunning 33 = .ok (.iload_n 1, 1) := by decide +kernel
theorem d_X_commitRunning_34 : decode b_X_commitRunning 34 = .ok (.ifCond .ne 5, 3) := by decide +kernel
theorem d_X_commitRunning_37 : decode b_X_commitRunning 37 = .ok (.iconst 0, 1) := by decide +kernel
theorem d_X_commitRunning_38 : decode b_X_commitRunning 38 = .ok (.ireturn, 1) := by decide +kernel
theorem d_X_commitRunning_39 : decode b_X_commitRunning 39 = .ok (.aload_n 0, 1) := by decide +kernel
theorem d_X_commitRunning_40 : decode b_X_commitRunning 40 = .ok (.getfield 10, 3) := by decide +kernel
theorem d_X_commitRunning_43 : decode b_X_commitRunning 43 = .ok (.aload_n 0, 1) := by decide +kernel
theorem d_X_commitRunning_44 : decode b_X_commitRunning 44 = .ok (.getfield 10, 3) := by decide +kernel
theorem d_X_commitRunning_47 : decode b_X_commitRunning 47 = .ok (.getfield 98, 3) := by decide +kernel
theorem d_X_commitRunning_50 : decode b_X_commitRunning 50 = .ok (.iload_n 1, 1) := by decide +kernel
theorem d_X_commitRunning_51 : decode b_X_commitRunning 51 = .ok (.invokevirtual 174, 3) := by decide +kernel
theorem d_X_commitRunning_54 : decode b_X_commitRunning 54 = .ok (.invokevirtual 107, 3) := by decide +kernel
theorem d_X_commitRunning_57 : decode b_X_commitRunning 57 = .ok (.ifCond .eq 18, 3) := by decide +kernel
theorem d_X_commitRunning_60 : decode b_X_commitRunning 60 = .ok (.aload_n 0, 1) := by decide +kernel
theorem d_X_commitRunning_61 : decode b_X_commitRunning 61 = .ok (.getfield 10, 3) := by decide +kernel
theorem d_X_commitRunning_64 : decode b_X_commitRunning 64 = .ok (.iload_n 1, 1) := by decide +kernel
theorem d_X_commitRunning_65 : decode b_X_commitRunning 65 = .ok (.aload_n 0, 1) := by decide +kernel
theorem d_X_commitRunning_66 : decode b_X_commitRunning 66 = .ok (.getfield 24, 3) := by decide +kernel
theorem d_X_commitRunning_69 : decode b_X_commitRunning 69 = .ok (.invokevirtual 177, 3) := by decide +kernel
theorem d_X_commitRunning_72 : decode b_X_commitRunning 72 = .ok (.ifCond .ne 6, 3) := by decide +kernel
theorem d_X_commitRunning_75 : decode b_X_commitRunning 75 = .ok (.bipush (-2), 2) := by decide +kernel
theorem d_X_commitRunning_77 : decode b_X_commitRunning 77 = .ok (.ireturn, 1) := by decide +kernel
theorem d_X_commitRunning_78 : decode b_X_commitRunning 78 = .ok (.aload_n 0, 1) := by decide +kernel
theorem d_X_commitRunning_79 : decode b_X_commitRunning 79 = .ok (.getfield 24, 3) := by decide +kernel
theorem d_X_commitRunning_82 : decode b_X_commitRunning 82 = .ok (.invokevirtual 181, 3) := by decide +kernel
theorem d_X_commitRunning_85 : decode b_X_commitRunning 85 = .ok (.iload_n 1, 1) := by decide +kernel
theorem d_X_commitRunning_86 : decode b_X_commitRunning 86 = .ok (.ireturn, 1) := by decide +kernel
theorem d_X_commitIfLarge_0 : decode b_X_commitIfLarge 0 = .ok (.aload_n 0, 1) := by decide +kernel
theorem d_X_commitIfLarge_1 : decode b_X_commitIfLarge 1 = .ok (.getfield 24, 3) := by decide +kernel
theorem d_X_commitIfLarge_4 : decode b_X_commitIfLarge 4 = .ok (.invokevirtual 128, 3) := by decide +kernel
theorem d_X_commitIfLarge_7 : decode b_X_commitIfLarge 7 = .ok (.bipush 12, 2) := by decide +kernel
theorem d_X_commitIfLarge_9 : decode b_X_commitIfLarge 9 = .ok (.if_icmp .le 12, 3) := by decide +kernel
theorem d_X_commitIfLarge_12 : decode b_X_commitIfLarge 12 = .ok (.aload_n 0, 1) := by decide +kernel
theorem d_X_commitIfLarge_13 : decode b_X_commitIfLarge 13 = .ok (.invokevirtual 78, 3) := by decide +kernel
theorem d_X_commitIfLarge_16 : decode b_X_commitIfLarge 16 = .ok (.bipush (-2), 2) := by decide +kernel
theorem d_X_commitIfLarge_18 : decode b_X_commitIfLarge 18 = .ok (.if_icmp .eq 7, 3) := by decide +kernel
theorem d_X_commitIfLarge_21 : decode b_X_commitIfLarge 21 = .ok (.iconst 1, 1) := by decide +kernel
theorem d_X_commitIfLarge_22 : decode b_X_commitIfLarge 22 = .ok (.goto 4, 3) := by decide +kernel
theorem d_X_commitIfLarge_25 : decode b_X_commitIfLarge 25 = .ok (.iconst 0, 1) := by decide +kernel
theorem d_X_commitIfLarge_26 : decode b_X_commitIfLarge 26 = .ok (.ireturn, 1) := by decide +kernel
theorem d_Mem_dataBlock_0 : decode b_Mem_dataBlock 0 = .ok (.iload_n 2, 1) := by decide +kernel
theorem d_Mem_dataBlock_1 : decode b_Mem_dataBlock 1 = .ok (.iconst 2, 1) := by decide +kernel
theorem d_Mem_dataBlock_2 : decode b_Mem_dataBlock 2 = .ok (.if_icmp .ge 12, 3) := by decide +kernel
theorem d_Mem_dataBlock_5 : decode b_Mem_dataBlock 5 = .ok (.aload_n 0, 1) := by decide +kernel
theorem d_Mem_dataBlock_6 : decode b_Mem_dataBlock 6 = .ok (.iload_n 1, 1) := by decide +kernel
theorem d_Mem_dataBlock_7 : decode b_Mem_dataBlock 7 = .ok (.iconst 1, 1) := by decide +kernel
theorem d_Mem_dataBlock_8 : decode b_Mem_dataBlock 8 = .ok (.iload_n 2, 1) := by decide +kernel
theorem d_Mem_dataBlock_9 : decode b_Mem_dataBlock 9 = .ok (.iadd, 1) := by decide +kernel
theorem d_Mem_dataBlock_10 : decode b_Mem_dataBlock 10 = .ok (.invokevirtual 57, 3) := by decide +kernel
theorem d_Mem_dataBlock_13 : decode b_Mem_dataBlock 13 = .ok (.ireturn, 1) := by decide +kernel
theorem d_Mem_dataBlock_14 : decode b_Mem_dataBlock 14 = .ok (.aload_n 0, 1) := by decide +kernel
theorem d_Mem_dataBlock_15 : decode b_Mem_dataBlock 15 = .ok (.aload_n 0, 1) := by decide +kernel
theorem d_Mem_dataBlock_16 : decode b_Mem_dataBlock 16 = .ok (.iload_n 1, 1) := by decide +kernel
theorem d_Mem_dataBlock_17 : decode b_Mem_dataBlock 17 = .ok (.iconst 3, 1) := by decide +kernel
theorem d_Mem_dataBlock_18 : decode b_Mem_dataBlock 18 = .ok (.invokevirtual 57, 3) := by decide +kernel
theorem d_Mem_dataBlock_21 : decode b_Mem_dataBlock 21 = .ok (.iload_n 2, 1) := by decide +kernel
theorem d_Mem_dataBlock_22 : decode b_Mem_dataBlock 22 = .ok (.iconst 2, 1) := by decide +kernel
theorem d_Mem_dataBlock_23 : decode b_Mem_dataBlock 23 = .ok (.isub, 1) := by decide +kernel
theorem d_Mem_dataBlock_24 : decode b_Mem_dataBlock 24 = .ok (.invokevirtual 57, 3) := by decide +kernel
theorem d_Mem_dataBlock_27 : decode b_Mem_dataBlock 27 = .ok (.ireturn, 1) := by decide +kernel
theorem d_Mem_setWord_0 : decode b_Mem_setWord 0 = .ok (.iload_n 1, 1) := by decide +kernel
theorem d_Mem_setWord_1 : decode b_Mem_setWord 1 = .ok (.iload_n 2, 1) := by decide +kernel
theorem d_Mem_setWord_2 : decode b_Mem_setWord 2 = .ok (.invokestatic 53, 3) := by decide +kernel
theorem d_Mem_setWord_5 : decode b_Mem_setWord 5 = .ok (.ifCond .eq 14, 3) := by decide +kernel
theorem d_Mem_setWord_8 : decode b_Mem_setWord 8 = .ok (.aload_n 0, 1) := by decide +kernel
theorem d_Mem_setWord_9 : decode b_Mem_setWord 9 = .ok (.getfield 9, 3) := by decide +kernel
theorem d_Mem_setWord_12 : decode b_Mem_setWord 12 = .ok (.iload_n 1, 1) := by decide +kernel
theorem d_Mem_setWord_13 : decode b_Mem_setWord 13 = .ok (.iconst 4, 1) := by decide +kernel
theorem d_Mem_setWord_14 : decode b_Mem_setWord 14 = .ok (.imul, 1) := by decide +kernel
theorem d_Mem_setWord_15 : decode b_Mem_setWord 15 = .ok (.iload_n 2, 1) := by decide +kernel
theorem d_Mem_setWord_16 : decode b_Mem_setWord 16 = .ok (.iadd, 1) := by decide +kernel
theorem d_Mem_setWord_17 : decode b_Mem_setWord 17 = .ok (.iload_n 3, 1) := by decide +kernel
theorem d_Mem_setWord_18 : decode b_Mem_setWord 18 = .ok (.iastore, 1) := by decide +kernel
theorem d_Mem_setWord_19 : decode b_Mem_setWord 19 = .ok (.return_, 1) := by decide +kernel
theorem d_X_isPoolBlock_0 : decode b_X_isPoolBlock 0 = .ok (.iload_n 0, 1) := by decide +kernel
theorem d_X_isPoolBlock_1 : decode b_X_isPoolBlock 1 = .ok (.bipush 7, 2) := by decide +kernel
theorem d_X_isPoolBlock_3 : decode b_X_isPoolBlock 3 = .ok (.if_icmp .lt 13, 3) := by decide +kernel
theorem d_X_isPoolBlock_6 : decode b_X_isPoolBlock 6 = .ok (.iload_n 0, 1) := by decide +kernel
theorem d_X_isPoolBlock_7 : decode b_X_isPoolBlock 7 = .ok (.bipush 23, 2) := by decide +kernel
theorem d_X_isPoolBlock_9 : decode b_X_isPoolBlock 9 = .ok (.if_icmp .ge 7, 3) := by decide +kernel
theorem d_X_isPoolBlock_12 : decode b_X_isPoolBlock 12 = .ok (.iconst 1, 1) := by decide +kernel
theorem d_X_isPoolBlock_13 : decode b_X_isPoolBlock 13 = .ok (.goto 4, 3) := by decide +kernel
theorem d_X_isPoolBlock_16 : decode b_X_isPoolBlock 16 = .ok (.iconst 0, 1) := by decide +kernel
theorem d_X_isPoolBlock_17 : decode b_X_isPoolBlock 17 = .ok (.ireturn, 1) := by decide +kernel
theorem d_Mem_makeDirty_0 : decode b_Mem_makeDirty 0 = .ok (.iload_n 1, 1) := by decide +kernel
theorem d_Mem_makeDirty_1 : decode b_Mem_makeDirty 1 = .ok (.invokestatic 88, 3) := by decide +kernel
theorem d_Mem_makeDirty_4 : decode b_Mem_makeDirty 4 = .ok (.ifCond .eq 44, 3) := by decide +kernel
theorem d_Mem_makeDirty_7 : decode b_Mem_makeDirty 7 = .ok (.aload_n 0, 1) := by decide +kernel
theorem d_Mem_makeDirty_8 : decode b_Mem_makeDirty 8 = .ok (.iload_n 1, 1) := by decide +kernel
theorem d_Mem_makeDirty_9 : decode b_Mem_makeDirty 9 = .ok (.invokevirtual 94, 3) := by decide +kernel
theorem d_Mem_makeDirty_12 : decode b_Mem_makeDirty 12 = .ok (.aload_n 0, 1) := by decide +kernel
theorem d_Mem_makeDirty_13 : decode b_Mem_makeDirty 13 = .ok (.getfield 18, 3) := by decide +kernel
theorem d_Mem_makeDirty_16 : decode b_Mem_makeDirty 16 = .ok (.if_icmp .ne 32, 3) := by decide +kernel
theorem d_Mem_makeDirty_19 : decode b_Mem_makeDirty 19 = .ok (.aload_n 0, 1) := by decide +kernel
theorem d_Mem_makeDirty_20 : decode b_Mem_makeDirty 20 = .ok (.getfield 18, 3) := by decide +kernel
theorem d_Mem_makeDirty_23 : decode b_Mem_makeDirty 23 = .ok (.bipush 16, 2) := by decide +kernel
theorem d_Mem_makeDirty_25 : decode b_Mem_makeDirty 25 = .ok (.if_icmp .ge 23, 3) := by decide +kernel
theorem d_Mem_makeDirty_28 : decode b_Mem_makeDirty 28 = .ok (.aload_n 0, 1) := by decide +kernel
theorem d_Mem_makeDirty_29 : decode b_Mem_makeDirty 29 = .ok (.getfield 15, 3) := by decide +kernel
theorem d_Mem_makeDirty_32 : decode b_Mem_makeDirty 32 = .ok (.aload_n 0, 1) := by decide +kernel
theorem d_Mem_makeDirty_33 : decode b_Mem_makeDirty 33 = .ok (.getfield 18, 3) := by decide +kernel
theorem d_Mem_makeDirty_36 : decode b_Mem_makeDirty 36 = .ok (.iload_n 1, 1) := by decide +kernel
theorem d_Mem_makeDirty_37 : decode b_Mem_makeDirty 37 = .ok (.iastore, 1) := by decide +kernel
theorem d_Mem_makeDirty_38 : decode b_Mem_makeDirty 38 = .ok (.aload_n 0, 1) := by decide +kernel
theorem d_Mem_makeDirty_39 : decode b_Mem_makeDirty 39 = .ok (.dup, 1) := by decide +kernel
theorem d_Mem_makeDirty_40 : decode b_Mem_makeDirty 40 = .ok (.getfield 18, 3) := by decide +kernel
theorem d_Mem_makeDirty_43 : decode b_Mem_makeDirty 43 = .ok (.iconst 1, 1) := by decide +kernel
theorem d_Mem_makeDirty_44 : decode b_Mem_makeDirty 44 = .ok (.iadd, 1) := by decide +kernel
theorem d_Mem_makeDirty_45 : decode b_Mem_makeDirty 45 = .ok (.putfield 18, 3) := by decide +kernel
theorem d_Mem_makeDirty_48 : decode b_Mem_makeDirty 48 = .ok (.return_, 1) := by decide +kernel
theorem d_Mem_join_0 : decode b_Mem_join 0 = .ok (.iload_n 1, 1) := by decide +kernel
theorem d_Mem_join_1 : decode b_Mem_join 1 = .ok (.invokestatic 78, 3) := by decide +kernel
theorem d_Mem_join_4 : decode b_Mem_join 4 = .ok (.ifCond .eq 15, 3) := by decide +kernel
theorem d_Mem_join_7 : decode b_Mem_join 7 = .ok (.aload_n 0, 1) := by decide +kernel
theorem d_Mem_join_8 : decode b_Mem_join 8 = .ok (.dup, 1) := by decide +kernel
theorem d_Mem_join_9 : decode b_Mem_join 9 = .ok (.getfield 22, 3) := by decide +kernel
theorem d_Mem_join_12 : decode b_Mem_join 12 = .ok (.iconst 1, 1) := by decide +kernel
theorem d_Mem_join_13 : decode b_Mem_join 13 = .ok (.iload_n 1, 1) := by decide +kernel
theorem d_Mem_join_14 : decode b_Mem_join 14 = .ok (.ishl, 1) := by decide +kernel
theorem d_Mem_join_15 : decode b_Mem_join 15 = .ok (.ior, 1) := by decide +kernel
theorem d_Mem_join_16 : decode b_Mem_join 16 = .ok (.putfield 22, 3) := by decide +kernel
theorem d_Mem_join_19 : decode b_Mem_join 19 = .ok (.return_, 1) := by decide +kernel
theorem d_X_setDataWord_0 : decode b_X_setDataWord 0 = .ok (.aload_n 0, 1) := by decide +kernel
theorem d_X_setDataWord_1 : decode b_X_setDataWord 1 = .ok (.getfield 24, 3) := by decide +kernel
theorem d_X_setDataWord_4 : decode b_X_setDataWord 4 = .ok (.iload_n 1, 1) := by decide +kernel
theorem d_X_setDataWord_5 : decode b_X_setDataWord 5 = .ok (.iload_n 2, 1) := by decide +kernel
theorem d_X_setDataWord_6 : decode b_X_setDataWord 6 = .ok (.iconst 4, 1) := by decide +kernel
theorem d_X_setDataWord_7 : decode b_X_setDataWord 7 = .ok (.idiv, 1) := by decide +kernel
theorem d_X_setDataWord_8 : decode b_X_setDataWord 8 = .ok (.invokevirtual 72, 3) := by decide +kernel
theorem d_X_setDataWord_11 : decode b_X_setDataWord 11 = .ok (.istore 4, 2) := by decide +kernel
theorem d_X_setDataWord_13 : decode b_X_setDataWord 13 = .ok (.aload_n 0, 1) := by decide +kernel
theorem d_X_setDataWord_14 : decode b_X_setDataWord 14 = .ok (.getfield 24, 3) := by decide +kernel
theorem d_X_setDataWord_17 : decode b_X_setDataWord 17 = .ok (.iload 4, 2) := by decide +kernel
theorem d_X_setDataWord_19 : decode b_X_setDataWord 19 = .ok (.iload_n 2, 1) := by decide +kernel
theorem d_X_setDataWord_20 : decode b_X_setDataWord 20 = .ok (.iconst 4, 1) := by decide +kernel
theorem d_X_setDataWord_21 : decode b_X_setDataWord 21 = .ok (.irem, 1) := by decide +kernel
theorem d_X_setDataWord_22 : decode b_X_setDataWord 22 = .ok (.iload_n 3, 1) := by decide +kernel
theorem d_X_setDataWord_23 : decode b_X_setDataWord 23 = .ok (.invokevirtual 143, 3) := by decide +kernel
theorem d_X_setDataWord_26 : decode b_X_setDataWord 26 = .ok (.aload_n 0, 1) := by decide +kernel
theorem d_X_setDataWord_27 : decode b_X_setDataWord 27 = .ok (.getfield 28, 3) := by decide +kernel
theorem d_X_setDataWord_30 : decode b_X_setDataWord 30 = .ok (.iconst 2, 1) := by decide +kernel
theorem d_X_setDataWord_31 : decode b_X_setDataWord 31 = .ok (.if_icmp .ne 15, 3) := by decide +kernel
theorem d_X_setDataWord_34 : decode b_X_setDataWord 34 = .ok (.aload_n 0, 1) := by decide +kernel
theorem d_X_setDataWord_35 : decode b_X_setDataWord 35 = .ok (.getfield 24, 3) := by decide +kernel
theorem d_X_setDataWord_38 : decode b_X_setDataWord 38 = .ok (.iload 4, 2) := by decide +kernel
theorem d_X_setDataWord_40 : decode b_X_setDataWord 40 = .ok (.invokevirtual 146, 3) := by decide +kernel
theorem d_X_setDataWord_43 : decode b_X_setDataWord 43 = .ok (.goto 12, 3) := by decide +kernel
theorem d_X_setDataWord_46 : decode b_X_setDataWord 46 = .ok (.aload_n 0, 1) := by decide +kernel
theorem d_X_setDataWord_47 : decode b_X_setDataWord 47 = .ok (.getfield 24, 3) := by decide +kernel
theorem d_X_setDataWord_50 : decode b_X_setDataWord 50 = .ok (.iload 4, 2) := by decide +kernel
theorem d_X_setDataWord_52 : decode b_X_setDataWord 52 = .ok (.invokevirtual 156, 3) := by decide +kernel
theorem d_X_setDataWord_55 : decode b_X_setDataWord 55 = .ok (.return_, 1) := by decide +kernel
theorem d_Mem_clearWords_0 : decode b_Mem_clearWords 0 = .ok (.iconst 0, 1) := by decide +kernel
theorem d_Mem_clearWords_1 : decode b_Mem_clearWords 1 = .ok (.istore_n 2, 1) := by decide +kernel
theorem d_Mem_clearWords_2 : decode b_Mem_clearWords 2 = .ok (.iload_n 2, 1) := by decide +kernel
theorem d_Mem_clearWords_3 : decode b_Mem_clearWords 3 = .ok (.iconst 4, 1) := by decide +kernel
theorem d_Mem_clearWords_4 : decode b_Mem_clearWords 4 = .ok (.if_icmp .ge 16, 3) := by decide +kernel
theorem d_Mem_clearWords_7 : decode b_Mem_clearWords 7 = .ok (.aload_n 0, 1) := by decide +kernel
theorem d_Mem_clearWords_8 : decode b_Mem_clearWords 8 = .ok (.iload_n 1, 1) := by decide +kernel
theorem d_Mem_clearWords_9 : decode b_Mem_clearWords 9 = .ok (.iload_n 2, 1) := by decide +kernel
theorem d_Mem_clearWords_10 : decode b_Mem_clearWords 10 = .ok (.iconst 0, 1) := by decide +kernel
theorem d_Mem_clearWords_11 : decode b_Mem_clearWords 11 = .ok (.invokevirtual 61, 3) := by decide +kernel
theorem d_Mem_clearWords_14 : decode b_Mem_clearWords 14 = .ok (.iinc 2 1, 3) := by decide +kernel
theorem d_Mem_clearWords_17 : decode b_Mem_clearWords 17 = .ok (.goto (-15), 3) := by decide +kernel
theorem d_Mem_clearWords_20 : decode b_Mem_clearWords 20 = .ok (.return_, 1) := by decide +kernel
theorem d_Mem_takeBlock_0 : decode b_Mem_takeBlock 0 = .ok (.aload_n 0, 1) := by decide +kernel
theorem d_Mem_takeBlock_1 : decode b_Mem_takeBlock 1 = .ok (.invokevirtual 82, 3) := by decide +kernel
theorem d_Mem_takeBlock_4 : decode b_Mem_takeBlock 4 = .ok (.istore_n 1, 1) := by decide +kernel
theorem d_Mem_takeBlock_5 : decode b_Mem_takeBlock 5 = .ok (.bipush 7, 2) := by decide +kernel
theorem d_Mem_takeBlock_7 : decode b_Mem_takeBlock 7 = .ok (.istore_n 2, 1) := by decide +kernel
theorem d_Mem_takeBlock_8 : decode b_Mem_takeBlock 8 = .ok (.iload_n 2, 1) := by decide +kernel
theorem d_Mem_takeBlock_9 : decode b_Mem_takeBlock 9 = .ok (.bipush 23, 2) := by decide +kernel
theorem d_Mem_takeBlock_11 : decode b_Mem_takeBlock 11 = .ok (.if_icmp .ge 51, 3) := by decide +kernel
theorem d_Mem_takeBlock_14 : decode b_Mem_takeBlock 14 = .ok (.iload_n 1, 1) := by decide +kernel
theorem d_Mem_takeBlock_15 : decode b_Mem_takeBlock 15 = .ok (.iload_n 2, 1) := by decide +kernel
theorem d_Mem_takeBlock_16 : decode b_Mem_takeBlock 16 = .ok (.bipush 7, 2) := by decide +kernel
theorem d_Mem_takeBlock_18 : decode b_Mem_takeBlock 18 = .ok (.isub, 1) := by decide +kernel
theorem d_Mem_takeBlock_19 : decode b_Mem_takeBlock 19 = .ok (.ishr, 1) := by decide +kernel
theorem d_Mem_takeBlock_20 : decode b_Mem_takeBlock 20 = .ok (.iconst 1, 1) := by decide +kernel
theorem d_Mem_takeBlock_21 : decode b_Mem_takeBlock 21 = .ok (.iand, 1) := by decide +kernel
theorem d_Mem_takeBlock_22 : decode b_Mem_takeBlock 22 = .ok (.ifCond .eq 34, 3) := by decide +kernel
theorem d_Mem_takeBlock_25 : decode b_Mem_takeBlock 25 = .ok (.aload_n 0, 1) := by decide +kernel
theorem d_Mem_takeBlock_26 : decode b_Mem_takeBlock 26 = .ok (.bipush 6, 2) := by decide +kernel
theorem d_Mem_takeBlock_28 : decode b_Mem_takeBlock 28 = .ok (.iconst 0, 1) := by decide +kernel
theorem d_Mem_takeBlock_29 : decode b_Mem_takeBlock 29 = .ok (.aload_n 0, 1) := by decide +kernel
theorem d_Mem_takeBlock_30 : decode b_Mem_takeBlock 30 = .ok (.invokevirtual 40, 3) := by decide +kernel
theorem d_Mem_takeBlock_33 : decode b_Mem_takeBlock 33 = .ok (.iconst 1, 1) := by decide +kernel
theorem d_Mem_takeBlock_34 : decode b_Mem_takeBlock 34 = .ok (.iload_n 2, 1) := by decide +kernel
theorem d_Mem_takeBlock_35 : decode b_Mem_takeBlock 35 = .ok (.bipush 7, 2) := by decide +kernel
theorem d_Mem_takeBlock_37 : decode b_Mem_takeBlock 37 = .ok (.isub, 1) := by decide +kernel
theorem d_Mem_takeBlock_38 : decode b_Mem_takeBlock 38 = .ok (.ishl, 1) := by decide +kernel
theorem d_Mem_takeBlock_39 : decode b_Mem_takeBlock 39 = .ok (.ior, 1) := by decide +kernel
theorem d_Mem_takeBlock_40 : decode b_Mem_takeBlock 40 = .ok (.invokevirtual 61, 3) := by decide +kernel
theorem d_Mem_takeBlock_43 : decode b_Mem_takeBlock 43 = .ok (.aload_n 0, 1) := by decide +kernel
theorem d_Mem_takeBlock_44 : decode b_Mem_takeBlock 44 = .ok (.bipush 6, 2) := by decide +kernel
theorem d_Mem_takeBlock_46 : decode b_Mem_takeBlock 46 = .ok (.invokevirtual 65, 3) := by decide +kernel
theorem d_Mem_takeBlock_49 : decode b_Mem_takeBlock 49 = .ok (.aload_n 0, 1) := by decide +kernel
theorem d_Mem_takeBlock_50 : decode b_Mem_takeBlock 50 = .ok (.iload_n 2, 1) := by decide +kernel
theorem d_Mem_takeBlock_51 : decode b_Mem_takeBlock 51 = .ok (.invokevirtual 85, 3) := by decide +kernel
theorem d_Mem_takeBlock_54 : decode b_Mem_takeBlock 54 = .ok (.iload_n 2, 1) := by decide +kernel
theorem d_Mem_takeBlock_55 : decode b_Mem_takeBlock 55 = .ok (.ireturn, 1) := by decide +kernel
theorem d_Mem_takeBlock_56 : decode b_Mem_takeBlock 56 = .ok (.iinc 2 1, 3) := by decide +kernel
theorem d_Mem_takeBlock_59 : decode b_Mem_takeBlock 59 = .ok (.goto (-51), 3) := by decide +kernel
theorem d_Mem_takeBlock_62 : decode b_Mem_takeBlock 62 = .ok (.iconst 0, 1) := by decide +kernel
theorem d_Mem_takeBlock_63 : decode b_Mem_takeBlock 63 = .ok (.ireturn, 1) := by decide +kernel
theorem d_Mem_putDataBlock_0 : decode b_Mem_putDataBlock 0 = .ok (.iload_n 2, 1) := by decide +kernel
theorem d_Mem_putDataBlock_1 : decode b_Mem_putDataBlock 1 = .ok (.iconst 2, 1) := by decide +kernel
theorem d_Mem_putDataBlock_2 : decode b_Mem_putDataBlock 2 = .ok (.if_icmp .ge 13, 3) := by decide +kernel
theorem d_Mem_putDataBlock_5 : decode b_Mem_putDataBlock 5 = .ok (.aload_n 0, 1) := by decide +kernel
theorem d_Mem_putDataBlock_6 : decode b_Mem_putDataBlock 6 = .ok (.iload_n 1, 1) := by decide +kernel
theorem d_Mem_putDataBlock_7 : decode b_Mem_putDataBlock 7 = .ok (.iconst 1, 1) := by decide +kernel
theorem d_Mem_putDataBlock_8 : decode b_Mem_putDataBlock 8 = .ok (.iload_n 2, 1) := by decide +kernel
theorem d_Mem_putDataBlock_9 : decode b_Mem_putDataBlock 9 = .ok (.iadd, 1) := by decide +kernel
theorem d_Mem_putDataBlock_10 : decode b_Mem_putDataBlock 10 = .ok (.iload_n 3, 1) := by decide +kernel
theorem d_Mem_putDataBlock_11 : decode b_Mem_putDataBlock 11 = .ok (.invokevirtual 61, 3) := by decide +kernel
theorem d_Mem_putDataBlock_14 : decode b_Mem_putDataBlock 14 = .ok (.return_, 1) := by decide +kernel
theorem d_Mem_putDataBlock_15 : decode b_Mem_putDataBlock 15 = .ok (.aload_n 0, 1) := by decide +kernel
theorem d_Mem_putDataBlock_16 : decode b_Mem_putDataBlock 16 = .ok (.iload_n 1, 1) := by decide +kernel
theorem d_Mem_putDataBlock_17 : decode b_Mem_putDataBlock 17 = .ok (.iconst 3, 1) := by decide +kernel
theorem d_Mem_putDataBlock_18 : decode b_Mem_putDataBlock 18 = .ok (.invokevirtual 57, 3) := by decide +kernel
theorem d_Mem_putDataBlock_21 : decode b_Mem_putDataBlock 21 = .ok (.istore 4, 2) := by decide +kernel
theorem d_Mem_putDataBlock_23 : decode b_Mem_putDataBlock 23 = .ok (.aload_n 0, 1) := by decide +kernel
theorem d_Mem_putDataBlock_24 : decode b_Mem_putDataBlock 24 = .ok (.iload 4, 2) := by decide +kernel
theorem d_Mem_putDataBlock_26 : decode b_Mem_putDataBlock 26 = .ok (.iload_n 2, 1) := by decide +kernel
theorem d_Mem_putDataBlock_27 : decode b_Mem_putDataBlock 27 = .ok (.iconst 2, 1) := by decide +kernel
theorem d_Mem_putDataBlock_28 : decode b_Mem_putDataBlock 28 = .ok (.isub, 1) := by decide +kernel
theorem d_Mem_putDataBlock_29 : decode b_Mem_putDataBlock 29 = .ok (.iload_n 3, 1) := by decide +kernel
theorem d_Mem_putDataBlock_30 : decode b_Mem_putDataBlock 30 = .ok (.invokevirtual 61, 3) := by decide +kernel
theorem d_Mem_putDataBlock_33 : decode b_Mem_putDataBlock 33 = .ok (.aload_n 0, 1) := by decide +kernel
theorem d_Mem_putDataBlock_34 : decode b_Mem_putDataBlock 34 = .ok (.iload 4, 2) := by decide +kernel
theorem d_Mem_putDataBlock_36 : decode b_Mem_putDataBlock 36 = .ok (.invokevirtual 65, 3) := by decide +kernel
theorem d_Mem_putDataBlock_39 : decode b_Mem_putDataBlock 39 = .ok (.return_, 1) := by decide +kernel
theorem d_X_addDataBlock_0 : decode b_X_addDataBlock 0 = .ok (.iload_n 2, 1) := by decide +kernel
theorem d_X_addDataBlock_1 : decode b_X_addDataBlock 1 = .ok (.iconst 2, 1) := by decide +kernel
theorem d_X_addDataBlock_2 : decode b_X_addDataBlock 2 = .ok (.if_icmp .ne 19, 3) := by decide +kernel
theorem d_X_addDataBlock_5 : decode b_X_addDataBlock 5 = .ok (.aload_n 0, 1) := by decide +kernel
theorem d_X_addDataBlock_6 : decode b_X_addDataBlock 6 = .ok (.getfield 24, 3) := by decide +kernel
theorem d_X_addDataBlock_9 : decode b_X_addDataBlock 9 = .ok (.iload_n 1, 1) := by decide +kernel
theorem d_X_addDataBlock_10 : decode b_X_addDataBlock 10 = .ok (.iconst 3, 1) := by decide +kernel
theorem d_X_addDataBlock_11 : decode b_X_addDataBlock 11 = .ok (.aload_n 0, 1) := by decide +kernel
theorem d_X_addDataBlock_12 : decode b_X_addDataBlock 12 = .ok (.getfield 24, 3) := by decide +kernel
theorem d_X_addDataBlock_15 : decode b_X_addDataBlock 15 = .ok (.invokevirtual 150, 3) := by decide +kernel
theorem d_X_addDataBlock_18 : decode b_X_addDataBlock 18 = .ok (.invokevirtual 143, 3) := by decide +kernel
theorem d_X_addDataBlock_21 : decode b_X_addDataBlock 21 = .ok (.aload_n 0, 1) := by decide +kernel
theorem d_X_addDataBlock_22 : decode b_X_addDataBlock 22 = .ok (.getfield 24, 3) := by decide +kernel
theorem d_X_addDataBlock_25 : decode b_X_addDataBlock 25 = .ok (.iload_n 1, 1) := by decide +kernel
theorem d_X_addDataBlock_26 : decode b_X_addDataBlock 26 = .ok (.iload_n 2, 1) := by decide +kernel
theorem d_X_addDataBlock_27 : decode b_X_addDataBlock 27 = .ok (.aload_n 0, 1) := by decide +kernel
theorem d_X_addDataBlock_28 : decode b_X_addDataBlock 28 = .ok (.getfield 24, 3) := by decide +kernel
theorem d_X_addDataBlock_31 : decode b_X_addDataBlock 31 = .ok (.invokevirtual 150, 3) := by decide +kernel
theorem d_X_addDataBlock_34 : decode b_X_addDataBlock 34 = .ok (.invokevirtual 153, 3) := by decide +kernel
theorem d_X_addDataBlock_37 : decode b_X_addDataBlock 37 = .ok (.return_, 1) := by decide +kernel
theorem d_X_growByOne_0 : decode b_X_growByOne 0 = .ok (.iload_n 2, 1) := by decide +kernel
theorem d_X_growByOne_1 : decode b_X_growByOne 1 = .ok (.iconst 4, 1) := by decide +kernel
theorem d_X_growByOne_2 : decode b_X_growByOne 2 = .ok (.irem, 1) := by decide +kernel
theorem d_X_growByOne_3 : decode b_X_growByOne 3 = .ok (.ifCond .ne 11, 3) := by decide +kernel
theorem d_X_growByOne_6 : decode b_X_growByOne 6 = .ok (.aload_n 0, 1) := by decide +kernel
theorem d_X_growByOne_7 : decode b_X_growByOne 7 = .ok (.iload_n 1, 1) := by decide +kernel
theorem d_X_growByOne_8 : decode b_X_growByOne 8 = .ok (.iload_n 2, 1) := by decide +kernel
theorem d_X_growByOne_9 : decode b_X_growByOne 9 = .ok (.iconst 4, 1) := by decide +kernel
theorem d_X_growByOne_10 : decode b_X_growByOne 10 = .ok (.idiv, 1) := by decide +kernel
theorem d_X_growByOne_11 : decode b_X_growByOne 11 = .ok (.invokevirtual 140, 3) := by decide +kernel
theorem d_X_growByOne_14 : decode b_X_growByOne 14 = .ok (.aload_n 0, 1) := by decide +kernel
theorem d_X_growByOne_15 : decode b_X_growByOne 15 = .ok (.getfield 24, 3) := by decide +kernel
theorem d_X_growByOne_18 : decode b_X_growByOne 18 = .ok (.iload_n 1, 1) := by decide +kernel
theorem d_X_growByOne_19 : decode b_X_growByOne 19 = .ok (.iconst 0, 1) := by decide +kernel
theorem d_X_growByOne_20 : decode b_X_growByOne 20 = .ok (.iload_n 2, 1) := by decide +kernel
theorem d_X_growByOne_21 : decode b_X_growByOne 21 = .ok (.iconst 1, 1) := by decide +kernel
theorem d_X_growByOne_22 : decode b_X_growByOne 22 = .ok (.iadd, 1) := by decide +kernel
theorem d_X_growByOne_23 : decode b_X_growByOne 23 = .ok (.invokevirtual 143, 3) := by decide +kernel
theorem d_X_growByOne_26 : decode b_X_growByOne 26 = .ok (.aload_n 0, 1) := by decide +kernel
theorem d_X_growByOne_27 : decode b_X_growByOne 27 = .ok (.getfield 24, 3) := by decide +kernel
theorem d_X_growByOne_30 : decode b_X_growByOne 30 = .ok (.iload_n 1, 1) := by decide +kernel
theorem d_X_growByOne_31 : decode b_X_growByOne 31 = .ok (.invokevirtual 146, 3) := by decide +kernel
theorem d_X_growByOne_34 : decode b_X_growByOne 34 = .ok (.return_, 1) := by decide +kernel
theorem d_X_write_0 : decode b_X_write 0 = .ok (.aload_n 0, 1) := by decide +kernel
theorem d_X_write_1 : decode b_X_write 1 = .ok (.getfield 20, 3) := by decide +kernel
theorem d_X_write_4 : decode b_X_write 4 = .ok (.getfield 32, 3) := by decide +kernel
theorem d_X_write_7 : decode b_X_write 7 = .ok (.ifCond .eq 20, 3) := by decide +kernel
theorem d_X_write_10 : decode b_X_write 10 = .ok (.iload_n 1, 1) := by decide +kernel
theorem d_X_write_11 : decode b_X_write 11 = .ok (.invokestatic 38, 3) := by decide +kernel
theorem d_X_write_14 : decode b_X_write 14 = .ok (.ifCond .eq 13, 3) := by decide +kernel
theorem d_X_write_17 : decode b_X_write 17 = .ok (.iload_n 2, 1) := by decide +kernel
theorem d_X_write_18 : decode b_X_write 18 = .ok (.ifCond .lt 9, 3) := by decide +kernel
theorem d_X_write_21 : decode b_X_write 21 = .ok (.iload_n 2, 1) := by decide +kernel
theorem d_X_write_22 : decode b_X_write 22 = .ok (.bipush 24, 2) := by decide +kernel
theorem d_X_write_24 : decode b_X_write 24 = .ok (.if_icmp .lt 5, 3) := by decide +kernel
theorem d_X_write_27 : decode b_X_write 27 = .ok (.iconst 0, 1) := by decide +kernel
theorem d_X_write_28 : decode b_X_write 28 = .ok (.ireturn, 1) := by decide +kernel
theorem d_X_write_29 : decode b_X_write 29 = .ok (.aload_n 0, 1) := by decide +kernel
theorem d_X_write_30 : decode b_X_write 30 = .ok (.getfield 24, 3) := by decide +kernel
theorem d_X_write_33 : decode b_X_write 33 = .ok (.iload_n 1, 1) := by decide +kernel
theorem d_X_write_34 : decode b_X_write 34 = .ok (.invokevirtual 42, 3) := by decide +kernel
theorem d_X_write_37 : decode b_X_write 37 = .ok (.istore 4, 2) := by decide +kernel
theorem d_X_write_39 : decode b_X_write 39 = .ok (.iload_n 2, 1) := by decide +kernel
theorem d_X_write_40 : decode b_X_write 40 = .ok (.iload 4, 2) := by decide +kernel
theorem d_X_write_42 : decode b_X_write 42 = .ok (.if_icmp .gt 19, 3) := by decide +kernel
theorem d_X_write_45 : decode b_X_write 45 = .ok (.iload_n 2, 1) := by decide +kernel
theorem d_X_write_46 : decode b_X_write 46 = .ok (.iload 4, 2) := by decide +kernel
theorem d_X_write_48 : decode b_X_write 48 = .ok (.invokestatic 46, 3) := by decide +kernel
theorem d_X_write_51 : decode b_X_write 51 = .ok (.aload_n 0, 1) := by decide +kernel
theorem d_X_write_52 : decode b_X_write 52 = .ok (.getfield 24, 3) := by decide +kernel
theorem d_X_write_55 : decode b_X_write 55 = .ok (.invokevirtual 50, 3) := by decide +kernel
theorem d_X_write_58 : decode b_X_write 58 = .ok (.if_icmp .le 5, 3) := by decide +kernel
theorem d_X_write_61 : decode b_X_write 61 = .ok (.iconst 0, 1) := by decide +kernel
theorem d_X_write_62 : decode b_X_write 62 = .ok (.ireturn, 1) := by decide +kernel
theorem d_X_write_63 : decode b_X_write 63 = .ok (.aload_n 0, 1) := by decide +kernel
theorem d_X_write_64 : decode b_X_write 64 = .ok (.invokevirtual 54, 3) := by decide +kernel
theorem d_X_write_67 : decode b_X_write 67 = .ok (.ifCond .ne 5, 3) := by decide +kernel
theorem d_X_write_70 : decode b_X_write 70 = .ok (.iconst 0, 1) := by decide +kernel
theorem d_X_write_71 : decode b_X_write 71 = .ok (.ireturn, 1) := by decide +kernel
theorem d_X_write_72 : decode b_X_write 72 = .ok (.iload_n 2, 1) := by decide +kernel
theorem d_X_write_73 : decode b_X_write 73 = .ok (.iload 4, 2) := by decide +kernel
theorem d_X_write_75 : decode b_X_write 75 = .ok (.if_icmp .ne 10, 3) := by decide +kernel
theorem d_X_write_78 : decode b_X_write 78 = .ok (.aload_n 0, 1) := by decide +kernel
theorem d_X_write_79 : decode b_X_write 79 = .ok (.iload_n 1, 1) := by decide +kernel
theorem d_X_write_80 : decode b_X_write 80 = .ok (.iload 4, 2) := by decide +kernel
theorem d_X_write_82 : decode b_X_write 82 = .ok (.invokevirtual 58, 3) := by decide +kernel
theorem d_X_write_85 : decode b_X_write 85 = .ok (.aload_n 0, 1) := by decide +kernel
theorem d_X_write_86 : decode b_X_write 86 = .ok (.iload_n 1, 1) := by decide +kernel
theorem d_X_write_87 : decode b_X_write 87 = .ok (.iload_n 2, 1) := by decide +kernel
theorem d_X_write_88 : decode b_X_write 88 = .ok (.iload_n 3, 1) := by decide +kernel
theorem d_X_write_89 : decode b_X_write 89 = .ok (.invokevirtual 62, 3) := by decide +kernel
theorem d_X_write_92 : decode b_X_write 92 = .ok (.iconst 1, 1) := by decide +kernel
theorem d_X_write_93 : decode b_X_write 93 = .ok (.ireturn, 1) := by decide +kernel
theorem d_X_dataBlocksFor_0 : decode b_X_dataBlocksFor 0 = .ok (.iload_n 0, 1) := by decide +kernel
theorem d_X_dataBlocksFor_1 : decode b_X_dataBlocksFor 1 = .ok (.iconst 4, 1) := by decide +kernel
theorem d_X_dataBlocksFor_2 : decode b_X_dataBlocksFor 2 = .ok (.iadd, 1) := by decide +kernel
theorem d_X_dataBlocksFor_3 : decode b_X_dataBlocksFor 3 = .ok (.iconst 1, 1) := by decide +kernel
theorem d_X_dataBlocksFor_4 : decode b_X_dataBlocksFor 4 = .ok (.isub, 1) := by decide +kernel
theorem d_X_dataBlocksFor_5 : decode b_X_dataBlocksFor 5 = .ok (.iconst 4, 1) := by decide +kernel
theorem d_X_dataBlocksFor_6 : decode b_X_dataBlocksFor 6 = .ok (.idiv, 1) := by decide +kernel
theorem d_X_dataBlocksFor_7 : decode b_X_dataBlocksFor 7 = .ok (.ireturn, 1) := by decide +kernel
theorem d_Mem_freeBlock_0 : decode b_Mem_freeBlock 0 = .ok (.iload_n 1, 1) := by decide +kernel
theorem d_Mem_freeBlock_1 : decode b_Mem_freeBlock 1 = .ok (.invokestatic 88, 3) := by decide +kernel
theorem d_Mem_freeBlock_4 : decode b_Mem_freeBlock 4 = .ok (.ifCond .ne 4, 3) := by decide +kernel
theorem d_Mem_freeBlock_7 : decode b_Mem_freeBlock 7 = .ok (.return_, 1) := by decide +kernel
theorem d_Mem_freeBlock_8 : decode b_Mem_freeBlock 8 = .ok (.aload_n 0, 1) := by decide +kernel
theorem d_Mem_freeBlock_9 : decode b_Mem_freeBlock 9 = .ok (.bipush 6, 2) := by decide +kernel
theorem d_Mem_freeBlock_11 : decode b_Mem_freeBlock 11 = .ok (.iconst 0, 1) := by decide +kernel
theorem d_Mem_freeBlock_12 : decode b_Mem_freeBlock 12 = .ok (.aload_n 0, 1) := by decide +kernel
theorem d_Mem_freeBlock_13 : decode b_Mem_freeBlock 13 = .ok (.invokevirtual 40, 3) := by decide +kernel
theorem d_Mem_freeBlock_16 : decode b_Mem_freeBlock 16 = .ok (.iconst 1, 1) := by decide +kernel
theorem d_Mem_freeBlock_17 : decode b_Mem_freeBlock 17 = .ok (.iload_n 1, 1) := by decide +kernel
theorem d_Mem_freeBlock_18 : decode b_Mem_freeBlock 18 = .ok (.bipush 7, 2) := by decide +kernel
theorem d_Mem_freeBlock_20 : decode b_Mem_freeBlock 20 = .ok (.isub, 1) := by decide +kernel
theorem d_Mem_freeBlock_21 : decode b_Mem_freeBlock 21 = .ok (.ishl, 1) := by decide +kernel
theorem d_Mem_freeBlock_22 : decode b_Mem_freeBlock 22 = .ok (.iconst (-1), 1) := by decide +kernel
theorem d_Mem_freeBlock_23 : decode b_Mem_freeBlock 23 = .ok (.ixor, 1) := by decide +kernel
theorem d_Mem_freeBlock_24 : decode b_Mem_freeBlock 24 = .ok (.iand, 1) := by decide +kernel
theorem d_Mem_freeBlock_25 : decode b_Mem_freeBlock 25 = .ok (.invokevirtual 61, 3) := by decide +kernel
theorem d_Mem_freeBlock_28 : decode b_Mem_freeBlock 28 = .ok (.aload_n 0, 1) := by decide +kernel
theorem d_Mem_freeBlock_29 : decode b_Mem_freeBlock 29 = .ok (.bipush 6, 2) := by decide +kernel
theorem d_Mem_freeBlock_31 : decode b_Mem_freeBlock 31 = .ok (.invokevirtual 65, 3) := by decide +kernel
theorem d_Mem_freeBlock_34 : decode b_Mem_freeBlock 34 = .ok (.aload_n 0, 1) := by decide +kernel
theorem d_Mem_freeBlock_35 : decode b_Mem_freeBlock 35 = .ok (.dup, 1) := by decide +kernel
theorem d_Mem_freeBlock_36 : decode b_Mem_freeBlock 36 = .ok (.getfield 22, 3) := by decide +kernel
theorem d_Mem_freeBlock_39 : decode b_Mem_freeBlock 39 = .ok (.iconst 1, 1) := by decide +kernel
theorem d_Mem_freeBlock_40 : decode b_Mem_freeBlock 40 = .ok (.iload_n 1, 1) := by decide +kernel
theorem d_Mem_freeBlock_41 : decode b_Mem_freeBlock 41 = .ok (.ishl, 1) := by decide +kernel
theorem d_Mem_freeBlock_42 : decode b_Mem_freeBlock 42 = .ok (.iconst (-1), 1) := by decide +kernel
theorem d_Mem_freeBlock_43 : decode b_Mem_freeBlock 43 = .ok (.ixor, 1) := by decide +kernel
theorem d_Mem_freeBlock_44 : decode b_Mem_freeBlock 44 = .ok (.iand, 1) := by decide +kernel
theorem d_Mem_freeBlock_45 : decode b_Mem_freeBlock 45 = .ok (.putfield 22, 3) := by decide +kernel
theorem d_Mem_freeBlock_48 : decode b_Mem_freeBlock 48 = .ok (.aload_n 0, 1) := by decide +kernel
theorem d_Mem_freeBlock_49 : decode b_Mem_freeBlock 49 = .ok (.iload_n 1, 1) := by decide +kernel
theorem d_Mem_freeBlock_50 : decode b_Mem_freeBlock 50 = .ok (.invokevirtual 91, 3) := by decide +kernel
theorem d_Mem_freeBlock_53 : decode b_Mem_freeBlock 53 = .ok (.return_, 1) := by decide +kernel
theorem d_Log_hasLiveCopy_0 : decode b_Log_hasLiveCopy 0 = .ok (.iconst 0, 1) := by decide +kernel
theorem d_Log_hasLiveCopy_1 : decode b_Log_hasLiveCopy 1 = .ok (.istore_n 2, 1) := by decide +kernel
theorem d_Log_hasLiveCopy_2 : decode b_Log_hasLiveCopy 2 = .ok (.iload_n 2, 1) := by decide +kernel
theorem d_Log_hasLiveCopy_3 : decode b_Log_hasLiveCopy 3 = .ok (.aload_n 0, 1) := by decide +kernel
theorem d_Log_hasLiveCopy_4 : decode b_Log_hasLiveCopy 4 = .ok (.getfield 31, 3) := by decide +kernel
theorem d_Log_hasLiveCopy_7 : decode b_Log_hasLiveCopy 7 = .ok (.if_icmp .ge 23, 3) := by decide +kernel
theorem d_Log_hasLiveCopy_10 : decode b_Log_hasLiveCopy 10 = .ok (.aload_n 0, 1) := by decide +kernel
theorem d_Log_hasLiveCopy_11 : decode b_Log_hasLiveCopy 11 = .ok (.iload_n 2, 1) := by decide +kernel
theorem d_Log_hasLiveCopy_12 : decode b_Log_hasLiveCopy 12 = .ok (.invokevirtual 49, 3) := by decide +kernel
theorem d_Log_hasLiveCopy_15 : decode b_Log_hasLiveCopy 15 = .ok (.iload_n 1, 1) := by decide +kernel
theorem d_Log_hasLiveCopy_16 : decode b_Log_hasLiveCopy 16 = .ok (.invokestatic 52, 3) := by decide +kernel
theorem d_Log_hasLiveCopy_19 : decode b_Log_hasLiveCopy 19 = .ok (.ifCond .eq 5, 3) := by decide +kernel
theorem d_Log_hasLiveCopy_22 : decode b_Log_hasLiveCopy 22 = .ok (.iconst 1, 1) := by decide +kernel
theorem d_Log_hasLiveCopy_23 : decode b_Log_hasLiveCopy 23 = .ok (.ireturn, 1) := by decide +kernel
theorem d_Log_hasLiveCopy_24 : decode b_Log_hasLiveCopy 24 = .ok (.iinc 2 1, 3) := by decide +kernel
theorem d_Log_hasLiveCopy_27 : decode b_Log_hasLiveCopy 27 = .ok (.goto (-25), 3) := by decide +kernel
theorem d_Log_hasLiveCopy_30 : decode b_Log_hasLiveCopy 30 = .ok (.iconst 0, 1) := by decide +kernel
theorem d_Log_hasLiveCopy_31 : decode b_Log_hasLiveCopy 31 = .ok (.ireturn, 1) := by decide +kernel
theorem d_Mem_revoke_0 : decode b_Mem_revoke 0 = .ok (.iload_n 1, 1) := by decide +kernel
theorem d_Mem_revoke_1 : decode b_Mem_revoke 1 = .ok (.invokestatic 78, 3) := by decide +kernel
theorem d_Mem_revoke_4 : decode b_Mem_revoke 4 = .ok (.ifCond .eq 15, 3) := by decide +kernel
theorem d_Mem_revoke_7 : decode b_Mem_revoke 7 = .ok (.aload_n 0, 1) := by decide +kernel
theorem d_Mem_revoke_8 : decode b_Mem_revoke 8 = .ok (.dup, 1) := by decide +kernel
theorem d_Mem_revoke_9 : decode b_Mem_revoke 9 = .ok (.getfield 25, 3) := by decide +kernel
theorem d_Mem_revoke_12 : decode b_Mem_revoke 12 = .ok (.iconst 1, 1) := by decide +kernel
theorem d_Mem_revoke_13 : decode b_Mem_revoke 13 = .ok (.iload_n 1, 1) := by decide +kernel
theorem d_Mem_revoke_14 : decode b_Mem_revoke 14 = .ok (.ishl, 1) := by decide +kernel
theorem d_Mem_revoke_15 : decode b_Mem_revoke 15 = .ok (.ior, 1) := by decide +kernel
theorem d_Mem_revoke_16 : decode b_Mem_revoke 16 = .ok (.putfield 25, 3) := by decide +kernel
theorem d_Mem_revoke_19 : decode b_Mem_revoke 19 = .ok (.return_, 1) := by decide +kernel
theorem d_X_freeIndex_0 : decode b_X_freeIndex 0 = .ok (.aload_n 0, 1) := by decide +kernel
theorem d_X_freeIndex_1 : decode b_X_freeIndex 1 = .ok (.getfield 24, 3) := by decide +kernel
theorem d_X_freeIndex_4 : decode b_X_freeIndex 4 = .ok (.iload_n 1, 1) := by decide +kernel
theorem d_X_freeIndex_5 : decode b_X_freeIndex 5 = .ok (.iconst 3, 1) := by decide +kernel
theorem d_X_freeIndex_6 : decode b_X_freeIndex 6 = .ok (.invokevirtual 75, 3) := by decide +kernel
theorem d_X_freeIndex_9 : decode b_X_freeIndex 9 = .ok (.istore_n 2, 1) := by decide +kernel
theorem d_X_freeIndex_10 : decode b_X_freeIndex 10 = .ok (.aload_n 0, 1) := by decide +kernel
theorem d_X_freeIndex_11 : decode b_X_freeIndex 11 = .ok (.getfield 24, 3) := by decide +kernel
theorem d_X_freeIndex_14 : decode b_X_freeIndex 14 = .ok (.iload_n 2, 1) := by decide +kernel
theorem d_X_freeIndex_15 : decode b_X_freeIndex 15 = .ok (.invokevirtual 162, 3) := by decide +kernel
theorem d_X_freeIndex_18 : decode b_X_freeIndex 18 = .ok (.aload_n 0, 1) := by decide +kernel
theorem d_X_freeIndex_19 : decode b_X_freeIndex 19 = .ok (.getfield 24, 3) := by decide +kernel
theorem d_X_freeIndex_22 : decode b_X_freeIndex 22 = .ok (.iload_n 1, 1) := by decide +kernel
theorem d_X_freeIndex_23 : decode b_X_freeIndex 23 = .ok (.iconst 3, 1) := by decide +kernel
theorem d_X_freeIndex_24 : decode b_X_freeIndex 24 = .ok (.iconst 0, 1) := by decide +kernel
theorem d_X_freeIndex_25 : decode b_X_freeIndex 25 = .ok (.invokevirtual 143, 3) := by decide +kernel
theorem d_X_freeIndex_28 : decode b_X_freeIndex 28 = .ok (.aload_n 0, 1) := by decide +kernel
theorem d_X_freeIndex_29 : decode b_X_freeIndex 29 = .ok (.getfield 28, 3) := by decide +kernel
theorem d_X_freeIndex_32 : decode b_X_freeIndex 32 = .ok (.iconst 2, 1) := by decide +kernel
theorem d_X_freeIndex_33 : decode b_X_freeIndex 33 = .ok (.if_icmp .eq 25, 3) := by decide +kernel
theorem d_X_freeIndex_36 : decode b_X_freeIndex 36 = .ok (.aload_n 0, 1) := by decide +kernel
theorem d_X_freeIndex_37 : decode b_X_freeIndex 37 = .ok (.getfield 10, 3) := by decide +kernel
theorem d_X_freeIndex_40 : decode b_X_freeIndex 40 = .ok (.getfield 98, 3) := by decide +kernel
theorem d_X_freeIndex_43 : decode b_X_freeIndex 43 = .ok (.iload_n 2, 1) := by decide +kernel
theorem d_X_freeIndex_44 : decode b_X_freeIndex 44 = .ok (.invokevirtual 168, 3) := by decide +kernel
theorem d_X_freeIndex_47 : decode b_X_freeIndex 47 = .ok (.ifCond .eq 11, 3) := by decide +kernel
theorem d_X_freeIndex_50 : decode b_X_freeIndex 50 = .ok (.aload_n 0, 1) := by decide +kernel
theorem d_X_freeIndex_51 : decode b_X_freeIndex 51 = .ok (.getfield 24, 3) := by decide +kernel
theorem d_X_freeIndex_54 : decode b_X_freeIndex 54 = .ok (.iload_n 2, 1) := by decide +kernel
theorem d_X_freeIndex_55 : decode b_X_freeIndex 55 = .ok (.invokevirtual 171, 3) := by decide +kernel
theorem d_X_freeIndex_58 : decode b_X_freeIndex 58 = .ok (.return_, 1) := by decide +kernel
theorem d_X_shorten_0 : decode b_X_shorten 0 = .ok (.aload_n 0, 1) := by decide +kernel
theorem d_X_shorten_1 : decode b_X_shorten 1 = .ok (.getfield 24, 3) := by decide +kernel
theorem d_X_shorten_4 : decode b_X_shorten 4 = .ok (.iload_n 1, 1) := by decide +kernel
theorem d_X_shorten_5 : decode b_X_shorten 5 = .ok (.invokevirtual 42, 3) := by decide +kernel
theorem d_X_shorten_8 : decode b_X_shorten 8 = .ok (.invokestatic 159, 3) := by decide +kernel
theorem d_X_shorten_11 : decode b_X_shorten 11 = .ok (.istore_n 3, 1) := by decide +kernel
theorem d_X_shorten_12 : decode b_X_shorten 12 = .ok (.iload_n 2, 1) := by decide +kernel
theorem d_X_shorten_13 : decode b_X_shorten 13 = .ok (.invokestatic 159, 3) := by decide +kernel
theorem d_X_shorten_16 : decode b_X_shorten 16 = .ok (.istore 4, 2) := by decide +kernel
theorem d_X_shorten_18 : decode b_X_shorten 18 = .ok (.iload 4, 2) := by decide +kernel
theorem d_X_shorten_20 : decode b_X_shorten 20 = .ok (.istore 5, 2) := by decide +kernel
theorem d_X_shorten_22 : decode b_X_shorten 22 = .ok (.iload 5, 2) := by decide +kernel
theorem d_X_shorten_24 : decode b_X_shorten 24 = .ok (.iload_n 3, 1) := by decide +kernel
theorem d_X_shorten_25 : decode b_X_shorten 25 = .ok (.if_icmp .ge 44, 3) := by decide +kernel
theorem d_X_shorten_28 : decode b_X_shorten 28 = .ok (.iload 5, 2) := by decide +kernel
theorem d_X_shorten_30 : decode b_X_shorten 30 = .ok (.bipush 6, 2) := by decide +kernel
theorem d_X_shorten_32 : decode b_X_shorten 32 = .ok (.if_icmp .ge 37, 3) := by decide +kernel
theorem d_X_shorten_35 : decode b_X_shorten 35 = .ok (.aload_n 0, 1) := by decide +kernel
theorem d_X_shorten_36 : decode b_X_shorten 36 = .ok (.getfield 24, 3) := by decide +kernel
theorem d_X_shorten_39 : decode b_X_shorten 39 = .ok (.aload_n 0, 1) := by decide +kernel
theorem d_X_shorten_40 : decode b_X_shorten 40 = .ok (.getfield 24, 3) := by decide +kernel
theorem d_X_shorten_43 : decode b_X_shorten 43 = .ok (.iload_n 1, 1) := by decide +kernel
theorem d_X_shorten_44 : decode b_X_shorten 44 = .ok (.iload 5, 2) := by decide +kernel
theorem d_X_shorten_46 : decode b_X_shorten 46 = .ok (.invokevirtual 72, 3) := by decide +kernel
theorem d_X_shorten_49 : decode b_X_shorten 49 = .ok (.invokevirtual 162, 3) := by decide +kernel
theorem d_X_shorten_52 : decode b_X_shorten 52 = .ok (.aload_n 0, 1) := by decide +kernel
theorem d_X_shorten_53 : decode b_X_shorten 53 = .ok (.getfield 24, 3) := by decide +kernel
theorem d_X_shorten_56 : decode b_X_shorten 56 = .ok (.iload_n 1, 1) := by decide +kernel
theorem d_X_shorten_57 : decode b_X_shorten 57 = .ok (.iload 5, 2) := by decide +kernel
theorem d_X_shorten_59 : decode b_X_shorten 59 = .ok (.iconst 0, 1) := by decide +kernel
theorem d_X_shorten_60 : decode b_X_shorten 60 = .ok (.invokevirtual 153, 3) := by decide +kernel
theorem d_X_shorten_63 : decode b_X_shorten 63 = .ok (.iinc 5 1, 3) := by decide +kernel
theorem d_X_shorten_66 : decode b_X_shorten 66 = .ok (.goto (-44), 3) := by decide +kernel
theorem d_X_shorten_69 : decode b_X_shorten 69 = .ok (.iload_n 3, 1) := by decide +kernel
theorem d_X_shorten_70 : decode b_X_shorten 70 = .ok (.iconst 2, 1) := by decide +kernel
theorem d_X_shorten_71 : decode b_X_shorten 71 = .ok (.if_icmp .le 14, 3) := by decide +kernel
theorem d_X_shorten_74 : decode b_X_shorten 74 = .ok (.iload 4, 2) := by decide +kernel
theorem d_X_shorten_76 : decode b_X_shorten 76 = .ok (.iconst 2, 1) := by decide +kernel
theorem d_X_shorten_77 : decode b_X_shorten 77 = .ok (.if_icmp .gt 8, 3) := by decide +kernel
theorem d_X_shorten_80 : decode b_X_shorten 80 = .ok (.aload_n 0, 1) := by decide +kernel
theorem d_X_shorten_81 : decode b_X_shorten 81 = .ok (.iload_n 1, 1) := by decide +kernel
theorem d_X_shorten_82 : decode b_X_shorten 82 = .ok (.invokevirtual 165, 3) := by decide +kernel
theorem d_X_shorten_85 : decode b_X_shorten 85 = .ok (.aload_n 0, 1) := by decide +kernel
theorem d_X_shorten_86 : decode b_X_shorten 86 = .ok (.getfield 24, 3) := by decide +kernel
theorem d_X_shorten_89 : decode b_X_shorten 89 = .ok (.iload_n 1, 1) := by decide +kernel
theorem d_X_shorten_90 : decode b_X_shorten 90 = .ok (.iconst 0, 1) := by decide +kernel
theorem d_X_shorten_91 : decode b_X_shorten 91 = .ok (.iload_n 2, 1) := by decide +kernel
theorem d_X_shorten_92 : decode b_X_shorten 92 = .ok (.invokevirtual 143, 3) := by decide +kernel
theorem d_X_shorten_95 : decode b_X_shorten 95 = .ok (.aload_n 0, 1) := by decide +kernel
theorem d_X_shorten_96 : decode b_X_shorten 96 = .ok (.getfield 24, 3) := by decide +kernel
theorem d_X_shorten_99 : decode b_X_shorten 99 = .ok (.iload_n 1, 1) := by decide +kernel
theorem d_X_shorten_100 : decode b_X_shorten 100 = .ok (.invokevirtual 146, 3) := by decide +kernel
theorem d_X_shorten_103 : decode b_X_shorten 103 = .ok (.return_, 1) := by decide +kernel
theorem d_X_cut_0 : decode b_X_cut 0 = .ok (.aload_n 0, 1) := by decide +kernel
theorem d_X_cut_1 : decode b_X_cut 1 = .ok (.getfield 20, 3) := by decide +kernel
theorem d_X_cut_4 : decode b_X_cut 4 = .ok (.getfield 32, 3) := by decide +kernel
theorem d_X_cut_7 : decode b_X_cut 7 = .ok (.ifCond .eq 26, 3) := by decide +kernel
theorem d_X_cut_10 : decode b_X_cut 10 = .ok (.iload_n 1, 1) := by decide +kernel
theorem d_X_cut_11 : decode b_X_cut 11 = .ok (.invokestatic 38, 3) := by decide +kernel
theorem d_X_cut_14 : decode b_X_cut 14 = .ok (.ifCond .eq 19, 3) := by decide +kernel
theorem d_X_cut_17 : decode b_X_cut 17 = .ok (.iload_n 2, 1) := by decide +kernel
theorem d_X_cut_18 : decode b_X_cut 18 = .ok (.ifCond .lt 15, 3) := by decide +kernel
theorem d_X_cut_21 : decode b_X_cut 21 = .ok (.iload_n 2, 1) := by decide +kernel
theorem d_X_cut_22 : decode b_X_cut 22 = .ok (.aload_n 0, 1) := by decide +kernel
theorem d_X_cut_23 : decode b_X_cut 23 = .ok (.getfield 24, 3) := by decide +kernel
theorem d_X_cut_26 : decode b_X_cut 26 = .ok (.iload_n 1, 1) := by decide +kernel
theorem d_X_cut_27 : decode b_X_cut 27 = .ok (.invokevirtual 42, 3) := by decide +kernel
theorem d_X_cut_30 : decode b_X_cut 30 = .ok (.if_icmp .lt 5, 3) := by decide +kernel
theorem d_X_cut_33 : decode b_X_cut 33 = .ok (.iconst 0, 1) := by decide +kernel
theorem d_X_cut_34 : decode b_X_cut 34 = .ok (.ireturn, 1) := by decide +kernel
theorem d_X_cut_35 : decode b_X_cut 35 = .ok (.aload_n 0, 1) := by decide +kernel
theorem d_X_cut_36 : decode b_X_cut 36 = .ok (.invokevirtual 54, 3) := by decide +kernel
theorem d_X_cut_39 : decode b_X_cut 39 = .ok (.ifCond .ne 5, 3) := by decide +kernel
theorem d_X_cut_42 : decode b_X_cut 42 = .ok (.iconst 0, 1) := by decide +kernel
theorem d_X_cut_43 : decode b_X_cut 43 = .ok (.ireturn, 1) := by decide +kernel
theorem d_X_cut_44 : decode b_X_cut 44 = .ok (.aload_n 0, 1) := by decide +kernel
theorem d_X_cut_45 : decode b_X_cut 45 = .ok (.iload_n 1, 1) := by decide +kernel
theorem d_X_cut_46 : decode b_X_cut 46 = .ok (.iload_n 2, 1) := by decide +kernel
theorem d_X_cut_47 : decode b_X_cut 47 = .ok (.invokevirtual 66, 3) := by decide +kernel
theorem d_X_cut_50 : decode b_X_cut 50 = .ok (.iconst 1, 1) := by decide +kernel
theorem d_X_cut_51 : decode b_X_cut 51 = .ok (.ireturn, 1) := by decide +kernel
theorem d_Mem_moveInode_0 : decode b_Mem_moveInode 0 = .ok (.iconst 0, 1) := by decide +kernel
theorem d_Mem_moveInode_1 : decode b_Mem_moveInode 1 = .ok (.istore_n 3, 1) := by decide +kernel
theorem d_Mem_moveInode_2 : decode b_Mem_moveInode 2 = .ok (.iload_n 3, 1) := by decide +kernel
theorem d_Mem_moveInode_3 : decode b_Mem_moveInode 3 = .ok (.iconst 4, 1) := by decide +kernel
theorem d_Mem_moveInode_4 : decode b_Mem_moveInode 4 = .ok (.if_icmp .ge 28, 3) := by decide +kernel
theorem d_Mem_moveInode_7 : decode b_Mem_moveInode 7 = .ok (.aload_n 0, 1) := by decide +kernel
theorem d_Mem_moveInode_8 : decode b_Mem_moveInode 8 = .ok (.iload_n 2, 1) := by decide +kernel
theorem d_Mem_moveInode_9 : decode b_Mem_moveInode 9 = .ok (.iload_n 3, 1) := by decide +kernel
theorem d_Mem_moveInode_10 : decode b_Mem_moveInode 10 = .ok (.aload_n 0, 1) := by decide +kernel
theorem d_Mem_moveInode_11 : decode b_Mem_moveInode 11 = .ok (.iload_n 1, 1) := by decide +kernel
theorem d_Mem_moveInode_12 : decode b_Mem_moveInode 12 = .ok (.iload_n 3, 1) := by decide +kernel
theorem d_Mem_moveInode_13 : decode b_Mem_moveInode 13 = .ok (.invokevirtual 57, 3) := by decide +kernel
theorem d_Mem_moveInode_16 : decode b_Mem_moveInode 16 = .ok (.invokevirtual 61, 3) := by decide +kernel
theorem d_Mem_moveInode_19 : decode b_Mem_moveInode 19 = .ok (.aload_n 0, 1) := by decide +kernel
theorem d_Mem_moveInode_20 : decode b_Mem_moveInode 20 = .ok (.iload_n 1, 1) := by decide +kernel
theorem d_Mem_moveInode_21 : decode b_Mem_moveInode 21 = .ok (.iload_n 3, 1) := by decide +kernel
theorem d_Mem_moveInode_22 : decode b_Mem_moveInode 22 = .ok (.iconst 0, 1) := by decide +kernel
theorem d_Mem_moveInode_23 : decode b_Mem_moveInode 23 = .ok (.invokevirtual 61, 3) := by decide +kernel
theorem d_Mem_moveInode_26 : decode b_Mem_moveInode 26 = .ok (.iinc 3 1, 3) := by decide +kernel
theorem d_Mem_moveInode_29 : decode b_Mem_moveInode 29 = .ok (.goto (-27), 3) := by decide +kernel
theorem d_Mem_moveInode_32 : decode b_Mem_moveInode 32 = .ok (.aload_n 0, 1) := by decide +kernel
theorem d_Mem_moveInode_33 : decode b_Mem_moveInode 33 = .ok (.iload_n 1, 1) := by decide +kernel
theorem d_Mem_moveInode_34 : decode b_Mem_moveInode 34 = .ok (.invokevirtual 65, 3) := by decide +kernel
theorem d_Mem_moveInode_37 : decode b_Mem_moveInode 37 = .ok (.aload_n 0, 1) := by decide +kernel
theorem d_Mem_moveInode_38 : decode b_Mem_moveInode 38 = .ok (.iload_n 2, 1) := by decide +kernel
theorem d_Mem_moveInode_39 : decode b_Mem_moveInode 39 = .ok (.invokevirtual 65, 3) := by decide +kernel
theorem d_Mem_moveInode_42 : decode b_Mem_moveInode 42 = .ok (.return_, 1) := by decide +kernel
theorem d_X_rename_0 : decode b_X_rename 0 = .ok (.aload_n 0, 1) := by decide +kernel
theorem d_X_rename_1 : decode b_X_rename 1 = .ok (.getfield 20, 3) := by decide +kernel
theorem d_X_rename_4 : decode b_X_rename 4 = .ok (.getfield 32, 3) := by decide +kernel
theorem d_X_rename_7 : decode b_X_rename 7 = .ok (.ifCond .eq 22, 3) := by decide +kernel
theorem d_X_rename_10 : decode b_X_rename 10 = .ok (.iload_n 1, 1) := by decide +kernel
theorem d_X_rename_11 : decode b_X_rename 11 = .ok (.invokestatic 38, 3) := by decide +kernel
theorem d_X_rename_14 : decode b_X_rename 14 = .ok (.ifCond .eq 15, 3) := by decide +kernel
theorem d_X_rename_17 : decode b_X_rename 17 = .ok (.iload_n 2, 1) := by decide +kernel
theorem d_X_rename_18 : decode b_X_rename 18 = .ok (.invokestatic 38, 3) := by decide +kernel
theorem d_X_rename_21 : decode b_X_rename 21 = .ok (.ifCond .eq 8, 3) := by decide +kernel
theorem d_X_rename_24 : decode b_X_rename 24 = .ok (.iload_n 1, 1) := by decide +kernel
theorem d_X_rename_25 : decode b_X_rename 25 = .ok (.iload_n 2, 1) := by decide +kernel
theorem d_X_rename_26 : decode b_X_rename 26 = .ok (.if_icmp .ne 5, 3) := by decide +kernel
theorem d_X_rename_29 : decode b_X_rename 29 = .ok (.iconst 0, 1) := by decide +kernel
theorem d_X_rename_30 : decode b_X_rename 30 = .ok (.ireturn, 1) := by decide +kernel
theorem d_X_rename_31 : decode b_X_rename 31 = .ok (.aload_n 0, 1) := by decide +kernel
theorem d_X_rename_32 : decode b_X_rename 32 = .ok (.invokevirtual 54, 3) := by decide +kernel
theorem d_X_rename_35 : decode b_X_rename 35 = .ok (.ifCond .ne 5, 3) := by decide +kernel
theorem d_X_rename_38 : decode b_X_rename 38 = .ok (.iconst 0, 1) := by decide +kernel
theorem d_X_rename_39 : decode b_X_rename 39 = .ok (.ireturn, 1) := by decide +kernel
theorem d_X_rename_40 : decode b_X_rename 40 = .ok (.aload_n 0, 1) := by decide +kernel
theorem d_X_rename_41 : decode b_X_rename 41 = .ok (.iload_n 2, 1) := by decide +kernel
theorem d_X_rename_42 : decode b_X_rename 42 = .ok (.iconst 0, 1) := by decide +kernel
theorem d_X_rename_43 : decode b_X_rename 43 = .ok (.invokevirtual 66, 3) := by decide +kernel
theorem d_X_rename_46 : decode b_X_rename 46 = .ok (.aload_n 0, 1) := by decide +kernel
theorem d_X_rename_47 : decode b_X_rename 47 = .ok (.getfield 24, 3) := by decide +kernel
theorem d_X_rename_50 : decode b_X_rename 50 = .ok (.iload_n 1, 1) := by decide +kernel
theorem d_X_rename_51 : decode b_X_rename 51 = .ok (.iload_n 2, 1) := by decide +kernel
theorem d_X_rename_52 : decode b_X_rename 52 = .ok (.invokevirtual 69, 3) := by decide +kernel
theorem d_X_rename_55 : decode b_X_rename 55 = .ok (.iconst 1, 1) := by decide +kernel
theorem d_X_rename_56 : decode b_X_rename 56 = .ok (.ireturn, 1) := by decide +kernel
theorem d_X_read_0 : decode b_X_read 0 = .ok (.aload_n 0, 1) := by decide +kernel
theorem d_X_read_1 : decode b_X_read 1 = .ok (.getfield 20, 3) := by decide +kernel
theorem d_X_read_4 : decode b_X_read 4 = .ok (.getfield 32, 3) := by decide +kernel
theorem d_X_read_7 : decode b_X_read 7 = .ok (.ifCond .eq 26, 3) := by decide +kernel
theorem d_X_read_10 : decode b_X_read 10 = .ok (.iload_n 1, 1) := by decide +kernel
theorem d_X_read_11 : decode b_X_read 11 = .ok (.invokestatic 38, 3) := by decide +kernel
theorem d_X_read_14 : decode b_X_read 14 = .ok (.ifCond .eq 19, 3) := by decide +kernel
theorem d_X_read_17 : decode b_X_read 17 = .ok (.iload_n 2, 1) := by decide +kernel
theorem d_X_read_18 : decode b_X_read 18 = .ok (.ifCond .lt 15, 3) := by decide +kernel
theorem d_X_read_21 : decode b_X_read 21 = .ok (.iload_n 2, 1) := by decide +kernel
theorem d_X_read_22 : decode b_X_read 22 = .ok (.aload_n 0, 1) := by decide +kernel
theorem d_X_read_23 : decode b_X_read 23 = .ok (.getfield 24, 3) := by decide +kernel
theorem d_X_read_26 : decode b_X_read 26 = .ok (.iload_n 1, 1) := by decide +kernel
theorem d_X_read_27 : decode b_X_read 27 = .ok (.invokevirtual 42, 3) := by decide +kernel
theorem d_X_read_30 : decode b_X_read 30 = .ok (.if_icmp .lt 5, 3) := by decide +kernel
theorem d_X_read_33 : decode b_X_read 33 = .ok (.iconst 0, 1) := by decide +kernel
theorem d_X_read_34 : decode b_X_read 34 = .ok (.ireturn, 1) := by decide +kernel
theorem d_X_read_35 : decode b_X_read 35 = .ok (.aload_n 0, 1) := by decide +kernel
theorem d_X_read_36 : decode b_X_read 36 = .ok (.getfield 24, 3) := by decide +kernel
theorem d_X_read_39 : decode b_X_read 39 = .ok (.aload_n 0, 1) := by decide +kernel
theorem d_X_read_40 : decode b_X_read 40 = .ok (.getfield 24, 3) := by decide +kernel
theorem d_X_read_43 : decode b_X_read 43 = .ok (.iload_n 1, 1) := by decide +kernel
theorem d_X_read_44 : decode b_X_read 44 = .ok (.iload_n 2, 1) := by decide +kernel
theorem d_X_read_45 : decode b_X_read 45 = .ok (.iconst 4, 1) := by decide +kernel
theorem d_X_read_46 : decode b_X_read 46 = .ok (.idiv, 1) := by decide +kernel
theorem d_X_read_47 : decode b_X_read 47 = .ok (.invokevirtual 72, 3) := by decide +kernel
theorem d_X_read_50 : decode b_X_read 50 = .ok (.iload_n 2, 1) := by decide +kernel
theorem d_X_read_51 : decode b_X_read 51 = .ok (.iconst 4, 1) := by decide +kernel
theorem d_X_read_52 : decode b_X_read 52 = .ok (.irem, 1) := by decide +kernel
theorem d_X_read_53 : decode b_X_read 53 = .ok (.invokevirtual 75, 3) := by decide +kernel
theorem d_X_read_56 : decode b_X_read 56 = .ok (.ireturn, 1) := by decide +kernel
theorem d_X_length_0 : decode b_X_length 0 = .ok (.aload_n 0, 1) := by decide +kernel
theorem d_X_length_1 : decode b_X_length 1 = .ok (.getfield 20, 3) := by decide +kernel
theorem d_X_length_4 : decode b_X_length 4 = .ok (.getfield 32, 3) := by decide +kernel
theorem d_X_length_7 : decode b_X_length 7 = .ok (.ifCond .eq 21, 3) := by decide +kernel
theorem d_X_length_10 : decode b_X_length 10 = .ok (.iload_n 1, 1) := by decide +kernel
theorem d_X_length_11 : decode b_X_length 11 = .ok (.invokestatic 38, 3) := by decide +kernel
theorem d_X_length_14 : decode b_X_length 14 = .ok (.ifCond .eq 14, 3) := by decide +kernel
theorem d_X_length_17 : decode b_X_length 17 = .ok (.aload_n 0, 1) := by decide +kernel
theorem d_X_length_18 : decode b_X_length 18 = .ok (.getfield 24, 3) := by decide +kernel
theorem d_X_length_21 : decode b_X_length 21 = .ok (.iload_n 1, 1) := by decide +kernel
theorem d_X_length_22 : decode b_X_length 22 = .ok (.invokevirtual 42, 3) := by decide +kernel
theorem d_X_length_25 : decode b_X_length 25 = .ok (.goto 4, 3) := by decide +kernel
theorem d_X_length_28 : decode b_X_length 28 = .ok (.iconst (-1), 1) := by decide +kernel
theorem d_X_length_29 : decode b_X_length 29 = .ok (.ireturn, 1) := by decide +kernel
theorem d_X_commit_0 : decode b_X_commit 0 = .ok (.aload_n 0, 1) := by decide +kernel
theorem d_X_commit_1 : decode b_X_commit 1 = .ok (.getfield 20, 3) := by decide +kernel
theorem d_X_commit_4 : decode b_X_commit 4 = .ok (.getfield 32, 3) := by decide +kernel
theorem d_X_commit_7 : decode b_X_commit 7 = .ok (.ifCond .eq 10, 3) := by decide +kernel
theorem d_X_commit_10 : decode b_X_commit 10 = .ok (.aload_n 0, 1) := by decide +kernel
theorem d_X_commit_11 : decode b_X_commit 11 = .ok (.invokevirtual 78, 3) := by decide +kernel
theorem d_X_commit_14 : decode b_X_commit 14 = .ok (.goto 4, 3) := by decide +kernel
theorem d_X_commit_17 : decode b_X_commit 17 = .ok (.iconst (-1), 1) := by decide +kernel
theorem d_X_commit_18 : decode b_X_commit 18 = .ok (.ireturn, 1) := by decide +kernel
theorem d_Mem_isDataBlockOf_0 : decode b_Mem_isDataBlockOf 0 = .ok (.aload_n 0, 1) := by decide +kernel
theorem d_Mem_isDataBlockOf_1 : decode b_Mem_isDataBlockOf 1 = .ok (.iload_n 1, 1) := by decide +kernel
theorem d_Mem_isDataBlockOf_2 : decode b_Mem_isDataBlockOf 2 = .ok (.invokevirtual 69, 3) := by decide +kernel
theorem d_Mem_isDataBlockOf_5 : decode b_Mem_isDataBlockOf 5 = .ok (.invokestatic 72, 3) := by decide +kernel
theorem d_Mem_isDataBlockOf_8 : decode b_Mem_isDataBlockOf 8 = .ok (.istore_n 3, 1) := by decide +kernel
theorem d_Mem_isDataBlockOf_9 : decode b_Mem_isDataBlockOf 9 = .ok (.iconst 0, 1) := by decide +kernel
theorem d_Mem_isDataBlockOf_10 : decode b_Mem_isDataBlockOf 10 = .ok (.istore 4, 2) := by decide +kernel
theorem d_Mem_isDataBlockOf_12 : decode b_Mem_isDataBlockOf 12 = .ok (.iload 4, 2) := by decide +kernel
theorem d_Mem_isDataBlockOf_14 : decode b_Mem_isDataBlockOf 14 = .ok (.iload_n 3, 1) := by decide +kernel
theorem d_Mem_isDataBlockOf_15 : decode b_Mem_isDataBlockOf 15 = .ok (.if_icmp .ge 29, 3) := by decide +kernel
theorem d_Mem_isDataBlockOf_18 : decode b_Mem_isDataBlockOf 18 = .ok (.iload 4, 2) := by decide +kernel
theorem d_Mem_isDataBlockOf_20 : decode b_Mem_isDataBlockOf 20 = .ok (.bipush 6, 2) := by decide +kernel
theorem d_Mem_isDataBlockOf_22 : decode b_Mem_isDataBlockOf 22 = .ok (.if_icmp .ge 22, 3) := by decide +kernel
theorem d_Mem_isDataBlockOf_25 : decode b_Mem_isDataBlockOf 25 = .ok (.aload_n 0, 1) := by decide +kernel
theorem d_Mem_isDataBlockOf_26 : decode b_Mem_isDataBlockOf 26 = .ok (.iload_n 1, 1) := by decide +kernel
theorem d_Mem_isDataBlockOf_27 : decode b_Mem_isDataBlockOf 27 = .ok (.iload 4, 2) := by decide +kernel
theorem d_Mem_isDataBlockOf_29 : decode b_Mem_isDataBlockOf 29 = .ok (.invokevirtual 75, 3) := by decide +kernel
theorem d_Mem_isDataBlockOf_32 : decode b_Mem_isDataBlockOf 32 = .ok (.iload_n 2, 1) := by decide +kernel
theorem d_Mem_isDataBlockOf_33 : decode b_Mem_isDataBlockOf 33 = .ok (.if_icmp .ne 5, 3) := by decide +kernel
theorem d_Mem_isDataBlockOf_36 : decode b_Mem_isDataBlockOf 36 = .ok (.iconst 1, 1) := by decide +kernel
theorem d_Mem_isDataBlockOf_37 : decode b_Mem_isDataBlockOf 37 = .ok (.ireturn, 1) := by decide +kernel
theorem d_Mem_isDataBlockOf_38 : decode b_Mem_isDataBlockOf 38 = .ok (.iinc 4 1, 3) := by decide +kernel
theorem d_Mem_isDataBlockOf_41 : decode b_Mem_isDataBlockOf 41 = .ok (.goto (-29), 3) := by decide +kernel
theorem d_Mem_isDataBlockOf_44 : decode b_Mem_isDataBlockOf 44 = .ok (.iconst 0, 1) := by decide +kernel
theorem d_Mem_isDataBlockOf_45 : decode b_Mem_isDataBlockOf 45 = .ok (.ireturn, 1) := by decide +kernel
theorem d_X_writeDirtyOfFile_0 : decode b_X_writeDirtyOfFile 0 = .ok (.aload_n 0, 1) := by decide +kernel
theorem d_X_writeDirtyOfFile_1 : decode b_X_writeDirtyOfFile 1 = .ok (.getfield 24, 3) := by decide +kernel
theorem d_X_writeDirtyOfFile_4 : decode b_X_writeDirtyOfFile 4 = .ok (.getfield 84, 3) := by decide +kernel
theorem d_X_writeDirtyOfFile_7 : decode b_X_writeDirtyOfFile 7 = .ok (.istore_n 2, 1) := by decide +kernel
theorem d_X_writeDirtyOfFile_8 : decode b_X_writeDirtyOfFile 8 = .ok (.iconst 0, 1) := by decide +kernel
theorem d_X_writeDirtyOfFile_9 : decode b_X_writeDirtyOfFile 9 = .ok (.istore_n 3, 1) := by decide +kernel
theorem d_X_writeDirtyOfFile_10 : decode b_X_writeDirtyOfFile 10 = .ok (.iconst 0, 1) := by decide +kernel
theorem d_X_writeDirtyOfFile_11 : decode b_X_writeDirtyOfFile 11 = .ok (.istore 4, 2) := by decide +kernel
theorem d_X_writeDirtyOfFile_13 : decode b_X_writeDirtyOfFile 13 = .ok (.iload 4, 2) := by decide +kernel
theorem d_X_writeDirtyOfFile_15 : decode b_X_writeDirtyOfFile 15 = .ok (.iload_n 2, 1) := by decide +kernel
theorem d_X_writeDirtyOfFile_16 : decode b_X_writeDirtyOfFile 16 = .ok (.if_icmp .ge 49, 3) := by decide +kernel
theorem d_X_writeDirtyOfFile_19 : decode b_X_writeDirtyOfFile 19 = .ok (.aload_n 0, 1) := by decide +kernel
theorem d_X_writeDirtyOfFile_20 : decode b_X_writeDirtyOfFile 20 = .ok (.getfield 24, 3) := by decide +kernel
theorem d_X_writeDirtyOfFile_23 : decode b_X_writeDirtyOfFile 23 = .ok (.iload_n 3, 1) := by decide +kernel
theorem d_X_writeDirtyOfFile_24 : decode b_X_writeDirtyOfFile 24 = .ok (.invokevirtual 184, 3) := by decide +kernel
theorem d_X_writeDirtyOfFile_27 : decode b_X_writeDirtyOfFile 27 = .ok (.istore 5, 2) := by decide +kernel
theorem d_X_writeDirtyOfFile_29 : decode b_X_writeDirtyOfFile 29 = .ok (.aload_n 0, 1) := by decide +kernel
theorem d_X_writeDirtyOfFile_30 : decode b_X_writeDirtyOfFile 30 = .ok (.getfield 24, 3) := by decide +kernel
theorem d_X_writeDirtyOfFile_33 : decode b_X_writeDirtyOfFile 33 = .ok (.iload_n 1, 1) := by decide +kernel
theorem d_X_writeDirtyOfFile_34 : decode b_X_writeDirtyOfFile 34 = .ok (.iload 5, 2) := by decide +kernel
theorem d_X_writeDirtyOfFile_36 : decode b_X_writeDirtyOfFile 36 = .ok (.invokevirtual 190, 3) := by decide +kernel
theorem d_X_writeDirtyOfFile_39 : decode b_X_writeDirtyOfFile 39 = .ok (.ifCond .ne 9, 3) := by decide +kernel
theorem d_X_writeDirtyOfFile_42 : decode b_X_writeDirtyOfFile 42 = .ok (.iinc 3 1, 3) := by decide +kernel
theorem d_X_writeDirtyOfFile_45 : decode b_X_writeDirtyOfFile 45 = .ok (.goto 14, 3) := by decide +kernel
theorem d_X_writeDirtyOfFile_48 : decode b_X_writeDirtyOfFile 48 = .ok (.aload_n 0, 1) := by decide +kernel
theorem d_X_writeDirtyOfFile_49 : decode b_X_writeDirtyOfFile 49 = .ok (.iload 5, 2) := by decide +kernel
theorem d_X_writeDirtyOfFile_51 : decode b_X_writeDirtyOfFile 51 = .ok (.invokevirtual 187, 3) := by decide +kernel
theorem d_X_writeDirtyOfFile_54 : decode b_X_writeDirtyOfFile 54 = .ok (.ifCond .ne 5, 3) := by decide +kernel
theorem d_X_writeDirtyOfFile_57 : decode b_X_writeDirtyOfFile 57 = .ok (.iconst 0, 1) := by decide +kernel
theorem d_X_writeDirtyOfFile_58 : decode b_X_writeDirtyOfFile 58 = .ok (.ireturn, 1) := by decide +kernel
theorem d_X_writeDirtyOfFile_59 : decode b_X_writeDirtyOfFile 59 = .ok (.iinc 4 1, 3) := by decide +kernel
theorem d_X_writeDirtyOfFile_62 : decode b_X_writeDirtyOfFile 62 = .ok (.goto (-49), 3) := by decide +kernel
theorem d_X_writeDirtyOfFile_65 : decode b_X_writeDirtyOfFile 65 = .ok (.iconst 1, 1) := by decide +kernel
theorem d_X_writeDirtyOfFile_66 : decode b_X_writeDirtyOfFile 66 = .ok (.ireturn, 1) := by decide +kernel
theorem d_X_sync_0 : decode b_X_sync 0 = .ok (.aload_n 0, 1) := by decide +kernel
theorem d_X_sync_1 : decode b_X_sync 1 = .ok (.getfield 20, 3) := by decide +kernel
theorem d_X_sync_4 : decode b_X_sync 4 = .ok (.getfield 32, 3) := by decide +kernel
theorem d_X_sync_7 : decode b_X_sync 7 = .ok (.ifCond .eq 10, 3) := by decide +kernel
theorem d_X_sync_10 : decode b_X_sync 10 = .ok (.iload_n 1, 1) := by decide +kernel
theorem d_X_sync_11 : decode b_X_sync 11 = .ok (.invokestatic 38, 3) := by decide +kernel
theorem d_X_sync_14 : decode b_X_sync 14 = .ok (.ifCond .ne 5, 3) := by decide +kernel
theorem d_X_sync_17 : decode b_X_sync 17 = .ok (.iconst 0, 1) := by decide +kernel
theorem d_X_sync_18 : decode b_X_sync 18 = .ok (.ireturn, 1) := by decide +kernel
theorem d_X_sync_19 : decode b_X_sync 19 = .ok (.aload_n 0, 1) := by decide +kernel
theorem d_X_sync_20 : decode b_X_sync 20 = .ok (.getfield 28, 3) := by decide +kernel
theorem d_X_sync_23 : decode b_X_sync 23 = .ok (.ifCond .ne 13, 3) := by decide +kernel
theorem d_X_sync_26 : decode b_X_sync 26 = .ok (.aload_n 0, 1) := by decide +kernel
theorem d_X_sync_27 : decode b_X_sync 27 = .ok (.iload_n 1, 1) := by decide +kernel
theorem d_X_sync_28 : decode b_X_sync 28 = .ok (.invokevirtual 81, 3) := by decide +kernel
theorem d_X_sync_31 : decode b_X_sync 31 = .ok (.ifCond .ne 5, 3) := by decide +kernel
theorem d_X_sync_34 : decode b_X_sync 34 = .ok (.iconst 0, 1) := by decide +kernel
theorem d_X_sync_35 : decode b_X_sync 35 = .ok (.ireturn, 1) := by decide +kernel
theorem d_X_sync_36 : decode b_X_sync 36 = .ok (.aload_n 0, 1) := by decide +kernel
theorem d_X_sync_37 : decode b_X_sync 37 = .ok (.invokevirtual 78, 3) := by decide +kernel
theorem d_X_sync_40 : decode b_X_sync 40 = .ok (.bipush (-2), 2) := by decide +kernel
theorem d_X_sync_42 : decode b_X_sync 42 = .ok (.if_icmp .eq 7, 3) := by decide +kernel
theorem d_X_sync_45 : decode b_X_sync 45 = .ok (.iconst 1, 1) := by decide +kernel
theorem d_X_sync_46 : decode b_X_sync 46 = .ok (.goto 4, 3) := by decide +kernel
theorem d_X_sync_49 : decode b_X_sync 49 = .ok (.iconst 0, 1) := by decide +kernel
theorem d_X_sync_50 : decode b_X_sync 50 = .ok (.ireturn, 1) := by decide +kernel
theorem d_X_flush_0 : decode b_X_flush 0 = .ok (.aload_n 0, 1) := by decide +kernel
theorem d_X_flush_1 : decode b_X_flush 1 = .ok (.getfield 20, 3) := by decide +kernel
theorem d_X_flush_4 : decode b_X_flush 4 = .ok (.getfield 32, 3) := by decide +kernel
theorem d_X_flush_7 : decode b_X_flush 7 = .ok (.ifCond .eq 8, 3) := by decide +kernel
theorem d_X_flush_10 : decode b_X_flush 10 = .ok (.iload_n 1, 1) := by decide +kernel
theorem d_X_flush_11 : decode b_X_flush 11 = .ok (.iconst 1, 1) := by decide +kernel
theorem d_X_flush_12 : decode b_X_flush 12 = .ok (.if_icmp .ge 5, 3) := by decide +kernel
theorem d_X_flush_15 : decode b_X_flush 15 = .ok (.iconst (-1), 1) := by decide +kernel
theorem d_X_flush_16 : decode b_X_flush 16 = .ok (.ireturn, 1) := by decide +kernel
theorem d_X_flush_17 : decode b_X_flush 17 = .ok (.iload_n 1, 1) := by decide +kernel
theorem d_X_flush_18 : decode b_X_flush 18 = .ok (.aload_n 0, 1) := by decide +kernel
theorem d_X_flush_19 : decode b_X_flush 19 = .ok (.getfield 24, 3) := by decide +kernel
theorem d_X_flush_22 : decode b_X_flush 22 = .ok (.getfield 84, 3) := by decide +kernel
theorem d_X_flush_25 : decode b_X_flush 25 = .ok (.invokestatic 87, 3) := by decide +kernel
theorem d_X_flush_28 : decode b_X_flush 28 = .ok (.istore_n 2, 1) := by decide +kernel
theorem d_X_flush_29 : decode b_X_flush 29 = .ok (.aload_n 0, 1) := by decide +kernel
theorem d_X_flush_30 : decode b_X_flush 30 = .ok (.iload_n 2, 1) := by decide +kernel
theorem d_X_flush_31 : decode b_X_flush 31 = .ok (.invokevirtual 92, 3) := by decide +kernel
theorem d_X_flush_34 : decode b_X_flush 34 = .ok (.ifCond .eq 7, 3) := by decide +kernel
theorem d_X_flush_37 : decode b_X_flush 37 = .ok (.iload_n 2, 1) := by decide +kernel
theorem d_X_flush_38 : decode b_X_flush 38 = .ok (.goto 5, 3) := by decide +kernel
theorem d_X_flush_41 : decode b_X_flush 41 = .ok (.bipush (-2), 2) := by decide +kernel
theorem d_X_flush_43 : decode b_X_flush 43 = .ok (.ireturn, 1) := by decide +kernel
theorem d_X_checkpoint_0 : decode b_X_checkpoint 0 = .ok (.aload_n 0, 1) := by decide +kernel
theorem d_X_checkpoint_1 : decode b_X_checkpoint 1 = .ok (.getfield 20, 3) := by decide +kernel
theorem d_X_checkpoint_4 : decode b_X_checkpoint 4 = .ok (.getfield 32, 3) := by decide +kernel
theorem d_X_checkpoint_7 : decode b_X_checkpoint 7 = .ok (.ifCond .eq 8, 3) := by decide +kernel
theorem d_X_checkpoint_10 : decode b_X_checkpoint 10 = .ok (.iload_n 1, 1) := by decide +kernel
theorem d_X_checkpoint_11 : decode b_X_checkpoint 11 = .ok (.iconst 1, 1) := by decide +kernel
theorem d_X_checkpoint_12 : decode b_X_checkpoint 12 = .ok (.if_icmp .ge 5, 3) := by decide +kernel
theorem d_X_checkpoint_15 : decode b_X_checkpoint 15 = .ok (.iconst (-1), 1) := by decide +kernel
theorem d_X_checkpoint_16 : decode b_X_checkpoint 16 = .ok (.ireturn, 1) := by decide +kernel
theorem d_X_checkpoint_17 : decode b_X_checkpoint 17 = .ok (.aload_n 0, 1) := by decide +kernel
theorem d_X_checkpoint_18 : decode b_X_checkpoint 18 = .ok (.getfield 20, 3) := by decide +kernel
theorem d_X_checkpoint_21 : decode b_X_checkpoint 21 = .ok (.getfield 95, 3) := by decide +kernel
theorem d_X_checkpoint_24 : decode b_X_checkpoint 24 = .ok (.istore_n 2, 1) := by decide +kernel
theorem d_X_checkpoint_25 : decode b_X_checkpoint 25 = .ok (.aload_n 0, 1) := by decide +kernel
theorem d_X_checkpoint_26 : decode b_X_checkpoint 26 = .ok (.getfield 10, 3) := by decide +kernel
theorem d_X_checkpoint_29 : decode b_X_checkpoint 29 = .ok (.iload_n 1, 1) := by decide +kernel
theorem d_X_checkpoint_30 : decode b_X_checkpoint 30 = .ok (.aload_n 0, 1) := by decide +kernel
theorem d_X_checkpoint_31 : decode b_X_checkpoint 31 = .ok (.getfield 10, 3) := by decide +kernel
theorem d_X_checkpoint_34 : decode b_X_checkpoint 34 = .ok (.getfield 98, 3) := by decide +kernel
theorem d_X_checkpoint_37 : decode b_X_checkpoint 37 = .ok (.getfield 102, 3) := by decide +kernel
theorem d_X_checkpoint_40 : decode b_X_checkpoint 40 = .ok (.invokestatic 87, 3) := by decide +kernel
theorem d_X_checkpoint_43 : decode b_X_checkpoint 43 = .ok (.invokevirtual 107, 3) := by decide +kernel
theorem d_X_checkpoint_46 : decode b_X_checkpoint 46 = .ok (.ifCond .eq 15, 3) := by decide +kernel
theorem d_X_checkpoint_49 : decode b_X_checkpoint 49 = .ok (.aload_n 0, 1) := by decide +kernel
theorem d_X_checkpoint_50 : decode b_X_checkpoint 50 = .ok (.getfield 20, 3) := by decide +kernel
theorem d_X_checkpoint_53 : decode b_X_checkpoint 53 = .ok (.getfield 95, 3) := by decide +kernel
theorem d_X_checkpoint_56 : decode b_X_checkpoint 56 = .ok (.iload_n 2, 1) := by decide +kernel
theorem d_X_checkpoint_57 : decode b_X_checkpoint 57 = .ok (.isub, 1) := by decide +kernel
theorem d_X_checkpoint_58 : decode b_X_checkpoint 58 = .ok (.goto 5, 3) := by decide +kernel
theorem d_X_checkpoint_61 : decode b_X_checkpoint 61 = .ok (.bipush (-2), 2) := by decide +kernel
theorem d_X_checkpoint_63 : decode b_X_checkpoint 63 = .ok (.ireturn, 1) := by decide +kernel
theorem d_X_fuse_0 : decode b_X_fuse 0 = .ok (.aload_n 0, 1) := by decide +kernel
theorem d_X_fuse_1 : decode b_X_fuse 1 = .ok (.getfield 20, 3) := by decide +kernel
theorem d_X_fuse_4 : decode b_X_fuse 4 = .ok (.iload_n 1, 1) := by decide +kernel
theorem d_X_fuse_5 : decode b_X_fuse 5 = .ok (.ifCond .ge 7, 3) := by decide +kernel
theorem d_X_fuse_8 : decode b_X_fuse 8 = .ok (.iconst (-1), 1) := by decide +kernel
theorem d_X_fuse_9 : decode b_X_fuse 9 = .ok (.goto 4, 3) := by decide +kernel
theorem d_X_fuse_12 : decode b_X_fuse 12 = .ok (.iload_n 1, 1) := by decide +kernel
theorem d_X_fuse_13 : decode b_X_fuse 13 = .ok (.putfield 110, 3) := by decide +kernel
theorem d_X_fuse_16 : decode b_X_fuse 16 = .ok (.return_, 1) := by decide +kernel
theorem d_X_crash_0 : decode b_X_crash 0 = .ok (.aload_n 0, 1) := by decide +kernel
theorem d_X_crash_1 : decode b_X_crash 1 = .ok (.getfield 20, 3) := by decide +kernel
theorem d_X_crash_4 : decode b_X_crash 4 = .ok (.getfield 32, 3) := by decide +kernel
theorem d_X_crash_7 : decode b_X_crash 7 = .ok (.ifCond .ne 5, 3) := by decide +kernel
theorem d_X_crash_10 : decode b_X_crash 10 = .ok (.iconst 0, 1) := by decide +kernel
theorem d_X_crash_11 : decode b_X_crash 11 = .ok (.ireturn, 1) := by decide +kernel
theorem d_X_crash_12 : decode b_X_crash 12 = .ok (.aload_n 0, 1) := by decide +kernel
theorem d_X_crash_13 : decode b_X_crash 13 = .ok (.getfield 20, 3) := by decide +kernel
theorem d_X_crash_16 : decode b_X_crash 16 = .ok (.iconst 0, 1) := by decide +kernel
theorem d_X_crash_17 : decode b_X_crash 17 = .ok (.putfield 32, 3) := by decide +kernel
theorem d_X_crash_20 : decode b_X_crash 20 = .ok (.aload_n 0, 1) := by decide +kernel
theorem d_X_crash_21 : decode b_X_crash 21 = .ok (.getfield 20, 3) := by decide +kernel
theorem d_X_crash_24 : decode b_X_crash 24 = .ok (.iconst (-1), 1) := by decide +kernel
theorem d_X_crash_25 : decode b_X_crash 25 = .ok (.putfield 110, 3) := by decide +kernel
theorem d_X_crash_28 : decode b_X_crash 28 = .ok (.iconst 1, 1) := by decide +kernel
theorem d_X_crash_29 : decode b_X_crash 29 = .ok (.ireturn, 1) := by decide +kernel
theorem d_Log_copiesToRecover_0 : decode b_Log_copiesToRecover 0 = .ok (.aload_n 0, 1) := by decide +kernel
theorem d_Log_copiesToRecover_1 : decode b_Log_copiesToRecover 1 = .ok (.getfield 21, 3) := by decide +kernel
theorem d_Log_copiesToRecover_4 : decode b_Log_copiesToRecover 4 = .ok (.aload_n 0, 1) := by decide +kernel
theorem d_Log_copiesToRecover_5 : decode b_Log_copiesToRecover 5 = .ok (.iload_n 1, 1) := by decide +kernel
theorem d_Log_copiesToRecover_6 : decode b_Log_copiesToRecover 6 = .ok (.invokevirtual 37, 3) := by decide +kernel
theorem d_Log_copiesToRecover_9 : decode b_Log_copiesToRecover 9 = .ok (.iaload, 1) := by decide +kernel
theorem d_Log_copiesToRecover_10 : decode b_Log_copiesToRecover 10 = .ok (.aload_n 0, 1) := by decide +kernel
theorem d_Log_copiesToRecover_11 : decode b_Log_copiesToRecover 11 = .ok (.iload_n 1, 1) := by decide +kernel
theorem d_Log_copiesToRecover_12 : decode b_Log_copiesToRecover 12 = .ok (.aload_n 0, 1) := by decide +kernel
theorem d_Log_copiesToRecover_13 : decode b_Log_copiesToRecover 13 = .ok (.getfield 24, 3) := by decide +kernel
theorem d_Log_copiesToRecover_16 : decode b_Log_copiesToRecover 16 = .ok (.invokevirtual 45, 3) := by decide +kernel
theorem d_Log_copiesToRecover_19 : decode b_Log_copiesToRecover 19 = .ok (.iconst (-1), 1) := by decide +kernel
theorem d_Log_copiesToRecover_20 : decode b_Log_copiesToRecover 20 = .ok (.ixor, 1) := by decide +kernel
theorem d_Log_copiesToRecover_21 : decode b_Log_copiesToRecover 21 = .ok (.iand, 1) := by decide +kernel
theorem d_Log_copiesToRecover_22 : decode b_Log_copiesToRecover 22 = .ok (.ireturn, 1) := by decide +kernel
theorem d_Disk_recover_0 : decode b_Disk_recover 0 = .ok (.iconst 0, 1) := by decide +kernel
theorem d_Disk_recover_1 : decode b_Disk_recover 1 = .ok (.istore_n 1, 1) := by decide +kernel
theorem d_Disk_recover_2 : decode b_Disk_recover 2 = .ok (.iload_n 1, 1) := by decide +kernel
theorem d_Disk_recover_3 : decode b_Disk_recover 3 = .ok (.aload_n 0, 1) := by decide +kernel
theorem d_Disk_recover_4 : decode b_Disk_recover 4 = .ok (.getfield 25, 3) := by decide +kernel
theorem d_Disk_recover_7 : decode b_Disk_recover 7 = .ok (.getfield 58, 3) := by decide +kernel
theorem d_Disk_recover_10 : decode b_Disk_recover 10 = .ok (.if_icmp .ge 27, 3) := by decide +kernel
theorem d_Disk_recover_13 : decode b_Disk_recover 13 = .ok (.aload_n 0, 1) := by decide +kernel
theorem d_Disk_recover_14 : decode b_Disk_recover 14 = .ok (.iload_n 1, 1) := by decide +kernel
theorem d_Disk_recover_15 : decode b_Disk_recover 15 = .ok (.aload_n 0, 1) := by decide +kernel
theorem d_Disk_recover_16 : decode b_Disk_recover 16 = .ok (.getfield 25, 3) := by decide +kernel
theorem d_Disk_recover_19 : decode b_Disk_recover 19 = .ok (.iload_n 1, 1) := by decide +kernel
theorem d_Disk_recover_20 : decode b_Disk_recover 20 = .ok (.invokevirtual 62, 3) := by decide +kernel
theorem d_Disk_recover_23 : decode b_Disk_recover 23 = .ok (.invokevirtual 51, 3) := by decide +kernel
theorem d_Disk_recover_26 : decode b_Disk_recover 26 = .ok (.ifCond .ne 5, 3) := by decide +kernel
theorem d_Disk_recover_29 : decode b_Disk_recover 29 = .ok (.iconst 0, 1) := by decide +kernel
theorem d_Disk_recover_30 : decode b_Disk_recover 30 = .ok (.ireturn, 1) := by decide +kernel
theorem d_Disk_recover_31 : decode b_Disk_recover 31 = .ok (.iinc 1 1, 3) := by decide +kernel
theorem d_Disk_recover_34 : decode b_Disk_recover 34 = .ok (.goto (-32), 3) := by decide +kernel
theorem d_Disk_recover_37 : decode b_Disk_recover 37 = .ok (.aload_n 0, 1) := by decide +kernel
theorem d_Disk_recover_38 : decode b_Disk_recover 38 = .ok (.aload_n 0, 1) := by decide +kernel
theorem d_Disk_recover_39 : decode b_Disk_recover 39 = .ok (.getfield 25, 3) := by decide +kernel
theorem d_Disk_recover_42 : decode b_Disk_recover 42 = .ok (.getfield 58, 3) := by decide +kernel
theorem d_Disk_recover_45 : decode b_Disk_recover 45 = .ok (.invokevirtual 55, 3) := by decide +kernel
theorem d_Disk_recover_48 : decode b_Disk_recover 48 = .ok (.ireturn, 1) := by decide +kernel
theorem d_Mem_load_0 : decode b_Mem_load 0 = .ok (.aload_n 1, 1) := by decide +kernel
theorem d_Mem_load_1 : decode b_Mem_load 1 = .ok (.iconst 0, 1) := by decide +kernel
theorem d_Mem_load_2 : decode b_Mem_load 2 = .ok (.aload_n 0, 1) := by decide +kernel
theorem d_Mem_load_3 : decode b_Mem_load 3 = .ok (.getfield 9, 3) := by decide +kernel
theorem d_Mem_load_6 : decode b_Mem_load 6 = .ok (.iconst 0, 1) := by decide +kernel
theorem d_Mem_load_7 : decode b_Mem_load 7 = .ok (.aload_n 0, 1) := by decide +kernel
theorem d_Mem_load_8 : decode b_Mem_load 8 = .ok (.getfield 9, 3) := by decide +kernel
theorem d_Mem_load_11 : decode b_Mem_load 11 = .ok (.arraylength, 1) := by decide +kernel
theorem d_Mem_load_12 : decode b_Mem_load 12 = .ok (.invokestatic 31, 3) := by decide +kernel
theorem d_Mem_load_15 : decode b_Mem_load 15 = .ok (.aload_n 0, 1) := by decide +kernel
theorem d_Mem_load_16 : decode b_Mem_load 16 = .ok (.iconst 0, 1) := by decide +kernel
theorem d_Mem_load_17 : decode b_Mem_load 17 = .ok (.putfield 18, 3) := by decide +kernel
theorem d_Mem_load_20 : decode b_Mem_load 20 = .ok (.aload_n 0, 1) := by decide +kernel
theorem d_Mem_load_21 : decode b_Mem_load 21 = .ok (.invokevirtual 37, 3) := by decide +kernel
theorem d_Mem_load_24 : decode b_Mem_load 24 = .ok (.return_, 1) := by decide +kernel
theorem d_X_mount_0 : decode b_X_mount 0 = .ok (.aload_n 0, 1) := by decide +kernel
theorem d_X_mount_1 : decode b_X_mount 1 = .ok (.getfield 20, 3) := by decide +kernel
theorem d_X_mount_4 : decode b_X_mount 4 = .ok (.getfield 32, 3) := by decide +kernel
theorem d_X_mount_7 : decode b_X_mount 7 = .ok (.ifCond .ne 12, 3) := by decide +kernel
theorem d_X_mount_10 : decode b_X_mount 10 = .ok (.iload_n 1, 1) := by decide +kernel
theorem d_X_mount_11 : decode b_X_mount 11 = .ok (.ifCond .lt 8, 3) := by decide +kernel
theorem d_X_mount_14 : decode b_X_mount 14 = .ok (.iload_n 1, 1) := by decide +kernel
theorem d_X_mount_15 : decode b_X_mount 15 = .ok (.iconst 2, 1) := by decide +kernel
theorem d_X_mount_16 : decode b_X_mount 16 = .ok (.if_icmp .le 5, 3) := by decide +kernel
theorem d_X_mount_19 : decode b_X_mount 19 = .ok (.iconst (-1), 1) := by decide +kernel
theorem d_X_mount_20 : decode b_X_mount 20 = .ok (.ireturn, 1) := by decide +kernel
theorem d_X_mount_21 : decode b_X_mount 21 = .ok (.aload_n 0, 1) := by decide +kernel
theorem d_X_mount_22 : decode b_X_mount 22 = .ok (.getfield 10, 3) := by decide +kernel
theorem d_X_mount_25 : decode b_X_mount 25 = .ok (.getfield 98, 3) := by decide +kernel
theorem d_X_mount_28 : decode b_X_mount 28 = .ok (.getfield 102, 3) := by decide +kernel
theorem d_X_mount_31 : decode b_X_mount 31 = .ok (.istore_n 2, 1) := by decide +kernel
theorem d_X_mount_32 : decode b_X_mount 32 = .ok (.aload_n 0, 1) := by decide +kernel
theorem d_X_mount_33 : decode b_X_mount 33 = .ok (.getfield 10, 3) := by decide +kernel
theorem d_X_mount_36 : decode b_X_mount 36 = .ok (.invokevirtual 113, 3) := by decide +kernel
theorem d_X_mount_39 : decode b_X_mount 39 = .ok (.ifCond .ne 6, 3) := by decide +kernel
theorem d_X_mount_42 : decode b_X_mount 42 = .ok (.bipush (-2), 2) := by decide +kernel
theorem d_X_mount_44 : decode b_X_mount 44 = .ok (.ireturn, 1) := by decide +kernel
theorem d_X_mount_45 : decode b_X_mount 45 = .ok (.aload_n 0, 1) := by decide +kernel
theorem d_X_mount_46 : decode b_X_mount 46 = .ok (.getfield 24, 3) := by decide +kernel
theorem d_X_mount_49 : decode b_X_mount 49 = .ok (.aload_n 0, 1) := by decide +kernel
theorem d_X_mount_50 : decode b_X_mount 50 = .ok (.getfield 10, 3) := by decide +kernel
theorem d_X_mount_53 : decode b_X_mount 53 = .ok (.getfield 116, 3) := by decide +kernel
theorem d_X_mount_56 : decode b_X_mount 56 = .ok (.invokevirtual 120, 3) := by decide +kernel
theorem d_X_mount_59 : decode b_X_mount 59 = .ok (.aload_n 0, 1) := by decide +kernel
theorem d_X_mount_60 : decode b_X_mount 60 = .ok (.iload_n 1, 1) := by decide +kernel
theorem d_X_mount_61 : decode b_X_mount 61 = .ok (.putfield 28, 3) := by decide +kernel
theorem d_X_mount_64 : decode b_X_mount 64 = .ok (.aload_n 0, 1) := by decide +kernel
theorem d_X_mount_65 : decode b_X_mount 65 = .ok (.getfield 20, 3) := by decide +kernel
theorem d_X_mount_68 : decode b_X_mount 68 = .ok (.iconst 1, 1) := by decide +kernel
theorem d_X_mount_69 : decode b_X_mount 69 = .ok (.putfield 32, 3) := by decide +kernel
theorem d_X_mount_72 : decode b_X_mount 72 = .ok (.iload_n 2, 1) := by decide +kernel
theorem d_X_mount_73 : decode b_X_mount 73 = .ok (.ireturn, 1) := by decide +kernel
theorem d_X_mode_0 : decode b_X_mode 0 = .ok (.aload_n 0, 1) := by decide +kernel
theorem d_X_mode_1 : decode b_X_mode 1 = .ok (.getfield 20, 3) := by decide +kernel
theorem d_X_mode_4 : decode b_X_mode 4 = .ok (.getfield 32, 3) := by decide +kernel
theorem d_X_mode_7 : decode b_X_mode 7 = .ok (.ifCond .eq 10, 3) := by decide +kernel
theorem d_X_mode_10 : decode b_X_mode 10 = .ok (.aload_n 0, 1) := by decide +kernel
theorem d_X_mode_11 : decode b_X_mode 11 = .ok (.getfield 28, 3) := by decide +kernel
theorem d_X_mode_14 : decode b_X_mode 14 = .ok (.goto 4, 3) := by decide +kernel
theorem d_X_mode_17 : decode b_X_mode 17 = .ok (.iconst (-1), 1) := by decide +kernel
theorem d_X_mode_18 : decode b_X_mode 18 = .ok (.ireturn, 1) := by decide +kernel
theorem d_X_home_0 : decode b_X_home 0 = .ok (.iload_n 1, 1) := by decide +kernel
theorem d_X_home_1 : decode b_X_home 1 = .ok (.iload_n 2, 1) := by decide +kernel
theorem d_X_home_2 : decode b_X_home 2 = .ok (.invokestatic 124, 3) := by decide +kernel
theorem d_X_home_5 : decode b_X_home 5 = .ok (.ifCond .eq 19, 3) := by decide +kernel
theorem d_X_home_8 : decode b_X_home 8 = .ok (.aload_n 0, 1) := by decide +kernel
theorem d_X_home_9 : decode b_X_home 9 = .ok (.getfield 10, 3) := by decide +kernel
theorem d_X_home_12 : decode b_X_home 12 = .ok (.getfield 116, 3) := by decide +kernel
theorem d_X_home_15 : decode b_X_home 15 = .ok (.iload_n 1, 1) := by decide +kernel
theorem d_X_home_16 : decode b_X_home 16 = .ok (.iconst 4, 1) := by decide +kernel
theorem d_X_home_17 : decode b_X_home 17 = .ok (.imul, 1) := by decide +kernel
theorem d_X_home_18 : decode b_X_home 18 = .ok (.iload_n 2, 1) := by decide +kernel
theorem d_X_home_19 : decode b_X_home 19 = .ok (.iadd, 1) := by decide +kernel
theorem d_X_home_20 : decode b_X_home 20 = .ok (.iaload, 1) := by decide +kernel
theorem d_X_home_21 : decode b_X_home 21 = .ok (.goto 4, 3) := by decide +kernel
theorem d_X_home_24 : decode b_X_home 24 = .ok (.iconst 0, 1) := by decide +kernel
theorem d_X_home_25 : decode b_X_home 25 = .ok (.ireturn, 1) := by decide +kernel
theorem d_X_need_0 : decode b_X_need 0 = .ok (.aload_n 0, 1) := by decide +kernel
theorem d_X_need_1 : decode b_X_need 1 = .ok (.getfield 20, 3) := by decide +kernel
theorem d_X_need_4 : decode b_X_need 4 = .ok (.getfield 32, 3) := by decide +kernel
theorem d_X_need_7 : decode b_X_need 7 = .ok (.ifCond .eq 13, 3) := by decide +kernel
theorem d_X_need_10 : decode b_X_need 10 = .ok (.aload_n 0, 1) := by decide +kernel
theorem d_X_need_11 : decode b_X_need 11 = .ok (.getfield 24, 3) := by decide +kernel
theorem d_X_need_14 : decode b_X_need 14 = .ok (.invokevirtual 128, 3) := by decide +kernel
theorem d_X_need_17 : decode b_X_need 17 = .ok (.goto 4, 3) := by decide +kernel
theorem d_X_need_20 : decode b_X_need 20 = .ok (.iconst (-1), 1) := by decide +kernel
theorem d_X_need_21 : decode b_X_need 21 = .ok (.ireturn, 1) := by decide +kernel
theorem d_X_room_0 : decode b_X_room 0 = .ok (.aload_n 0, 1) := by decide +kernel
theorem d_X_room_1 : decode b_X_room 1 = .ok (.getfield 20, 3) := by decide +kernel
theorem d_X_room_4 : decode b_X_room 4 = .ok (.getfield 32, 3) := by decide +kernel
theorem d_X_room_7 : decode b_X_room 7 = .ok (.ifCond .eq 16, 3) := by decide +kernel
theorem d_X_room_10 : decode b_X_room 10 = .ok (.aload_n 0, 1) := by decide +kernel
theorem d_X_room_11 : decode b_X_room 11 = .ok (.getfield 10, 3) := by decide +kernel
theorem d_X_room_14 : decode b_X_room 14 = .ok (.getfield 98, 3) := by decide +kernel
theorem d_X_room_17 : decode b_X_room 17 = .ok (.invokevirtual 131, 3) := by decide +kernel
theorem d_X_room_20 : decode b_X_room 20 = .ok (.goto 4, 3) := by decide +kernel
theorem d_X_room_23 : decode b_X_room 23 = .ok (.iconst (-1), 1) := by decide +kernel
theorem d_X_room_24 : decode b_X_room 24 = .ok (.ireturn, 1) := by decide +kernel
theorem d_X_head_0 : decode b_X_head 0 = .ok (.aload_n 0, 1) := by decide +kernel
theorem d_X_head_1 : decode b_X_head 1 = .ok (.getfield 20, 3) := by decide +kernel
theorem d_X_head_4 : decode b_X_head 4 = .ok (.getfield 32, 3) := by decide +kernel
theorem d_X_head_7 : decode b_X_head 7 = .ok (.ifCond .eq 16, 3) := by decide +kernel
theorem d_X_head_10 : decode b_X_head 10 = .ok (.aload_n 0, 1) := by decide +kernel
theorem d_X_head_11 : decode b_X_head 11 = .ok (.getfield 10, 3) := by decide +kernel
theorem d_X_head_14 : decode b_X_head 14 = .ok (.getfield 98, 3) := by decide +kernel
theorem d_X_head_17 : decode b_X_head 17 = .ok (.getfield 134, 3) := by decide +kernel
theorem d_X_head_20 : decode b_X_head 20 = .ok (.goto 4, 3) := by decide +kernel
theorem d_X_head_23 : decode b_X_head 23 = .ok (.iconst (-1), 1) := by decide +kernel
theorem d_X_head_24 : decode b_X_head 24 = .ok (.ireturn, 1) := by decide +kernel
theorem d_X_dirty_0 : decode b_X_dirty 0 = .ok (.aload_n 0, 1) := by decide +kernel
theorem d_X_dirty_1 : decode b_X_dirty 1 = .ok (.getfield 20, 3) := by decide +kernel
theorem d_X_dirty_4 : decode b_X_dirty 4 = .ok (.getfield 32, 3) := by decide +kernel
theorem d_X_dirty_7 : decode b_X_dirty 7 = .ok (.ifCond .eq 13, 3) := by decide +kernel
theorem d_X_dirty_10 : decode b_X_dirty 10 = .ok (.aload_n 0, 1) := by decide +kernel
theorem d_X_dirty_11 : decode b_X_dirty 11 = .ok (.getfield 24, 3) := by decide +kernel
theorem d_X_dirty_14 : decode b_X_dirty 14 = .ok (.getfield 84, 3) := by decide +kernel
theorem d_X_dirty_17 : decode b_X_dirty 17 = .ok (.goto 4, 3) := by decide +kernel
theorem d_X_dirty_20 : decode b_X_dirty 20 = .ok (.iconst (-1), 1) := by decide +kernel
theorem d_X_dirty_21 : decode b_X_dirty 21 = .ok (.ireturn, 1) := by decide +kernel
theorem d_X_free_0 : decode b_X_free 0 = .ok (.aload_n 0, 1) := by decide +kernel
theorem d_X_free_1 : decode b_X_free 1 = .ok (.getfield 20, 3) := by decide +kernel
theorem d_X_free_4 : decode b_X_free 4 = .ok (.getfield 32, 3) := by decide +kernel
theorem d_X_free_7 : decode b_X_free 7 = .ok (.ifCond .eq 13, 3) := by decide +kernel
theorem d_X_free_10 : decode b_X_free 10 = .ok (.aload_n 0, 1) := by decide +kernel
theorem d_X_free_11 : decode b_X_free 11 = .ok (.getfield 24, 3) := by decide +kernel
theorem d_X_free_14 : decode b_X_free 14 = .ok (.invokevirtual 50, 3) := by decide +kernel
theorem d_X_free_17 : decode b_X_free 17 = .ok (.goto 4, 3) := by decide +kernel
theorem d_X_free_20 : decode b_X_free 20 = .ok (.iconst (-1), 1) := by decide +kernel
theorem d_X_free_21 : decode b_X_free 21 = .ok (.ireturn, 1) := by decide +kernel
theorem d_X_writes_0 : decode b_X_writes 0 = .ok (.aload_n 0, 1) := by decide +kernel
theorem d_X_writes_1 : decode b_X_writes 1 = .ok (.getfield 20, 3) := by decide +kernel
theorem d_X_writes_4 : decode b_X_writes 4 = .ok (.getfield 95, 3) := by decide +kernel
theorem d_X_writes_7 : decode b_X_writes 7 = .ok (.ireturn, 1) := by decide +kernel
