theorem dX3_requireOwner_9 : decode cX3_requireOwner 9 = .ok (.if_icmp .lt 14, 3) := by decide +kernel
theorem dX3_requireOwner_12 : decode cX3_requireOwner 12 = .ok (.new 279, 3) := by decide +kernel
theorem dX3_requireOwner_15 : decode cX3_requireOwner 15 = .ok (.dup, 1) := by decide +kernel
theorem dX3_requireOwner_16 : decode cX3_requireOwner 16 = .ok (.ldc_w 322, 3) := by decide +kernel
theorem dX3_requireOwner_19 : decode cX3_requireOwner 19 = .ok (.invokespecial 283, 3) := by decide +kernel
theorem dX3_requireOwner_22 : decode cX3_requireOwner 22 = .ok (.athrow, 1) := by decide +kernel
theorem dX3_requireOwner_23 : decode cX3_requireOwner 23 = .ok (.return_, 1) := by decide +kernel
theorem dX3_requireFile_0 : decode cX3_requireFile 0 = .ok (.aload_n 0, 1) := by decide +kernel
theorem dX3_requireFile_1 : decode cX3_requireFile 1 = .ok (.getfield 12, 3) := by decide +kernel
theorem dX3_requireFile_4 : decode cX3_requireFile 4 = .ok (.iload_n 1, 1) := by decide +kernel
theorem dX3_requireFile_5 : decode cX3_requireFile 5 = .ok (.invokevirtual 324, 3) := by decide +kernel
theorem dX3_requireFile_8 : decode cX3_requireFile 8 = .ok (.ifCond .ne 14, 3) := by decide +kernel
theorem dX3_requireFile_11 : decode cX3_requireFile 11 = .ok (.new 279, 3) := by decide +kernel
theorem dX3_requireFile_14 : decode cX3_requireFile 14 = .ok (.dup, 1) := by decide +kernel
theorem dX3_requireFile_15 : decode cX3_requireFile 15 = .ok (.ldc_w 327, 3) := by decide +kernel
theorem dX3_requireFile_18 : decode cX3_requireFile 18 = .ok (.invokespecial 283, 3) := by decide +kernel
theorem dX3_requireFile_21 : decode cX3_requireFile 21 = .ok (.athrow, 1) := by decide +kernel
theorem dX3_requireFile_22 : decode cX3_requireFile 22 = .ok (.return_, 1) := by decide +kernel
theorem dX3_requirePlace_0 : decode cX3_requirePlace 0 = .ok (.iload_n 1, 1) := by decide +kernel
theorem dX3_requirePlace_1 : decode cX3_requirePlace 1 = .ok (.invokestatic 329, 3) := by decide +kernel
theorem dX3_requirePlace_4 : decode cX3_requirePlace 4 = .ok (.ifCond .ne 14, 3) := by decide +kernel
theorem dX3_requirePlace_7 : decode cX3_requirePlace 7 = .ok (.new 279, 3) := by decide +kernel
theorem dX3_requirePlace_10 : decode cX3_requirePlace 10 = .ok (.dup, 1) := by decide +kernel
theorem dX3_requirePlace_11 : decode cX3_requirePlace 11 = .ok (.ldc_w 332, 3) := by decide +kernel
theorem dX3_requirePlace_14 : decode cX3_requirePlace 14 = .ok (.invokespecial 283, 3) := by decide +kernel
theorem dX3_requirePlace_17 : decode cX3_requirePlace 17 = .ok (.athrow, 1) := by decide +kernel
theorem dX3_requirePlace_18 : decode cX3_requirePlace 18 = .ok (.return_, 1) := by decide +kernel
theorem dX3_requireBlock_0 : decode cX3_requireBlock 0 = .ok (.iload_n 1, 1) := by decide +kernel
theorem dX3_requireBlock_1 : decode cX3_requireBlock 1 = .ok (.invokestatic 334, 3) := by decide +kernel
theorem dX3_requireBlock_4 : decode cX3_requireBlock 4 = .ok (.ifCond .ne 14, 3) := by decide +kernel
theorem dX3_requireBlock_7 : decode cX3_requireBlock 7 = .ok (.new 279, 3) := by decide +kernel
theorem dX3_requireBlock_10 : decode cX3_requireBlock 10 = .ok (.dup, 1) := by decide +kernel
theorem dX3_requireBlock_11 : decode cX3_requireBlock 11 = .ok (.ldc_w 337, 3) := by decide +kernel
theorem dX3_requireBlock_14 : decode cX3_requireBlock 14 = .ok (.invokespecial 283, 3) := by decide +kernel
theorem dX3_requireBlock_17 : decode cX3_requireBlock 17 = .ok (.athrow, 1) := by decide +kernel
theorem dX3_requireBlock_18 : decode cX3_requireBlock 18 = .ok (.return_, 1) := by decide +kernel
theorem dX3_requireSnapshot_0 : decode cX3_requireSnapshot 0 = .ok (.aload_n 0, 1) := by decide +kernel
theorem dX3_requireSnapshot_1 : decode cX3_requireSnapshot 1 = .ok (.getfield 38, 3) := by decide +kernel
theorem dX3_requireSnapshot_4 : decode cX3_requireSnapshot 4 = .ok (.iload_n 1, 1) := by decide +kernel
theorem dX3_requireSnapshot_5 : decode cX3_requireSnapshot 5 = .ok (.invokevirtual 339, 3) := by decide +kernel
theorem dX3_requireSnapshot_8 : decode cX3_requireSnapshot 8 = .ok (.ifCond .ne 14, 3) := by decide +kernel
theorem dX3_requireSnapshot_11 : decode cX3_requireSnapshot 11 = .ok (.new 279, 3) := by decide +kernel
theorem dX3_requireSnapshot_14 : decode cX3_requireSnapshot 14 = .ok (.dup, 1) := by decide +kernel
theorem dX3_requireSnapshot_15 : decode cX3_requireSnapshot 15 = .ok (.ldc_w 342, 3) := by decide +kernel
theorem dX3_requireSnapshot_18 : decode cX3_requireSnapshot 18 = .ok (.invokespecial 283, 3) := by decide +kernel
theorem dX3_requireSnapshot_21 : decode cX3_requireSnapshot 21 = .ok (.athrow, 1) := by decide +kernel
theorem dX3_requireSnapshot_22 : decode cX3_requireSnapshot 22 = .ok (.return_, 1) := by decide +kernel
theorem dX3_requireInSnapshot_0 : decode cX3_requireInSnapshot 0 = .ok (.aload_n 0, 1) := by decide +kernel
theorem dX3_requireInSnapshot_1 : decode cX3_requireInSnapshot 1 = .ok (.getfield 38, 3) := by decide +kernel
theorem dX3_requireInSnapshot_4 : decode cX3_requireInSnapshot 4 = .ok (.iload_n 1, 1) := by decide +kernel
theorem dX3_requireInSnapshot_5 : decode cX3_requireInSnapshot 5 = .ok (.iload_n 2, 1) := by decide +kernel
theorem dX3_requireInSnapshot_6 : decode cX3_requireInSnapshot 6 = .ok (.invokevirtual 344, 3) := by decide +kernel
theorem dX3_requireInSnapshot_9 : decode cX3_requireInSnapshot 9 = .ok (.ifCond .ne 14, 3) := by decide +kernel
theorem dX3_requireInSnapshot_12 : decode cX3_requireInSnapshot 12 = .ok (.new 210, 3) := by decide +kernel
theorem dX3_requireInSnapshot_15 : decode cX3_requireInSnapshot 15 = .ok (.dup, 1) := by decide +kernel
theorem dX3_requireInSnapshot_16 : decode cX3_requireInSnapshot 16 = .ok (.ldc_w 348, 3) := by decide +kernel
theorem dX3_requireInSnapshot_19 : decode cX3_requireInSnapshot 19 = .ok (.invokespecial 214, 3) := by decide +kernel
theorem dX3_requireInSnapshot_22 : decode cX3_requireInSnapshot 22 = .ok (.athrow, 1) := by decide +kernel
theorem dX3_requireInSnapshot_23 : decode cX3_requireInSnapshot 23 = .ok (.return_, 1) := by decide +kernel
theorem dX3_requireHold_0 : decode cX3_requireHold 0 = .ok (.aload_n 0, 1) := by decide +kernel
theorem dX3_requireHold_1 : decode cX3_requireHold 1 = .ok (.getfield 45, 3) := by decide +kernel
theorem dX3_requireHold_4 : decode cX3_requireHold 4 = .ok (.iload_n 1, 1) := by decide +kernel
theorem dX3_requireHold_5 : decode cX3_requireHold 5 = .ok (.invokevirtual 350, 3) := by decide +kernel
theorem dX3_requireHold_8 : decode cX3_requireHold 8 = .ok (.ifCond .ne 14, 3) := by decide +kernel
theorem dX3_requireHold_11 : decode cX3_requireHold 11 = .ok (.new 279, 3) := by decide +kernel
theorem dX3_requireHold_14 : decode cX3_requireHold 14 = .ok (.dup, 1) := by decide +kernel
theorem dX3_requireHold_15 : decode cX3_requireHold 15 = .ok (.ldc_w 353, 3) := by decide +kernel
theorem dX3_requireHold_18 : decode cX3_requireHold 18 = .ok (.invokespecial 283, 3) := by decide +kernel
theorem dX3_requireHold_21 : decode cX3_requireHold 21 = .ok (.athrow, 1) := by decide +kernel
theorem dX3_requireHold_22 : decode cX3_requireHold 22 = .ok (.return_, 1) := by decide +kernel
theorem dX3_requireLinks_0 : decode cX3_requireLinks 0 = .ok (.aload_n 0, 1) := by decide +kernel
theorem dX3_requireLinks_1 : decode cX3_requireLinks 1 = .ok (.getfield 12, 3) := by decide +kernel
theorem dX3_requireLinks_4 : decode cX3_requireLinks 4 = .ok (.iload_n 1, 1) := by decide +kernel
theorem dX3_requireLinks_5 : decode cX3_requireLinks 5 = .ok (.invokevirtual 101, 3) := by decide +kernel
theorem dX3_requireLinks_8 : decode cX3_requireLinks 8 = .ok (.ifCond .ne 14, 3) := by decide +kernel
theorem dX3_requireLinks_11 : decode cX3_requireLinks 11 = .ok (.new 69, 3) := by decide +kernel
theorem dX3_requireLinks_14 : decode cX3_requireLinks 14 = .ok (.dup, 1) := by decide +kernel
theorem dX3_requireLinks_15 : decode cX3_requireLinks 15 = .ok (.ldc_w 355, 3) := by decide +kernel
theorem dX3_requireLinks_18 : decode cX3_requireLinks 18 = .ok (.invokespecial 73, 3) := by decide +kernel
theorem dX3_requireLinks_21 : decode cX3_requireLinks 21 = .ok (.athrow, 1) := by decide +kernel
theorem dX3_requireLinks_22 : decode cX3_requireLinks 22 = .ok (.return_, 1) := by decide +kernel
theorem dX3_requireNoTransaction_0 : decode cX3_requireNoTransaction 0 = .ok (.aload_n 0, 1) := by decide +kernel
theorem dX3_requireNoTransaction_1 : decode cX3_requireNoTransaction 1 = .ok (.getfield 19, 3) := by decide +kernel
theorem dX3_requireNoTransaction_4 : decode cX3_requireNoTransaction 4 = .ok (.ifCond .eq 14, 3) := by decide +kernel
theorem dX3_requireNoTransaction_7 : decode cX3_requireNoTransaction 7 = .ok (.new 69, 3) := by decide +kernel
theorem dX3_requireNoTransaction_10 : decode cX3_requireNoTransaction 10 = .ok (.dup, 1) := by decide +kernel
theorem dX3_requireNoTransaction_11 : decode cX3_requireNoTransaction 11 = .ok (.ldc_w 357, 3) := by decide +kernel
theorem dX3_requireNoTransaction_14 : decode cX3_requireNoTransaction 14 = .ok (.invokespecial 73, 3) := by decide +kernel
theorem dX3_requireNoTransaction_17 : decode cX3_requireNoTransaction 17 = .ok (.athrow, 1) := by decide +kernel
theorem dX3_requireNoTransaction_18 : decode cX3_requireNoTransaction 18 = .ok (.return_, 1) := by decide +kernel
theorem dX3_requireBlockFor_0 : decode cX3_requireBlockFor 0 = .ok (.aload_n 0, 1) := by decide +kernel
theorem dX3_requireBlockFor_1 : decode cX3_requireBlockFor 1 = .ok (.getfield 12, 3) := by decide +kernel
theorem dX3_requireBlockFor_4 : decode cX3_requireBlockFor 4 = .ok (.iload_n 1, 1) := by decide +kernel
theorem dX3_requireBlockFor_5 : decode cX3_requireBlockFor 5 = .ok (.iload_n 2, 1) := by decide +kernel
theorem dX3_requireBlockFor_6 : decode cX3_requireBlockFor 6 = .ok (.invokevirtual 149, 3) := by decide +kernel
theorem dX3_requireBlockFor_9 : decode cX3_requireBlockFor 9 = .ok (.aload_n 0, 1) := by decide +kernel
theorem dX3_requireBlockFor_10 : decode cX3_requireBlockFor 10 = .ok (.getfield 12, 3) := by decide +kernel
theorem dX3_requireBlockFor_13 : decode cX3_requireBlockFor 13 = .ok (.iload_n 2, 1) := by decide +kernel
theorem dX3_requireBlockFor_14 : decode cX3_requireBlockFor 14 = .ok (.iload_n 3, 1) := by decide +kernel
theorem dX3_requireBlockFor_15 : decode cX3_requireBlockFor 15 = .ok (.invokevirtual 359, 3) := by decide +kernel
theorem dX3_requireBlockFor_18 : decode cX3_requireBlockFor 18 = .ok (.lor, 1) := by decide +kernel
theorem dX3_requireBlockFor_19 : decode cX3_requireBlockFor 19 = .ok (.lstore 4, 2) := by decide +kernel
theorem dX3_requireBlockFor_21 : decode cX3_requireBlockFor 21 = .ok (.lload 4, 2) := by decide +kernel
theorem dX3_requireBlockFor_23 : decode cX3_requireBlockFor 23 = .ok (.invokestatic 153, 3) := by decide +kernel
theorem dX3_requireBlockFor_26 : decode cX3_requireBlockFor 26 = .ok (.iconst 1, 1) := by decide +kernel
theorem dX3_requireBlockFor_27 : decode cX3_requireBlockFor 27 = .ok (.iadd, 1) := by decide +kernel
theorem dX3_requireBlockFor_28 : decode cX3_requireBlockFor 28 = .ok (.aload_n 0, 1) := by decide +kernel
theorem dX3_requireBlockFor_29 : decode cX3_requireBlockFor 29 = .ok (.iload_n 1, 1) := by decide +kernel
theorem dX3_requireBlockFor_30 : decode cX3_requireBlockFor 30 = .ok (.invokevirtual 232, 3) := by decide +kernel
theorem dX3_requireBlockFor_33 : decode cX3_requireBlockFor 33 = .ok (.if_icmp .le 13, 3) := by decide +kernel
theorem dX3_requireBlockFor_36 : decode cX3_requireBlockFor 36 = .ok (.new 171, 3) := by decide +kernel
theorem dX3_requireBlockFor_39 : decode cX3_requireBlockFor 39 = .ok (.dup, 1) := by decide +kernel
theorem dX3_requireBlockFor_40 : decode cX3_requireBlockFor 40 = .ok (.ldc 235, 2) := by decide +kernel
theorem dX3_requireBlockFor_42 : decode cX3_requireBlockFor 42 = .ok (.invokespecial 175, 3) := by decide +kernel
theorem dX3_requireBlockFor_45 : decode cX3_requireBlockFor 45 = .ok (.athrow, 1) := by decide +kernel
theorem dX3_requireBlockFor_46 : decode cX3_requireBlockFor 46 = .ok (.aload_n 0, 1) := by decide +kernel
theorem dX3_requireBlockFor_47 : decode cX3_requireBlockFor 47 = .ok (.getfield 12, 3) := by decide +kernel
theorem dX3_requireBlockFor_50 : decode cX3_requireBlockFor 50 = .ok (.invokevirtual 159, 3) := by decide +kernel
theorem dX3_requireBlockFor_53 : decode cX3_requireBlockFor 53 = .ok (.aload_n 0, 1) := by decide +kernel
theorem dX3_requireBlockFor_54 : decode cX3_requireBlockFor 54 = .ok (.getfield 12, 3) := by decide +kernel
theorem dX3_requireBlockFor_57 : decode cX3_requireBlockFor 57 = .ok (.invokevirtual 168, 3) := by decide +kernel
theorem dX3_requireBlockFor_60 : decode cX3_requireBlockFor 60 = .ok (.isub, 1) := by decide +kernel
theorem dX3_requireBlockFor_61 : decode cX3_requireBlockFor 61 = .ok (.aload_n 0, 1) := by decide +kernel
theorem dX3_requireBlockFor_62 : decode cX3_requireBlockFor 62 = .ok (.getfield 12, 3) := by decide +kernel
theorem dX3_requireBlockFor_65 : decode cX3_requireBlockFor 65 = .ok (.iload_n 1, 1) := by decide +kernel
theorem dX3_requireBlockFor_66 : decode cX3_requireBlockFor 66 = .ok (.invokevirtual 176, 3) := by decide +kernel
theorem dX3_requireBlockFor_69 : decode cX3_requireBlockFor 69 = .ok (.iadd, 1) := by decide +kernel
theorem dX3_requireBlockFor_70 : decode cX3_requireBlockFor 70 = .ok (.ifCond .gt 14, 3) := by decide +kernel
theorem dX3_requireBlockFor_73 : decode cX3_requireBlockFor 73 = .ok (.new 171, 3) := by decide +kernel
theorem dX3_requireBlockFor_76 : decode cX3_requireBlockFor 76 = .ok (.dup, 1) := by decide +kernel
theorem dX3_requireBlockFor_77 : decode cX3_requireBlockFor 77 = .ok (.ldc_w 360, 3) := by decide +kernel
theorem dX3_requireBlockFor_80 : decode cX3_requireBlockFor 80 = .ok (.invokespecial 175, 3) := by decide +kernel
theorem dX3_requireBlockFor_83 : decode cX3_requireBlockFor 83 = .ok (.athrow, 1) := by decide +kernel
theorem dX3_requireBlockFor_84 : decode cX3_requireBlockFor 84 = .ok (.return_, 1) := by decide +kernel
theorem dX3_blockOrThrow_0 : decode cX3_blockOrThrow 0 = .ok (.aload_n 0, 1) := by decide +kernel
theorem dX3_blockOrThrow_1 : decode cX3_blockOrThrow 1 = .ok (.iload_n 1, 1) := by decide +kernel
theorem dX3_blockOrThrow_2 : decode cX3_blockOrThrow 2 = .ok (.invokevirtual 94, 3) := by decide +kernel
theorem dX3_blockOrThrow_5 : decode cX3_blockOrThrow 5 = .ok (.aload_n 0, 1) := by decide +kernel
theorem dX3_blockOrThrow_6 : decode cX3_blockOrThrow 6 = .ok (.iload_n 2, 1) := by decide +kernel
theorem dX3_blockOrThrow_7 : decode cX3_blockOrThrow 7 = .ok (.invokevirtual 116, 3) := by decide +kernel
theorem dX3_blockOrThrow_10 : decode cX3_blockOrThrow 10 = .ok (.aload_n 0, 1) := by decide +kernel
theorem dX3_blockOrThrow_11 : decode cX3_blockOrThrow 11 = .ok (.getfield 12, 3) := by decide +kernel
theorem dX3_blockOrThrow_14 : decode cX3_blockOrThrow 14 = .ok (.iload_n 1, 1) := by decide +kernel
theorem dX3_blockOrThrow_15 : decode cX3_blockOrThrow 15 = .ok (.iload_n 2, 1) := by decide +kernel
theorem dX3_blockOrThrow_16 : decode cX3_blockOrThrow 16 = .ok (.invokevirtual 119, 3) := by decide +kernel
theorem dX3_blockOrThrow_19 : decode cX3_blockOrThrow 19 = .ok (.istore_n 3, 1) := by decide +kernel
theorem dX3_blockOrThrow_20 : decode cX3_blockOrThrow 20 = .ok (.iload_n 3, 1) := by decide +kernel
theorem dX3_blockOrThrow_21 : decode cX3_blockOrThrow 21 = .ok (.iconst (-1), 1) := by decide +kernel
theorem dX3_blockOrThrow_22 : decode cX3_blockOrThrow 22 = .ok (.if_icmp .ne 14, 3) := by decide +kernel
theorem dX3_blockOrThrow_25 : decode cX3_blockOrThrow 25 = .ok (.new 210, 3) := by decide +kernel
theorem dX3_blockOrThrow_28 : decode cX3_blockOrThrow 28 = .ok (.dup, 1) := by decide +kernel
theorem dX3_blockOrThrow_29 : decode cX3_blockOrThrow 29 = .ok (.ldc_w 362, 3) := by decide +kernel
theorem dX3_blockOrThrow_32 : decode cX3_blockOrThrow 32 = .ok (.invokespecial 214, 3) := by decide +kernel
theorem dX3_blockOrThrow_35 : decode cX3_blockOrThrow 35 = .ok (.athrow, 1) := by decide +kernel
theorem dX3_blockOrThrow_36 : decode cX3_blockOrThrow 36 = .ok (.iload_n 3, 1) := by decide +kernel
theorem dX3_blockOrThrow_37 : decode cX3_blockOrThrow 37 = .ok (.ireturn, 1) := by decide +kernel
theorem dX3_isBlock_0 : decode cX3_isBlock 0 = .ok (.iload_n 0, 1) := by decide +kernel
theorem dX3_isBlock_1 : decode cX3_isBlock 1 = .ok (.ifCond .lt 13, 3) := by decide +kernel
theorem dX3_isBlock_4 : decode cX3_isBlock 4 = .ok (.iload_n 0, 1) := by decide +kernel
theorem dX3_isBlock_5 : decode cX3_isBlock 5 = .ok (.bipush 64, 2) := by decide +kernel
theorem dX3_isBlock_7 : decode cX3_isBlock 7 = .ok (.if_icmp .ge 7, 3) := by decide +kernel
theorem dX3_isBlock_10 : decode cX3_isBlock 10 = .ok (.iconst 1, 1) := by decide +kernel
theorem dX3_isBlock_11 : decode cX3_isBlock 11 = .ok (.goto 4, 3) := by decide +kernel
theorem dX3_isBlock_14 : decode cX3_isBlock 14 = .ok (.iconst 0, 1) := by decide +kernel
theorem dX3_isBlock_15 : decode cX3_isBlock 15 = .ok (.ireturn, 1) := by decide +kernel
theorem dX3_isPlace_0 : decode cX3_isPlace 0 = .ok (.iload_n 0, 1) := by decide +kernel
theorem dX3_isPlace_1 : decode cX3_isPlace 1 = .ok (.ifCond .lt 13, 3) := by decide +kernel
theorem dX3_isPlace_4 : decode cX3_isPlace 4 = .ok (.iload_n 0, 1) := by decide +kernel
theorem dX3_isPlace_5 : decode cX3_isPlace 5 = .ok (.bipush 16, 2) := by decide +kernel
theorem dX3_isPlace_7 : decode cX3_isPlace 7 = .ok (.if_icmp .ge 7, 3) := by decide +kernel
theorem dX3_isPlace_10 : decode cX3_isPlace 10 = .ok (.iconst 1, 1) := by decide +kernel
theorem dX3_isPlace_11 : decode cX3_isPlace 11 = .ok (.goto 4, 3) := by decide +kernel
theorem dX3_isPlace_14 : decode cX3_isPlace 14 = .ok (.iconst 0, 1) := by decide +kernel
theorem dX3_isPlace_15 : decode cX3_isPlace 15 = .ok (.ireturn, 1) := by decide +kernel
theorem dX3_countUser_0 : decode cX3_countUser 0 = .ok (.iload_n 1, 1) := by decide +kernel
theorem dX3_countUser_1 : decode cX3_countUser 1 = .ok (.invokestatic 334, 3) := by decide +kernel
theorem dX3_countUser_4 : decode cX3_countUser 4 = .ok (.ifCond .eq 16, 3) := by decide +kernel
theorem dX3_countUser_7 : decode cX3_countUser 7 = .ok (.iload_n 1, 1) := by decide +kernel
theorem dX3_countUser_8 : decode cX3_countUser 8 = .ok (.aload_n 0, 1) := by decide +kernel
theorem dX3_countUser_9 : decode cX3_countUser 9 = .ok (.arraylength, 1) := by decide +kernel
theorem dX3_countUser_10 : decode cX3_countUser 10 = .ok (.if_icmp .ge 10, 3) := by decide +kernel
theorem dX3_countUser_13 : decode cX3_countUser 13 = .ok (.aload_n 0, 1) := by decide +kernel
theorem dX3_countUser_14 : decode cX3_countUser 14 = .ok (.iload_n 1, 1) := by decide +kernel
theorem dX3_countUser_15 : decode cX3_countUser 15 = .ok (.dup2, 1) := by decide +kernel
theorem dX3_countUser_16 : decode cX3_countUser 16 = .ok (.iaload, 1) := by decide +kernel
theorem dX3_countUser_17 : decode cX3_countUser 17 = .ok (.iconst 1, 1) := by decide +kernel
theorem dX3_countUser_18 : decode cX3_countUser 18 = .ok (.iadd, 1) := by decide +kernel
theorem dX3_countUser_19 : decode cX3_countUser 19 = .ok (.iastore, 1) := by decide +kernel
theorem dX3_countUser_20 : decode cX3_countUser 20 = .ok (.return_, 1) := by decide +kernel
theorem dX3_quotaOf_0 : decode cX3_quotaOf 0 = .ok (.iload_n 1, 1) := by decide +kernel
theorem dX3_quotaOf_1 : decode cX3_quotaOf 1 = .ok (.ifCond .lt 20, 3) := by decide +kernel
theorem dX3_quotaOf_4 : decode cX3_quotaOf 4 = .ok (.iload_n 1, 1) := by decide +kernel
theorem dX3_quotaOf_5 : decode cX3_quotaOf 5 = .ok (.aload_n 0, 1) := by decide +kernel
theorem dX3_quotaOf_6 : decode cX3_quotaOf 6 = .ok (.getfield 27, 3) := by decide +kernel
theorem dX3_quotaOf_9 : decode cX3_quotaOf 9 = .ok (.if_icmp .ge 12, 3) := by decide +kernel
theorem dX3_quotaOf_12 : decode cX3_quotaOf 12 = .ok (.aload_n 0, 1) := by decide +kernel
theorem dX3_quotaOf_13 : decode cX3_quotaOf 13 = .ok (.getfield 31, 3) := by decide +kernel
theorem dX3_quotaOf_16 : decode cX3_quotaOf 16 = .ok (.iload_n 1, 1) := by decide +kernel
theorem dX3_quotaOf_17 : decode cX3_quotaOf 17 = .ok (.iaload, 1) := by decide +kernel
theorem dX3_quotaOf_18 : decode cX3_quotaOf 18 = .ok (.goto 4, 3) := by decide +kernel
theorem dX3_quotaOf_21 : decode cX3_quotaOf 21 = .ok (.iconst 0, 1) := by decide +kernel
theorem dX3_quotaOf_22 : decode cX3_quotaOf 22 = .ok (.ireturn, 1) := by decide +kernel
theorem dX3_note_0 : decode cX3_note 0 = .ok (.aload_n 0, 1) := by decide +kernel
theorem dX3_note_1 : decode cX3_note 1 = .ok (.getfield 12, 3) := by decide +kernel
theorem dX3_note_4 : decode cX3_note 4 = .ok (.invokevirtual 274, 3) := by decide +kernel
theorem dX3_note_7 : decode cX3_note 7 = .ok (.istore_n 2, 1) := by decide +kernel
theorem dX3_note_8 : decode cX3_note 8 = .ok (.iload_n 2, 1) := by decide +kernel
theorem dX3_note_9 : decode cX3_note 9 = .ok (.sipush 512, 3) := by decide +kernel
theorem dX3_note_12 : decode cX3_note 12 = .ok (.if_icmp .ge 20, 3) := by decide +kernel
theorem dX3_note_15 : decode cX3_note 15 = .ok (.aload_n 0, 1) := by decide +kernel
theorem dX3_note_16 : decode cX3_note 16 = .ok (.getfield 23, 3) := by decide +kernel
theorem dX3_note_19 : decode cX3_note 19 = .ok (.iload_n 2, 1) := by decide +kernel
theorem dX3_note_20 : decode cX3_note 20 = .ok (.iload_n 1, 1) := by decide +kernel
theorem dX3_note_21 : decode cX3_note 21 = .ok (.castore, 1) := by decide +kernel
theorem dX3_note_22 : decode cX3_note 22 = .ok (.aload_n 0, 1) := by decide +kernel
theorem dX3_note_23 : decode cX3_note 23 = .ok (.getfield 12, 3) := by decide +kernel
theorem dX3_note_26 : decode cX3_note 26 = .ok (.iload_n 2, 1) := by decide +kernel
theorem dX3_note_27 : decode cX3_note 27 = .ok (.iconst 1, 1) := by decide +kernel
theorem dX3_note_28 : decode cX3_note 28 = .ok (.iadd, 1) := by decide +kernel
theorem dX3_note_29 : decode cX3_note 29 = .ok (.invokevirtual 364, 3) := by decide +kernel
theorem dX3_note_32 : decode cX3_note 32 = .ok (.return_, 1) := by decide +kernel
theorem dX3_endHold_0 : decode cX3_endHold 0 = .ok (.aload_n 0, 1) := by decide +kernel
theorem dX3_endHold_1 : decode cX3_endHold 1 = .ok (.getfield 45, 3) := by decide +kernel
theorem dX3_endHold_4 : decode cX3_endHold 4 = .ok (.iload_n 1, 1) := by decide +kernel
theorem dX3_endHold_5 : decode cX3_endHold 5 = .ok (.invokevirtual 367, 3) := by decide +kernel
theorem dX3_endHold_8 : decode cX3_endHold 8 = .ok (.aload_n 0, 1) := by decide +kernel
theorem dX3_endHold_9 : decode cX3_endHold 9 = .ok (.aload_n 0, 1) := by decide +kernel
theorem dX3_endHold_10 : decode cX3_endHold 10 = .ok (.getfield 45, 3) := by decide +kernel
theorem dX3_endHold_13 : decode cX3_endHold 13 = .ok (.iload_n 1, 1) := by decide +kernel
theorem dX3_endHold_14 : decode cX3_endHold 14 = .ok (.invokevirtual 370, 3) := by decide +kernel
theorem dX3_endHold_17 : decode cX3_endHold 17 = .ok (.invokevirtual 113, 3) := by decide +kernel
theorem dX3_endHold_20 : decode cX3_endHold 20 = .ok (.ireturn, 1) := by decide +kernel
theorem dX3_removeIfAbandoned_0 : decode cX3_removeIfAbandoned 0 = .ok (.aload_n 0, 1) := by decide +kernel
theorem dX3_removeIfAbandoned_1 : decode cX3_removeIfAbandoned 1 = .ok (.getfield 12, 3) := by decide +kernel
theorem dX3_removeIfAbandoned_4 : decode cX3_removeIfAbandoned 4 = .ok (.iload_n 1, 1) := by decide +kernel
theorem dX3_removeIfAbandoned_5 : decode cX3_removeIfAbandoned 5 = .ok (.invokevirtual 101, 3) := by decide +kernel
theorem dX3_removeIfAbandoned_8 : decode cX3_removeIfAbandoned 8 = .ok (.ifCond .gt 14, 3) := by decide +kernel
theorem dX3_removeIfAbandoned_11 : decode cX3_removeIfAbandoned 11 = .ok (.aload_n 0, 1) := by decide +kernel
theorem dX3_removeIfAbandoned_12 : decode cX3_removeIfAbandoned 12 = .ok (.getfield 45, 3) := by decide +kernel
theorem dX3_removeIfAbandoned_15 : decode cX3_removeIfAbandoned 15 = .ok (.iload_n 1, 1) := by decide +kernel
theorem dX3_removeIfAbandoned_16 : decode cX3_removeIfAbandoned 16 = .ok (.invokevirtual 257, 3) := by decide +kernel
theorem dX3_removeIfAbandoned_19 : decode cX3_removeIfAbandoned 19 = .ok (.ifCond .le 5, 3) := by decide +kernel
theorem dX3_removeIfAbandoned_22 : decode cX3_removeIfAbandoned 22 = .ok (.iconst 0, 1) := by decide +kernel
theorem dX3_removeIfAbandoned_23 : decode cX3_removeIfAbandoned 23 = .ok (.ireturn, 1) := by decide +kernel
theorem dX3_removeIfAbandoned_24 : decode cX3_removeIfAbandoned 24 = .ok (.aload_n 0, 1) := by decide +kernel
theorem dX3_removeIfAbandoned_25 : decode cX3_removeIfAbandoned 25 = .ok (.getfield 12, 3) := by decide +kernel
theorem dX3_removeIfAbandoned_28 : decode cX3_removeIfAbandoned 28 = .ok (.iload_n 1, 1) := by decide +kernel
theorem dX3_removeIfAbandoned_29 : decode cX3_removeIfAbandoned 29 = .ok (.invokevirtual 373, 3) := by decide +kernel
theorem dX3_removeIfAbandoned_32 : decode cX3_removeIfAbandoned 32 = .ok (.iconst 1, 1) := by decide +kernel
theorem dX3_removeIfAbandoned_33 : decode cX3_removeIfAbandoned 33 = .ok (.ireturn, 1) := by decide +kernel
theorem dX3_walkUsers_0 : decode cX3_walkUsers 0 = .ok (.aload_n 0, 1) := by decide +kernel
theorem dX3_walkUsers_1 : decode cX3_walkUsers 1 = .ok (.getfield 59, 3) := by decide +kernel
theorem dX3_walkUsers_4 : decode cX3_walkUsers 4 = .ok (.iconst 0, 1) := by decide +kernel
theorem dX3_walkUsers_5 : decode cX3_walkUsers 5 = .ok (.invokestatic 376, 3) := by decide +kernel
theorem dX3_walkUsers_8 : decode cX3_walkUsers 8 = .ok (.aload_n 0, 1) := by decide +kernel
theorem dX3_walkUsers_9 : decode cX3_walkUsers 9 = .ok (.getfield 12, 3) := by decide +kernel
theorem dX3_walkUsers_12 : decode cX3_walkUsers 12 = .ok (.aload_n 0, 1) := by decide +kernel
theorem dX3_walkUsers_13 : decode cX3_walkUsers 13 = .ok (.getfield 59, 3) := by decide +kernel
theorem dX3_walkUsers_16 : decode cX3_walkUsers 16 = .ok (.invokevirtual 382, 3) := by decide +kernel
theorem dX3_walkUsers_19 : decode cX3_walkUsers 19 = .ok (.aload_n 0, 1) := by decide +kernel
theorem dX3_walkUsers_20 : decode cX3_walkUsers 20 = .ok (.getfield 38, 3) := by decide +kernel
theorem dX3_walkUsers_23 : decode cX3_walkUsers 23 = .ok (.aload_n 0, 1) := by decide +kernel
theorem dX3_walkUsers_24 : decode cX3_walkUsers 24 = .ok (.getfield 59, 3) := by decide +kernel
theorem dX3_walkUsers_27 : decode cX3_walkUsers 27 = .ok (.invokevirtual 386, 3) := by decide +kernel
theorem dX3_walkUsers_30 : decode cX3_walkUsers 30 = .ok (.return_, 1) := by decide +kernel
theorem dX3_areUsersAsWalked_0 : decode cX3_areUsersAsWalked 0 = .ok (.aload_n 0, 1) := by decide +kernel
theorem dX3_areUsersAsWalked_1 : decode cX3_areUsersAsWalked 1 = .ok (.invokevirtual 165, 3) := by decide +kernel
theorem dX3_areUsersAsWalked_4 : decode cX3_areUsersAsWalked 4 = .ok (.iconst 0, 1) := by decide +kernel
theorem dX3_areUsersAsWalked_5 : decode cX3_areUsersAsWalked 5 = .ok (.istore_n 1, 1) := by decide +kernel
theorem dX3_areUsersAsWalked_6 : decode cX3_areUsersAsWalked 6 = .ok (.iload_n 1, 1) := by decide +kernel
theorem dX3_areUsersAsWalked_7 : decode cX3_areUsersAsWalked 7 = .ok (.bipush 64, 2) := by decide +kernel
theorem dX3_areUsersAsWalked_9 : decode cX3_areUsersAsWalked 9 = .ok (.if_icmp .ge 28, 3) := by decide +kernel
theorem dX3_areUsersAsWalked_12 : decode cX3_areUsersAsWalked 12 = .ok (.aload_n 0, 1) := by decide +kernel
theorem dX3_areUsersAsWalked_13 : decode cX3_areUsersAsWalked 13 = .ok (.getfield 59, 3) := by decide +kernel
theorem dX3_areUsersAsWalked_16 : decode cX3_areUsersAsWalked 16 = .ok (.iload_n 1, 1) := by decide +kernel
theorem dX3_areUsersAsWalked_17 : decode cX3_areUsersAsWalked 17 = .ok (.iaload, 1) := by decide +kernel
theorem dX3_areUsersAsWalked_18 : decode cX3_areUsersAsWalked 18 = .ok (.aload_n 0, 1) := by decide +kernel
theorem dX3_areUsersAsWalked_19 : decode cX3_areUsersAsWalked 19 = .ok (.getfield 12, 3) := by decide +kernel
theorem dX3_areUsersAsWalked_22 : decode cX3_areUsersAsWalked 22 = .ok (.iload_n 1, 1) := by decide +kernel
theorem dX3_areUsersAsWalked_23 : decode cX3_areUsersAsWalked 23 = .ok (.invokevirtual 123, 3) := by decide +kernel
theorem dX3_areUsersAsWalked_26 : decode cX3_areUsersAsWalked 26 = .ok (.if_icmp .eq 5, 3) := by decide +kernel
theorem dX3_areUsersAsWalked_29 : decode cX3_areUsersAsWalked 29 = .ok (.iconst 0, 1) := by decide +kernel
theorem dX3_areUsersAsWalked_30 : decode cX3_areUsersAsWalked 30 = .ok (.ireturn, 1) := by decide +kernel
theorem dX3_areUsersAsWalked_31 : decode cX3_areUsersAsWalked 31 = .ok (.iinc 1 1, 3) := by decide +kernel
theorem dX3_areUsersAsWalked_34 : decode cX3_areUsersAsWalked 34 = .ok (.goto (-28), 3) := by decide +kernel
theorem dX3_areUsersAsWalked_37 : decode cX3_areUsersAsWalked 37 = .ok (.iconst 1, 1) := by decide +kernel
theorem dX3_areUsersAsWalked_38 : decode cX3_areUsersAsWalked 38 = .ok (.ireturn, 1) := by decide +kernel
theorem dX3_areHeldFilesAlive_0 : decode cX3_areHeldFilesAlive 0 = .ok (.iconst 0, 1) := by decide +kernel
theorem dX3_areHeldFilesAlive_1 : decode cX3_areHeldFilesAlive 1 = .ok (.istore_n 1, 1) := by decide +kernel
theorem dX3_areHeldFilesAlive_2 : decode cX3_areHeldFilesAlive 2 = .ok (.iload_n 1, 1) := by decide +kernel
theorem dX3_areHeldFilesAlive_3 : decode cX3_areHeldFilesAlive 3 = .ok (.bipush 30, 2) := by decide +kernel
theorem dX3_areHeldFilesAlive_5 : decode cX3_areHeldFilesAlive 5 = .ok (.if_icmp .ge 40, 3) := by decide +kernel
theorem dX3_areHeldFilesAlive_8 : decode cX3_areHeldFilesAlive 8 = .ok (.aload_n 0, 1) := by decide +kernel
theorem dX3_areHeldFilesAlive_9 : decode cX3_areHeldFilesAlive 9 = .ok (.getfield 45, 3) := by decide +kernel
theorem dX3_areHeldFilesAlive_12 : decode cX3_areHeldFilesAlive 12 = .ok (.iload_n 1, 1) := by decide +kernel
theorem dX3_areHeldFilesAlive_13 : decode cX3_areHeldFilesAlive 13 = .ok (.invokevirtual 249, 3) := by decide +kernel
theorem dX3_areHeldFilesAlive_16 : decode cX3_areHeldFilesAlive 16 = .ok (.ifCond .eq 23, 3) := by decide +kernel
theorem dX3_areHeldFilesAlive_19 : decode cX3_areHeldFilesAlive 19 = .ok (.aload_n 0, 1) := by decide +kernel
theorem dX3_areHeldFilesAlive_20 : decode cX3_areHeldFilesAlive 20 = .ok (.getfield 12, 3) := by decide +kernel
theorem dX3_areHeldFilesAlive_23 : decode cX3_areHeldFilesAlive 23 = .ok (.aload_n 0, 1) := by decide +kernel
theorem dX3_areHeldFilesAlive_24 : decode cX3_areHeldFilesAlive 24 = .ok (.getfield 45, 3) := by decide +kernel
theorem dX3_areHeldFilesAlive_27 : decode cX3_areHeldFilesAlive 27 = .ok (.iload_n 1, 1) := by decide +kernel
theorem dX3_areHeldFilesAlive_28 : decode cX3_areHeldFilesAlive 28 = .ok (.invokevirtual 370, 3) := by decide +kernel
theorem dX3_areHeldFilesAlive_31 : decode cX3_areHeldFilesAlive 31 = .ok (.invokevirtual 97, 3) := by decide +kernel
theorem dX3_areHeldFilesAlive_34 : decode cX3_areHeldFilesAlive 34 = .ok (.ifCond .ne 5, 3) := by decide +kernel
theorem dX3_areHeldFilesAlive_37 : decode cX3_areHeldFilesAlive 37 = .ok (.iconst 0, 1) := by decide +kernel
theorem dX3_areHeldFilesAlive_38 : decode cX3_areHeldFilesAlive 38 = .ok (.ireturn, 1) := by decide +kernel
theorem dX3_areHeldFilesAlive_39 : decode cX3_areHeldFilesAlive 39 = .ok (.iinc 1 1, 3) := by decide +kernel
theorem dX3_areHeldFilesAlive_42 : decode cX3_areHeldFilesAlive 42 = .ok (.goto (-40), 3) := by decide +kernel
theorem dX3_areHeldFilesAlive_45 : decode cX3_areHeldFilesAlive 45 = .ok (.iconst 1, 1) := by decide +kernel
theorem dX3_areHeldFilesAlive_46 : decode cX3_areHeldFilesAlive 46 = .ok (.ireturn, 1) := by decide +kernel
theorem dJ5_init_d00df_0 : decode cJ5_init_d00df 0 = .ok (.aload_n 0, 1) := by decide +kernel
theorem dJ5_init_d00df_1 : decode cJ5_init_d00df 1 = .ok (.invokespecial 3, 3) := by decide +kernel
theorem dJ5_init_d00df_4 : decode cJ5_init_d00df 4 = .ok (.getstatic 18, 3) := by decide +kernel
theorem dJ5_init_d00df_7 : decode cJ5_init_d00df 7 = .ok (.ifCond .eq 18, 3) := by decide +kernel
theorem dJ5_init_d00df_10 : decode cJ5_init_d00df 10 = .ok (.aload_n 0, 1) := by decide +kernel
theorem dJ5_init_d00df_11 : decode cJ5_init_d00df 11 = .ok (.iload_n 1, 1) := by decide +kernel
theorem dJ5_init_d00df_12 : decode cJ5_init_d00df 12 = .ok (.newarray .byte, 2) := by decide +kernel
theorem dJ5_init_d00df_14 : decode cJ5_init_d00df 14 = .ok (.putfield 15, 3) := by decide +kernel
theorem dJ5_init_d00df_17 : decode cJ5_init_d00df 17 = .ok (.aload_n 0, 1) := by decide +kernel
theorem dJ5_init_d00df_18 : decode cJ5_init_d00df 18 = .ok (.iconst 0, 1) := by decide +kernel
theorem dJ5_init_d00df_19 : decode cJ5_init_d00df 19 = .ok (.putfield 22, 3) := by decide +kernel
theorem dJ5_init_d00df_22 : decode cJ5_init_d00df 22 = .ok (.goto 16, 3) := by decide +kernel
theorem dJ5_init_d00df_25 : decode cJ5_init_d00df 25 = .ok (.aload_n 0, 1) := by decide +kernel
theorem dJ5_init_d00df_26 : decode cJ5_init_d00df 26 = .ok (.iload_n 1, 1) := by decide +kernel
theorem dJ5_init_d00df_27 : decode cJ5_init_d00df 27 = .ok (.invokestatic 26, 3) := by decide +kernel
theorem dJ5_init_d00df_30 : decode cJ5_init_d00df 30 = .ok (.putfield 15, 3) := by decide +kernel
theorem dJ5_init_d00df_33 : decode cJ5_init_d00df 33 = .ok (.aload_n 0, 1) := by decide +kernel
theorem dJ5_init_d00df_34 : decode cJ5_init_d00df 34 = .ok (.iconst 1, 1) := by decide +kernel
theorem dJ5_init_d00df_35 : decode cJ5_init_d00df 35 = .ok (.putfield 22, 3) := by decide +kernel
theorem dJ5_init_d00df_38 : decode cJ5_init_d00df 38 = .ok (.return_, 1) := by decide +kernel
theorem dJ5_length_8abf5_0 : decode cJ5_length_8abf5 0 = .ok (.aload_n 0, 1) := by decide +kernel
theorem dJ5_length_8abf5_1 : decode cJ5_length_8abf5 1 = .ok (.getfield 79, 3) := by decide +kernel
theorem dJ5_length_8abf5_4 : decode cJ5_length_8abf5 4 = .ok (.ireturn, 1) := by decide +kernel
theorem dJ5_ensureCapacityInternal_d00df_0 : decode cJ5_ensureCapacityInternal_d00df 0 = .ok (.aload_n 0, 1) := by decide +kernel
theorem dJ5_ensureCapacityInternal_d00df_1 : decode cJ5_ensureCapacityInternal_d00df 1 = .ok (.getfield 15, 3) := by decide +kernel
theorem dJ5_ensureCapacityInternal_d00df_4 : decode cJ5_ensureCapacityInternal_d00df 4 = .ok (.arraylength, 1) := by decide +kernel
theorem dJ5_ensureCapacityInternal_d00df_5 : decode cJ5_ensureCapacityInternal_d00df 5 = .ok (.aload_n 0, 1) := by decide +kernel
theorem dJ5_ensureCapacityInternal_d00df_6 : decode cJ5_ensureCapacityInternal_d00df 6 = .ok (.getfield 22, 3) := by decide +kernel
theorem dJ5_ensureCapacityInternal_d00df_9 : decode cJ5_ensureCapacityInternal_d00df 9 = .ok (.ishr, 1) := by decide +kernel
theorem dJ5_ensureCapacityInternal_d00df_10 : decode cJ5_ensureCapacityInternal_d00df 10 = .ok (.istore_n 2, 1) := by decide +kernel
theorem dJ5_ensureCapacityInternal_d00df_11 : decode cJ5_ensureCapacityInternal_d00df 11 = .ok (.iload_n 1, 1) := by decide +kernel
theorem dJ5_ensureCapacityInternal_d00df_12 : decode cJ5_ensureCapacityInternal_d00df 12 = .ok (.iload_n 2, 1) := by decide +kernel
theorem dJ5_ensureCapacityInternal_d00df_13 : decode cJ5_ensureCapacityInternal_d00df 13 = .ok (.isub, 1) := by decide +kernel
theorem dJ5_ensureCapacityInternal_d00df_14 : decode cJ5_ensureCapacityInternal_d00df 14 = .ok (.ifCond .le 24, 3) := by decide +kernel
theorem dJ5_ensureCapacityInternal_d00df_17 : decode cJ5_ensureCapacityInternal_d00df 17 = .ok (.aload_n 0, 1) := by decide +kernel
theorem dJ5_ensureCapacityInternal_d00df_18 : decode cJ5_ensureCapacityInternal_d00df 18 = .ok (.aload_n 0, 1) := by decide +kernel
theorem dJ5_ensureCapacityInternal_d00df_19 : decode cJ5_ensureCapacityInternal_d00df 19 = .ok (.getfield 15, 3) := by decide +kernel
theorem dJ5_ensureCapacityInternal_d00df_22 : decode cJ5_ensureCapacityInternal_d00df 22 = .ok (.aload_n 0, 1) := by decide +kernel
theorem dJ5_ensureCapacityInternal_d00df_23 : decode cJ5_ensureCapacityInternal_d00df 23 = .ok (.iload_n 1, 1) := by decide +kernel
theorem dJ5_ensureCapacityInternal_d00df_24 : decode cJ5_ensureCapacityInternal_d00df 24 = .ok (.invokevirtual 104, 3) := by decide +kernel
theorem dJ5_ensureCapacityInternal_d00df_27 : decode cJ5_ensureCapacityInternal_d00df 27 = .ok (.aload_n 0, 1) := by decide +kernel
theorem dJ5_ensureCapacityInternal_d00df_28 : decode cJ5_ensureCapacityInternal_d00df 28 = .ok (.getfield 22, 3) := by decide +kernel
theorem dJ5_ensureCapacityInternal_d00df_31 : decode cJ5_ensureCapacityInternal_d00df 31 = .ok (.ishl, 1) := by decide +kernel
theorem dJ5_ensureCapacityInternal_d00df_32 : decode cJ5_ensureCapacityInternal_d00df 32 = .ok (.invokestatic 108, 3) := by decide +kernel
theorem dJ5_ensureCapacityInternal_d00df_35 : decode cJ5_ensureCapacityInternal_d00df 35 = .ok (.putfield 15, 3) := by decide +kernel
theorem dJ5_ensureCapacityInternal_d00df_38 : decode cJ5_ensureCapacityInternal_d00df 38 = .ok (.return_, 1) := by decide +kernel
theorem dJ5_newCapacity_0f7a4_0 : decode cJ5_newCapacity_0f7a4 0 = .ok (.aload_n 0, 1) := by decide +kernel
theorem dJ5_newCapacity_0f7a4_1 : decode cJ5_newCapacity_0f7a4 1 = .ok (.getfield 15, 3) := by decide +kernel
theorem dJ5_newCapacity_0f7a4_4 : decode cJ5_newCapacity_0f7a4 4 = .ok (.arraylength, 1) := by decide +kernel
theorem dJ5_newCapacity_0f7a4_5 : decode cJ5_newCapacity_0f7a4 5 = .ok (.istore_n 2, 1) := by decide +kernel
theorem dJ5_newCapacity_0f7a4_6 : decode cJ5_newCapacity_0f7a4 6 = .ok (.iload_n 1, 1) := by decide +kernel
theorem dJ5_newCapacity_0f7a4_7 : decode cJ5_newCapacity_0f7a4 7 = .ok (.aload_n 0, 1) := by decide +kernel
theorem dJ5_newCapacity_0f7a4_8 : decode cJ5_newCapacity_0f7a4 8 = .ok (.getfield 22, 3) := by decide +kernel
theorem dJ5_newCapacity_0f7a4_11 : decode cJ5_newCapacity_0f7a4 11 = .ok (.ishl, 1) := by decide +kernel
theorem dJ5_newCapacity_0f7a4_12 : decode cJ5_newCapacity_0f7a4 12 = .ok (.istore_n 3, 1) := by decide +kernel
theorem dJ5_newCapacity_0f7a4_13 : decode cJ5_newCapacity_0f7a4 13 = .ok (.iload_n 3, 1) := by decide +kernel
theorem dJ5_newCapacity_0f7a4_14 : decode cJ5_newCapacity_0f7a4 14 = .ok (.iload_n 2, 1) := by decide +kernel
theorem dJ5_newCapacity_0f7a4_15 : decode cJ5_newCapacity_0f7a4 15 = .ok (.isub, 1) := by decide +kernel
theorem dJ5_newCapacity_0f7a4_16 : decode cJ5_newCapacity_0f7a4 16 = .ok (.istore 4, 2) := by decide +kernel
theorem dJ5_newCapacity_0f7a4_18 : decode cJ5_newCapacity_0f7a4 18 = .ok (.iload_n 2, 1) := by decide +kernel
theorem dJ5_newCapacity_0f7a4_19 : decode cJ5_newCapacity_0f7a4 19 = .ok (.iload 4, 2) := by decide +kernel
theorem dJ5_newCapacity_0f7a4_21 : decode cJ5_newCapacity_0f7a4 21 = .ok (.iload_n 2, 1) := by decide +kernel
theorem dJ5_newCapacity_0f7a4_22 : decode cJ5_newCapacity_0f7a4 22 = .ok (.iconst 2, 1) := by decide +kernel
theorem dJ5_newCapacity_0f7a4_23 : decode cJ5_newCapacity_0f7a4 23 = .ok (.aload_n 0, 1) := by decide +kernel
theorem dJ5_newCapacity_0f7a4_24 : decode cJ5_newCapacity_0f7a4 24 = .ok (.getfield 22, 3) := by decide +kernel
theorem dJ5_newCapacity_0f7a4_27 : decode cJ5_newCapacity_0f7a4 27 = .ok (.ishl, 1) := by decide +kernel
theorem dJ5_newCapacity_0f7a4_28 : decode cJ5_newCapacity_0f7a4 28 = .ok (.iadd, 1) := by decide +kernel
theorem dJ5_newCapacity_0f7a4_29 : decode cJ5_newCapacity_0f7a4 29 = .ok (.invokestatic 114, 3) := by decide +kernel
theorem dJ5_newCapacity_0f7a4_32 : decode cJ5_newCapacity_0f7a4 32 = .ok (.istore 5, 2) := by decide +kernel
theorem dJ5_newCapacity_0f7a4_34 : decode cJ5_newCapacity_0f7a4 34 = .ok (.iload 5, 2) := by decide +kernel
theorem dJ5_newCapacity_0f7a4_36 : decode cJ5_newCapacity_0f7a4 36 = .ok (.ldc 39, 2) := by decide +kernel
theorem dJ5_newCapacity_0f7a4_38 : decode cJ5_newCapacity_0f7a4 38 = .ok (.if_icmp .ne 13, 3) := by decide +kernel
theorem dJ5_newCapacity_0f7a4_41 : decode cJ5_newCapacity_0f7a4 41 = .ok (.new 120, 3) := by decide +kernel
theorem dJ5_newCapacity_0f7a4_44 : decode cJ5_newCapacity_0f7a4 44 = .ok (.dup, 1) := by decide +kernel
theorem dJ5_newCapacity_0f7a4_45 : decode cJ5_newCapacity_0f7a4 45 = .ok (.ldc 122, 2) := by decide +kernel
theorem dJ5_newCapacity_0f7a4_47 : decode cJ5_newCapacity_0f7a4 47 = .ok (.invokespecial 124, 3) := by decide +kernel
theorem dJ5_newCapacity_0f7a4_50 : decode cJ5_newCapacity_0f7a4 50 = .ok (.athrow, 1) := by decide +kernel
theorem dJ5_newCapacity_0f7a4_51 : decode cJ5_newCapacity_0f7a4 51 = .ok (.iload 5, 2) := by decide +kernel
theorem dJ5_newCapacity_0f7a4_53 : decode cJ5_newCapacity_0f7a4 53 = .ok (.aload_n 0, 1) := by decide +kernel
theorem dJ5_newCapacity_0f7a4_54 : decode cJ5_newCapacity_0f7a4 54 = .ok (.getfield 22, 3) := by decide +kernel
theorem dJ5_newCapacity_0f7a4_57 : decode cJ5_newCapacity_0f7a4 57 = .ok (.ishr, 1) := by decide +kernel
theorem dJ5_newCapacity_0f7a4_58 : decode cJ5_newCapacity_0f7a4 58 = .ok (.ireturn, 1) := by decide +kernel
theorem dJ5_setLength_d00df_0 : decode cJ5_setLength_d00df 0 = .ok (.iload_n 1, 1) := by decide +kernel
theorem dJ5_setLength_d00df_1 : decode cJ5_setLength_d00df 1 = .ok (.ifCond .ge 12, 3) := by decide +kernel
theorem dJ5_setLength_d00df_4 : decode cJ5_setLength_d00df 4 = .ok (.new 129, 3) := by decide +kernel
theorem dJ5_setLength_d00df_7 : decode cJ5_setLength_d00df 7 = .ok (.dup, 1) := by decide +kernel
theorem dJ5_setLength_d00df_8 : decode cJ5_setLength_d00df 8 = .ok (.iload_n 1, 1) := by decide +kernel
theorem dJ5_setLength_d00df_9 : decode cJ5_setLength_d00df 9 = .ok (.invokespecial 131, 3) := by decide +kernel
theorem dJ5_setLength_d00df_12 : decode cJ5_setLength_d00df 12 = .ok (.athrow, 1) := by decide +kernel
theorem dJ5_setLength_d00df_13 : decode cJ5_setLength_d00df 13 = .ok (.aload_n 0, 1) := by decide +kernel
theorem dJ5_setLength_d00df_14 : decode cJ5_setLength_d00df 14 = .ok (.iload_n 1, 1) := by decide +kernel
theorem dJ5_setLength_d00df_15 : decode cJ5_setLength_d00df 15 = .ok (.invokevirtual 100, 3) := by decide +kernel
theorem dJ5_setLength_d00df_18 : decode cJ5_setLength_d00df 18 = .ok (.aload_n 0, 1) := by decide +kernel
theorem dJ5_setLength_d00df_19 : decode cJ5_setLength_d00df 19 = .ok (.getfield 79, 3) := by decide +kernel
theorem dJ5_setLength_d00df_22 : decode cJ5_setLength_d00df 22 = .ok (.iload_n 1, 1) := by decide +kernel
theorem dJ5_setLength_d00df_23 : decode cJ5_setLength_d00df 23 = .ok (.if_icmp .ge 40, 3) := by decide +kernel
theorem dJ5_setLength_d00df_26 : decode cJ5_setLength_d00df 26 = .ok (.aload_n 0, 1) := by decide +kernel
theorem dJ5_setLength_d00df_27 : decode cJ5_setLength_d00df 27 = .ok (.invokevirtual 83, 3) := by decide +kernel
theorem dJ5_setLength_d00df_30 : decode cJ5_setLength_d00df 30 = .ok (.ifCond .eq 18, 3) := by decide +kernel
theorem dJ5_setLength_d00df_33 : decode cJ5_setLength_d00df 33 = .ok (.aload_n 0, 1) := by decide +kernel
theorem dJ5_setLength_d00df_34 : decode cJ5_setLength_d00df 34 = .ok (.getfield 15, 3) := by decide +kernel
theorem dJ5_setLength_d00df_37 : decode cJ5_setLength_d00df 37 = .ok (.aload_n 0, 1) := by decide +kernel
theorem dJ5_setLength_d00df_38 : decode cJ5_setLength_d00df 38 = .ok (.getfield 79, 3) := by decide +kernel
theorem dJ5_setLength_d00df_41 : decode cJ5_setLength_d00df 41 = .ok (.iload_n 1, 1) := by decide +kernel
theorem dJ5_setLength_d00df_42 : decode cJ5_setLength_d00df 42 = .ok (.invokestatic 133, 3) := by decide +kernel
theorem dJ5_setLength_d00df_45 : decode cJ5_setLength_d00df 45 = .ok (.goto 31, 3) := by decide +kernel
theorem dJ5_setLength_d00df_48 : decode cJ5_setLength_d00df 48 = .ok (.aload_n 0, 1) := by decide +kernel
theorem dJ5_setLength_d00df_49 : decode cJ5_setLength_d00df 49 = .ok (.getfield 15, 3) := by decide +kernel
theorem dJ5_setLength_d00df_52 : decode cJ5_setLength_d00df 52 = .ok (.aload_n 0, 1) := by decide +kernel
theorem dJ5_setLength_d00df_53 : decode cJ5_setLength_d00df 53 = .ok (.getfield 79, 3) := by decide +kernel
theorem dJ5_setLength_d00df_56 : decode cJ5_setLength_d00df 56 = .ok (.iload_n 1, 1) := by decide +kernel
theorem dJ5_setLength_d00df_57 : decode cJ5_setLength_d00df 57 = .ok (.invokestatic 137, 3) := by decide +kernel
theorem dJ5_setLength_d00df_60 : decode cJ5_setLength_d00df 60 = .ok (.goto 16, 3) := by decide +kernel
theorem dJ5_setLength_d00df_63 : decode cJ5_setLength_d00df 63 = .ok (.aload_n 0, 1) := by decide +kernel
theorem dJ5_setLength_d00df_64 : decode cJ5_setLength_d00df 64 = .ok (.getfield 79, 3) := by decide +kernel
theorem dJ5_setLength_d00df_67 : decode cJ5_setLength_d00df 67 = .ok (.iload_n 1, 1) := by decide +kernel
theorem dJ5_setLength_d00df_68 : decode cJ5_setLength_d00df 68 = .ok (.if_icmp .le 8, 3) := by decide +kernel
theorem dJ5_setLength_d00df_71 : decode cJ5_setLength_d00df 71 = .ok (.aload_n 0, 1) := by decide +kernel
theorem dJ5_setLength_d00df_72 : decode cJ5_setLength_d00df 72 = .ok (.iconst 1, 1) := by decide +kernel
theorem dJ5_setLength_d00df_73 : decode cJ5_setLength_d00df 73 = .ok (.putfield 73, 3) := by decide +kernel
theorem dJ5_setLength_d00df_76 : decode cJ5_setLength_d00df 76 = .ok (.aload_n 0, 1) := by decide +kernel
theorem dJ5_setLength_d00df_77 : decode cJ5_setLength_d00df 77 = .ok (.iload_n 1, 1) := by decide +kernel
theorem dJ5_setLength_d00df_78 : decode cJ5_setLength_d00df 78 = .ok (.putfield 79, 3) := by decide +kernel
theorem dJ5_setLength_d00df_81 : decode cJ5_setLength_d00df 81 = .ok (.return_, 1) := by decide +kernel
theorem dJ5_charAt_5068e_0 : decode cJ5_charAt_5068e 0 = .ok (.aload_n 0, 1) := by decide +kernel
theorem dJ5_charAt_5068e_1 : decode cJ5_charAt_5068e 1 = .ok (.getfield 22, 3) := by decide +kernel
theorem dJ5_charAt_5068e_4 : decode cJ5_charAt_5068e 4 = .ok (.istore_n 2, 1) := by decide +kernel
theorem dJ5_charAt_5068e_5 : decode cJ5_charAt_5068e 5 = .ok (.aload_n 0, 1) := by decide +kernel
theorem dJ5_charAt_5068e_6 : decode cJ5_charAt_5068e 6 = .ok (.getfield 15, 3) := by decide +kernel
theorem dJ5_charAt_5068e_9 : decode cJ5_charAt_5068e 9 = .ok (.astore_n 3, 1) := by decide +kernel
theorem dJ5_charAt_5068e_10 : decode cJ5_charAt_5068e 10 = .ok (.aload_n 0, 1) := by decide +kernel
theorem dJ5_charAt_5068e_11 : decode cJ5_charAt_5068e 11 = .ok (.getfield 79, 3) := by decide +kernel
theorem dJ5_charAt_5068e_14 : decode cJ5_charAt_5068e 14 = .ok (.aload_n 3, 1) := by decide +kernel
theorem dJ5_charAt_5068e_15 : decode cJ5_charAt_5068e 15 = .ok (.arraylength, 1) := by decide +kernel
theorem dJ5_charAt_5068e_16 : decode cJ5_charAt_5068e 16 = .ok (.iload_n 2, 1) := by decide +kernel
theorem dJ5_charAt_5068e_17 : decode cJ5_charAt_5068e 17 = .ok (.ishr, 1) := by decide +kernel
theorem dJ5_charAt_5068e_18 : decode cJ5_charAt_5068e 18 = .ok (.invokestatic 138, 3) := by decide +kernel
theorem dJ5_charAt_5068e_21 : decode cJ5_charAt_5068e 21 = .ok (.istore 4, 2) := by decide +kernel
theorem dJ5_charAt_5068e_23 : decode cJ5_charAt_5068e 23 = .ok (.iload_n 1, 1) := by decide +kernel
theorem dJ5_charAt_5068e_24 : decode cJ5_charAt_5068e 24 = .ok (.iload 4, 2) := by decide +kernel
theorem dJ5_charAt_5068e_26 : decode cJ5_charAt_5068e 26 = .ok (.invokestatic 144, 3) := by decide +kernel
theorem dJ5_charAt_5068e_29 : decode cJ5_charAt_5068e 29 = .ok (.iload_n 2, 1) := by decide +kernel
theorem dJ5_charAt_5068e_30 : decode cJ5_charAt_5068e 30 = .ok (.ifCond .ne 12, 3) := by decide +kernel
theorem dJ5_charAt_5068e_33 : decode cJ5_charAt_5068e 33 = .ok (.aload_n 3, 1) := by decide +kernel
theorem dJ5_charAt_5068e_34 : decode cJ5_charAt_5068e 34 = .ok (.iload_n 1, 1) := by decide +kernel
theorem dJ5_charAt_5068e_35 : decode cJ5_charAt_5068e 35 = .ok (.baload, 1) := by decide +kernel
theorem dJ5_charAt_5068e_36 : decode cJ5_charAt_5068e 36 = .ok (.sipush 255, 3) := by decide +kernel
theorem dJ5_charAt_5068e_39 : decode cJ5_charAt_5068e 39 = .ok (.iand, 1) := by decide +kernel
theorem dJ5_charAt_5068e_40 : decode cJ5_charAt_5068e 40 = .ok (.i2c, 1) := by decide +kernel
theorem dJ5_charAt_5068e_41 : decode cJ5_charAt_5068e 41 = .ok (.ireturn, 1) := by decide +kernel
theorem dJ5_charAt_5068e_42 : decode cJ5_charAt_5068e 42 = .ok (.aload_n 3, 1) := by decide +kernel
theorem dJ5_charAt_5068e_43 : decode cJ5_charAt_5068e 43 = .ok (.iload_n 1, 1) := by decide +kernel
theorem dJ5_charAt_5068e_44 : decode cJ5_charAt_5068e 44 = .ok (.invokestatic 148, 3) := by decide +kernel
theorem dJ5_charAt_5068e_47 : decode cJ5_charAt_5068e 47 = .ok (.ireturn, 1) := by decide +kernel
theorem dJ5_append_cf1ce_0 : decode cJ5_append_cf1ce 0 = .ok (.aload_n 1, 1) := by decide +kernel
theorem dJ5_append_cf1ce_1 : decode cJ5_append_cf1ce 1 = .ok (.ifnonnull 8, 3) := by decide +kernel
theorem dJ5_append_cf1ce_4 : decode cJ5_append_cf1ce 4 = .ok (.aload_n 0, 1) := by decide +kernel
theorem dJ5_append_cf1ce_5 : decode cJ5_append_cf1ce 5 = .ok (.invokevirtual 204, 3) := by decide +kernel
theorem dJ5_append_cf1ce_8 : decode cJ5_append_cf1ce 8 = .ok (.areturn, 1) := by decide +kernel
theorem dJ5_append_cf1ce_9 : decode cJ5_append_cf1ce 9 = .ok (.aload_n 1, 1) := by decide +kernel
theorem dJ5_append_cf1ce_10 : decode cJ5_append_cf1ce 10 = .ok (.invokevirtual 32, 3) := by decide +kernel
theorem dJ5_append_cf1ce_13 : decode cJ5_append_cf1ce 13 = .ok (.istore_n 2, 1) := by decide +kernel
theorem dJ5_append_cf1ce_14 : decode cJ5_append_cf1ce 14 = .ok (.aload_n 0, 1) := by decide +kernel
theorem dJ5_append_cf1ce_15 : decode cJ5_append_cf1ce 15 = .ok (.aload_n 0, 1) := by decide +kernel
theorem dJ5_append_cf1ce_16 : decode cJ5_append_cf1ce 16 = .ok (.getfield 79, 3) := by decide +kernel
theorem dJ5_append_cf1ce_19 : decode cJ5_append_cf1ce 19 = .ok (.iload_n 2, 1) := by decide +kernel
theorem dJ5_append_cf1ce_20 : decode cJ5_append_cf1ce 20 = .ok (.iadd, 1) := by decide +kernel
theorem dJ5_append_cf1ce_21 : decode cJ5_append_cf1ce 21 = .ok (.invokevirtual 100, 3) := by decide +kernel
theorem dJ5_append_cf1ce_24 : decode cJ5_append_cf1ce 24 = .ok (.aload_n 0, 1) := by decide +kernel
theorem dJ5_append_cf1ce_25 : decode cJ5_append_cf1ce 25 = .ok (.aload_n 0, 1) := by decide +kernel
theorem dJ5_append_cf1ce_26 : decode cJ5_append_cf1ce 26 = .ok (.getfield 79, 3) := by decide +kernel
theorem dJ5_append_cf1ce_29 : decode cJ5_append_cf1ce 29 = .ok (.aload_n 1, 1) := by decide +kernel
theorem dJ5_append_cf1ce_30 : decode cJ5_append_cf1ce 30 = .ok (.invokevirtual 208, 3) := by decide +kernel
theorem dJ5_append_cf1ce_33 : decode cJ5_append_cf1ce 33 = .ok (.aload_n 0, 1) := by decide +kernel
theorem dJ5_append_cf1ce_34 : decode cJ5_append_cf1ce 34 = .ok (.dup, 1) := by decide +kernel
theorem dJ5_append_cf1ce_35 : decode cJ5_append_cf1ce 35 = .ok (.getfield 79, 3) := by decide +kernel
theorem dJ5_append_cf1ce_38 : decode cJ5_append_cf1ce 38 = .ok (.iload_n 2, 1) := by decide +kernel
theorem dJ5_append_cf1ce_39 : decode cJ5_append_cf1ce 39 = .ok (.iadd, 1) := by decide +kernel
theorem dJ5_append_cf1ce_40 : decode cJ5_append_cf1ce 40 = .ok (.putfield 79, 3) := by decide +kernel
theorem dJ5_append_cf1ce_43 : decode cJ5_append_cf1ce 43 = .ok (.aload_n 0, 1) := by decide +kernel
theorem dJ5_append_cf1ce_44 : decode cJ5_append_cf1ce 44 = .ok (.areturn, 1) := by decide +kernel
theorem dJ5_appendNull_278bc_0 : decode cJ5_appendNull_278bc 0 = .ok (.aload_n 0, 1) := by decide +kernel
theorem dJ5_appendNull_278bc_1 : decode cJ5_appendNull_278bc 1 = .ok (.aload_n 0, 1) := by decide +kernel
theorem dJ5_appendNull_278bc_2 : decode cJ5_appendNull_278bc 2 = .ok (.getfield 79, 3) := by decide +kernel
theorem dJ5_appendNull_278bc_5 : decode cJ5_appendNull_278bc 5 = .ok (.iconst 4, 1) := by decide +kernel
theorem dJ5_appendNull_278bc_6 : decode cJ5_appendNull_278bc 6 = .ok (.iadd, 1) := by decide +kernel
theorem dJ5_appendNull_278bc_7 : decode cJ5_appendNull_278bc 7 = .ok (.invokevirtual 100, 3) := by decide +kernel
theorem dJ5_appendNull_278bc_10 : decode cJ5_appendNull_278bc 10 = .ok (.aload_n 0, 1) := by decide +kernel
theorem dJ5_appendNull_278bc_11 : decode cJ5_appendNull_278bc 11 = .ok (.getfield 79, 3) := by decide +kernel
theorem dJ5_appendNull_278bc_14 : decode cJ5_appendNull_278bc 14 = .ok (.istore_n 1, 1) := by decide +kernel
theorem dJ5_appendNull_278bc_15 : decode cJ5_appendNull_278bc 15 = .ok (.aload_n 0, 1) := by decide +kernel
theorem dJ5_appendNull_278bc_16 : decode cJ5_appendNull_278bc 16 = .ok (.getfield 15, 3) := by decide +kernel
theorem dJ5_appendNull_278bc_19 : decode cJ5_appendNull_278bc 19 = .ok (.astore_n 2, 1) := by decide +kernel
theorem dJ5_appendNull_278bc_20 : decode cJ5_appendNull_278bc 20 = .ok (.aload_n 0, 1) := by decide +kernel
theorem dJ5_appendNull_278bc_21 : decode cJ5_appendNull_278bc 21 = .ok (.invokevirtual 83, 3) := by decide +kernel
theorem dJ5_appendNull_278bc_24 : decode cJ5_appendNull_278bc 24 = .ok (.ifCond .eq 38, 3) := by decide +kernel
theorem dJ5_appendNull_278bc_27 : decode cJ5_appendNull_278bc 27 = .ok (.aload_n 2, 1) := by decide +kernel
theorem dJ5_appendNull_278bc_28 : decode cJ5_appendNull_278bc 28 = .ok (.iload_n 1, 1) := by decide +kernel
theorem dJ5_appendNull_278bc_29 : decode cJ5_appendNull_278bc 29 = .ok (.iinc 1 1, 3) := by decide +kernel
theorem dJ5_appendNull_278bc_32 : decode cJ5_appendNull_278bc 32 = .ok (.bipush 110, 2) := by decide +kernel
theorem dJ5_appendNull_278bc_34 : decode cJ5_appendNull_278bc 34 = .ok (.bastore, 1) := by decide +kernel
theorem dJ5_appendNull_278bc_35 : decode cJ5_appendNull_278bc 35 = .ok (.aload_n 2, 1) := by decide +kernel
theorem dJ5_appendNull_278bc_36 : decode cJ5_appendNull_278bc 36 = .ok (.iload_n 1, 1) := by decide +kernel
theorem dJ5_appendNull_278bc_37 : decode cJ5_appendNull_278bc 37 = .ok (.iinc 1 1, 3) := by decide +kernel
theorem dJ5_appendNull_278bc_40 : decode cJ5_appendNull_278bc 40 = .ok (.bipush 117, 2) := by decide +kernel
theorem dJ5_appendNull_278bc_42 : decode cJ5_appendNull_278bc 42 = .ok (.bastore, 1) := by decide +kernel
theorem dJ5_appendNull_278bc_43 : decode cJ5_appendNull_278bc 43 = .ok (.aload_n 2, 1) := by decide +kernel
theorem dJ5_appendNull_278bc_44 : decode cJ5_appendNull_278bc 44 = .ok (.iload_n 1, 1) := by decide +kernel
theorem dJ5_appendNull_278bc_45 : decode cJ5_appendNull_278bc 45 = .ok (.iinc 1 1, 3) := by decide +kernel
theorem dJ5_appendNull_278bc_48 : decode cJ5_appendNull_278bc 48 = .ok (.bipush 108, 2) := by decide +kernel
theorem dJ5_appendNull_278bc_50 : decode cJ5_appendNull_278bc 50 = .ok (.bastore, 1) := by decide +kernel
theorem dJ5_appendNull_278bc_51 : decode cJ5_appendNull_278bc 51 = .ok (.aload_n 2, 1) := by decide +kernel
theorem dJ5_appendNull_278bc_52 : decode cJ5_appendNull_278bc 52 = .ok (.iload_n 1, 1) := by decide +kernel
theorem dJ5_appendNull_278bc_53 : decode cJ5_appendNull_278bc 53 = .ok (.iinc 1 1, 3) := by decide +kernel
theorem dJ5_appendNull_278bc_56 : decode cJ5_appendNull_278bc 56 = .ok (.bipush 108, 2) := by decide +kernel
theorem dJ5_appendNull_278bc_58 : decode cJ5_appendNull_278bc 58 = .ok (.bastore, 1) := by decide +kernel
theorem dJ5_appendNull_278bc_59 : decode cJ5_appendNull_278bc 59 = .ok (.goto 17, 3) := by decide +kernel
theorem dJ5_appendNull_278bc_62 : decode cJ5_appendNull_278bc 62 = .ok (.aload_n 2, 1) := by decide +kernel
theorem dJ5_appendNull_278bc_63 : decode cJ5_appendNull_278bc 63 = .ok (.iload_n 1, 1) := by decide +kernel
theorem dJ5_appendNull_278bc_64 : decode cJ5_appendNull_278bc 64 = .ok (.bipush 110, 2) := by decide +kernel
theorem dJ5_appendNull_278bc_66 : decode cJ5_appendNull_278bc 66 = .ok (.bipush 117, 2) := by decide +kernel
theorem dJ5_appendNull_278bc_68 : decode cJ5_appendNull_278bc 68 = .ok (.bipush 108, 2) := by decide +kernel
theorem dJ5_appendNull_278bc_70 : decode cJ5_appendNull_278bc 70 = .ok (.bipush 108, 2) := by decide +kernel
theorem dJ5_appendNull_278bc_72 : decode cJ5_appendNull_278bc 72 = .ok (.invokestatic 226, 3) := by decide +kernel
theorem dJ5_appendNull_278bc_75 : decode cJ5_appendNull_278bc 75 = .ok (.istore_n 1, 1) := by decide +kernel
theorem dJ5_appendNull_278bc_76 : decode cJ5_appendNull_278bc 76 = .ok (.aload_n 0, 1) := by decide +kernel
theorem dJ5_appendNull_278bc_77 : decode cJ5_appendNull_278bc 77 = .ok (.iload_n 1, 1) := by decide +kernel
theorem dJ5_appendNull_278bc_78 : decode cJ5_appendNull_278bc 78 = .ok (.putfield 79, 3) := by decide +kernel
theorem dJ5_appendNull_278bc_81 : decode cJ5_appendNull_278bc 81 = .ok (.aload_n 0, 1) := by decide +kernel
theorem dJ5_appendNull_278bc_82 : decode cJ5_appendNull_278bc 82 = .ok (.areturn, 1) := by decide +kernel
theorem dJ5_append_3fe6f_0 : decode cJ5_append_3fe6f 0 = .ok (.aload_n 0, 1) := by decide +kernel
theorem dJ5_append_3fe6f_1 : decode cJ5_append_3fe6f 1 = .ok (.aload_n 0, 1) := by decide +kernel
theorem dJ5_append_3fe6f_2 : decode cJ5_append_3fe6f 2 = .ok (.getfield 79, 3) := by decide +kernel
theorem dJ5_append_3fe6f_5 : decode cJ5_append_3fe6f 5 = .ok (.iconst 1, 1) := by decide +kernel
theorem dJ5_append_3fe6f_6 : decode cJ5_append_3fe6f 6 = .ok (.iadd, 1) := by decide +kernel
theorem dJ5_append_3fe6f_7 : decode cJ5_append_3fe6f 7 = .ok (.invokevirtual 100, 3) := by decide +kernel
theorem dJ5_append_3fe6f_10 : decode cJ5_append_3fe6f 10 = .ok (.aload_n 0, 1) := by decide +kernel
theorem dJ5_append_3fe6f_11 : decode cJ5_append_3fe6f 11 = .ok (.invokevirtual 83, 3) := by decide +kernel
theorem dJ5_append_3fe6f_14 : decode cJ5_append_3fe6f 14 = .ok (.ifCond .eq 31, 3) := by decide +kernel
theorem dJ5_append_3fe6f_17 : decode cJ5_append_3fe6f 17 = .ok (.iload_n 1, 1) := by decide +kernel
theorem dJ5_append_3fe6f_18 : decode cJ5_append_3fe6f 18 = .ok (.invokestatic 191, 3) := by decide +kernel
theorem dJ5_append_3fe6f_21 : decode cJ5_append_3fe6f 21 = .ok (.ifCond .eq 24, 3) := by decide +kernel
theorem dJ5_append_3fe6f_24 : decode cJ5_append_3fe6f 24 = .ok (.aload_n 0, 1) := by decide +kernel
theorem dJ5_append_3fe6f_25 : decode cJ5_append_3fe6f 25 = .ok (.getfield 15, 3) := by decide +kernel
theorem dJ5_append_3fe6f_28 : decode cJ5_append_3fe6f 28 = .ok (.aload_n 0, 1) := by decide +kernel
theorem dJ5_append_3fe6f_29 : decode cJ5_append_3fe6f 29 = .ok (.dup, 1) := by decide +kernel
theorem dJ5_append_3fe6f_30 : decode cJ5_append_3fe6f 30 = .ok (.getfield 79, 3) := by decide +kernel
theorem dJ5_append_3fe6f_33 : decode cJ5_append_3fe6f 33 = .ok (.dup_x1, 1) := by decide +kernel
theorem dJ5_append_3fe6f_34 : decode cJ5_append_3fe6f 34 = .ok (.iconst 1, 1) := by decide +kernel
theorem dJ5_append_3fe6f_35 : decode cJ5_append_3fe6f 35 = .ok (.iadd, 1) := by decide +kernel
theorem dJ5_append_3fe6f_36 : decode cJ5_append_3fe6f 36 = .ok (.putfield 79, 3) := by decide +kernel
theorem dJ5_append_3fe6f_39 : decode cJ5_append_3fe6f 39 = .ok (.iload_n 1, 1) := by decide +kernel
theorem dJ5_append_3fe6f_40 : decode cJ5_append_3fe6f 40 = .ok (.i2b, 1) := by decide +kernel
theorem dJ5_append_3fe6f_41 : decode cJ5_append_3fe6f 41 = .ok (.bastore, 1) := by decide +kernel
theorem dJ5_append_3fe6f_42 : decode cJ5_append_3fe6f 42 = .ok (.goto 33, 3) := by decide +kernel
theorem dJ5_append_3fe6f_45 : decode cJ5_append_3fe6f 45 = .ok (.aload_n 0, 1) := by decide +kernel
theorem dJ5_append_3fe6f_46 : decode cJ5_append_3fe6f 46 = .ok (.invokevirtual 83, 3) := by decide +kernel
theorem dJ5_append_3fe6f_49 : decode cJ5_append_3fe6f 49 = .ok (.ifCond .eq 7, 3) := by decide +kernel
theorem dJ5_append_3fe6f_52 : decode cJ5_append_3fe6f 52 = .ok (.aload_n 0, 1) := by decide +kernel
theorem dJ5_append_3fe6f_53 : decode cJ5_append_3fe6f 53 = .ok (.invokevirtual 195, 3) := by decide +kernel
theorem dJ5_append_3fe6f_56 : decode cJ5_append_3fe6f 56 = .ok (.aload_n 0, 1) := by decide +kernel
theorem dJ5_append_3fe6f_57 : decode cJ5_append_3fe6f 57 = .ok (.getfield 15, 3) := by decide +kernel
theorem dJ5_append_3fe6f_60 : decode cJ5_append_3fe6f 60 = .ok (.aload_n 0, 1) := by decide +kernel
theorem dJ5_append_3fe6f_61 : decode cJ5_append_3fe6f 61 = .ok (.dup, 1) := by decide +kernel
theorem dJ5_append_3fe6f_62 : decode cJ5_append_3fe6f 62 = .ok (.getfield 79, 3) := by decide +kernel
theorem dJ5_append_3fe6f_65 : decode cJ5_append_3fe6f 65 = .ok (.dup_x1, 1) := by decide +kernel
theorem dJ5_append_3fe6f_66 : decode cJ5_append_3fe6f 66 = .ok (.iconst 1, 1) := by decide +kernel
theorem dJ5_append_3fe6f_67 : decode cJ5_append_3fe6f 67 = .ok (.iadd, 1) := by decide +kernel
theorem dJ5_append_3fe6f_68 : decode cJ5_append_3fe6f 68 = .ok (.putfield 79, 3) := by decide +kernel
theorem dJ5_append_3fe6f_71 : decode cJ5_append_3fe6f 71 = .ok (.iload_n 1, 1) := by decide +kernel
theorem dJ5_append_3fe6f_72 : decode cJ5_append_3fe6f 72 = .ok (.invokestatic 197, 3) := by decide +kernel
theorem dJ5_append_3fe6f_75 : decode cJ5_append_3fe6f 75 = .ok (.aload_n 0, 1) := by decide +kernel
theorem dJ5_append_3fe6f_76 : decode cJ5_append_3fe6f 76 = .ok (.areturn, 1) := by decide +kernel
theorem dJ5_append_c97b9_0 : decode cJ5_append_c97b9 0 = .ok (.aload_n 0, 1) := by decide +kernel
theorem dJ5_append_c97b9_1 : decode cJ5_append_c97b9 1 = .ok (.getfield 79, 3) := by decide +kernel
theorem dJ5_append_c97b9_4 : decode cJ5_append_c97b9 4 = .ok (.istore_n 2, 1) := by decide +kernel
theorem dJ5_append_c97b9_5 : decode cJ5_append_c97b9 5 = .ok (.iload_n 2, 1) := by decide +kernel
theorem dJ5_append_c97b9_6 : decode cJ5_append_c97b9 6 = .ok (.iload_n 1, 1) := by decide +kernel
theorem dJ5_append_c97b9_7 : decode cJ5_append_c97b9 7 = .ok (.invokestatic 245, 3) := by decide +kernel
theorem dJ5_append_c97b9_10 : decode cJ5_append_c97b9 10 = .ok (.iadd, 1) := by decide +kernel
theorem dJ5_append_c97b9_11 : decode cJ5_append_c97b9 11 = .ok (.istore_n 3, 1) := by decide +kernel
theorem dJ5_append_c97b9_12 : decode cJ5_append_c97b9 12 = .ok (.aload_n 0, 1) := by decide +kernel
theorem dJ5_append_c97b9_13 : decode cJ5_append_c97b9 13 = .ok (.iload_n 3, 1) := by decide +kernel
theorem dJ5_append_c97b9_14 : decode cJ5_append_c97b9 14 = .ok (.invokevirtual 100, 3) := by decide +kernel
theorem dJ5_append_c97b9_17 : decode cJ5_append_c97b9 17 = .ok (.aload_n 0, 1) := by decide +kernel
theorem dJ5_append_c97b9_18 : decode cJ5_append_c97b9 18 = .ok (.invokevirtual 83, 3) := by decide +kernel
theorem dJ5_append_c97b9_21 : decode cJ5_append_c97b9 21 = .ok (.ifCond .eq 16, 3) := by decide +kernel
theorem dJ5_append_c97b9_24 : decode cJ5_append_c97b9 24 = .ok (.iload_n 1, 1) := by decide +kernel
theorem dJ5_append_c97b9_25 : decode cJ5_append_c97b9 25 = .ok (.iload_n 3, 1) := by decide +kernel
theorem dJ5_append_c97b9_26 : decode cJ5_append_c97b9 26 = .ok (.aload_n 0, 1) := by decide +kernel
theorem dJ5_append_c97b9_27 : decode cJ5_append_c97b9 27 = .ok (.getfield 15, 3) := by decide +kernel
theorem dJ5_append_c97b9_30 : decode cJ5_append_c97b9 30 = .ok (.invokestatic 248, 3) := by decide +kernel
theorem dJ5_append_c97b9_33 : decode cJ5_append_c97b9 33 = .ok (.pop, 1) := by decide +kernel
theorem dJ5_append_c97b9_34 : decode cJ5_append_c97b9 34 = .ok (.goto 14, 3) := by decide +kernel
theorem dJ5_append_c97b9_37 : decode cJ5_append_c97b9 37 = .ok (.iload_n 1, 1) := by decide +kernel
theorem dJ5_append_c97b9_38 : decode cJ5_append_c97b9 38 = .ok (.iload_n 2, 1) := by decide +kernel
theorem dJ5_append_c97b9_39 : decode cJ5_append_c97b9 39 = .ok (.iload_n 3, 1) := by decide +kernel
theorem dJ5_append_c97b9_40 : decode cJ5_append_c97b9 40 = .ok (.aload_n 0, 1) := by decide +kernel
theorem dJ5_append_c97b9_41 : decode cJ5_append_c97b9 41 = .ok (.getfield 15, 3) := by decide +kernel
theorem dJ5_append_c97b9_44 : decode cJ5_append_c97b9 44 = .ok (.invokestatic 251, 3) := by decide +kernel
theorem dJ5_append_c97b9_47 : decode cJ5_append_c97b9 47 = .ok (.pop, 1) := by decide +kernel
theorem dJ5_append_c97b9_48 : decode cJ5_append_c97b9 48 = .ok (.aload_n 0, 1) := by decide +kernel
theorem dJ5_append_c97b9_49 : decode cJ5_append_c97b9 49 = .ok (.iload_n 3, 1) := by decide +kernel
theorem dJ5_append_c97b9_50 : decode cJ5_append_c97b9 50 = .ok (.putfield 79, 3) := by decide +kernel
theorem dJ5_append_c97b9_53 : decode cJ5_append_c97b9 53 = .ok (.aload_n 0, 1) := by decide +kernel
theorem dJ5_append_c97b9_54 : decode cJ5_append_c97b9 54 = .ok (.areturn, 1) := by decide +kernel
theorem dJ5_getValue_6d5f1_0 : decode cJ5_getValue_6d5f1 0 = .ok (.aload_n 0, 1) := by decide +kernel
theorem dJ5_getValue_6d5f1_1 : decode cJ5_getValue_6d5f1 1 = .ok (.getfield 15, 3) := by decide +kernel
theorem dJ5_getValue_6d5f1_4 : decode cJ5_getValue_6d5f1 4 = .ok (.areturn, 1) := by decide +kernel
theorem dJ5_isLatin1_aae02_0 : decode cJ5_isLatin1_aae02 0 = .ok (.getstatic 18, 3) := by decide +kernel
theorem dJ5_isLatin1_aae02_3 : decode cJ5_isLatin1_aae02 3 = .ok (.ifCond .eq 14, 3) := by decide +kernel
theorem dJ5_isLatin1_aae02_6 : decode cJ5_isLatin1_aae02 6 = .ok (.aload_n 0, 1) := by decide +kernel
theorem dJ5_isLatin1_aae02_7 : decode cJ5_isLatin1_aae02 7 = .ok (.getfield 22, 3) := by decide +kernel
theorem dJ5_isLatin1_aae02_10 : decode cJ5_isLatin1_aae02 10 = .ok (.ifCond .ne 7, 3) := by decide +kernel
theorem dJ5_isLatin1_aae02_13 : decode cJ5_isLatin1_aae02 13 = .ok (.iconst 1, 1) := by decide +kernel
theorem dJ5_isLatin1_aae02_14 : decode cJ5_isLatin1_aae02 14 = .ok (.goto 4, 3) := by decide +kernel
theorem dJ5_isLatin1_aae02_17 : decode cJ5_isLatin1_aae02 17 = .ok (.iconst 0, 1) := by decide +kernel
theorem dJ5_isLatin1_aae02_18 : decode cJ5_isLatin1_aae02 18 = .ok (.ireturn, 1) := by decide +kernel
theorem dJ5_putStringAt_47b60_0 : decode cJ5_putStringAt_47b60 0 = .ok (.aload_n 0, 1) := by decide +kernel
theorem dJ5_putStringAt_47b60_1 : decode cJ5_putStringAt_47b60 1 = .ok (.aload_n 2, 1) := by decide +kernel
theorem dJ5_putStringAt_47b60_2 : decode cJ5_putStringAt_47b60 2 = .ok (.invokevirtual 397, 3) := by decide +kernel
theorem dJ5_putStringAt_47b60_5 : decode cJ5_putStringAt_47b60 5 = .ok (.aload_n 2, 1) := by decide +kernel
theorem dJ5_putStringAt_47b60_6 : decode cJ5_putStringAt_47b60 6 = .ok (.aload_n 0, 1) := by decide +kernel
theorem dJ5_putStringAt_47b60_7 : decode cJ5_putStringAt_47b60 7 = .ok (.getfield 15, 3) := by decide +kernel
theorem dJ5_putStringAt_47b60_10 : decode cJ5_putStringAt_47b60 10 = .ok (.iload_n 1, 1) := by decide +kernel
theorem dJ5_putStringAt_47b60_11 : decode cJ5_putStringAt_47b60 11 = .ok (.aload_n 0, 1) := by decide +kernel
theorem dJ5_putStringAt_47b60_12 : decode cJ5_putStringAt_47b60 12 = .ok (.getfield 22, 3) := by decide +kernel
theorem dJ5_putStringAt_47b60_15 : decode cJ5_putStringAt_47b60 15 = .ok (.invokevirtual 399, 3) := by decide +kernel
theorem dJ5_putStringAt_47b60_18 : decode cJ5_putStringAt_47b60 18 = .ok (.return_, 1) := by decide +kernel
theorem dJ6_getChars_ba4f3_0 : decode cJ6_getChars_ba4f3 0 = .ok (.iload_n 1, 1) := by decide +kernel
theorem dJ6_getChars_ba4f3_1 : decode cJ6_getChars_ba4f3 1 = .ok (.istore 5, 2) := by decide +kernel
theorem dJ6_getChars_ba4f3_3 : decode cJ6_getChars_ba4f3 3 = .ok (.iload_n 0, 1) := by decide +kernel
theorem dJ6_getChars_ba4f3_4 : decode cJ6_getChars_ba4f3 4 = .ok (.ifCond .ge 7, 3) := by decide +kernel
theorem dJ6_getChars_ba4f3_7 : decode cJ6_getChars_ba4f3 7 = .ok (.iconst 1, 1) := by decide +kernel
theorem dJ6_getChars_ba4f3_8 : decode cJ6_getChars_ba4f3 8 = .ok (.goto 4, 3) := by decide +kernel
theorem dJ6_getChars_ba4f3_11 : decode cJ6_getChars_ba4f3 11 = .ok (.iconst 0, 1) := by decide +kernel
theorem dJ6_getChars_ba4f3_12 : decode cJ6_getChars_ba4f3 12 = .ok (.istore 6, 2) := by decide +kernel
theorem dJ6_getChars_ba4f3_14 : decode cJ6_getChars_ba4f3 14 = .ok (.iload 6, 2) := by decide +kernel
theorem dJ6_getChars_ba4f3_16 : decode cJ6_getChars_ba4f3 16 = .ok (.ifCond .ne 6, 3) := by decide +kernel
theorem dJ6_getChars_ba4f3_19 : decode cJ6_getChars_ba4f3 19 = .ok (.iload_n 0, 1) := by decide +kernel
theorem dJ6_getChars_ba4f3_20 : decode cJ6_getChars_ba4f3 20 = .ok (.ineg, 1) := by decide +kernel
theorem dJ6_getChars_ba4f3_21 : decode cJ6_getChars_ba4f3 21 = .ok (.istore_n 0, 1) := by decide +kernel
theorem dJ6_getChars_ba4f3_22 : decode cJ6_getChars_ba4f3 22 = .ok (.iload_n 0, 1) := by decide +kernel
theorem dJ6_getChars_ba4f3_23 : decode cJ6_getChars_ba4f3 23 = .ok (.bipush (-100), 2) := by decide +kernel
theorem dJ6_getChars_ba4f3_25 : decode cJ6_getChars_ba4f3 25 = .ok (.if_icmp .gt 47, 3) := by decide +kernel
theorem dJ6_getChars_ba4f3_28 : decode cJ6_getChars_ba4f3 28 = .ok (.iload_n 0, 1) := by decide +kernel
theorem dJ6_getChars_ba4f3_29 : decode cJ6_getChars_ba4f3 29 = .ok (.bipush 100, 2) := by decide +kernel
theorem dJ6_getChars_ba4f3_31 : decode cJ6_getChars_ba4f3 31 = .ok (.idiv, 1) := by decide +kernel
theorem dJ6_getChars_ba4f3_32 : decode cJ6_getChars_ba4f3 32 = .ok (.istore_n 3, 1) := by decide +kernel
theorem dJ6_getChars_ba4f3_33 : decode cJ6_getChars_ba4f3 33 = .ok (.iload_n 3, 1) := by decide +kernel
theorem dJ6_getChars_ba4f3_34 : decode cJ6_getChars_ba4f3 34 = .ok (.bipush 100, 2) := by decide +kernel
theorem dJ6_getChars_ba4f3_36 : decode cJ6_getChars_ba4f3 36 = .ok (.imul, 1) := by decide +kernel
theorem dJ6_getChars_ba4f3_37 : decode cJ6_getChars_ba4f3 37 = .ok (.iload_n 0, 1) := by decide +kernel
theorem dJ6_getChars_ba4f3_38 : decode cJ6_getChars_ba4f3 38 = .ok (.isub, 1) := by decide +kernel
theorem dJ6_getChars_ba4f3_39 : decode cJ6_getChars_ba4f3 39 = .ok (.istore 4, 2) := by decide +kernel
theorem dJ6_getChars_ba4f3_41 : decode cJ6_getChars_ba4f3 41 = .ok (.iload_n 3, 1) := by decide +kernel
theorem dJ6_getChars_ba4f3_42 : decode cJ6_getChars_ba4f3 42 = .ok (.istore_n 0, 1) := by decide +kernel
theorem dJ6_getChars_ba4f3_43 : decode cJ6_getChars_ba4f3 43 = .ok (.aload_n 2, 1) := by decide +kernel
theorem dJ6_getChars_ba4f3_44 : decode cJ6_getChars_ba4f3 44 = .ok (.iinc 5 (-1), 3) := by decide +kernel
theorem dJ6_getChars_ba4f3_47 : decode cJ6_getChars_ba4f3 47 = .ok (.iload 5, 2) := by decide +kernel
theorem dJ6_getChars_ba4f3_49 : decode cJ6_getChars_ba4f3 49 = .ok (.getstatic 83, 3) := by decide +kernel
theorem dJ6_getChars_ba4f3_52 : decode cJ6_getChars_ba4f3 52 = .ok (.iload 4, 2) := by decide +kernel
theorem dJ6_getChars_ba4f3_54 : decode cJ6_getChars_ba4f3 54 = .ok (.baload, 1) := by decide +kernel
theorem dJ6_getChars_ba4f3_55 : decode cJ6_getChars_ba4f3 55 = .ok (.bastore, 1) := by decide +kernel
theorem dJ6_getChars_ba4f3_56 : decode cJ6_getChars_ba4f3 56 = .ok (.aload_n 2, 1) := by decide +kernel
theorem dJ6_getChars_ba4f3_57 : decode cJ6_getChars_ba4f3 57 = .ok (.iinc 5 (-1), 3) := by decide +kernel
theorem dJ6_getChars_ba4f3_60 : decode cJ6_getChars_ba4f3 60 = .ok (.iload 5, 2) := by decide +kernel
theorem dJ6_getChars_ba4f3_62 : decode cJ6_getChars_ba4f3 62 = .ok (.getstatic 87, 3) := by decide +kernel
theorem dJ6_getChars_ba4f3_65 : decode cJ6_getChars_ba4f3 65 = .ok (.iload 4, 2) := by decide +kernel
theorem dJ6_getChars_ba4f3_67 : decode cJ6_getChars_ba4f3 67 = .ok (.baload, 1) := by decide +kernel
theorem dJ6_getChars_ba4f3_68 : decode cJ6_getChars_ba4f3 68 = .ok (.bastore, 1) := by decide +kernel
theorem dJ6_getChars_ba4f3_69 : decode cJ6_getChars_ba4f3 69 = .ok (.goto (-47), 3) := by decide +kernel
theorem dJ6_getChars_ba4f3_72 : decode cJ6_getChars_ba4f3 72 = .ok (.aload_n 2, 1) := by decide +kernel
theorem dJ6_getChars_ba4f3_73 : decode cJ6_getChars_ba4f3 73 = .ok (.iinc 5 (-1), 3) := by decide +kernel
theorem dJ6_getChars_ba4f3_76 : decode cJ6_getChars_ba4f3 76 = .ok (.iload 5, 2) := by decide +kernel
theorem dJ6_getChars_ba4f3_78 : decode cJ6_getChars_ba4f3 78 = .ok (.getstatic 83, 3) := by decide +kernel
theorem dJ6_getChars_ba4f3_81 : decode cJ6_getChars_ba4f3 81 = .ok (.iload_n 0, 1) := by decide +kernel
theorem dJ6_getChars_ba4f3_82 : decode cJ6_getChars_ba4f3 82 = .ok (.ineg, 1) := by decide +kernel
theorem dJ6_getChars_ba4f3_83 : decode cJ6_getChars_ba4f3 83 = .ok (.baload, 1) := by decide +kernel
theorem dJ6_getChars_ba4f3_84 : decode cJ6_getChars_ba4f3 84 = .ok (.bastore, 1) := by decide +kernel
theorem dJ6_getChars_ba4f3_85 : decode cJ6_getChars_ba4f3 85 = .ok (.iload_n 0, 1) := by decide +kernel
theorem dJ6_getChars_ba4f3_86 : decode cJ6_getChars_ba4f3 86 = .ok (.bipush (-9), 2) := by decide +kernel
theorem dJ6_getChars_ba4f3_88 : decode cJ6_getChars_ba4f3 88 = .ok (.if_icmp .ge 16, 3) := by decide +kernel
theorem dJ6_getChars_ba4f3_91 : decode cJ6_getChars_ba4f3 91 = .ok (.aload_n 2, 1) := by decide +kernel
theorem dJ6_getChars_ba4f3_92 : decode cJ6_getChars_ba4f3 92 = .ok (.iinc 5 (-1), 3) := by decide +kernel
theorem dJ6_getChars_ba4f3_95 : decode cJ6_getChars_ba4f3 95 = .ok (.iload 5, 2) := by decide +kernel
theorem dJ6_getChars_ba4f3_97 : decode cJ6_getChars_ba4f3 97 = .ok (.getstatic 87, 3) := by decide +kernel
theorem dJ6_getChars_ba4f3_100 : decode cJ6_getChars_ba4f3 100 = .ok (.iload_n 0, 1) := by decide +kernel
theorem dJ6_getChars_ba4f3_101 : decode cJ6_getChars_ba4f3 101 = .ok (.ineg, 1) := by decide +kernel
theorem dJ6_getChars_ba4f3_102 : decode cJ6_getChars_ba4f3 102 = .ok (.baload, 1) := by decide +kernel
theorem dJ6_getChars_ba4f3_103 : decode cJ6_getChars_ba4f3 103 = .ok (.bastore, 1) := by decide +kernel
theorem dJ6_getChars_ba4f3_104 : decode cJ6_getChars_ba4f3 104 = .ok (.iload 6, 2) := by decide +kernel
theorem dJ6_getChars_ba4f3_106 : decode cJ6_getChars_ba4f3 106 = .ok (.ifCond .eq 12, 3) := by decide +kernel
theorem dJ6_getChars_ba4f3_109 : decode cJ6_getChars_ba4f3 109 = .ok (.aload_n 2, 1) := by decide +kernel
theorem dJ6_getChars_ba4f3_110 : decode cJ6_getChars_ba4f3 110 = .ok (.iinc 5 (-1), 3) := by decide +kernel
theorem dJ6_getChars_ba4f3_113 : decode cJ6_getChars_ba4f3 113 = .ok (.iload 5, 2) := by decide +kernel
theorem dJ6_getChars_ba4f3_115 : decode cJ6_getChars_ba4f3 115 = .ok (.bipush 45, 2) := by decide +kernel
theorem dJ6_getChars_ba4f3_117 : decode cJ6_getChars_ba4f3 117 = .ok (.bastore, 1) := by decide +kernel
theorem dJ6_getChars_ba4f3_118 : decode cJ6_getChars_ba4f3 118 = .ok (.iload 5, 2) := by decide +kernel
theorem dJ6_getChars_ba4f3_120 : decode cJ6_getChars_ba4f3 120 = .ok (.ireturn, 1) := by decide +kernel
theorem dJ6_stringSize_0f7a4_0 : decode cJ6_stringSize_0f7a4 0 = .ok (.iconst 1, 1) := by decide +kernel
theorem dJ6_stringSize_0f7a4_1 : decode cJ6_stringSize_0f7a4 1 = .ok (.istore_n 1, 1) := by decide +kernel
theorem dJ6_stringSize_0f7a4_2 : decode cJ6_stringSize_0f7a4 2 = .ok (.iload_n 0, 1) := by decide +kernel
theorem dJ6_stringSize_0f7a4_3 : decode cJ6_stringSize_0f7a4 3 = .ok (.ifCond .lt 8, 3) := by decide +kernel
theorem dJ6_stringSize_0f7a4_6 : decode cJ6_stringSize_0f7a4 6 = .ok (.iconst 0, 1) := by decide +kernel
theorem dJ6_stringSize_0f7a4_7 : decode cJ6_stringSize_0f7a4 7 = .ok (.istore_n 1, 1) := by decide +kernel
theorem dJ6_stringSize_0f7a4_8 : decode cJ6_stringSize_0f7a4 8 = .ok (.iload_n 0, 1) := by decide +kernel
theorem dJ6_stringSize_0f7a4_9 : decode cJ6_stringSize_0f7a4 9 = .ok (.ineg, 1) := by decide +kernel
theorem dJ6_stringSize_0f7a4_10 : decode cJ6_stringSize_0f7a4 10 = .ok (.istore_n 0, 1) := by decide +kernel
theorem dJ6_stringSize_0f7a4_11 : decode cJ6_stringSize_0f7a4 11 = .ok (.bipush (-10), 2) := by decide +kernel
theorem dJ6_stringSize_0f7a4_13 : decode cJ6_stringSize_0f7a4 13 = .ok (.istore_n 2, 1) := by decide +kernel
theorem dJ6_stringSize_0f7a4_14 : decode cJ6_stringSize_0f7a4 14 = .ok (.iconst 1, 1) := by decide +kernel
theorem dJ6_stringSize_0f7a4_15 : decode cJ6_stringSize_0f7a4 15 = .ok (.istore_n 3, 1) := by decide +kernel
theorem dJ6_stringSize_0f7a4_16 : decode cJ6_stringSize_0f7a4 16 = .ok (.iload_n 3, 1) := by decide +kernel
theorem dJ6_stringSize_0f7a4_17 : decode cJ6_stringSize_0f7a4 17 = .ok (.bipush 10, 2) := by decide +kernel
theorem dJ6_stringSize_0f7a4_19 : decode cJ6_stringSize_0f7a4 19 = .ok (.if_icmp .ge 23, 3) := by decide +kernel
theorem dJ6_stringSize_0f7a4_22 : decode cJ6_stringSize_0f7a4 22 = .ok (.iload_n 0, 1) := by decide +kernel
theorem dJ6_stringSize_0f7a4_23 : decode cJ6_stringSize_0f7a4 23 = .ok (.iload_n 2, 1) := by decide +kernel
theorem dJ6_stringSize_0f7a4_24 : decode cJ6_stringSize_0f7a4 24 = .ok (.if_icmp .le 7, 3) := by decide +kernel
theorem dJ6_stringSize_0f7a4_27 : decode cJ6_stringSize_0f7a4 27 = .ok (.iload_n 3, 1) := by decide +kernel
theorem dJ6_stringSize_0f7a4_28 : decode cJ6_stringSize_0f7a4 28 = .ok (.iload_n 1, 1) := by decide +kernel
theorem dJ6_stringSize_0f7a4_29 : decode cJ6_stringSize_0f7a4 29 = .ok (.iadd, 1) := by decide +kernel
theorem dJ6_stringSize_0f7a4_30 : decode cJ6_stringSize_0f7a4 30 = .ok (.ireturn, 1) := by decide +kernel
theorem dJ6_stringSize_0f7a4_31 : decode cJ6_stringSize_0f7a4 31 = .ok (.bipush 10, 2) := by decide +kernel
theorem dJ6_stringSize_0f7a4_33 : decode cJ6_stringSize_0f7a4 33 = .ok (.iload_n 2, 1) := by decide +kernel
theorem dJ6_stringSize_0f7a4_34 : decode cJ6_stringSize_0f7a4 34 = .ok (.imul, 1) := by decide +kernel
theorem dJ6_stringSize_0f7a4_35 : decode cJ6_stringSize_0f7a4 35 = .ok (.istore_n 2, 1) := by decide +kernel
theorem dJ6_stringSize_0f7a4_36 : decode cJ6_stringSize_0f7a4 36 = .ok (.iinc 3 1, 3) := by decide +kernel
theorem dJ6_stringSize_0f7a4_39 : decode cJ6_stringSize_0f7a4 39 = .ok (.goto (-23), 3) := by decide +kernel
theorem dJ6_stringSize_0f7a4_42 : decode cJ6_stringSize_0f7a4 42 = .ok (.bipush 10, 2) := by decide +kernel
theorem dJ6_stringSize_0f7a4_44 : decode cJ6_stringSize_0f7a4 44 = .ok (.iload_n 1, 1) := by decide +kernel
theorem dJ6_stringSize_0f7a4_45 : decode cJ6_stringSize_0f7a4 45 = .ok (.iadd, 1) := by decide +kernel
theorem dJ6_stringSize_0f7a4_46 : decode cJ6_stringSize_0f7a4 46 = .ok (.ireturn, 1) := by decide +kernel
theorem dJ13_bitCount_95d88_0 : decode cJ13_bitCount_95d88 0 = .ok (.lload_n 0, 1) := by decide +kernel
theorem dJ13_bitCount_95d88_1 : decode cJ13_bitCount_95d88 1 = .ok (.lload_n 0, 1) := by decide +kernel
theorem dJ13_bitCount_95d88_2 : decode cJ13_bitCount_95d88 2 = .ok (.iconst 1, 1) := by decide +kernel
theorem dJ13_bitCount_95d88_3 : decode cJ13_bitCount_95d88 3 = .ok (.lushr, 1) := by decide +kernel
theorem dJ13_bitCount_95d88_4 : decode cJ13_bitCount_95d88 4 = .ok (.ldc2_w 314, 3) := by decide +kernel
theorem dJ13_bitCount_95d88_7 : decode cJ13_bitCount_95d88 7 = .ok (.land, 1) := by decide +kernel
theorem dJ13_bitCount_95d88_8 : decode cJ13_bitCount_95d88 8 = .ok (.lsub, 1) := by decide +kernel
theorem dJ13_bitCount_95d88_9 : decode cJ13_bitCount_95d88 9 = .ok (.lstore_n 0, 1) := by decide +kernel
theorem dJ13_bitCount_95d88_10 : decode cJ13_bitCount_95d88 10 = .ok (.lload_n 0, 1) := by decide +kernel
theorem dJ13_bitCount_95d88_11 : decode cJ13_bitCount_95d88 11 = .ok (.ldc2_w 316, 3) := by decide +kernel
theorem dJ13_bitCount_95d88_14 : decode cJ13_bitCount_95d88 14 = .ok (.land, 1) := by decide +kernel
theorem dJ13_bitCount_95d88_15 : decode cJ13_bitCount_95d88 15 = .ok (.lload_n 0, 1) := by decide +kernel
theorem dJ13_bitCount_95d88_16 : decode cJ13_bitCount_95d88 16 = .ok (.iconst 2, 1) := by decide +kernel
theorem dJ13_bitCount_95d88_17 : decode cJ13_bitCount_95d88 17 = .ok (.lushr, 1) := by decide +kernel
theorem dJ13_bitCount_95d88_18 : decode cJ13_bitCount_95d88 18 = .ok (.ldc2_w 316, 3) := by decide +kernel
theorem dJ13_bitCount_95d88_21 : decode cJ13_bitCount_95d88 21 = .ok (.land, 1) := by decide +kernel
theorem dJ13_bitCount_95d88_22 : decode cJ13_bitCount_95d88 22 = .ok (.ladd, 1) := by decide +kernel
theorem dJ13_bitCount_95d88_23 : decode cJ13_bitCount_95d88 23 = .ok (.lstore_n 0, 1) := by decide +kernel
theorem dJ13_bitCount_95d88_24 : decode cJ13_bitCount_95d88 24 = .ok (.lload_n 0, 1) := by decide +kernel
theorem dJ13_bitCount_95d88_25 : decode cJ13_bitCount_95d88 25 = .ok (.lload_n 0, 1) := by decide +kernel
theorem dJ13_bitCount_95d88_26 : decode cJ13_bitCount_95d88 26 = .ok (.iconst 4, 1) := by decide +kernel
theorem dJ13_bitCount_95d88_27 : decode cJ13_bitCount_95d88 27 = .ok (.lushr, 1) := by decide +kernel
theorem dJ13_bitCount_95d88_28 : decode cJ13_bitCount_95d88 28 = .ok (.ladd, 1) := by decide +kernel
theorem dJ13_bitCount_95d88_29 : decode cJ13_bitCount_95d88 29 = .ok (.ldc2_w 318, 3) := by decide +kernel
theorem dJ13_bitCount_95d88_32 : decode cJ13_bitCount_95d88 32 = .ok (.land, 1) := by decide +kernel
theorem dJ13_bitCount_95d88_33 : decode cJ13_bitCount_95d88 33 = .ok (.lstore_n 0, 1) := by decide +kernel
theorem dJ13_bitCount_95d88_34 : decode cJ13_bitCount_95d88 34 = .ok (.lload_n 0, 1) := by decide +kernel
theorem dJ13_bitCount_95d88_35 : decode cJ13_bitCount_95d88 35 = .ok (.lload_n 0, 1) := by decide +kernel
theorem dJ13_bitCount_95d88_36 : decode cJ13_bitCount_95d88 36 = .ok (.bipush 8, 2) := by decide +kernel
theorem dJ13_bitCount_95d88_38 : decode cJ13_bitCount_95d88 38 = .ok (.lushr, 1) := by decide +kernel
theorem dJ13_bitCount_95d88_39 : decode cJ13_bitCount_95d88 39 = .ok (.ladd, 1) := by decide +kernel
theorem dJ13_bitCount_95d88_40 : decode cJ13_bitCount_95d88 40 = .ok (.lstore_n 0, 1) := by decide +kernel
theorem dJ13_bitCount_95d88_41 : decode cJ13_bitCount_95d88 41 = .ok (.lload_n 0, 1) := by decide +kernel
theorem dJ13_bitCount_95d88_42 : decode cJ13_bitCount_95d88 42 = .ok (.lload_n 0, 1) := by decide +kernel
theorem dJ13_bitCount_95d88_43 : decode cJ13_bitCount_95d88 43 = .ok (.bipush 16, 2) := by decide +kernel
theorem dJ13_bitCount_95d88_45 : decode cJ13_bitCount_95d88 45 = .ok (.lushr, 1) := by decide +kernel
theorem dJ13_bitCount_95d88_46 : decode cJ13_bitCount_95d88 46 = .ok (.ladd, 1) := by decide +kernel
theorem dJ13_bitCount_95d88_47 : decode cJ13_bitCount_95d88 47 = .ok (.lstore_n 0, 1) := by decide +kernel
theorem dJ13_bitCount_95d88_48 : decode cJ13_bitCount_95d88 48 = .ok (.lload_n 0, 1) := by decide +kernel
theorem dJ13_bitCount_95d88_49 : decode cJ13_bitCount_95d88 49 = .ok (.lload_n 0, 1) := by decide +kernel
theorem dJ13_bitCount_95d88_50 : decode cJ13_bitCount_95d88 50 = .ok (.bipush 32, 2) := by decide +kernel
theorem dJ13_bitCount_95d88_52 : decode cJ13_bitCount_95d88 52 = .ok (.lushr, 1) := by decide +kernel
theorem dJ13_bitCount_95d88_53 : decode cJ13_bitCount_95d88 53 = .ok (.ladd, 1) := by decide +kernel
theorem dJ13_bitCount_95d88_54 : decode cJ13_bitCount_95d88 54 = .ok (.lstore_n 0, 1) := by decide +kernel
theorem dJ13_bitCount_95d88_55 : decode cJ13_bitCount_95d88 55 = .ok (.lload_n 0, 1) := by decide +kernel
theorem dJ13_bitCount_95d88_56 : decode cJ13_bitCount_95d88 56 = .ok (.l2i, 1) := by decide +kernel
theorem dJ13_bitCount_95d88_57 : decode cJ13_bitCount_95d88 57 = .ok (.bipush 127, 2) := by decide +kernel
theorem dJ13_bitCount_95d88_59 : decode cJ13_bitCount_95d88 59 = .ok (.iand, 1) := by decide +kernel
theorem dJ13_bitCount_95d88_60 : decode cJ13_bitCount_95d88 60 = .ok (.ireturn, 1) := by decide +kernel
theorem dJ9_max_7cf53_0 : decode cJ9_max_7cf53 0 = .ok (.iload_n 0, 1) := by decide +kernel
theorem dJ9_max_7cf53_1 : decode cJ9_max_7cf53 1 = .ok (.iload_n 1, 1) := by decide +kernel
theorem dJ9_max_7cf53_2 : decode cJ9_max_7cf53 2 = .ok (.if_icmp .lt 7, 3) := by decide +kernel
theorem dJ9_max_7cf53_5 : decode cJ9_max_7cf53 5 = .ok (.iload_n 0, 1) := by decide +kernel
theorem dJ9_max_7cf53_6 : decode cJ9_max_7cf53 6 = .ok (.goto 4, 3) := by decide +kernel
theorem dJ9_max_7cf53_9 : decode cJ9_max_7cf53 9 = .ok (.iload_n 1, 1) := by decide +kernel
theorem dJ9_max_7cf53_10 : decode cJ9_max_7cf53 10 = .ok (.ireturn, 1) := by decide +kernel
theorem dJ9_min_7cf53_0 : decode cJ9_min_7cf53 0 = .ok (.iload_n 0, 1) := by decide +kernel
theorem dJ9_min_7cf53_1 : decode cJ9_min_7cf53 1 = .ok (.iload_n 1, 1) := by decide +kernel
theorem dJ9_min_7cf53_2 : decode cJ9_min_7cf53 2 = .ok (.if_icmp .gt 7, 3) := by decide +kernel
theorem dJ9_min_7cf53_5 : decode cJ9_min_7cf53 5 = .ok (.iload_n 0, 1) := by decide +kernel
theorem dJ9_min_7cf53_6 : decode cJ9_min_7cf53 6 = .ok (.goto 4, 3) := by decide +kernel
theorem dJ9_min_7cf53_9 : decode cJ9_min_7cf53 9 = .ok (.iload_n 1, 1) := by decide +kernel
theorem dJ9_min_7cf53_10 : decode cJ9_min_7cf53 10 = .ok (.ireturn, 1) := by decide +kernel
theorem dJ0_init_81219_0 : decode cJ0_init_81219 0 = .ok (.aload_n 0, 1) := by decide +kernel
theorem dJ0_init_81219_1 : decode cJ0_init_81219 1 = .ok (.aload_n 1, 1) := by decide +kernel
theorem dJ0_init_81219_2 : decode cJ0_init_81219 2 = .ok (.aconst_null, 1) := by decide +kernel
theorem dJ0_init_81219_3 : decode cJ0_init_81219 3 = .ok (.invokespecial 489, 3) := by decide +kernel
theorem dJ0_init_81219_6 : decode cJ0_init_81219 6 = .ok (.return_, 1) := by decide +kernel
theorem dJ0_length_8abf5_0 : decode cJ0_length_8abf5 0 = .ok (.aload_n 0, 1) := by decide +kernel
theorem dJ0_length_8abf5_1 : decode cJ0_length_8abf5 1 = .ok (.getfield 9, 3) := by decide +kernel
theorem dJ0_length_8abf5_4 : decode cJ0_length_8abf5 4 = .ok (.arraylength, 1) := by decide +kernel
theorem dJ0_length_8abf5_5 : decode cJ0_length_8abf5 5 = .ok (.aload_n 0, 1) := by decide +kernel
theorem dJ0_length_8abf5_6 : decode cJ0_length_8abf5 6 = .ok (.invokevirtual 335, 3) := by decide +kernel
theorem dJ0_length_8abf5_9 : decode cJ0_length_8abf5 9 = .ok (.ishr, 1) := by decide +kernel
theorem dJ0_length_8abf5_10 : decode cJ0_length_8abf5 10 = .ok (.ireturn, 1) := by decide +kernel
theorem dJ0_getBytes_840e7_0 : decode cJ0_getBytes_840e7 0 = .ok (.aload_n 0, 1) := by decide +kernel
theorem dJ0_getBytes_840e7_1 : decode cJ0_getBytes_840e7 1 = .ok (.invokevirtual 335, 3) := by decide +kernel
theorem dJ0_getBytes_840e7_4 : decode cJ0_getBytes_840e7 4 = .ok (.iload_n 3, 1) := by decide +kernel
theorem dJ0_getBytes_840e7_5 : decode cJ0_getBytes_840e7 5 = .ok (.if_icmp .ne 23, 3) := by decide +kernel
theorem dJ0_getBytes_840e7_8 : decode cJ0_getBytes_840e7 8 = .ok (.aload_n 0, 1) := by decide +kernel
theorem dJ0_getBytes_840e7_9 : decode cJ0_getBytes_840e7 9 = .ok (.getfield 9, 3) := by decide +kernel
theorem dJ0_getBytes_840e7_12 : decode cJ0_getBytes_840e7 12 = .ok (.iconst 0, 1) := by decide +kernel
theorem dJ0_getBytes_840e7_13 : decode cJ0_getBytes_840e7 13 = .ok (.aload_n 1, 1) := by decide +kernel
theorem dJ0_getBytes_840e7_14 : decode cJ0_getBytes_840e7 14 = .ok (.iload_n 2, 1) := by decide +kernel
theorem dJ0_getBytes_840e7_15 : decode cJ0_getBytes_840e7 15 = .ok (.iload_n 3, 1) := by decide +kernel
theorem dJ0_getBytes_840e7_16 : decode cJ0_getBytes_840e7 16 = .ok (.ishl, 1) := by decide +kernel
theorem dJ0_getBytes_840e7_17 : decode cJ0_getBytes_840e7 17 = .ok (.aload_n 0, 1) := by decide +kernel
theorem dJ0_getBytes_840e7_18 : decode cJ0_getBytes_840e7 18 = .ok (.getfield 9, 3) := by decide +kernel
theorem dJ0_getBytes_840e7_21 : decode cJ0_getBytes_840e7 21 = .ok (.arraylength, 1) := by decide +kernel
theorem dJ0_getBytes_840e7_22 : decode cJ0_getBytes_840e7 22 = .ok (.invokestatic 212, 3) := by decide +kernel
theorem dJ0_getBytes_840e7_25 : decode cJ0_getBytes_840e7 25 = .ok (.goto 18, 3) := by decide +kernel
theorem dJ0_getBytes_840e7_28 : decode cJ0_getBytes_840e7 28 = .ok (.aload_n 0, 1) := by decide +kernel
theorem dJ0_getBytes_840e7_29 : decode cJ0_getBytes_840e7 29 = .ok (.getfield 9, 3) := by decide +kernel
theorem dJ0_getBytes_840e7_32 : decode cJ0_getBytes_840e7 32 = .ok (.iconst 0, 1) := by decide +kernel
theorem dJ0_getBytes_840e7_33 : decode cJ0_getBytes_840e7 33 = .ok (.aload_n 1, 1) := by decide +kernel
theorem dJ0_getBytes_840e7_34 : decode cJ0_getBytes_840e7 34 = .ok (.iload_n 2, 1) := by decide +kernel
theorem dJ0_getBytes_840e7_35 : decode cJ0_getBytes_840e7 35 = .ok (.aload_n 0, 1) := by decide +kernel
theorem dJ0_getBytes_840e7_36 : decode cJ0_getBytes_840e7 36 = .ok (.getfield 9, 3) := by decide +kernel
theorem dJ0_getBytes_840e7_39 : decode cJ0_getBytes_840e7 39 = .ok (.arraylength, 1) := by decide +kernel
theorem dJ0_getBytes_840e7_40 : decode cJ0_getBytes_840e7 40 = .ok (.invokestatic 106, 3) := by decide +kernel
theorem dJ0_getBytes_840e7_43 : decode cJ0_getBytes_840e7 43 = .ok (.return_, 1) := by decide +kernel
theorem dJ0_init_db425_0 : decode cJ0_init_db425 0 = .ok (.aload_n 0, 1) := by decide +kernel
theorem dJ0_init_db425_1 : decode cJ0_init_db425 1 = .ok (.invokespecial 1, 3) := by decide +kernel
theorem dJ0_init_db425_4 : decode cJ0_init_db425 4 = .ok (.aload_n 1, 1) := by decide +kernel
theorem dJ0_init_db425_5 : decode cJ0_init_db425 5 = .ok (.invokevirtual 552, 3) := by decide +kernel
theorem dJ0_init_db425_8 : decode cJ0_init_db425 8 = .ok (.astore_n 3, 1) := by decide +kernel
theorem dJ0_init_db425_9 : decode cJ0_init_db425 9 = .ok (.aload_n 1, 1) := by decide +kernel
theorem dJ0_init_db425_10 : decode cJ0_init_db425 10 = .ok (.invokevirtual 549, 3) := by decide +kernel
theorem dJ0_init_db425_13 : decode cJ0_init_db425 13 = .ok (.istore 4, 2) := by decide +kernel
theorem dJ0_init_db425_15 : decode cJ0_init_db425 15 = .ok (.aload_n 1, 1) := by decide +kernel
theorem dJ0_init_db425_16 : decode cJ0_init_db425 16 = .ok (.invokevirtual 1047, 3) := by decide +kernel
theorem dJ0_init_db425_19 : decode cJ0_init_db425 19 = .ok (.ifCond .eq 22, 3) := by decide +kernel
theorem dJ0_init_db425_22 : decode cJ0_init_db425 22 = .ok (.aload_n 0, 1) := by decide +kernel
theorem dJ0_init_db425_23 : decode cJ0_init_db425 23 = .ok (.iconst 0, 1) := by decide +kernel
theorem dJ0_init_db425_24 : decode cJ0_init_db425 24 = .ok (.putfield 15, 3) := by decide +kernel
theorem dJ0_init_db425_27 : decode cJ0_init_db425 27 = .ok (.aload_n 0, 1) := by decide +kernel
theorem dJ0_init_db425_28 : decode cJ0_init_db425 28 = .ok (.aload_n 3, 1) := by decide +kernel
theorem dJ0_init_db425_29 : decode cJ0_init_db425 29 = .ok (.iconst 0, 1) := by decide +kernel
theorem dJ0_init_db425_30 : decode cJ0_init_db425 30 = .ok (.iload 4, 2) := by decide +kernel
theorem dJ0_init_db425_32 : decode cJ0_init_db425 32 = .ok (.invokestatic 54, 3) := by decide +kernel
theorem dJ0_init_db425_35 : decode cJ0_init_db425 35 = .ok (.putfield 9, 3) := by decide +kernel
theorem dJ0_init_db425_38 : decode cJ0_init_db425 38 = .ok (.goto 59, 3) := by decide +kernel
theorem dJ0_init_db425_41 : decode cJ0_init_db425 41 = .ok (.getstatic 38, 3) := by decide +kernel
theorem dJ0_init_db425_44 : decode cJ0_init_db425 44 = .ok (.ifCond .eq 35, 3) := by decide +kernel
theorem dJ0_init_db425_47 : decode cJ0_init_db425 47 = .ok (.aload_n 1, 1) := by decide +kernel
theorem dJ0_init_db425_48 : decode cJ0_init_db425 48 = .ok (.getfield 1048, 3) := by decide +kernel
theorem dJ0_init_db425_51 : decode cJ0_init_db425 51 = .ok (.ifCond .eq 28, 3) := by decide +kernel
theorem dJ0_init_db425_54 : decode cJ0_init_db425 54 = .ok (.aload_n 0, 1) := by decide +kernel
theorem dJ0_init_db425_55 : decode cJ0_init_db425 55 = .ok (.aload_n 3, 1) := by decide +kernel
theorem dJ0_init_db425_56 : decode cJ0_init_db425 56 = .ok (.iconst 0, 1) := by decide +kernel
theorem dJ0_init_db425_57 : decode cJ0_init_db425 57 = .ok (.iload 4, 2) := by decide +kernel
theorem dJ0_init_db425_59 : decode cJ0_init_db425 59 = .ok (.invokestatic 1051, 3) := by decide +kernel
theorem dJ0_init_db425_62 : decode cJ0_init_db425 62 = .ok (.putfield 9, 3) := by decide +kernel
theorem dJ0_init_db425_65 : decode cJ0_init_db425 65 = .ok (.aload_n 0, 1) := by decide +kernel
theorem dJ0_init_db425_66 : decode cJ0_init_db425 66 = .ok (.aload_n 0, 1) := by decide +kernel
theorem dJ0_init_db425_67 : decode cJ0_init_db425 67 = .ok (.getfield 9, 3) := by decide +kernel
theorem dJ0_init_db425_70 : decode cJ0_init_db425 70 = .ok (.iload 4, 2) := by decide +kernel
theorem dJ0_init_db425_72 : decode cJ0_init_db425 72 = .ok (.invokestatic 47, 3) := by decide +kernel
theorem dJ0_init_db425_75 : decode cJ0_init_db425 75 = .ok (.putfield 15, 3) := by decide +kernel
theorem dJ0_init_db425_78 : decode cJ0_init_db425 78 = .ok (.return_, 1) := by decide +kernel
theorem dJ0_init_db425_79 : decode cJ0_init_db425 79 = .ok (.aload_n 0, 1) := by decide +kernel
theorem dJ0_init_db425_80 : decode cJ0_init_db425 80 = .ok (.iconst 1, 1) := by decide +kernel
theorem dJ0_init_db425_81 : decode cJ0_init_db425 81 = .ok (.putfield 15, 3) := by decide +kernel
theorem dJ0_init_db425_84 : decode cJ0_init_db425 84 = .ok (.aload_n 0, 1) := by decide +kernel
theorem dJ0_init_db425_85 : decode cJ0_init_db425 85 = .ok (.aload_n 3, 1) := by decide +kernel
theorem dJ0_init_db425_86 : decode cJ0_init_db425 86 = .ok (.iconst 0, 1) := by decide +kernel
theorem dJ0_init_db425_87 : decode cJ0_init_db425 87 = .ok (.iload 4, 2) := by decide +kernel
theorem dJ0_init_db425_89 : decode cJ0_init_db425 89 = .ok (.iconst 1, 1) := by decide +kernel
theorem dJ0_init_db425_90 : decode cJ0_init_db425 90 = .ok (.ishl, 1) := by decide +kernel
theorem dJ0_init_db425_91 : decode cJ0_init_db425 91 = .ok (.invokestatic 54, 3) := by decide +kernel
theorem dJ0_init_db425_94 : decode cJ0_init_db425 94 = .ok (.putfield 9, 3) := by decide +kernel
theorem dJ0_init_db425_97 : decode cJ0_init_db425 97 = .ok (.return_, 1) := by decide +kernel
theorem dJ0_coder_7d493_0 : decode cJ0_coder_7d493 0 = .ok (.getstatic 38, 3) := by decide +kernel
theorem dJ0_coder_7d493_3 : decode cJ0_coder_7d493 3 = .ok (.ifCond .eq 10, 3) := by decide +kernel
theorem dJ0_coder_7d493_6 : decode cJ0_coder_7d493 6 = .ok (.aload_n 0, 1) := by decide +kernel
theorem dJ0_coder_7d493_7 : decode cJ0_coder_7d493 7 = .ok (.getfield 15, 3) := by decide +kernel
theorem dJ0_coder_7d493_10 : decode cJ0_coder_7d493 10 = .ok (.goto 4, 3) := by decide +kernel
theorem dJ0_coder_7d493_13 : decode cJ0_coder_7d493 13 = .ok (.iconst 1, 1) := by decide +kernel
theorem dJ0_coder_7d493_14 : decode cJ0_coder_7d493 14 = .ok (.ireturn, 1) := by decide +kernel
theorem dJ0_checkIndex_df160_0 : decode cJ0_checkIndex_df160 0 = .ok (.iload_n 0, 1) := by decide +kernel
theorem dJ0_checkIndex_df160_1 : decode cJ0_checkIndex_df160 1 = .ok (.iload_n 1, 1) := by decide +kernel
theorem dJ0_checkIndex_df160_2 : decode cJ0_checkIndex_df160 2 = .ok (.getstatic 1053, 3) := by decide +kernel
theorem dJ0_checkIndex_df160_5 : decode cJ0_checkIndex_df160 5 = .ok (.invokestatic 1059, 3) := by decide +kernel
theorem dJ0_checkIndex_df160_8 : decode cJ0_checkIndex_df160 8 = .ok (.pop, 1) := by decide +kernel
theorem dJ0_checkIndex_df160_9 : decode cJ0_checkIndex_df160 9 = .ok (.return_, 1) := by decide +kernel
theorem dJ0_checkBoundsOffCount_cabcc_0 : decode cJ0_checkBoundsOffCount_cabcc 0 = .ok (.iload_n 0, 1) := by decide +kernel
theorem dJ0_checkBoundsOffCount_cabcc_1 : decode cJ0_checkBoundsOffCount_cabcc 1 = .ok (.iload_n 1, 1) := by decide +kernel
theorem dJ0_checkBoundsOffCount_cabcc_2 : decode cJ0_checkBoundsOffCount_cabcc 2 = .ok (.iload_n 2, 1) := by decide +kernel
theorem dJ0_checkBoundsOffCount_cabcc_3 : decode cJ0_checkBoundsOffCount_cabcc 3 = .ok (.getstatic 1053, 3) := by decide +kernel
theorem dJ0_checkBoundsOffCount_cabcc_6 : decode cJ0_checkBoundsOffCount_cabcc 6 = .ok (.invokestatic 1065, 3) := by decide +kernel
theorem dJ0_checkBoundsOffCount_cabcc_9 : decode cJ0_checkBoundsOffCount_cabcc 9 = .ok (.ireturn, 1) := by decide +kernel
theorem dJ0_checkBoundsBeginEnd_23922_0 : decode cJ0_checkBoundsBeginEnd_23922 0 = .ok (.iload_n 0, 1) := by decide +kernel
theorem dJ0_checkBoundsBeginEnd_23922_1 : decode cJ0_checkBoundsBeginEnd_23922 1 = .ok (.iload_n 1, 1) := by decide +kernel
theorem dJ0_checkBoundsBeginEnd_23922_2 : decode cJ0_checkBoundsBeginEnd_23922 2 = .ok (.iload_n 2, 1) := by decide +kernel
theorem dJ0_checkBoundsBeginEnd_23922_3 : decode cJ0_checkBoundsBeginEnd_23922 3 = .ok (.getstatic 1053, 3) := by decide +kernel
theorem dJ0_checkBoundsBeginEnd_23922_6 : decode cJ0_checkBoundsBeginEnd_23922 6 = .ok (.invokestatic 1062, 3) := by decide +kernel
theorem dJ0_checkBoundsBeginEnd_23922_9 : decode cJ0_checkBoundsBeginEnd_23922 9 = .ok (.pop, 1) := by decide +kernel
theorem dJ0_checkBoundsBeginEnd_23922_10 : decode cJ0_checkBoundsBeginEnd_23922 10 = .ok (.return_, 1) := by decide +kernel
theorem dJ4_init_da8c8_0 : decode cJ4_init_da8c8 0 = .ok (.aload_n 0, 1) := by decide +kernel
theorem dJ4_init_da8c8_1 : decode cJ4_init_da8c8 1 = .ok (.bipush 16, 2) := by decide +kernel
theorem dJ4_init_da8c8_3 : decode cJ4_init_da8c8 3 = .ok (.invokespecial 1, 3) := by decide +kernel
theorem dJ4_init_da8c8_6 : decode cJ4_init_da8c8 6 = .ok (.return_, 1) := by decide +kernel
theorem dJ4_append_15ec4_0 : decode cJ4_append_15ec4 0 = .ok (.aload_n 0, 1) := by decide +kernel
theorem dJ4_append_15ec4_1 : decode cJ4_append_15ec4 1 = .ok (.aload_n 1, 1) := by decide +kernel
theorem dJ4_append_15ec4_2 : decode cJ4_append_15ec4 2 = .ok (.invokespecial 29, 3) := by decide +kernel
theorem dJ4_append_15ec4_5 : decode cJ4_append_15ec4 5 = .ok (.pop, 1) := by decide +kernel
theorem dJ4_append_15ec4_6 : decode cJ4_append_15ec4 6 = .ok (.aload_n 0, 1) := by decide +kernel
theorem dJ4_append_15ec4_7 : decode cJ4_append_15ec4 7 = .ok (.areturn, 1) := by decide +kernel
theorem dJ4_append_cf468_0 : decode cJ4_append_cf468 0 = .ok (.aload_n 0, 1) := by decide +kernel
theorem dJ4_append_cf468_1 : decode cJ4_append_cf468 1 = .ok (.iload_n 1, 1) := by decide +kernel
theorem dJ4_append_cf468_2 : decode cJ4_append_cf468 2 = .ok (.invokespecial 50, 3) := by decide +kernel
theorem dJ4_append_cf468_5 : decode cJ4_append_cf468 5 = .ok (.pop, 1) := by decide +kernel
theorem dJ4_append_cf468_6 : decode cJ4_append_cf468 6 = .ok (.aload_n 0, 1) := by decide +kernel
theorem dJ4_append_cf468_7 : decode cJ4_append_cf468 7 = .ok (.areturn, 1) := by decide +kernel
theorem dJ4_append_bf812_0 : decode cJ4_append_bf812 0 = .ok (.aload_n 0, 1) := by decide +kernel
theorem dJ4_append_bf812_1 : decode cJ4_append_bf812 1 = .ok (.iload_n 1, 1) := by decide +kernel
theorem dJ4_append_bf812_2 : decode cJ4_append_bf812 2 = .ok (.invokespecial 53, 3) := by decide +kernel
theorem dJ4_append_bf812_5 : decode cJ4_append_bf812 5 = .ok (.pop, 1) := by decide +kernel
theorem dJ4_append_bf812_6 : decode cJ4_append_bf812 6 = .ok (.aload_n 0, 1) := by decide +kernel
theorem dJ4_append_bf812_7 : decode cJ4_append_bf812 7 = .ok (.areturn, 1) := by decide +kernel
theorem dJ4_toString_0e30d_0 : decode cJ4_toString_0e30d 0 = .ok (.new 18, 3) := by decide +kernel
theorem dJ4_toString_0e30d_3 : decode cJ4_toString_0e30d 3 = .ok (.dup, 1) := by decide +kernel
theorem dJ4_toString_0e30d_4 : decode cJ4_toString_0e30d 4 = .ok (.aload_n 0, 1) := by decide +kernel
theorem dJ4_toString_0e30d_5 : decode cJ4_toString_0e30d 5 = .ok (.invokespecial 137, 3) := by decide +kernel
theorem dJ4_toString_0e30d_8 : decode cJ4_toString_0e30d 8 = .ok (.areturn, 1) := by decide +kernel
theorem dJ4_charAt_5068e_0 : decode cJ4_charAt_5068e 0 = .ok (.aload_n 0, 1) := by decide +kernel
theorem dJ4_charAt_5068e_1 : decode cJ4_charAt_5068e 1 = .ok (.iload_n 1, 1) := by decide +kernel
theorem dJ4_charAt_5068e_2 : decode cJ4_charAt_5068e 2 = .ok (.invokespecial 329, 3) := by decide +kernel
theorem dJ4_charAt_5068e_5 : decode cJ4_charAt_5068e 5 = .ok (.ireturn, 1) := by decide +kernel
theorem dJ4_setLength_d00df_0 : decode cJ4_setLength_d00df 0 = .ok (.aload_n 0, 1) := by decide +kernel
theorem dJ4_setLength_d00df_1 : decode cJ4_setLength_d00df 1 = .ok (.iload_n 1, 1) := by decide +kernel
theorem dJ4_setLength_d00df_2 : decode cJ4_setLength_d00df 2 = .ok (.invokespecial 333, 3) := by decide +kernel
theorem dJ4_setLength_d00df_5 : decode cJ4_setLength_d00df 5 = .ok (.return_, 1) := by decide +kernel
theorem dJ4_length_8abf5_0 : decode cJ4_length_8abf5 0 = .ok (.aload_n 0, 1) := by decide +kernel
theorem dJ4_length_8abf5_1 : decode cJ4_length_8abf5 1 = .ok (.invokespecial 343, 3) := by decide +kernel
theorem dJ4_length_8abf5_4 : decode cJ4_length_8abf5 4 = .ok (.ireturn, 1) := by decide +kernel
theorem dJ1_canEncode_fc78d_0 : decode cJ1_canEncode_fc78d 0 = .ok (.iload_n 0, 1) := by decide +kernel
theorem dJ1_canEncode_fc78d_1 : decode cJ1_canEncode_fc78d 1 = .ok (.sipush 255, 3) := by decide +kernel
theorem dJ1_canEncode_fc78d_4 : decode cJ1_canEncode_fc78d 4 = .ok (.if_icmp .gt 7, 3) := by decide +kernel
theorem dJ1_canEncode_fc78d_7 : decode cJ1_canEncode_fc78d 7 = .ok (.iconst 1, 1) := by decide +kernel
theorem dJ1_canEncode_fc78d_8 : decode cJ1_canEncode_fc78d 8 = .ok (.goto 4, 3) := by decide +kernel
theorem dJ1_canEncode_fc78d_11 : decode cJ1_canEncode_fc78d 11 = .ok (.iconst 0, 1) := by decide +kernel
theorem dJ1_canEncode_fc78d_12 : decode cJ1_canEncode_fc78d 12 = .ok (.ireturn, 1) := by decide +kernel
theorem dJ1_fillNull_b72d1_0 : decode cJ1_fillNull_b72d1 0 = .ok (.aload_n 0, 1) := by decide +kernel
theorem dJ1_fillNull_b72d1_1 : decode cJ1_fillNull_b72d1 1 = .ok (.iload_n 1, 1) := by decide +kernel
theorem dJ1_fillNull_b72d1_2 : decode cJ1_fillNull_b72d1 2 = .ok (.iload_n 2, 1) := by decide +kernel
theorem dJ1_fillNull_b72d1_3 : decode cJ1_fillNull_b72d1 3 = .ok (.iconst 0, 1) := by decide +kernel
theorem dJ1_fillNull_b72d1_4 : decode cJ1_fillNull_b72d1 4 = .ok (.invokestatic 236, 3) := by decide +kernel
theorem dJ1_fillNull_b72d1_7 : decode cJ1_fillNull_b72d1 7 = .ok (.return_, 1) := by decide +kernel
theorem dJ7_rangeCheck_23922_0 : decode cJ7_rangeCheck_23922 0 = .ok (.iload_n 1, 1) := by decide +kernel
theorem dJ7_rangeCheck_23922_1 : decode cJ7_rangeCheck_23922 1 = .ok (.iload_n 2, 1) := by decide +kernel
theorem dJ7_rangeCheck_23922_2 : decode cJ7_rangeCheck_23922 2 = .ok (.if_icmp .le 44, 3) := by decide +kernel
theorem dJ7_rangeCheck_23922_5 : decode cJ7_rangeCheck_23922 5 = .ok (.new 43, 3) := by decide +kernel
theorem dJ7_rangeCheck_23922_8 : decode cJ7_rangeCheck_23922 8 = .ok (.dup, 1) := by decide +kernel
theorem dJ7_rangeCheck_23922_9 : decode cJ7_rangeCheck_23922 9 = .ok (.new 45, 3) := by decide +kernel
theorem dJ7_rangeCheck_23922_12 : decode cJ7_rangeCheck_23922 12 = .ok (.dup, 1) := by decide +kernel
theorem dJ7_rangeCheck_23922_13 : decode cJ7_rangeCheck_23922 13 = .ok (.invokespecial 47, 3) := by decide +kernel
theorem dJ7_rangeCheck_23922_16 : decode cJ7_rangeCheck_23922 16 = .ok (.ldc 48, 2) := by decide +kernel
theorem dJ7_rangeCheck_23922_18 : decode cJ7_rangeCheck_23922 18 = .ok (.invokevirtual 50, 3) := by decide +kernel
theorem dJ7_rangeCheck_23922_21 : decode cJ7_rangeCheck_23922 21 = .ok (.iload_n 1, 1) := by decide +kernel
theorem dJ7_rangeCheck_23922_22 : decode cJ7_rangeCheck_23922 22 = .ok (.invokevirtual 54, 3) := by decide +kernel
theorem dJ7_rangeCheck_23922_25 : decode cJ7_rangeCheck_23922 25 = .ok (.ldc 57, 2) := by decide +kernel
theorem dJ7_rangeCheck_23922_27 : decode cJ7_rangeCheck_23922 27 = .ok (.invokevirtual 50, 3) := by decide +kernel
theorem dJ7_rangeCheck_23922_30 : decode cJ7_rangeCheck_23922 30 = .ok (.iload_n 2, 1) := by decide +kernel
theorem dJ7_rangeCheck_23922_31 : decode cJ7_rangeCheck_23922 31 = .ok (.invokevirtual 54, 3) := by decide +kernel
theorem dJ7_rangeCheck_23922_34 : decode cJ7_rangeCheck_23922 34 = .ok (.ldc 59, 2) := by decide +kernel
theorem dJ7_rangeCheck_23922_36 : decode cJ7_rangeCheck_23922 36 = .ok (.invokevirtual 50, 3) := by decide +kernel
theorem dJ7_rangeCheck_23922_39 : decode cJ7_rangeCheck_23922 39 = .ok (.invokevirtual 61, 3) := by decide +kernel
theorem dJ7_rangeCheck_23922_42 : decode cJ7_rangeCheck_23922 42 = .ok (.invokespecial 65, 3) := by decide +kernel
theorem dJ7_rangeCheck_23922_45 : decode cJ7_rangeCheck_23922 45 = .ok (.athrow, 1) := by decide +kernel
theorem dJ7_rangeCheck_23922_46 : decode cJ7_rangeCheck_23922 46 = .ok (.iload_n 1, 1) := by decide +kernel
theorem dJ7_rangeCheck_23922_47 : decode cJ7_rangeCheck_23922 47 = .ok (.ifCond .ge 12, 3) := by decide +kernel
theorem dJ7_rangeCheck_23922_50 : decode cJ7_rangeCheck_23922 50 = .ok (.new 68, 3) := by decide +kernel
theorem dJ7_rangeCheck_23922_53 : decode cJ7_rangeCheck_23922 53 = .ok (.dup, 1) := by decide +kernel
theorem dJ7_rangeCheck_23922_54 : decode cJ7_rangeCheck_23922 54 = .ok (.iload_n 1, 1) := by decide +kernel
theorem dJ7_rangeCheck_23922_55 : decode cJ7_rangeCheck_23922 55 = .ok (.invokespecial 70, 3) := by decide +kernel
theorem dJ7_rangeCheck_23922_58 : decode cJ7_rangeCheck_23922 58 = .ok (.athrow, 1) := by decide +kernel
theorem dJ7_rangeCheck_23922_59 : decode cJ7_rangeCheck_23922 59 = .ok (.iload_n 2, 1) := by decide +kernel
theorem dJ7_rangeCheck_23922_60 : decode cJ7_rangeCheck_23922 60 = .ok (.iload_n 0, 1) := by decide +kernel
theorem dJ7_rangeCheck_23922_61 : decode cJ7_rangeCheck_23922 61 = .ok (.if_icmp .le 12, 3) := by decide +kernel
theorem dJ7_rangeCheck_23922_64 : decode cJ7_rangeCheck_23922 64 = .ok (.new 68, 3) := by decide +kernel
theorem dJ7_rangeCheck_23922_67 : decode cJ7_rangeCheck_23922 67 = .ok (.dup, 1) := by decide +kernel
theorem dJ7_rangeCheck_23922_68 : decode cJ7_rangeCheck_23922 68 = .ok (.iload_n 2, 1) := by decide +kernel
theorem dJ7_rangeCheck_23922_69 : decode cJ7_rangeCheck_23922 69 = .ok (.invokespecial 70, 3) := by decide +kernel
theorem dJ7_rangeCheck_23922_72 : decode cJ7_rangeCheck_23922 72 = .ok (.athrow, 1) := by decide +kernel
theorem dJ7_rangeCheck_23922_73 : decode cJ7_rangeCheck_23922 73 = .ok (.return_, 1) := by decide +kernel
theorem dJ7_fill_53178_0 : decode cJ7_fill_53178 0 = .ok (.iconst 0, 1) := by decide +kernel
theorem dJ7_fill_53178_1 : decode cJ7_fill_53178 1 = .ok (.istore_n 2, 1) := by decide +kernel
theorem dJ7_fill_53178_2 : decode cJ7_fill_53178 2 = .ok (.aload_n 0, 1) := by decide +kernel
theorem dJ7_fill_53178_3 : decode cJ7_fill_53178 3 = .ok (.arraylength, 1) := by decide +kernel
theorem dJ7_fill_53178_4 : decode cJ7_fill_53178 4 = .ok (.istore_n 3, 1) := by decide +kernel
theorem dJ7_fill_53178_5 : decode cJ7_fill_53178 5 = .ok (.iload_n 2, 1) := by decide +kernel
theorem dJ7_fill_53178_6 : decode cJ7_fill_53178 6 = .ok (.iload_n 3, 1) := by decide +kernel
theorem dJ7_fill_53178_7 : decode cJ7_fill_53178 7 = .ok (.if_icmp .ge 13, 3) := by decide +kernel
theorem dJ7_fill_53178_10 : decode cJ7_fill_53178 10 = .ok (.aload_n 0, 1) := by decide +kernel
theorem dJ7_fill_53178_11 : decode cJ7_fill_53178 11 = .ok (.iload_n 2, 1) := by decide +kernel
theorem dJ7_fill_53178_12 : decode cJ7_fill_53178 12 = .ok (.iload_n 1, 1) := by decide +kernel
theorem dJ7_fill_53178_13 : decode cJ7_fill_53178 13 = .ok (.iastore, 1) := by decide +kernel
theorem dJ7_fill_53178_14 : decode cJ7_fill_53178 14 = .ok (.iinc 2 1, 3) := by decide +kernel
theorem dJ7_fill_53178_17 : decode cJ7_fill_53178 17 = .ok (.goto (-12), 3) := by decide +kernel
theorem dJ7_fill_53178_20 : decode cJ7_fill_53178 20 = .ok (.return_, 1) := by decide +kernel
theorem dJ7_fill_eb02e_0 : decode cJ7_fill_eb02e 0 = .ok (.aload_n 0, 1) := by decide +kernel
theorem dJ7_fill_eb02e_1 : decode cJ7_fill_eb02e 1 = .ok (.arraylength, 1) := by decide +kernel
theorem dJ7_fill_eb02e_2 : decode cJ7_fill_eb02e 2 = .ok (.iload_n 1, 1) := by decide +kernel
theorem dJ7_fill_eb02e_3 : decode cJ7_fill_eb02e 3 = .ok (.iload_n 2, 1) := by decide +kernel
theorem dJ7_fill_eb02e_4 : decode cJ7_fill_eb02e 4 = .ok (.invokestatic 13, 3) := by decide +kernel
theorem dJ7_fill_eb02e_7 : decode cJ7_fill_eb02e 7 = .ok (.iload_n 1, 1) := by decide +kernel
theorem dJ7_fill_eb02e_8 : decode cJ7_fill_eb02e 8 = .ok (.istore 4, 2) := by decide +kernel
theorem dJ7_fill_eb02e_10 : decode cJ7_fill_eb02e 10 = .ok (.iload 4, 2) := by decide +kernel
theorem dJ7_fill_eb02e_12 : decode cJ7_fill_eb02e 12 = .ok (.iload_n 2, 1) := by decide +kernel
theorem dJ7_fill_eb02e_13 : decode cJ7_fill_eb02e 13 = .ok (.if_icmp .ge 14, 3) := by decide +kernel
theorem dJ7_fill_eb02e_16 : decode cJ7_fill_eb02e 16 = .ok (.aload_n 0, 1) := by decide +kernel
theorem dJ7_fill_eb02e_17 : decode cJ7_fill_eb02e 17 = .ok (.iload 4, 2) := by decide +kernel
theorem dJ7_fill_eb02e_19 : decode cJ7_fill_eb02e 19 = .ok (.iload_n 3, 1) := by decide +kernel
theorem dJ7_fill_eb02e_20 : decode cJ7_fill_eb02e 20 = .ok (.bastore, 1) := by decide +kernel
theorem dJ7_fill_eb02e_21 : decode cJ7_fill_eb02e 21 = .ok (.iinc 4 1, 3) := by decide +kernel
theorem dJ7_fill_eb02e_24 : decode cJ7_fill_eb02e 24 = .ok (.goto (-14), 3) := by decide +kernel
theorem dJ7_fill_eb02e_27 : decode cJ7_fill_eb02e 27 = .ok (.return_, 1) := by decide +kernel
theorem dJ7_copyOf_9075b_0 : decode cJ7_copyOf_9075b 0 = .ok (.iload_n 1, 1) := by decide +kernel
theorem dJ7_copyOf_9075b_1 : decode cJ7_copyOf_9075b 1 = .ok (.aload_n 0, 1) := by decide +kernel
theorem dJ7_copyOf_9075b_2 : decode cJ7_copyOf_9075b 2 = .ok (.arraylength, 1) := by decide +kernel
theorem dJ7_copyOf_9075b_3 : decode cJ7_copyOf_9075b 3 = .ok (.if_icmp .ne 11, 3) := by decide +kernel
theorem dJ7_copyOf_9075b_6 : decode cJ7_copyOf_9075b 6 = .ok (.aload_n 0, 1) := by decide +kernel
theorem dJ7_copyOf_9075b_7 : decode cJ7_copyOf_9075b 7 = .ok (.invokevirtual 310, 3) := by decide +kernel
theorem dJ7_copyOf_9075b_10 : decode cJ7_copyOf_9075b 10 = .ok (.checkcast 311, 3) := by decide +kernel
theorem dJ7_copyOf_9075b_13 : decode cJ7_copyOf_9075b 13 = .ok (.areturn, 1) := by decide +kernel
theorem dJ7_copyOf_9075b_14 : decode cJ7_copyOf_9075b 14 = .ok (.iload_n 1, 1) := by decide +kernel
theorem dJ7_copyOf_9075b_15 : decode cJ7_copyOf_9075b 15 = .ok (.newarray .byte, 2) := by decide +kernel
theorem dJ7_copyOf_9075b_17 : decode cJ7_copyOf_9075b 17 = .ok (.astore_n 2, 1) := by decide +kernel
theorem dJ7_copyOf_9075b_18 : decode cJ7_copyOf_9075b 18 = .ok (.aload_n 0, 1) := by decide +kernel
theorem dJ7_copyOf_9075b_19 : decode cJ7_copyOf_9075b 19 = .ok (.iconst 0, 1) := by decide +kernel
theorem dJ7_copyOf_9075b_20 : decode cJ7_copyOf_9075b 20 = .ok (.aload_n 2, 1) := by decide +kernel
theorem dJ7_copyOf_9075b_21 : decode cJ7_copyOf_9075b 21 = .ok (.iconst 0, 1) := by decide +kernel
theorem dJ7_copyOf_9075b_22 : decode cJ7_copyOf_9075b 22 = .ok (.aload_n 0, 1) := by decide +kernel
theorem dJ7_copyOf_9075b_23 : decode cJ7_copyOf_9075b 23 = .ok (.arraylength, 1) := by decide +kernel
theorem dJ7_copyOf_9075b_24 : decode cJ7_copyOf_9075b 24 = .ok (.iload_n 1, 1) := by decide +kernel
theorem dJ7_copyOf_9075b_25 : decode cJ7_copyOf_9075b 25 = .ok (.invokestatic 304, 3) := by decide +kernel
theorem dJ7_copyOf_9075b_28 : decode cJ7_copyOf_9075b 28 = .ok (.invokestatic 150, 3) := by decide +kernel
theorem dJ7_copyOf_9075b_31 : decode cJ7_copyOf_9075b 31 = .ok (.aload_n 2, 1) := by decide +kernel
theorem dJ7_copyOf_9075b_32 : decode cJ7_copyOf_9075b 32 = .ok (.areturn, 1) := by decide +kernel
theorem dJ7_checkLength_df160_0 : decode cJ7_checkLength_df160 0 = .ok (.iload_n 1, 1) := by decide +kernel
theorem dJ7_checkLength_df160_1 : decode cJ7_checkLength_df160 1 = .ok (.iload_n 0, 1) := by decide +kernel
theorem dJ7_checkLength_df160_2 : decode cJ7_checkLength_df160 2 = .ok (.if_icmp .ge 35, 3) := by decide +kernel
theorem dJ7_checkLength_df160_5 : decode cJ7_checkLength_df160 5 = .ok (.new 43, 3) := by decide +kernel
theorem dJ7_checkLength_df160_8 : decode cJ7_checkLength_df160 8 = .ok (.dup, 1) := by decide +kernel
theorem dJ7_checkLength_df160_9 : decode cJ7_checkLength_df160 9 = .ok (.new 45, 3) := by decide +kernel
theorem dJ7_checkLength_df160_12 : decode cJ7_checkLength_df160 12 = .ok (.dup, 1) := by decide +kernel
theorem dJ7_checkLength_df160_13 : decode cJ7_checkLength_df160 13 = .ok (.invokespecial 47, 3) := by decide +kernel
theorem dJ7_checkLength_df160_16 : decode cJ7_checkLength_df160 16 = .ok (.iload_n 0, 1) := by decide +kernel
theorem dJ7_checkLength_df160_17 : decode cJ7_checkLength_df160 17 = .ok (.invokevirtual 54, 3) := by decide +kernel
theorem dJ7_checkLength_df160_20 : decode cJ7_checkLength_df160 20 = .ok (.ldc_w 337, 3) := by decide +kernel
theorem dJ7_checkLength_df160_23 : decode cJ7_checkLength_df160 23 = .ok (.invokevirtual 50, 3) := by decide +kernel
theorem dJ7_checkLength_df160_26 : decode cJ7_checkLength_df160 26 = .ok (.iload_n 1, 1) := by decide +kernel
theorem dJ7_checkLength_df160_27 : decode cJ7_checkLength_df160 27 = .ok (.invokevirtual 54, 3) := by decide +kernel
theorem dJ7_checkLength_df160_30 : decode cJ7_checkLength_df160 30 = .ok (.invokevirtual 61, 3) := by decide +kernel
theorem dJ7_checkLength_df160_33 : decode cJ7_checkLength_df160 33 = .ok (.invokespecial 65, 3) := by decide +kernel
theorem dJ7_checkLength_df160_36 : decode cJ7_checkLength_df160 36 = .ok (.athrow, 1) := by decide +kernel
theorem dJ7_checkLength_df160_37 : decode cJ7_checkLength_df160 37 = .ok (.return_, 1) := by decide +kernel
theorem dJ7_copyOfRange_39247_0 : decode cJ7_copyOfRange_39247 0 = .ok (.iload_n 1, 1) := by decide +kernel
theorem dJ7_copyOfRange_39247_1 : decode cJ7_copyOfRange_39247 1 = .ok (.ifCond .ne 9, 3) := by decide +kernel
theorem dJ7_copyOfRange_39247_4 : decode cJ7_copyOfRange_39247 4 = .ok (.iload_n 2, 1) := by decide +kernel
theorem dJ7_copyOfRange_39247_5 : decode cJ7_copyOfRange_39247 5 = .ok (.aload_n 0, 1) := by decide +kernel
theorem dJ7_copyOfRange_39247_6 : decode cJ7_copyOfRange_39247 6 = .ok (.arraylength, 1) := by decide +kernel
theorem dJ7_copyOfRange_39247_7 : decode cJ7_copyOfRange_39247 7 = .ok (.if_icmp .eq 10, 3) := by decide +kernel
theorem dJ7_copyOfRange_39247_10 : decode cJ7_copyOfRange_39247 10 = .ok (.aload_n 0, 1) := by decide +kernel
theorem dJ7_copyOfRange_39247_11 : decode cJ7_copyOfRange_39247 11 = .ok (.iload_n 1, 1) := by decide +kernel
theorem dJ7_copyOfRange_39247_12 : decode cJ7_copyOfRange_39247 12 = .ok (.iload_n 2, 1) := by decide +kernel
theorem dJ7_copyOfRange_39247_13 : decode cJ7_copyOfRange_39247 13 = .ok (.invokestatic 339, 3) := by decide +kernel
theorem dJ7_copyOfRange_39247_16 : decode cJ7_copyOfRange_39247 16 = .ok (.areturn, 1) := by decide +kernel
theorem dJ7_copyOfRange_39247_17 : decode cJ7_copyOfRange_39247 17 = .ok (.aload_n 0, 1) := by decide +kernel
theorem dJ7_copyOfRange_39247_18 : decode cJ7_copyOfRange_39247 18 = .ok (.invokevirtual 310, 3) := by decide +kernel
theorem dJ7_copyOfRange_39247_21 : decode cJ7_copyOfRange_39247 21 = .ok (.checkcast 311, 3) := by decide +kernel
theorem dJ7_copyOfRange_39247_24 : decode cJ7_copyOfRange_39247 24 = .ok (.areturn, 1) := by decide +kernel
theorem dJ7_copyOfRangeByte_39247_0 : decode cJ7_copyOfRangeByte_39247 0 = .ok (.iload_n 1, 1) := by decide +kernel
theorem dJ7_copyOfRangeByte_39247_1 : decode cJ7_copyOfRangeByte_39247 1 = .ok (.iload_n 2, 1) := by decide +kernel
theorem dJ7_copyOfRangeByte_39247_2 : decode cJ7_copyOfRangeByte_39247 2 = .ok (.invokestatic 343, 3) := by decide +kernel
theorem dJ7_copyOfRangeByte_39247_5 : decode cJ7_copyOfRangeByte_39247 5 = .ok (.iload_n 2, 1) := by decide +kernel
theorem dJ7_copyOfRangeByte_39247_6 : decode cJ7_copyOfRangeByte_39247 6 = .ok (.iload_n 1, 1) := by decide +kernel
theorem dJ7_copyOfRangeByte_39247_7 : decode cJ7_copyOfRangeByte_39247 7 = .ok (.isub, 1) := by decide +kernel
theorem dJ7_copyOfRangeByte_39247_8 : decode cJ7_copyOfRangeByte_39247 8 = .ok (.istore_n 3, 1) := by decide +kernel
theorem dJ7_copyOfRangeByte_39247_9 : decode cJ7_copyOfRangeByte_39247 9 = .ok (.iload_n 3, 1) := by decide +kernel
theorem dJ7_copyOfRangeByte_39247_10 : decode cJ7_copyOfRangeByte_39247 10 = .ok (.newarray .byte, 2) := by decide +kernel
theorem dJ7_copyOfRangeByte_39247_12 : decode cJ7_copyOfRangeByte_39247 12 = .ok (.astore 4, 2) := by decide +kernel
theorem dJ7_copyOfRangeByte_39247_14 : decode cJ7_copyOfRangeByte_39247 14 = .ok (.aload_n 0, 1) := by decide +kernel
theorem dJ7_copyOfRangeByte_39247_15 : decode cJ7_copyOfRangeByte_39247 15 = .ok (.iload_n 1, 1) := by decide +kernel
theorem dJ7_copyOfRangeByte_39247_16 : decode cJ7_copyOfRangeByte_39247 16 = .ok (.aload 4, 2) := by decide +kernel
theorem dJ7_copyOfRangeByte_39247_18 : decode cJ7_copyOfRangeByte_39247 18 = .ok (.iconst 0, 1) := by decide +kernel
theorem dJ7_copyOfRangeByte_39247_19 : decode cJ7_copyOfRangeByte_39247 19 = .ok (.aload_n 0, 1) := by decide +kernel
theorem dJ7_copyOfRangeByte_39247_20 : decode cJ7_copyOfRangeByte_39247 20 = .ok (.arraylength, 1) := by decide +kernel
theorem dJ7_copyOfRangeByte_39247_21 : decode cJ7_copyOfRangeByte_39247 21 = .ok (.iload_n 1, 1) := by decide +kernel
theorem dJ7_copyOfRangeByte_39247_22 : decode cJ7_copyOfRangeByte_39247 22 = .ok (.isub, 1) := by decide +kernel
theorem dJ7_copyOfRangeByte_39247_23 : decode cJ7_copyOfRangeByte_39247 23 = .ok (.iload_n 3, 1) := by decide +kernel
theorem dJ7_copyOfRangeByte_39247_24 : decode cJ7_copyOfRangeByte_39247 24 = .ok (.invokestatic 304, 3) := by decide +kernel
theorem dJ7_copyOfRangeByte_39247_27 : decode cJ7_copyOfRangeByte_39247 27 = .ok (.invokestatic 150, 3) := by decide +kernel
theorem dJ7_copyOfRangeByte_39247_30 : decode cJ7_copyOfRangeByte_39247 30 = .ok (.aload 4, 2) := by decide +kernel
theorem dJ7_copyOfRangeByte_39247_32 : decode cJ7_copyOfRangeByte_39247 32 = .ok (.areturn, 1) := by decide +kernel
theorem dJ8_newLength_cabcc_0 : decode cJ8_newLength_cabcc 0 = .ok (.iload_n 0, 1) := by decide +kernel
theorem dJ8_newLength_cabcc_1 : decode cJ8_newLength_cabcc 1 = .ok (.iload_n 1, 1) := by decide +kernel
theorem dJ8_newLength_cabcc_2 : decode cJ8_newLength_cabcc 2 = .ok (.iload_n 2, 1) := by decide +kernel
theorem dJ8_newLength_cabcc_3 : decode cJ8_newLength_cabcc 3 = .ok (.invokestatic 194, 3) := by decide +kernel
theorem dJ8_newLength_cabcc_6 : decode cJ8_newLength_cabcc 6 = .ok (.iadd, 1) := by decide +kernel
theorem dJ8_newLength_cabcc_7 : decode cJ8_newLength_cabcc 7 = .ok (.istore_n 3, 1) := by decide +kernel
theorem dJ8_newLength_cabcc_8 : decode cJ8_newLength_cabcc 8 = .ok (.iconst 0, 1) := by decide +kernel
theorem dJ8_newLength_cabcc_9 : decode cJ8_newLength_cabcc 9 = .ok (.iload_n 3, 1) := by decide +kernel
theorem dJ8_newLength_cabcc_10 : decode cJ8_newLength_cabcc 10 = .ok (.if_icmp .ge 11, 3) := by decide +kernel
theorem dJ8_newLength_cabcc_13 : decode cJ8_newLength_cabcc 13 = .ok (.iload_n 3, 1) := by decide +kernel
theorem dJ8_newLength_cabcc_14 : decode cJ8_newLength_cabcc 14 = .ok (.ldc 200, 2) := by decide +kernel
theorem dJ8_newLength_cabcc_16 : decode cJ8_newLength_cabcc 16 = .ok (.if_icmp .gt 5, 3) := by decide +kernel
theorem dJ8_newLength_cabcc_19 : decode cJ8_newLength_cabcc 19 = .ok (.iload_n 3, 1) := by decide +kernel
theorem dJ8_newLength_cabcc_20 : decode cJ8_newLength_cabcc 20 = .ok (.ireturn, 1) := by decide +kernel
theorem dJ8_newLength_cabcc_21 : decode cJ8_newLength_cabcc 21 = .ok (.iload_n 0, 1) := by decide +kernel
theorem dJ8_newLength_cabcc_22 : decode cJ8_newLength_cabcc 22 = .ok (.iload_n 1, 1) := by decide +kernel
theorem dJ8_newLength_cabcc_23 : decode cJ8_newLength_cabcc 23 = .ok (.invokestatic 201, 3) := by decide +kernel
theorem dJ8_newLength_cabcc_26 : decode cJ8_newLength_cabcc 26 = .ok (.ireturn, 1) := by decide +kernel
theorem dJ3_checkIndex_8e157_0 : decode cJ3_checkIndex_8e157 0 = .ok (.iload_n 0, 1) := by decide +kernel
theorem dJ3_checkIndex_8e157_1 : decode cJ3_checkIndex_8e157 1 = .ok (.ifCond .lt 8, 3) := by decide +kernel
theorem dJ3_checkIndex_8e157_4 : decode cJ3_checkIndex_8e157 4 = .ok (.iload_n 0, 1) := by decide +kernel
theorem dJ3_checkIndex_8e157_5 : decode cJ3_checkIndex_8e157 5 = .ok (.iload_n 1, 1) := by decide +kernel
theorem dJ3_checkIndex_8e157_6 : decode cJ3_checkIndex_8e157 6 = .ok (.if_icmp .lt 10, 3) := by decide +kernel
theorem dJ3_checkIndex_8e157_9 : decode cJ3_checkIndex_8e157 9 = .ok (.aload_n 2, 1) := by decide +kernel
theorem dJ3_checkIndex_8e157_10 : decode cJ3_checkIndex_8e157 10 = .ok (.iload_n 0, 1) := by decide +kernel
theorem dJ3_checkIndex_8e157_11 : decode cJ3_checkIndex_8e157 11 = .ok (.iload_n 1, 1) := by decide +kernel
theorem dJ3_checkIndex_8e157_12 : decode cJ3_checkIndex_8e157 12 = .ok (.invokestatic 95, 3) := by decide +kernel
theorem dJ3_checkIndex_8e157_15 : decode cJ3_checkIndex_8e157 15 = .ok (.athrow, 1) := by decide +kernel
theorem dJ3_checkIndex_8e157_16 : decode cJ3_checkIndex_8e157 16 = .ok (.iload_n 0, 1) := by decide +kernel
theorem dJ3_checkIndex_8e157_17 : decode cJ3_checkIndex_8e157 17 = .ok (.ireturn, 1) := by decide +kernel
theorem dJ3_checkFromToIndex_8c36e_0 : decode cJ3_checkFromToIndex_8c36e 0 = .ok (.iload_n 0, 1) := by decide +kernel
theorem dJ3_checkFromToIndex_8c36e_1 : decode cJ3_checkFromToIndex_8c36e 1 = .ok (.ifCond .lt 13, 3) := by decide +kernel
theorem dJ3_checkFromToIndex_8c36e_4 : decode cJ3_checkFromToIndex_8c36e 4 = .ok (.iload_n 0, 1) := by decide +kernel
theorem dJ3_checkFromToIndex_8c36e_5 : decode cJ3_checkFromToIndex_8c36e 5 = .ok (.iload_n 1, 1) := by decide +kernel
theorem dJ3_checkFromToIndex_8c36e_6 : decode cJ3_checkFromToIndex_8c36e 6 = .ok (.if_icmp .gt 8, 3) := by decide +kernel
theorem dJ3_checkFromToIndex_8c36e_9 : decode cJ3_checkFromToIndex_8c36e 9 = .ok (.iload_n 1, 1) := by decide +kernel
theorem dJ3_checkFromToIndex_8c36e_10 : decode cJ3_checkFromToIndex_8c36e 10 = .ok (.iload_n 2, 1) := by decide +kernel
theorem dJ3_checkFromToIndex_8c36e_11 : decode cJ3_checkFromToIndex_8c36e 11 = .ok (.if_icmp .le 11, 3) := by decide +kernel
theorem dJ3_checkFromToIndex_8c36e_14 : decode cJ3_checkFromToIndex_8c36e 14 = .ok (.aload_n 3, 1) := by decide +kernel
theorem dJ3_checkFromToIndex_8c36e_15 : decode cJ3_checkFromToIndex_8c36e 15 = .ok (.iload_n 0, 1) := by decide +kernel
theorem dJ3_checkFromToIndex_8c36e_16 : decode cJ3_checkFromToIndex_8c36e 16 = .ok (.iload_n 1, 1) := by decide +kernel
theorem dJ3_checkFromToIndex_8c36e_17 : decode cJ3_checkFromToIndex_8c36e 17 = .ok (.iload_n 2, 1) := by decide +kernel
theorem dJ3_checkFromToIndex_8c36e_18 : decode cJ3_checkFromToIndex_8c36e 18 = .ok (.invokestatic 99, 3) := by decide +kernel
theorem dJ3_checkFromToIndex_8c36e_21 : decode cJ3_checkFromToIndex_8c36e 21 = .ok (.athrow, 1) := by decide +kernel
theorem dJ3_checkFromToIndex_8c36e_22 : decode cJ3_checkFromToIndex_8c36e 22 = .ok (.iload_n 0, 1) := by decide +kernel
theorem dJ3_checkFromToIndex_8c36e_23 : decode cJ3_checkFromToIndex_8c36e 23 = .ok (.ireturn, 1) := by decide +kernel
theorem dJ3_checkFromIndexSize_8c36e_0 : decode cJ3_checkFromIndexSize_8c36e 0 = .ok (.iload_n 2, 1) := by decide +kernel
theorem dJ3_checkFromIndexSize_8c36e_1 : decode cJ3_checkFromIndexSize_8c36e 1 = .ok (.iload_n 0, 1) := by decide +kernel
theorem dJ3_checkFromIndexSize_8c36e_2 : decode cJ3_checkFromIndexSize_8c36e 2 = .ok (.ior, 1) := by decide +kernel
theorem dJ3_checkFromIndexSize_8c36e_3 : decode cJ3_checkFromIndexSize_8c36e 3 = .ok (.iload_n 1, 1) := by decide +kernel
theorem dJ3_checkFromIndexSize_8c36e_4 : decode cJ3_checkFromIndexSize_8c36e 4 = .ok (.ior, 1) := by decide +kernel
theorem dJ3_checkFromIndexSize_8c36e_5 : decode cJ3_checkFromIndexSize_8c36e 5 = .ok (.ifCond .lt 10, 3) := by decide +kernel
theorem dJ3_checkFromIndexSize_8c36e_8 : decode cJ3_checkFromIndexSize_8c36e 8 = .ok (.iload_n 1, 1) := by decide +kernel
theorem dJ3_checkFromIndexSize_8c36e_9 : decode cJ3_checkFromIndexSize_8c36e 9 = .ok (.iload_n 2, 1) := by decide +kernel
theorem dJ3_checkFromIndexSize_8c36e_10 : decode cJ3_checkFromIndexSize_8c36e 10 = .ok (.iload_n 0, 1) := by decide +kernel
theorem dJ3_checkFromIndexSize_8c36e_11 : decode cJ3_checkFromIndexSize_8c36e 11 = .ok (.isub, 1) := by decide +kernel
theorem dJ3_checkFromIndexSize_8c36e_12 : decode cJ3_checkFromIndexSize_8c36e 12 = .ok (.if_icmp .le 11, 3) := by decide +kernel
theorem dJ3_checkFromIndexSize_8c36e_15 : decode cJ3_checkFromIndexSize_8c36e 15 = .ok (.aload_n 3, 1) := by decide +kernel
theorem dJ3_checkFromIndexSize_8c36e_16 : decode cJ3_checkFromIndexSize_8c36e 16 = .ok (.iload_n 0, 1) := by decide +kernel
theorem dJ3_checkFromIndexSize_8c36e_17 : decode cJ3_checkFromIndexSize_8c36e 17 = .ok (.iload_n 1, 1) := by decide +kernel
theorem dJ3_checkFromIndexSize_8c36e_18 : decode cJ3_checkFromIndexSize_8c36e 18 = .ok (.iload_n 2, 1) := by decide +kernel
theorem dJ3_checkFromIndexSize_8c36e_19 : decode cJ3_checkFromIndexSize_8c36e 19 = .ok (.invokestatic 103, 3) := by decide +kernel
theorem dJ3_checkFromIndexSize_8c36e_22 : decode cJ3_checkFromIndexSize_8c36e 22 = .ok (.athrow, 1) := by decide +kernel
theorem dJ3_checkFromIndexSize_8c36e_23 : decode cJ3_checkFromIndexSize_8c36e 23 = .ok (.iload_n 0, 1) := by decide +kernel
theorem dJ3_checkFromIndexSize_8c36e_24 : decode cJ3_checkFromIndexSize_8c36e 24 = .ok (.ireturn, 1) := by decide +kernel
theorem dL_cell_0 : decode cL_cell 0 = .ok (.iload_n 1, 1) := by decide +kernel
theorem dL_cell_1 : decode cL_cell 1 = .ok (.aload_n 0, 1) := by decide +kernel
theorem dL_cell_2 : decode cL_cell 2 = .ok (.arraylength, 1) := by decide +kernel
theorem dL_cell_3 : decode cL_cell 3 = .ok (.if_icmp .ge 9, 3) := by decide +kernel
theorem dL_cell_6 : decode cL_cell 6 = .ok (.aload_n 0, 1) := by decide +kernel
theorem dL_cell_7 : decode cL_cell 7 = .ok (.iload_n 1, 1) := by decide +kernel
theorem dL_cell_8 : decode cL_cell 8 = .ok (.iaload, 1) := by decide +kernel
theorem dL_cell_9 : decode cL_cell 9 = .ok (.goto 10, 3) := by decide +kernel
theorem dL_cell_12 : decode cL_cell 12 = .ok (.ldc 7, 2) := by decide +kernel
theorem dL_cell_14 : decode cL_cell 14 = .ok (.iload_n 1, 1) := by decide +kernel
theorem dL_cell_15 : decode cL_cell 15 = .ok (.imul, 1) := by decide +kernel
theorem dL_cell_16 : decode cL_cell 16 = .ok (.bipush 89, 2) := by decide +kernel
theorem dL_cell_18 : decode cL_cell 18 = .ok (.iadd, 1) := by decide +kernel
theorem dL_cell_19 : decode cL_cell 19 = .ok (.ireturn, 1) := by decide +kernel
theorem dL_low_0 : decode cL_low 0 = .ok (.iload_n 0, 1) := by decide +kernel
theorem dL_low_1 : decode cL_low 1 = .ok (.ldc 8, 2) := by decide +kernel
theorem dL_low_3 : decode cL_low 3 = .ok (.iand, 1) := by decide +kernel
theorem dL_low_4 : decode cL_low 4 = .ok (.iload_n 1, 1) := by decide +kernel
theorem dL_low_5 : decode cL_low 5 = .ok (.irem, 1) := by decide +kernel
theorem dL_low_6 : decode cL_low 6 = .ok (.ireturn, 1) := by decide +kernel
theorem dL_call_0 : decode cL_call 0 = .ok (.iload_n 1, 1) := by decide +kernel
theorem dL_call_1 : decode cL_call 1 = .ok (.tableswitch 386 0 33 #[151, 157, 163, 177, 183, 189, 195, 204, 211, 218, 225, 231, 237, 243, 249, 256, 262, 268, 274, 288, 297, 303, 308, 315, 322, 328, 342, 348, 353, 359, 364, 369, 374, 380], 151) := by decide +kernel
theorem dL_call_152 : decode cL_call 152 = .ok (.aload_n 0, 1) := by decide +kernel
theorem dL_call_153 : decode cL_call 153 = .ok (.iload_n 2, 1) := by decide +kernel
theorem dL_call_154 : decode cL_call 154 = .ok (.invokevirtual 9, 3) := by decide +kernel
theorem dL_call_157 : decode cL_call 157 = .ok (.ireturn, 1) := by decide +kernel
theorem dL_call_158 : decode cL_call 158 = .ok (.aload_n 0, 1) := by decide +kernel
theorem dL_call_159 : decode cL_call 159 = .ok (.iload_n 2, 1) := by decide +kernel
theorem dL_call_160 : decode cL_call 160 = .ok (.invokevirtual 15, 3) := by decide +kernel
theorem dL_call_163 : decode cL_call 163 = .ok (.ireturn, 1) := by decide +kernel
theorem dL_call_164 : decode cL_call 164 = .ok (.aload_n 0, 1) := by decide +kernel
theorem dL_call_165 : decode cL_call 165 = .ok (.iload_n 2, 1) := by decide +kernel
theorem dL_call_166 : decode cL_call 166 = .ok (.invokevirtual 18, 3) := by decide +kernel
theorem dL_call_169 : decode cL_call 169 = .ok (.ifCond .eq 7, 3) := by decide +kernel
theorem dL_call_172 : decode cL_call 172 = .ok (.iconst 1, 1) := by decide +kernel
theorem dL_call_173 : decode cL_call 173 = .ok (.goto 4, 3) := by decide +kernel
theorem dL_call_176 : decode cL_call 176 = .ok (.iconst 0, 1) := by decide +kernel
theorem dL_call_177 : decode cL_call 177 = .ok (.ireturn, 1) := by decide +kernel
theorem dL_call_178 : decode cL_call 178 = .ok (.aload_n 0, 1) := by decide +kernel
theorem dL_call_179 : decode cL_call 179 = .ok (.iload_n 2, 1) := by decide +kernel
theorem dL_call_180 : decode cL_call 180 = .ok (.invokevirtual 22, 3) := by decide +kernel
theorem dL_call_183 : decode cL_call 183 = .ok (.ireturn, 1) := by decide +kernel
theorem dL_call_184 : decode cL_call 184 = .ok (.aload_n 0, 1) := by decide +kernel
theorem dL_call_185 : decode cL_call 185 = .ok (.iload_n 2, 1) := by decide +kernel
theorem dL_call_186 : decode cL_call 186 = .ok (.invokevirtual 25, 3) := by decide +kernel
theorem dL_call_189 : decode cL_call 189 = .ok (.ireturn, 1) := by decide +kernel
theorem dL_call_190 : decode cL_call 190 = .ok (.aload_n 0, 1) := by decide +kernel
theorem dL_call_191 : decode cL_call 191 = .ok (.iload_n 2, 1) := by decide +kernel
theorem dL_call_192 : decode cL_call 192 = .ok (.invokevirtual 28, 3) := by decide +kernel
theorem dL_call_195 : decode cL_call 195 = .ok (.ireturn, 1) := by decide +kernel
theorem dL_call_196 : decode cL_call 196 = .ok (.aload_n 0, 1) := by decide +kernel
theorem dL_call_197 : decode cL_call 197 = .ok (.iload_n 2, 1) := by decide +kernel
theorem dL_call_198 : decode cL_call 198 = .ok (.iload_n 3, 1) := by decide +kernel
theorem dL_call_199 : decode cL_call 199 = .ok (.iload 4, 2) := by decide +kernel
theorem dL_call_201 : decode cL_call 201 = .ok (.invokevirtual 31, 3) := by decide +kernel
theorem dL_call_204 : decode cL_call 204 = .ok (.ireturn, 1) := by decide +kernel
theorem dL_call_205 : decode cL_call 205 = .ok (.aload_n 0, 1) := by decide +kernel
theorem dL_call_206 : decode cL_call 206 = .ok (.iload_n 2, 1) := by decide +kernel
theorem dL_call_207 : decode cL_call 207 = .ok (.iload_n 3, 1) := by decide +kernel
theorem dL_call_208 : decode cL_call 208 = .ok (.invokevirtual 35, 3) := by decide +kernel
theorem dL_call_211 : decode cL_call 211 = .ok (.ireturn, 1) := by decide +kernel
theorem dL_call_212 : decode cL_call 212 = .ok (.aload_n 0, 1) := by decide +kernel
theorem dL_call_213 : decode cL_call 213 = .ok (.iload_n 2, 1) := by decide +kernel
theorem dL_call_214 : decode cL_call 214 = .ok (.iload_n 3, 1) := by decide +kernel
theorem dL_call_215 : decode cL_call 215 = .ok (.invokevirtual 39, 3) := by decide +kernel
theorem dL_call_218 : decode cL_call 218 = .ok (.ireturn, 1) := by decide +kernel
theorem dL_call_219 : decode cL_call 219 = .ok (.aload_n 0, 1) := by decide +kernel
theorem dL_call_220 : decode cL_call 220 = .ok (.iload_n 2, 1) := by decide +kernel
theorem dL_call_221 : decode cL_call 221 = .ok (.iload_n 3, 1) := by decide +kernel
theorem dL_call_222 : decode cL_call 222 = .ok (.invokevirtual 42, 3) := by decide +kernel
theorem dL_call_225 : decode cL_call 225 = .ok (.ireturn, 1) := by decide +kernel
theorem dL_call_226 : decode cL_call 226 = .ok (.aload_n 0, 1) := by decide +kernel
theorem dL_call_227 : decode cL_call 227 = .ok (.iload_n 2, 1) := by decide +kernel
theorem dL_call_228 : decode cL_call 228 = .ok (.invokevirtual 45, 3) := by decide +kernel
theorem dL_call_231 : decode cL_call 231 = .ok (.ireturn, 1) := by decide +kernel
theorem dL_call_232 : decode cL_call 232 = .ok (.aload_n 0, 1) := by decide +kernel
theorem dL_call_233 : decode cL_call 233 = .ok (.iload_n 2, 1) := by decide +kernel
theorem dL_call_234 : decode cL_call 234 = .ok (.invokevirtual 48, 3) := by decide +kernel
theorem dL_call_237 : decode cL_call 237 = .ok (.ireturn, 1) := by decide +kernel
theorem dL_call_238 : decode cL_call 238 = .ok (.aload_n 0, 1) := by decide +kernel
theorem dL_call_239 : decode cL_call 239 = .ok (.iload_n 2, 1) := by decide +kernel
theorem dL_call_240 : decode cL_call 240 = .ok (.invokevirtual 51, 3) := by decide +kernel
theorem dL_call_243 : decode cL_call 243 = .ok (.ireturn, 1) := by decide +kernel
theorem dL_call_244 : decode cL_call 244 = .ok (.aload_n 0, 1) := by decide +kernel
theorem dL_call_245 : decode cL_call 245 = .ok (.iload_n 2, 1) := by decide +kernel
theorem dL_call_246 : decode cL_call 246 = .ok (.invokevirtual 54, 3) := by decide +kernel
theorem dL_call_249 : decode cL_call 249 = .ok (.ireturn, 1) := by decide +kernel
theorem dL_call_250 : decode cL_call 250 = .ok (.aload_n 0, 1) := by decide +kernel
theorem dL_call_251 : decode cL_call 251 = .ok (.iload_n 2, 1) := by decide +kernel
theorem dL_call_252 : decode cL_call 252 = .ok (.iload_n 3, 1) := by decide +kernel
theorem dL_call_253 : decode cL_call 253 = .ok (.invokevirtual 57, 3) := by decide +kernel
theorem dL_call_256 : decode cL_call 256 = .ok (.ireturn, 1) := by decide +kernel
theorem dL_call_257 : decode cL_call 257 = .ok (.aload_n 0, 1) := by decide +kernel
theorem dL_call_258 : decode cL_call 258 = .ok (.iload_n 2, 1) := by decide +kernel
theorem dL_call_259 : decode cL_call 259 = .ok (.invokevirtual 60, 3) := by decide +kernel
theorem dL_call_262 : decode cL_call 262 = .ok (.ireturn, 1) := by decide +kernel
theorem dL_call_263 : decode cL_call 263 = .ok (.aload_n 0, 1) := by decide +kernel
theorem dL_call_264 : decode cL_call 264 = .ok (.iload_n 2, 1) := by decide +kernel
theorem dL_call_265 : decode cL_call 265 = .ok (.invokevirtual 63, 3) := by decide +kernel
theorem dL_call_268 : decode cL_call 268 = .ok (.ireturn, 1) := by decide +kernel
theorem dL_call_269 : decode cL_call 269 = .ok (.aload_n 0, 1) := by decide +kernel
theorem dL_call_270 : decode cL_call 270 = .ok (.iload_n 2, 1) := by decide +kernel
theorem dL_call_271 : decode cL_call 271 = .ok (.invokevirtual 66, 3) := by decide +kernel
theorem dL_call_274 : decode cL_call 274 = .ok (.ireturn, 1) := by decide +kernel
theorem dL_call_275 : decode cL_call 275 = .ok (.aload_n 0, 1) := by decide +kernel
theorem dL_call_276 : decode cL_call 276 = .ok (.iload_n 2, 1) := by decide +kernel
theorem dL_call_277 : decode cL_call 277 = .ok (.invokevirtual 69, 3) := by decide +kernel
theorem dL_call_280 : decode cL_call 280 = .ok (.ifCond .eq 7, 3) := by decide +kernel
theorem dL_call_283 : decode cL_call 283 = .ok (.iconst 1, 1) := by decide +kernel
theorem dL_call_284 : decode cL_call 284 = .ok (.goto 4, 3) := by decide +kernel
theorem dL_call_287 : decode cL_call 287 = .ok (.iconst 0, 1) := by decide +kernel
theorem dL_call_288 : decode cL_call 288 = .ok (.ireturn, 1) := by decide +kernel
theorem dL_call_289 : decode cL_call 289 = .ok (.aload_n 0, 1) := by decide +kernel
theorem dL_call_290 : decode cL_call 290 = .ok (.iload_n 2, 1) := by decide +kernel
theorem dL_call_291 : decode cL_call 291 = .ok (.iload_n 3, 1) := by decide +kernel
theorem dL_call_292 : decode cL_call 292 = .ok (.iload 4, 2) := by decide +kernel
theorem dL_call_294 : decode cL_call 294 = .ok (.invokevirtual 72, 3) := by decide +kernel
theorem dL_call_297 : decode cL_call 297 = .ok (.ireturn, 1) := by decide +kernel
theorem dL_call_298 : decode cL_call 298 = .ok (.aload_n 0, 1) := by decide +kernel
theorem dL_call_299 : decode cL_call 299 = .ok (.iload_n 2, 1) := by decide +kernel
theorem dL_call_300 : decode cL_call 300 = .ok (.invokevirtual 75, 3) := by decide +kernel
theorem dL_call_303 : decode cL_call 303 = .ok (.ireturn, 1) := by decide +kernel
theorem dL_call_304 : decode cL_call 304 = .ok (.aload_n 0, 1) := by decide +kernel
theorem dL_call_305 : decode cL_call 305 = .ok (.invokevirtual 78, 3) := by decide +kernel
theorem dL_call_308 : decode cL_call 308 = .ok (.ireturn, 1) := by decide +kernel
theorem dL_call_309 : decode cL_call 309 = .ok (.aload_n 0, 1) := by decide +kernel
theorem dL_call_310 : decode cL_call 310 = .ok (.iload_n 2, 1) := by decide +kernel
theorem dL_call_311 : decode cL_call 311 = .ok (.iload_n 3, 1) := by decide +kernel
theorem dL_call_312 : decode cL_call 312 = .ok (.invokevirtual 82, 3) := by decide +kernel
theorem dL_call_315 : decode cL_call 315 = .ok (.ireturn, 1) := by decide +kernel
theorem dL_call_316 : decode cL_call 316 = .ok (.aload_n 0, 1) := by decide +kernel
theorem dL_call_317 : decode cL_call 317 = .ok (.iload_n 2, 1) := by decide +kernel
theorem dL_call_318 : decode cL_call 318 = .ok (.iload_n 3, 1) := by decide +kernel
theorem dL_call_319 : decode cL_call 319 = .ok (.invokevirtual 85, 3) := by decide +kernel
theorem dL_call_322 : decode cL_call 322 = .ok (.ireturn, 1) := by decide +kernel
theorem dL_call_323 : decode cL_call 323 = .ok (.aload_n 0, 1) := by decide +kernel
theorem dL_call_324 : decode cL_call 324 = .ok (.iload_n 2, 1) := by decide +kernel
theorem dL_call_325 : decode cL_call 325 = .ok (.invokevirtual 88, 3) := by decide +kernel
theorem dL_call_328 : decode cL_call 328 = .ok (.ireturn, 1) := by decide +kernel
theorem dL_call_329 : decode cL_call 329 = .ok (.aload_n 0, 1) := by decide +kernel
theorem dL_call_330 : decode cL_call 330 = .ok (.iload_n 2, 1) := by decide +kernel
theorem dL_call_331 : decode cL_call 331 = .ok (.invokevirtual 91, 3) := by decide +kernel
theorem dL_call_334 : decode cL_call 334 = .ok (.ifCond .eq 7, 3) := by decide +kernel
theorem dL_call_337 : decode cL_call 337 = .ok (.iconst 1, 1) := by decide +kernel
theorem dL_call_338 : decode cL_call 338 = .ok (.goto 4, 3) := by decide +kernel
theorem dL_call_341 : decode cL_call 341 = .ok (.iconst 0, 1) := by decide +kernel
theorem dL_call_342 : decode cL_call 342 = .ok (.ireturn, 1) := by decide +kernel
theorem dL_call_343 : decode cL_call 343 = .ok (.aload_n 0, 1) := by decide +kernel
theorem dL_call_344 : decode cL_call 344 = .ok (.iload_n 2, 1) := by decide +kernel
theorem dL_call_345 : decode cL_call 345 = .ok (.invokevirtual 94, 3) := by decide +kernel
theorem dL_call_348 : decode cL_call 348 = .ok (.ireturn, 1) := by decide +kernel
theorem dL_call_349 : decode cL_call 349 = .ok (.aload_n 0, 1) := by decide +kernel
theorem dL_call_350 : decode cL_call 350 = .ok (.invokevirtual 97, 3) := by decide +kernel
theorem dL_call_353 : decode cL_call 353 = .ok (.ireturn, 1) := by decide +kernel
theorem dL_call_354 : decode cL_call 354 = .ok (.aload_n 0, 1) := by decide +kernel
theorem dL_call_355 : decode cL_call 355 = .ok (.iload_n 2, 1) := by decide +kernel
theorem dL_call_356 : decode cL_call 356 = .ok (.invokevirtual 100, 3) := by decide +kernel
theorem dL_call_359 : decode cL_call 359 = .ok (.ireturn, 1) := by decide +kernel
theorem dL_call_360 : decode cL_call 360 = .ok (.aload_n 0, 1) := by decide +kernel
theorem dL_call_361 : decode cL_call 361 = .ok (.invokevirtual 103, 3) := by decide +kernel
theorem dL_call_364 : decode cL_call 364 = .ok (.ireturn, 1) := by decide +kernel
theorem dL_call_365 : decode cL_call 365 = .ok (.aload_n 0, 1) := by decide +kernel
theorem dL_call_366 : decode cL_call 366 = .ok (.invokevirtual 106, 3) := by decide +kernel
theorem dL_call_369 : decode cL_call 369 = .ok (.ireturn, 1) := by decide +kernel
theorem dL_call_370 : decode cL_call 370 = .ok (.aload_n 0, 1) := by decide +kernel
theorem dL_call_371 : decode cL_call 371 = .ok (.invokevirtual 109, 3) := by decide +kernel
theorem dL_call_374 : decode cL_call 374 = .ok (.ireturn, 1) := by decide +kernel
theorem dL_call_375 : decode cL_call 375 = .ok (.aload_n 0, 1) := by decide +kernel
theorem dL_call_376 : decode cL_call 376 = .ok (.iload_n 2, 1) := by decide +kernel
theorem dL_call_377 : decode cL_call 377 = .ok (.invokevirtual 112, 3) := by decide +kernel
theorem dL_call_380 : decode cL_call 380 = .ok (.ireturn, 1) := by decide +kernel
theorem dL_call_381 : decode cL_call 381 = .ok (.aload_n 0, 1) := by decide +kernel
theorem dL_call_382 : decode cL_call 382 = .ok (.iload_n 2, 1) := by decide +kernel
theorem dL_call_383 : decode cL_call 383 = .ok (.invokevirtual 116, 3) := by decide +kernel
theorem dL_call_386 : decode cL_call 386 = .ok (.ireturn, 1) := by decide +kernel
theorem dL_call_387 : decode cL_call 387 = .ok (.aload_n 0, 1) := by decide +kernel
theorem dL_call_388 : decode cL_call 388 = .ok (.iload_n 2, 1) := by decide +kernel
theorem dL_call_389 : decode cL_call 389 = .ok (.invokevirtual 119, 3) := by decide +kernel
theorem dL_call_392 : decode cL_call 392 = .ok (.ireturn, 1) := by decide +kernel
theorem dL_call_393 : decode cL_call 393 = .ok (.astore 5, 2) := by decide +kernel
theorem dL_call_395 : decode cL_call 395 = .ok (.sipush (-1001), 3) := by decide +kernel
theorem dL_call_398 : decode cL_call 398 = .ok (.ireturn, 1) := by decide +kernel
theorem dL_call_399 : decode cL_call 399 = .ok (.astore 5, 2) := by decide +kernel
theorem dL_call_401 : decode cL_call 401 = .ok (.sipush (-1002), 3) := by decide +kernel
theorem dL_call_404 : decode cL_call 404 = .ok (.ireturn, 1) := by decide +kernel
theorem dL_call_405 : decode cL_call 405 = .ok (.astore 5, 2) := by decide +kernel
theorem dL_call_407 : decode cL_call 407 = .ok (.sipush (-1003), 3) := by decide +kernel
theorem dL_call_410 : decode cL_call 410 = .ok (.ireturn, 1) := by decide +kernel
theorem dL_call_411 : decode cL_call 411 = .ok (.astore 5, 2) := by decide +kernel
theorem dL_call_413 : decode cL_call 413 = .ok (.sipush (-1004), 3) := by decide +kernel
theorem dL_call_416 : decode cL_call 416 = .ok (.ireturn, 1) := by decide +kernel
theorem dL_call_417 : decode cL_call 417 = .ok (.astore 5, 2) := by decide +kernel
theorem dL_call_419 : decode cL_call 419 = .ok (.sipush (-1005), 3) := by decide +kernel
theorem dL_call_422 : decode cL_call 422 = .ok (.ireturn, 1) := by decide +kernel
theorem dL_state_0 : decode cL_state 0 = .ok (.ldc2_w 132, 3) := by decide +kernel
theorem dL_state_3 : decode cL_state 3 = .ok (.lstore 4, 2) := by decide +kernel
theorem dL_state_5 : decode cL_state 5 = .ok (.iconst 0, 1) := by decide +kernel
theorem dL_state_6 : decode cL_state 6 = .ok (.istore 6, 2) := by decide +kernel
theorem dL_state_8 : decode cL_state 8 = .ok (.iload 6, 2) := by decide +kernel
theorem dL_state_10 : decode cL_state 10 = .ok (.aload_n 0, 1) := by decide +kernel
theorem dL_state_11 : decode cL_state 11 = .ok (.invokevirtual 134, 3) := by decide +kernel
theorem dL_state_14 : decode cL_state 14 = .ok (.if_icmp .ge 98, 3) := by decide +kernel
theorem dL_state_17 : decode cL_state 17 = .ok (.ldc2_w 137, 3) := by decide +kernel
theorem dL_state_20 : decode cL_state 20 = .ok (.ldc2_w 137, 3) := by decide +kernel
theorem dL_state_23 : decode cL_state 23 = .ok (.lload 4, 2) := by decide +kernel
theorem dL_state_25 : decode cL_state 25 = .ok (.lmul, 1) := by decide +kernel
theorem dL_state_26 : decode cL_state 26 = .ok (.aload_n 0, 1) := by decide +kernel
theorem dL_state_27 : decode cL_state 27 = .ok (.iconst 3, 1) := by decide +kernel
theorem dL_state_28 : decode cL_state 28 = .ok (.iload 6, 2) := by decide +kernel
theorem dL_state_30 : decode cL_state 30 = .ok (.iconst 0, 1) := by decide +kernel
theorem dL_state_31 : decode cL_state 31 = .ok (.iconst 0, 1) := by decide +kernel
theorem dL_state_32 : decode cL_state 32 = .ok (.invokestatic 139, 3) := by decide +kernel
theorem dL_state_35 : decode cL_state 35 = .ok (.i2l, 1) := by decide +kernel
theorem dL_state_36 : decode cL_state 36 = .ok (.ladd, 1) := by decide +kernel
theorem dL_state_37 : decode cL_state 37 = .ok (.lmul, 1) := by decide +kernel
theorem dL_state_38 : decode cL_state 38 = .ok (.aload_n 0, 1) := by decide +kernel
theorem dL_state_39 : decode cL_state 39 = .ok (.bipush 26, 2) := by decide +kernel
theorem dL_state_41 : decode cL_state 41 = .ok (.iload 6, 2) := by decide +kernel
theorem dL_state_43 : decode cL_state 43 = .ok (.iconst 0, 1) := by decide +kernel
theorem dL_state_44 : decode cL_state 44 = .ok (.iconst 0, 1) := by decide +kernel
theorem dL_state_45 : decode cL_state 45 = .ok (.invokestatic 139, 3) := by decide +kernel
theorem dL_state_48 : decode cL_state 48 = .ok (.i2l, 1) := by decide +kernel
theorem dL_state_49 : decode cL_state 49 = .ok (.ladd, 1) := by decide +kernel
theorem dL_state_50 : decode cL_state 50 = .ok (.lstore 4, 2) := by decide +kernel
theorem dL_state_52 : decode cL_state 52 = .ok (.iconst 0, 1) := by decide +kernel
theorem dL_state_53 : decode cL_state 53 = .ok (.istore 7, 2) := by decide +kernel
theorem dL_state_55 : decode cL_state 55 = .ok (.iload 7, 2) := by decide +kernel
theorem dL_state_57 : decode cL_state 57 = .ok (.bipush 16, 2) := by decide +kernel
theorem dL_state_59 : decode cL_state 59 = .ok (.if_icmp .ge 47, 3) := by decide +kernel
theorem dL_state_62 : decode cL_state 62 = .ok (.ldc2_w 137, 3) := by decide +kernel
theorem dL_state_65 : decode cL_state 65 = .ok (.ldc2_w 137, 3) := by decide +kernel
theorem dL_state_68 : decode cL_state 68 = .ok (.lload 4, 2) := by decide +kernel
theorem dL_state_70 : decode cL_state 70 = .ok (.lmul, 1) := by decide +kernel
theorem dL_state_71 : decode cL_state 71 = .ok (.aload_n 0, 1) := by decide +kernel
theorem dL_state_72 : decode cL_state 72 = .ok (.bipush 8, 2) := by decide +kernel
theorem dL_state_74 : decode cL_state 74 = .ok (.iload 6, 2) := by decide +kernel
theorem dL_state_76 : decode cL_state 76 = .ok (.iload 7, 2) := by decide +kernel
theorem dL_state_78 : decode cL_state 78 = .ok (.iconst 0, 1) := by decide +kernel
theorem dL_state_79 : decode cL_state 79 = .ok (.invokestatic 139, 3) := by decide +kernel
theorem dL_state_82 : decode cL_state 82 = .ok (.i2l, 1) := by decide +kernel
theorem dL_state_83 : decode cL_state 83 = .ok (.ladd, 1) := by decide +kernel
theorem dL_state_84 : decode cL_state 84 = .ok (.lmul, 1) := by decide +kernel
theorem dL_state_85 : decode cL_state 85 = .ok (.aload_n 0, 1) := by decide +kernel
theorem dL_state_86 : decode cL_state 86 = .ok (.bipush 9, 2) := by decide +kernel
theorem dL_state_88 : decode cL_state 88 = .ok (.iload 6, 2) := by decide +kernel
theorem dL_state_90 : decode cL_state 90 = .ok (.iload 7, 2) := by decide +kernel
theorem dL_state_92 : decode cL_state 92 = .ok (.iconst 0, 1) := by decide +kernel
theorem dL_state_93 : decode cL_state 93 = .ok (.invokestatic 139, 3) := by decide +kernel
theorem dL_state_96 : decode cL_state 96 = .ok (.i2l, 1) := by decide +kernel
theorem dL_state_97 : decode cL_state 97 = .ok (.ladd, 1) := by decide +kernel
theorem dL_state_98 : decode cL_state 98 = .ok (.lstore 4, 2) := by decide +kernel
theorem dL_state_100 : decode cL_state 100 = .ok (.iinc 7 3, 3) := by decide +kernel
theorem dL_state_103 : decode cL_state 103 = .ok (.goto (-48), 3) := by decide +kernel
theorem dL_state_106 : decode cL_state 106 = .ok (.iinc 6 1, 3) := by decide +kernel
theorem dL_state_109 : decode cL_state 109 = .ok (.goto (-101), 3) := by decide +kernel
theorem dL_state_112 : decode cL_state 112 = .ok (.iconst 0, 1) := by decide +kernel
theorem dL_state_113 : decode cL_state 113 = .ok (.istore 6, 2) := by decide +kernel
theorem dL_state_115 : decode cL_state 115 = .ok (.iload 6, 2) := by decide +kernel
theorem dL_state_117 : decode cL_state 117 = .ok (.iload_n 1, 1) := by decide +kernel
theorem dL_state_118 : decode cL_state 118 = .ok (.if_icmp .ge 45, 3) := by decide +kernel
theorem dL_state_121 : decode cL_state 121 = .ok (.ldc2_w 137, 3) := by decide +kernel
theorem dL_state_124 : decode cL_state 124 = .ok (.ldc2_w 137, 3) := by decide +kernel
theorem dL_state_127 : decode cL_state 127 = .ok (.lload 4, 2) := by decide +kernel
theorem dL_state_129 : decode cL_state 129 = .ok (.lmul, 1) := by decide +kernel
theorem dL_state_130 : decode cL_state 130 = .ok (.aload_n 0, 1) := by decide +kernel
theorem dL_state_131 : decode cL_state 131 = .ok (.bipush 11, 2) := by decide +kernel
theorem dL_state_133 : decode cL_state 133 = .ok (.iload 6, 2) := by decide +kernel
theorem dL_state_135 : decode cL_state 135 = .ok (.iconst 0, 1) := by decide +kernel
theorem dL_state_136 : decode cL_state 136 = .ok (.iconst 0, 1) := by decide +kernel
theorem dL_state_137 : decode cL_state 137 = .ok (.invokestatic 139, 3) := by decide +kernel
theorem dL_state_140 : decode cL_state 140 = .ok (.i2l, 1) := by decide +kernel
theorem dL_state_141 : decode cL_state 141 = .ok (.ladd, 1) := by decide +kernel
theorem dL_state_142 : decode cL_state 142 = .ok (.lmul, 1) := by decide +kernel
theorem dL_state_143 : decode cL_state 143 = .ok (.aload_n 0, 1) := by decide +kernel
theorem dL_state_144 : decode cL_state 144 = .ok (.bipush 15, 2) := by decide +kernel
theorem dL_state_146 : decode cL_state 146 = .ok (.iload 6, 2) := by decide +kernel
theorem dL_state_148 : decode cL_state 148 = .ok (.iconst 0, 1) := by decide +kernel
theorem dL_state_149 : decode cL_state 149 = .ok (.iconst 0, 1) := by decide +kernel
theorem dL_state_150 : decode cL_state 150 = .ok (.invokestatic 139, 3) := by decide +kernel
theorem dL_state_153 : decode cL_state 153 = .ok (.i2l, 1) := by decide +kernel
theorem dL_state_154 : decode cL_state 154 = .ok (.ladd, 1) := by decide +kernel
theorem dL_state_155 : decode cL_state 155 = .ok (.lstore 4, 2) := by decide +kernel
theorem dL_state_157 : decode cL_state 157 = .ok (.iinc 6 1, 3) := by decide +kernel
theorem dL_state_160 : decode cL_state 160 = .ok (.goto (-45), 3) := by decide +kernel
theorem dL_state_163 : decode cL_state 163 = .ok (.iconst 0, 1) := by decide +kernel
theorem dL_state_164 : decode cL_state 164 = .ok (.istore 6, 2) := by decide +kernel
theorem dL_state_166 : decode cL_state 166 = .ok (.iload 6, 2) := by decide +kernel
theorem dL_state_168 : decode cL_state 168 = .ok (.iload_n 2, 1) := by decide +kernel
theorem dL_state_169 : decode cL_state 169 = .ok (.if_icmp .ge 29, 3) := by decide +kernel
theorem dL_state_172 : decode cL_state 172 = .ok (.ldc2_w 137, 3) := by decide +kernel
theorem dL_state_175 : decode cL_state 175 = .ok (.lload 4, 2) := by decide +kernel
theorem dL_state_177 : decode cL_state 177 = .ok (.lmul, 1) := by decide +kernel
theorem dL_state_178 : decode cL_state 178 = .ok (.aload_n 0, 1) := by decide +kernel
theorem dL_state_179 : decode cL_state 179 = .ok (.bipush 18, 2) := by decide +kernel
theorem dL_state_181 : decode cL_state 181 = .ok (.iload 6, 2) := by decide +kernel
theorem dL_state_183 : decode cL_state 183 = .ok (.iconst 0, 1) := by decide +kernel
theorem dL_state_184 : decode cL_state 184 = .ok (.iconst 0, 1) := by decide +kernel
theorem dL_state_185 : decode cL_state 185 = .ok (.invokestatic 139, 3) := by decide +kernel
theorem dL_state_188 : decode cL_state 188 = .ok (.i2l, 1) := by decide +kernel
theorem dL_state_189 : decode cL_state 189 = .ok (.ladd, 1) := by decide +kernel
theorem dL_state_190 : decode cL_state 190 = .ok (.lstore 4, 2) := by decide +kernel
theorem dL_state_192 : decode cL_state 192 = .ok (.iinc 6 1, 3) := by decide +kernel
theorem dL_state_195 : decode cL_state 195 = .ok (.goto (-29), 3) := by decide +kernel
theorem dL_state_198 : decode cL_state 198 = .ok (.iconst 0, 1) := by decide +kernel
theorem dL_state_199 : decode cL_state 199 = .ok (.istore 6, 2) := by decide +kernel
theorem dL_state_201 : decode cL_state 201 = .ok (.iload 6, 2) := by decide +kernel
theorem dL_state_203 : decode cL_state 203 = .ok (.iload_n 3, 1) := by decide +kernel
theorem dL_state_204 : decode cL_state 204 = .ok (.if_icmp .ge 29, 3) := by decide +kernel
theorem dL_state_207 : decode cL_state 207 = .ok (.ldc2_w 137, 3) := by decide +kernel
theorem dL_state_210 : decode cL_state 210 = .ok (.lload 4, 2) := by decide +kernel
theorem dL_state_212 : decode cL_state 212 = .ok (.lmul, 1) := by decide +kernel
theorem dL_state_213 : decode cL_state 213 = .ok (.aload_n 0, 1) := by decide +kernel
theorem dL_state_214 : decode cL_state 214 = .ok (.bipush 25, 2) := by decide +kernel
theorem dL_state_216 : decode cL_state 216 = .ok (.iload 6, 2) := by decide +kernel
theorem dL_state_218 : decode cL_state 218 = .ok (.iconst 0, 1) := by decide +kernel
theorem dL_state_219 : decode cL_state 219 = .ok (.iconst 0, 1) := by decide +kernel
theorem dL_state_220 : decode cL_state 220 = .ok (.invokestatic 139, 3) := by decide +kernel
theorem dL_state_223 : decode cL_state 223 = .ok (.i2l, 1) := by decide +kernel
theorem dL_state_224 : decode cL_state 224 = .ok (.ladd, 1) := by decide +kernel
theorem dL_state_225 : decode cL_state 225 = .ok (.lstore 4, 2) := by decide +kernel
theorem dL_state_227 : decode cL_state 227 = .ok (.iinc 6 1, 3) := by decide +kernel
theorem dL_state_230 : decode cL_state 230 = .ok (.goto (-29), 3) := by decide +kernel
theorem dL_state_233 : decode cL_state 233 = .ok (.ldc2_w 137, 3) := by decide +kernel
theorem dL_state_236 : decode cL_state 236 = .ok (.ldc2_w 137, 3) := by decide +kernel
theorem dL_state_239 : decode cL_state 239 = .ok (.ldc2_w 137, 3) := by decide +kernel
theorem dL_state_242 : decode cL_state 242 = .ok (.ldc2_w 137, 3) := by decide +kernel
theorem dL_state_245 : decode cL_state 245 = .ok (.lload 4, 2) := by decide +kernel
theorem dL_state_247 : decode cL_state 247 = .ok (.lmul, 1) := by decide +kernel
theorem dL_state_248 : decode cL_state 248 = .ok (.aload_n 0, 1) := by decide +kernel
theorem dL_state_249 : decode cL_state 249 = .ok (.invokevirtual 134, 3) := by decide +kernel
theorem dL_state_252 : decode cL_state 252 = .ok (.i2l, 1) := by decide +kernel
theorem dL_state_253 : decode cL_state 253 = .ok (.ladd, 1) := by decide +kernel
theorem dL_state_254 : decode cL_state 254 = .ok (.lmul, 1) := by decide +kernel
theorem dL_state_255 : decode cL_state 255 = .ok (.aload_n 0, 1) := by decide +kernel
theorem dL_state_256 : decode cL_state 256 = .ok (.invokevirtual 145, 3) := by decide +kernel
theorem dL_state_259 : decode cL_state 259 = .ok (.i2l, 1) := by decide +kernel
theorem dL_state_260 : decode cL_state 260 = .ok (.ladd, 1) := by decide +kernel
theorem dL_state_261 : decode cL_state 261 = .ok (.lmul, 1) := by decide +kernel
theorem dL_state_262 : decode cL_state 262 = .ok (.aload_n 0, 1) := by decide +kernel
theorem dL_state_263 : decode cL_state 263 = .ok (.invokevirtual 148, 3) := by decide +kernel
theorem dL_state_266 : decode cL_state 266 = .ok (.i2l, 1) := by decide +kernel
theorem dL_state_267 : decode cL_state 267 = .ok (.ladd, 1) := by decide +kernel
theorem dL_state_268 : decode cL_state 268 = .ok (.lmul, 1) := by decide +kernel
theorem dL_state_269 : decode cL_state 269 = .ok (.aload_n 0, 1) := by decide +kernel
theorem dL_state_270 : decode cL_state 270 = .ok (.invokevirtual 151, 3) := by decide +kernel
theorem dL_state_273 : decode cL_state 273 = .ok (.i2l, 1) := by decide +kernel
theorem dL_state_274 : decode cL_state 274 = .ok (.ladd, 1) := by decide +kernel
theorem dL_state_275 : decode cL_state 275 = .ok (.lreturn, 1) := by decide +kernel
theorem dL_sound_0 : decode cL_sound 0 = .ok (.iconst 0, 1) := by decide +kernel
theorem dL_sound_1 : decode cL_sound 1 = .ok (.istore_n 3, 1) := by decide +kernel
theorem dL_sound_2 : decode cL_sound 2 = .ok (.iconst 0, 1) := by decide +kernel
theorem dL_sound_3 : decode cL_sound 3 = .ok (.istore 4, 2) := by decide +kernel
theorem dL_sound_5 : decode cL_sound 5 = .ok (.iconst 0, 1) := by decide +kernel
theorem dL_sound_6 : decode cL_sound 6 = .ok (.istore 5, 2) := by decide +kernel
theorem dL_sound_8 : decode cL_sound 8 = .ok (.iconst 0, 1) := by decide +kernel
theorem dL_sound_9 : decode cL_sound 9 = .ok (.istore 6, 2) := by decide +kernel
theorem dL_sound_11 : decode cL_sound 11 = .ok (.iconst 0, 1) := by decide +kernel
theorem dL_sound_12 : decode cL_sound 12 = .ok (.istore 7, 2) := by decide +kernel
theorem dL_sound_14 : decode cL_sound 14 = .ok (.iload 7, 2) := by decide +kernel
theorem dL_sound_16 : decode cL_sound 16 = .ok (.bipush 64, 2) := by decide +kernel
theorem dL_sound_18 : decode cL_sound 18 = .ok (.if_icmp .ge 63, 3) := by decide +kernel
theorem dL_sound_21 : decode cL_sound 21 = .ok (.aload_n 0, 1) := by decide +kernel
theorem dL_sound_22 : decode cL_sound 22 = .ok (.bipush 12, 2) := by decide +kernel
theorem dL_sound_24 : decode cL_sound 24 = .ok (.iload 7, 2) := by decide +kernel
theorem dL_sound_26 : decode cL_sound 26 = .ok (.iconst 0, 1) := by decide +kernel
theorem dL_sound_27 : decode cL_sound 27 = .ok (.iconst 0, 1) := by decide +kernel
theorem dL_sound_28 : decode cL_sound 28 = .ok (.invokestatic 139, 3) := by decide +kernel
theorem dL_sound_31 : decode cL_sound 31 = .ok (.istore 8, 2) := by decide +kernel
theorem dL_sound_33 : decode cL_sound 33 = .ok (.iload_n 3, 1) := by decide +kernel
theorem dL_sound_34 : decode cL_sound 34 = .ok (.iload 8, 2) := by decide +kernel
theorem dL_sound_36 : decode cL_sound 36 = .ok (.ifCond .ne 7, 3) := by decide +kernel
theorem dL_sound_39 : decode cL_sound 39 = .ok (.iconst 1, 1) := by decide +kernel
theorem dL_sound_40 : decode cL_sound 40 = .ok (.goto 4, 3) := by decide +kernel
theorem dL_sound_43 : decode cL_sound 43 = .ok (.iconst 0, 1) := by decide +kernel
theorem dL_sound_44 : decode cL_sound 44 = .ok (.iadd, 1) := by decide +kernel
theorem dL_sound_45 : decode cL_sound 45 = .ok (.istore_n 3, 1) := by decide +kernel
theorem dL_sound_46 : decode cL_sound 46 = .ok (.iload 6, 2) := by decide +kernel
theorem dL_sound_48 : decode cL_sound 48 = .ok (.iload 8, 2) := by decide +kernel
theorem dL_sound_50 : decode cL_sound 50 = .ok (.iadd, 1) := by decide +kernel
theorem dL_sound_51 : decode cL_sound 51 = .ok (.istore 6, 2) := by decide +kernel
theorem dL_sound_53 : decode cL_sound 53 = .ok (.iload 8, 2) := by decide +kernel
theorem dL_sound_55 : decode cL_sound 55 = .ok (.ifCond .lt 18, 3) := by decide +kernel
theorem dL_sound_58 : decode cL_sound 58 = .ok (.iload 8, 2) := by decide +kernel
theorem dL_sound_60 : decode cL_sound 60 = .ok (.aload_n 0, 1) := by decide +kernel
theorem dL_sound_61 : decode cL_sound 61 = .ok (.bipush 13, 2) := by decide +kernel
theorem dL_sound_63 : decode cL_sound 63 = .ok (.iload 7, 2) := by decide +kernel
theorem dL_sound_65 : decode cL_sound 65 = .ok (.iconst 0, 1) := by decide +kernel
theorem dL_sound_66 : decode cL_sound 66 = .ok (.iconst 0, 1) := by decide +kernel
theorem dL_sound_67 : decode cL_sound 67 = .ok (.invokestatic 139, 3) := by decide +kernel
theorem dL_sound_70 : decode cL_sound 70 = .ok (.if_icmp .eq 5, 3) := by decide +kernel
theorem dL_sound_73 : decode cL_sound 73 = .ok (.iconst 0, 1) := by decide +kernel
theorem dL_sound_74 : decode cL_sound 74 = .ok (.ireturn, 1) := by decide +kernel
theorem dL_sound_75 : decode cL_sound 75 = .ok (.iinc 7 1, 3) := by decide +kernel
theorem dL_sound_78 : decode cL_sound 78 = .ok (.goto (-64), 3) := by decide +kernel
theorem dL_sound_81 : decode cL_sound 81 = .ok (.iconst 0, 1) := by decide +kernel
theorem dL_sound_82 : decode cL_sound 82 = .ok (.istore 7, 2) := by decide +kernel
theorem dL_sound_84 : decode cL_sound 84 = .ok (.iload 7, 2) := by decide +kernel
theorem dL_sound_86 : decode cL_sound 86 = .ok (.aload_n 0, 1) := by decide +kernel
theorem dL_sound_87 : decode cL_sound 87 = .ok (.invokevirtual 134, 3) := by decide +kernel
theorem dL_sound_90 : decode cL_sound 90 = .ok (.if_icmp .ge 193, 3) := by decide +kernel
theorem dL_sound_93 : decode cL_sound 93 = .ok (.iconst 0, 1) := by decide +kernel
theorem dL_sound_94 : decode cL_sound 94 = .ok (.istore 8, 2) := by decide +kernel
theorem dL_sound_96 : decode cL_sound 96 = .ok (.iconst 0, 1) := by decide +kernel
theorem dL_sound_97 : decode cL_sound 97 = .ok (.istore 9, 2) := by decide +kernel
theorem dL_sound_99 : decode cL_sound 99 = .ok (.iload 9, 2) := by decide +kernel
theorem dL_sound_101 : decode cL_sound 101 = .ok (.bipush 16, 2) := by decide +kernel
theorem dL_sound_103 : decode cL_sound 103 = .ok (.if_icmp .ge 90, 3) := by decide +kernel
theorem dL_sound_106 : decode cL_sound 106 = .ok (.aload_n 0, 1) := by decide +kernel
theorem dL_sound_107 : decode cL_sound 107 = .ok (.bipush 9, 2) := by decide +kernel
theorem dL_sound_109 : decode cL_sound 109 = .ok (.iload 7, 2) := by decide +kernel
theorem dL_sound_111 : decode cL_sound 111 = .ok (.iload 9, 2) := by decide +kernel
theorem dL_sound_113 : decode cL_sound 113 = .ok (.iconst 0, 1) := by decide +kernel
theorem dL_sound_114 : decode cL_sound 114 = .ok (.invokestatic 139, 3) := by decide +kernel
theorem dL_sound_117 : decode cL_sound 117 = .ok (.istore 10, 2) := by decide +kernel
theorem dL_sound_119 : decode cL_sound 119 = .ok (.iload 8, 2) := by decide +kernel
theorem dL_sound_121 : decode cL_sound 121 = .ok (.iload 10, 2) := by decide +kernel
theorem dL_sound_123 : decode cL_sound 123 = .ok (.ifCond .lt 7, 3) := by decide +kernel
theorem dL_sound_126 : decode cL_sound 126 = .ok (.iconst 1, 1) := by decide +kernel
theorem dL_sound_127 : decode cL_sound 127 = .ok (.goto 4, 3) := by decide +kernel
theorem dL_sound_130 : decode cL_sound 130 = .ok (.iconst 0, 1) := by decide +kernel
theorem dL_sound_131 : decode cL_sound 131 = .ok (.iadd, 1) := by decide +kernel
theorem dL_sound_132 : decode cL_sound 132 = .ok (.istore 8, 2) := by decide +kernel
theorem dL_sound_134 : decode cL_sound 134 = .ok (.iload 10, 2) := by decide +kernel
theorem dL_sound_136 : decode cL_sound 136 = .ok (.ifCond .lt 17, 3) := by decide +kernel
theorem dL_sound_139 : decode cL_sound 139 = .ok (.aload_n 0, 1) := by decide +kernel
theorem dL_sound_140 : decode cL_sound 140 = .ok (.bipush 12, 2) := by decide +kernel
theorem dL_sound_142 : decode cL_sound 142 = .ok (.iload 10, 2) := by decide +kernel
theorem dL_sound_144 : decode cL_sound 144 = .ok (.iconst 0, 1) := by decide +kernel
theorem dL_sound_145 : decode cL_sound 145 = .ok (.iconst 0, 1) := by decide +kernel
theorem dL_sound_146 : decode cL_sound 146 = .ok (.invokestatic 139, 3) := by decide +kernel
theorem dL_sound_149 : decode cL_sound 149 = .ok (.iconst 1, 1) := by decide +kernel
theorem dL_sound_150 : decode cL_sound 150 = .ok (.if_icmp .lt 35, 3) := by decide +kernel
theorem dL_sound_153 : decode cL_sound 153 = .ok (.iload 10, 2) := by decide +kernel
theorem dL_sound_155 : decode cL_sound 155 = .ok (.ifCond .lt 7, 3) := by decide +kernel
theorem dL_sound_158 : decode cL_sound 158 = .ok (.iconst 1, 1) := by decide +kernel
theorem dL_sound_159 : decode cL_sound 159 = .ok (.goto 4, 3) := by decide +kernel
theorem dL_sound_162 : decode cL_sound 162 = .ok (.iconst 0, 1) := by decide +kernel
theorem dL_sound_163 : decode cL_sound 163 = .ok (.aload_n 0, 1) := by decide +kernel
theorem dL_sound_164 : decode cL_sound 164 = .ok (.bipush 8, 2) := by decide +kernel
theorem dL_sound_166 : decode cL_sound 166 = .ok (.iload 7, 2) := by decide +kernel
theorem dL_sound_168 : decode cL_sound 168 = .ok (.iload 9, 2) := by decide +kernel
theorem dL_sound_170 : decode cL_sound 170 = .ok (.iconst 0, 1) := by decide +kernel
theorem dL_sound_171 : decode cL_sound 171 = .ok (.invokestatic 139, 3) := by decide +kernel
theorem dL_sound_174 : decode cL_sound 174 = .ok (.ifCond .lt 7, 3) := by decide +kernel
theorem dL_sound_177 : decode cL_sound 177 = .ok (.iconst 1, 1) := by decide +kernel
theorem dL_sound_178 : decode cL_sound 178 = .ok (.goto 4, 3) := by decide +kernel
theorem dL_sound_181 : decode cL_sound 181 = .ok (.iconst 0, 1) := by decide +kernel
theorem dL_sound_182 : decode cL_sound 182 = .ok (.if_icmp .eq 5, 3) := by decide +kernel
theorem dL_sound_185 : decode cL_sound 185 = .ok (.iconst 0, 1) := by decide +kernel
theorem dL_sound_186 : decode cL_sound 186 = .ok (.ireturn, 1) := by decide +kernel
theorem dL_sound_187 : decode cL_sound 187 = .ok (.iinc 9 1, 3) := by decide +kernel
theorem dL_sound_190 : decode cL_sound 190 = .ok (.goto (-91), 3) := by decide +kernel
theorem dL_sound_193 : decode cL_sound 193 = .ok (.iload 5, 2) := by decide +kernel
theorem dL_sound_195 : decode cL_sound 195 = .ok (.iload 8, 2) := by decide +kernel
theorem dL_sound_197 : decode cL_sound 197 = .ok (.iadd, 1) := by decide +kernel
theorem dL_sound_198 : decode cL_sound 198 = .ok (.istore 5, 2) := by decide +kernel
theorem dL_sound_200 : decode cL_sound 200 = .ok (.aload_n 0, 1) := by decide +kernel
theorem dL_sound_201 : decode cL_sound 201 = .ok (.bipush 10, 2) := by decide +kernel
theorem dL_sound_203 : decode cL_sound 203 = .ok (.iload 7, 2) := by decide +kernel
theorem dL_sound_205 : decode cL_sound 205 = .ok (.iconst 0, 1) := by decide +kernel
theorem dL_sound_206 : decode cL_sound 206 = .ok (.iconst 0, 1) := by decide +kernel
theorem dL_sound_207 : decode cL_sound 207 = .ok (.invokestatic 139, 3) := by decide +kernel
theorem dL_sound_210 : decode cL_sound 210 = .ok (.iload 8, 2) := by decide +kernel
theorem dL_sound_212 : decode cL_sound 212 = .ok (.if_icmp .ne 63, 3) := by decide +kernel
theorem dL_sound_215 : decode cL_sound 215 = .ok (.iload 8, 2) := by decide +kernel
theorem dL_sound_217 : decode cL_sound 217 = .ok (.ifCond .le 16, 3) := by decide +kernel
theorem dL_sound_220 : decode cL_sound 220 = .ok (.aload_n 0, 1) := by decide +kernel
theorem dL_sound_221 : decode cL_sound 221 = .ok (.iconst 2, 1) := by decide +kernel
theorem dL_sound_222 : decode cL_sound 222 = .ok (.iload 7, 2) := by decide +kernel
theorem dL_sound_224 : decode cL_sound 224 = .ok (.iconst 0, 1) := by decide +kernel
theorem dL_sound_225 : decode cL_sound 225 = .ok (.iconst 0, 1) := by decide +kernel
theorem dL_sound_226 : decode cL_sound 226 = .ok (.invokestatic 139, 3) := by decide +kernel
theorem dL_sound_229 : decode cL_sound 229 = .ok (.iconst 1, 1) := by decide +kernel
theorem dL_sound_230 : decode cL_sound 230 = .ok (.if_icmp .ne 45, 3) := by decide +kernel
theorem dL_sound_233 : decode cL_sound 233 = .ok (.aload_n 0, 1) := by decide +kernel
theorem dL_sound_234 : decode cL_sound 234 = .ok (.iconst 2, 1) := by decide +kernel
theorem dL_sound_235 : decode cL_sound 235 = .ok (.iload 7, 2) := by decide +kernel
theorem dL_sound_237 : decode cL_sound 237 = .ok (.iconst 0, 1) := by decide +kernel
theorem dL_sound_238 : decode cL_sound 238 = .ok (.iconst 0, 1) := by decide +kernel
theorem dL_sound_239 : decode cL_sound 239 = .ok (.invokestatic 139, 3) := by decide +kernel
theorem dL_sound_242 : decode cL_sound 242 = .ok (.aload_n 0, 1) := by decide +kernel
theorem dL_sound_243 : decode cL_sound 243 = .ok (.iconst 3, 1) := by decide +kernel
theorem dL_sound_244 : decode cL_sound 244 = .ok (.iload 7, 2) := by decide +kernel
theorem dL_sound_246 : decode cL_sound 246 = .ok (.iconst 0, 1) := by decide +kernel
theorem dL_sound_247 : decode cL_sound 247 = .ok (.iconst 0, 1) := by decide +kernel
theorem dL_sound_248 : decode cL_sound 248 = .ok (.invokestatic 139, 3) := by decide +kernel
theorem dL_sound_251 : decode cL_sound 251 = .ok (.ifCond .gt 16, 3) := by decide +kernel
theorem dL_sound_254 : decode cL_sound 254 = .ok (.aload_n 0, 1) := by decide +kernel
theorem dL_sound_255 : decode cL_sound 255 = .ok (.bipush 26, 2) := by decide +kernel
theorem dL_sound_257 : decode cL_sound 257 = .ok (.iload 7, 2) := by decide +kernel
theorem dL_sound_259 : decode cL_sound 259 = .ok (.iconst 0, 1) := by decide +kernel
theorem dL_sound_260 : decode cL_sound 260 = .ok (.iconst 0, 1) := by decide +kernel
theorem dL_sound_261 : decode cL_sound 261 = .ok (.invokestatic 139, 3) := by decide +kernel
theorem dL_sound_264 : decode cL_sound 264 = .ok (.ifCond .le 7, 3) := by decide +kernel
theorem dL_sound_267 : decode cL_sound 267 = .ok (.iconst 1, 1) := by decide +kernel
theorem dL_sound_268 : decode cL_sound 268 = .ok (.goto 4, 3) := by decide +kernel
theorem dL_sound_271 : decode cL_sound 271 = .ok (.iconst 0, 1) := by decide +kernel
theorem dL_sound_272 : decode cL_sound 272 = .ok (.if_icmp .eq 5, 3) := by decide +kernel
theorem dL_sound_275 : decode cL_sound 275 = .ok (.iconst 0, 1) := by decide +kernel
theorem dL_sound_276 : decode cL_sound 276 = .ok (.ireturn, 1) := by decide +kernel
theorem dL_sound_277 : decode cL_sound 277 = .ok (.iinc 7 1, 3) := by decide +kernel
theorem dL_sound_280 : decode cL_sound 280 = .ok (.goto (-196), 3) := by decide +kernel
theorem dL_sound_283 : decode cL_sound 283 = .ok (.iconst 0, 1) := by decide +kernel
theorem dL_sound_284 : decode cL_sound 284 = .ok (.istore 7, 2) := by decide +kernel
theorem dL_sound_286 : decode cL_sound 286 = .ok (.iload 7, 2) := by decide +kernel
theorem dL_sound_288 : decode cL_sound 288 = .ok (.iload_n 1, 1) := by decide +kernel
theorem dL_sound_289 : decode cL_sound 289 = .ok (.if_icmp .ge 43, 3) := by decide +kernel
theorem dL_sound_292 : decode cL_sound 292 = .ok (.iload 4, 2) := by decide +kernel
theorem dL_sound_294 : decode cL_sound 294 = .ok (.aload_n 0, 1) := by decide +kernel
theorem dL_sound_295 : decode cL_sound 295 = .ok (.bipush 15, 2) := by decide +kernel
theorem dL_sound_297 : decode cL_sound 297 = .ok (.iload 7, 2) := by decide +kernel
theorem dL_sound_299 : decode cL_sound 299 = .ok (.iconst 0, 1) := by decide +kernel
theorem dL_sound_300 : decode cL_sound 300 = .ok (.iconst 0, 1) := by decide +kernel
theorem dL_sound_301 : decode cL_sound 301 = .ok (.invokestatic 139, 3) := by decide +kernel
theorem dL_sound_304 : decode cL_sound 304 = .ok (.iadd, 1) := by decide +kernel
theorem dL_sound_305 : decode cL_sound 305 = .ok (.istore 4, 2) := by decide +kernel
theorem dL_sound_307 : decode cL_sound 307 = .ok (.aload_n 0, 1) := by decide +kernel
theorem dL_sound_308 : decode cL_sound 308 = .ok (.bipush 11, 2) := by decide +kernel
theorem dL_sound_310 : decode cL_sound 310 = .ok (.iload 7, 2) := by decide +kernel
theorem dL_sound_312 : decode cL_sound 312 = .ok (.iconst 0, 1) := by decide +kernel
theorem dL_sound_313 : decode cL_sound 313 = .ok (.iconst 0, 1) := by decide +kernel
theorem dL_sound_314 : decode cL_sound 314 = .ok (.invokestatic 139, 3) := by decide +kernel
theorem dL_sound_317 : decode cL_sound 317 = .ok (.aload_n 2, 1) := by decide +kernel
theorem dL_sound_318 : decode cL_sound 318 = .ok (.iload 7, 2) := by decide +kernel
theorem dL_sound_320 : decode cL_sound 320 = .ok (.iaload, 1) := by decide +kernel
theorem dL_sound_321 : decode cL_sound 321 = .ok (.if_icmp .le 5, 3) := by decide +kernel
theorem dL_sound_324 : decode cL_sound 324 = .ok (.iconst 0, 1) := by decide +kernel
theorem dL_sound_325 : decode cL_sound 325 = .ok (.ireturn, 1) := by decide +kernel
theorem dL_sound_326 : decode cL_sound 326 = .ok (.iinc 7 1, 3) := by decide +kernel
theorem dL_sound_329 : decode cL_sound 329 = .ok (.goto (-43), 3) := by decide +kernel
theorem dL_sound_332 : decode cL_sound 332 = .ok (.aload_n 0, 1) := by decide +kernel
theorem dL_sound_333 : decode cL_sound 333 = .ok (.invokevirtual 148, 3) := by decide +kernel
theorem dL_sound_336 : decode cL_sound 336 = .ok (.iload_n 3, 1) := by decide +kernel
theorem dL_sound_337 : decode cL_sound 337 = .ok (.if_icmp .ne 27, 3) := by decide +kernel
theorem dL_sound_340 : decode cL_sound 340 = .ok (.iload 4, 2) := by decide +kernel
theorem dL_sound_342 : decode cL_sound 342 = .ok (.iload_n 3, 1) := by decide +kernel
theorem dL_sound_343 : decode cL_sound 343 = .ok (.if_icmp .gt 21, 3) := by decide +kernel
theorem dL_sound_346 : decode cL_sound 346 = .ok (.iload 6, 2) := by decide +kernel
theorem dL_sound_348 : decode cL_sound 348 = .ok (.iload 5, 2) := by decide +kernel
theorem dL_sound_350 : decode cL_sound 350 = .ok (.if_icmp .lt 14, 3) := by decide +kernel
theorem dL_sound_353 : decode cL_sound 353 = .ok (.aload_n 0, 1) := by decide +kernel
theorem dL_sound_354 : decode cL_sound 354 = .ok (.invokevirtual 154, 3) := by decide +kernel
theorem dL_sound_357 : decode cL_sound 357 = .ok (.ifCond .eq 7, 3) := by decide +kernel
theorem dL_sound_360 : decode cL_sound 360 = .ok (.iconst 1, 1) := by decide +kernel
theorem dL_sound_361 : decode cL_sound 361 = .ok (.goto 4, 3) := by decide +kernel
theorem dL_sound_364 : decode cL_sound 364 = .ok (.iconst 0, 1) := by decide +kernel
theorem dL_sound_365 : decode cL_sound 365 = .ok (.ireturn, 1) := by decide +kernel
theorem dL_law_0 : decode cL_law 0 = .ok (.new 10, 3) := by decide +kernel
theorem dL_law_3 : decode cL_law 3 = .ok (.dup, 1) := by decide +kernel
theorem dL_law_4 : decode cL_law 4 = .ok (.invokespecial 158, 3) := by decide +kernel
theorem dL_law_7 : decode cL_law 7 = .ok (.astore_n 1, 1) := by decide +kernel
theorem dL_law_8 : decode cL_law 8 = .ok (.iconst 4, 1) := by decide +kernel
theorem dL_law_9 : decode cL_law 9 = .ok (.newarray .int, 2) := by decide +kernel
theorem dL_law_11 : decode cL_law 11 = .ok (.astore_n 2, 1) := by decide +kernel
theorem dL_law_12 : decode cL_law 12 = .ok (.sipush 520, 3) := by decide +kernel
theorem dL_law_15 : decode cL_law 15 = .ok (.newarray .int, 2) := by decide +kernel
theorem dL_law_17 : decode cL_law 17 = .ok (.astore_n 3, 1) := by decide +kernel
theorem dL_law_18 : decode cL_law 18 = .ok (.iconst 0, 1) := by decide +kernel
theorem dL_law_19 : decode cL_law 19 = .ok (.istore 4, 2) := by decide +kernel
theorem dL_law_21 : decode cL_law 21 = .ok (.iconst 0, 1) := by decide +kernel
theorem dL_law_22 : decode cL_law 22 = .ok (.istore 5, 2) := by decide +kernel
theorem dL_law_24 : decode cL_law 24 = .ok (.iconst 0, 1) := by decide +kernel
theorem dL_law_25 : decode cL_law 25 = .ok (.istore 6, 2) := by decide +kernel
theorem dL_law_27 : decode cL_law 27 = .ok (.iconst 0, 1) := by decide +kernel
theorem dL_law_28 : decode cL_law 28 = .ok (.istore 7, 2) := by decide +kernel
theorem dL_law_30 : decode cL_law 30 = .ok (.iconst 0, 1) := by decide +kernel
theorem dL_law_31 : decode cL_law 31 = .ok (.istore 8, 2) := by decide +kernel
theorem dL_law_33 : decode cL_law 33 = .ok (.iload 8, 2) := by decide +kernel
theorem dL_law_35 : decode cL_law 35 = .ok (.bipush 46, 2) := by decide +kernel
theorem dL_law_37 : decode cL_law 37 = .ok (.if_icmp .ge 1073, 3) := by decide +kernel
theorem dL_law_40 : decode cL_law 40 = .ok (.aload_n 0, 1) := by decide +kernel
theorem dL_law_41 : decode cL_law 41 = .ok (.iload 8, 2) := by decide +kernel
theorem dL_law_43 : decode cL_law 43 = .ok (.invokestatic 159, 3) := by decide +kernel
theorem dL_law_46 : decode cL_law 46 = .ok (.istore 9, 2) := by decide +kernel
theorem dL_law_48 : decode cL_law 48 = .ok (.iload 9, 2) := by decide +kernel
theorem dL_law_50 : decode cL_law 50 = .ok (.iconst 5, 1) := by decide +kernel
theorem dL_law_51 : decode cL_law 51 = .ok (.ishr, 1) := by decide +kernel
theorem dL_law_52 : decode cL_law 52 = .ok (.aload_n 1, 1) := by decide +kernel
theorem dL_law_53 : decode cL_law 53 = .ok (.invokevirtual 134, 3) := by decide +kernel
theorem dL_law_56 : decode cL_law 56 = .ok (.iconst 1, 1) := by decide +kernel
theorem dL_law_57 : decode cL_law 57 = .ok (.iadd, 1) := by decide +kernel
theorem dL_law_58 : decode cL_law 58 = .ok (.invokestatic 163, 3) := by decide +kernel
theorem dL_law_61 : decode cL_law 61 = .ok (.istore 10, 2) := by decide +kernel
theorem dL_law_63 : decode cL_law 63 = .ok (.iload 9, 2) := by decide +kernel
theorem dL_law_65 : decode cL_law 65 = .ok (.iconst 5, 1) := by decide +kernel
theorem dL_law_66 : decode cL_law 66 = .ok (.ishr, 1) := by decide +kernel
theorem dL_law_67 : decode cL_law 67 = .ok (.iload 5, 2) := by decide +kernel
theorem dL_law_69 : decode cL_law 69 = .ok (.iconst 1, 1) := by decide +kernel
theorem dL_law_70 : decode cL_law 70 = .ok (.iadd, 1) := by decide +kernel
theorem dL_law_71 : decode cL_law 71 = .ok (.invokestatic 163, 3) := by decide +kernel
theorem dL_law_74 : decode cL_law 74 = .ok (.istore 11, 2) := by decide +kernel
theorem dL_law_76 : decode cL_law 76 = .ok (.iload 9, 2) := by decide +kernel
theorem dL_law_78 : decode cL_law 78 = .ok (.bipush 10, 2) := by decide +kernel
theorem dL_law_80 : decode cL_law 80 = .ok (.ishr, 1) := by decide +kernel
theorem dL_law_81 : decode cL_law 81 = .ok (.bipush 16, 2) := by decide +kernel
theorem dL_law_83 : decode cL_law 83 = .ok (.iload 9, 2) := by decide +kernel
theorem dL_law_85 : decode cL_law 85 = .ok (.bipush 29, 2) := by decide +kernel
theorem dL_law_87 : decode cL_law 87 = .ok (.invokestatic 163, 3) := by decide +kernel
theorem dL_law_90 : decode cL_law 90 = .ok (.ifCond .ne 7, 3) := by decide +kernel
theorem dL_law_93 : decode cL_law 93 = .ok (.iconst 1, 1) := by decide +kernel
theorem dL_law_94 : decode cL_law 94 = .ok (.goto 4, 3) := by decide +kernel
theorem dL_law_97 : decode cL_law 97 = .ok (.iconst 0, 1) := by decide +kernel
theorem dL_law_98 : decode cL_law 98 = .ok (.iadd, 1) := by decide +kernel
theorem dL_law_99 : decode cL_law 99 = .ok (.invokestatic 163, 3) := by decide +kernel
theorem dL_law_102 : decode cL_law 102 = .ok (.istore 12, 2) := by decide +kernel
theorem dL_law_104 : decode cL_law 104 = .ok (.iload 8, 2) := by decide +kernel
theorem dL_law_106 : decode cL_law 106 = .ok (.iconst 2, 1) := by decide +kernel
theorem dL_law_107 : decode cL_law 107 = .ok (.if_icmp .ge 7, 3) := by decide +kernel
theorem dL_law_110 : decode cL_law 110 = .ok (.iconst 0, 1) := by decide +kernel
theorem dL_law_111 : decode cL_law 111 = .ok (.goto 18, 3) := by decide +kernel
theorem dL_law_114 : decode cL_law 114 = .ok (.iload 8, 2) := by decide +kernel
theorem dL_law_116 : decode cL_law 116 = .ok (.iconst 4, 1) := by decide +kernel
theorem dL_law_117 : decode cL_law 117 = .ok (.if_icmp .ge 7, 3) := by decide +kernel
theorem dL_law_120 : decode cL_law 120 = .ok (.iconst 1, 1) := by decide +kernel
theorem dL_law_121 : decode cL_law 121 = .ok (.goto 8, 3) := by decide +kernel
theorem dL_law_124 : decode cL_law 124 = .ok (.iload 9, 2) := by decide +kernel
theorem dL_law_126 : decode cL_law 126 = .ok (.bipush 31, 2) := by decide +kernel
theorem dL_law_128 : decode cL_law 128 = .ok (.iand, 1) := by decide +kernel
theorem dL_law_129 : decode cL_law 129 = .ok (.istore 13, 2) := by decide +kernel
theorem dL_law_131 : decode cL_law 131 = .ok (.aload_n 1, 1) := by decide +kernel
theorem dL_law_132 : decode cL_law 132 = .ok (.iload 5, 2) := by decide +kernel
theorem dL_law_134 : decode cL_law 134 = .ok (.iload 6, 2) := by decide +kernel
theorem dL_law_136 : decode cL_law 136 = .ok (.iload 7, 2) := by decide +kernel
theorem dL_law_138 : decode cL_law 138 = .ok (.invokestatic 166, 3) := by decide +kernel
theorem dL_law_141 : decode cL_law 141 = .ok (.lstore 14, 2) := by decide +kernel
theorem dL_law_143 : decode cL_law 143 = .ok (.iconst 0, 1) := by decide +kernel
theorem dL_law_144 : decode cL_law 144 = .ok (.istore 16, 2) := by decide +kernel
theorem dL_law_146 : decode cL_law 146 = .ok (.iload 13, 2) := by decide +kernel
theorem dL_law_148 : decode cL_law 148 = .ok (.ifCond .ne 42, 3) := by decide +kernel
theorem dL_law_151 : decode cL_law 151 = .ok (.iload 9, 2) := by decide +kernel
theorem dL_law_153 : decode cL_law 153 = .ok (.iconst 5, 1) := by decide +kernel
theorem dL_law_154 : decode cL_law 154 = .ok (.ishr, 1) := by decide +kernel
theorem dL_law_155 : decode cL_law 155 = .ok (.bipush 70, 2) := by decide +kernel
theorem dL_law_157 : decode cL_law 157 = .ok (.invokestatic 163, 3) := by decide +kernel
theorem dL_law_160 : decode cL_law 160 = .ok (.istore 17, 2) := by decide +kernel
theorem dL_law_162 : decode cL_law 162 = .ok (.aload_n 1, 1) := by decide +kernel
theorem dL_law_163 : decode cL_law 163 = .ok (.iconst 0, 1) := by decide +kernel
theorem dL_law_164 : decode cL_law 164 = .ok (.iload 17, 2) := by decide +kernel
theorem dL_law_166 : decode cL_law 166 = .ok (.iconst 0, 1) := by decide +kernel
theorem dL_law_167 : decode cL_law 167 = .ok (.iconst 0, 1) := by decide +kernel
theorem dL_law_168 : decode cL_law 168 = .ok (.invokestatic 139, 3) := by decide +kernel
theorem dL_law_171 : decode cL_law 171 = .ok (.istore 16, 2) := by decide +kernel
theorem dL_law_173 : decode cL_law 173 = .ok (.iload 16, 2) := by decide +kernel
theorem dL_law_175 : decode cL_law 175 = .ok (.ifCond .lt 12, 3) := by decide +kernel
theorem dL_law_178 : decode cL_law 178 = .ok (.aload_n 2, 1) := by decide +kernel
theorem dL_law_179 : decode cL_law 179 = .ok (.iload 16, 2) := by decide +kernel
theorem dL_law_181 : decode cL_law 181 = .ok (.iload 17, 2) := by decide +kernel
theorem dL_law_183 : decode cL_law 183 = .ok (.iastore, 1) := by decide +kernel
theorem dL_law_184 : decode cL_law 184 = .ok (.iinc 5 1, 3) := by decide +kernel
theorem dL_law_187 : decode cL_law 187 = .ok (.goto 797, 3) := by decide +kernel
theorem dL_law_190 : decode cL_law 190 = .ok (.iload 13, 2) := by decide +kernel
theorem dL_law_192 : decode cL_law 192 = .ok (.iconst 4, 1) := by decide +kernel
theorem dL_law_193 : decode cL_law 193 = .ok (.if_icmp .ge 47, 3) := by decide +kernel
theorem dL_law_196 : decode cL_law 196 = .ok (.aload_n 1, 1) := by decide +kernel
theorem dL_law_197 : decode cL_law 197 = .ok (.iconst 1, 1) := by decide +kernel
theorem dL_law_198 : decode cL_law 198 = .ok (.iload 11, 2) := by decide +kernel
theorem dL_law_200 : decode cL_law 200 = .ok (.iconst 0, 1) := by decide +kernel
theorem dL_law_201 : decode cL_law 201 = .ok (.iconst 0, 1) := by decide +kernel
theorem dL_law_202 : decode cL_law 202 = .ok (.invokestatic 139, 3) := by decide +kernel
theorem dL_law_205 : decode cL_law 205 = .ok (.istore 16, 2) := by decide +kernel
theorem dL_law_207 : decode cL_law 207 = .ok (.iload 16, 2) := by decide +kernel
theorem dL_law_209 : decode cL_law 209 = .ok (.ifCond .lt 775, 3) := by decide +kernel
theorem dL_law_212 : decode cL_law 212 = .ok (.aload_n 1, 1) := by decide +kernel
theorem dL_law_213 : decode cL_law 213 = .ok (.iconst 3, 1) := by decide +kernel
theorem dL_law_214 : decode cL_law 214 = .ok (.iload 16, 2) := by decide +kernel
theorem dL_law_216 : decode cL_law 216 = .ok (.iconst 0, 1) := by decide +kernel
theorem dL_law_217 : decode cL_law 217 = .ok (.iconst 0, 1) := by decide +kernel
theorem dL_law_218 : decode cL_law 218 = .ok (.invokestatic 139, 3) := by decide +kernel
theorem dL_law_221 : decode cL_law 221 = .ok (.iconst 1, 1) := by decide +kernel
theorem dL_law_222 : decode cL_law 222 = .ok (.if_icmp .ne 16, 3) := by decide +kernel
theorem dL_law_225 : decode cL_law 225 = .ok (.aload_n 1, 1) := by decide +kernel
theorem dL_law_226 : decode cL_law 226 = .ok (.bipush 10, 2) := by decide +kernel
theorem dL_law_228 : decode cL_law 228 = .ok (.iload 16, 2) := by decide +kernel
theorem dL_law_230 : decode cL_law 230 = .ok (.iconst 0, 1) := by decide +kernel
theorem dL_law_231 : decode cL_law 231 = .ok (.iconst 0, 1) := by decide +kernel
theorem dL_law_232 : decode cL_law 232 = .ok (.invokestatic 139, 3) := by decide +kernel
theorem dL_law_235 : decode cL_law 235 = .ok (.ifCond .eq 749, 3) := by decide +kernel
theorem dL_law_238 : decode cL_law 238 = .ok (.iconst 0, 1) := by decide +kernel
theorem dL_law_239 : decode cL_law 239 = .ok (.ireturn, 1) := by decide +kernel
theorem dL_law_240 : decode cL_law 240 = .ok (.iload 13, 2) := by decide +kernel
theorem dL_law_242 : decode cL_law 242 = .ok (.bipush 13, 2) := by decide +kernel
theorem dL_law_244 : decode cL_law 244 = .ok (.if_icmp .ge 86, 3) := by decide +kernel
theorem dL_law_247 : decode cL_law 247 = .ok (.iload 9, 2) := by decide +kernel
theorem dL_law_249 : decode cL_law 249 = .ok (.bipush 14, 2) := by decide +kernel
theorem dL_law_251 : decode cL_law 251 = .ok (.ishr, 1) := by decide +kernel
theorem dL_law_252 : decode cL_law 252 = .ok (.sipush 1010, 3) := by decide +kernel
theorem dL_law_255 : decode cL_law 255 = .ok (.invokestatic 163, 3) := by decide +kernel
theorem dL_law_258 : decode cL_law 258 = .ok (.istore 17, 2) := by decide +kernel
theorem dL_law_260 : decode cL_law 260 = .ok (.aload_n 1, 1) := by decide +kernel
theorem dL_law_261 : decode cL_law 261 = .ok (.bipush 6, 2) := by decide +kernel
theorem dL_law_263 : decode cL_law 263 = .ok (.iload 10, 2) := by decide +kernel
theorem dL_law_265 : decode cL_law 265 = .ok (.iload 12, 2) := by decide +kernel
theorem dL_law_267 : decode cL_law 267 = .ok (.iload 17, 2) := by decide +kernel
theorem dL_law_269 : decode cL_law 269 = .ok (.invokestatic 139, 3) := by decide +kernel
theorem dL_law_272 : decode cL_law 272 = .ok (.istore 16, 2) := by decide +kernel
theorem dL_law_274 : decode cL_law 274 = .ok (.iload 16, 2) := by decide +kernel
theorem dL_law_276 : decode cL_law 276 = .ok (.ifCond .lt 51, 3) := by decide +kernel
theorem dL_law_279 : decode cL_law 279 = .ok (.aload_n 1, 1) := by decide +kernel
theorem dL_law_280 : decode cL_law 280 = .ok (.bipush 8, 2) := by decide +kernel
theorem dL_law_282 : decode cL_law 282 = .ok (.iload 10, 2) := by decide +kernel
theorem dL_law_284 : decode cL_law 284 = .ok (.iload 12, 2) := by decide +kernel
theorem dL_law_286 : decode cL_law 286 = .ok (.iconst 0, 1) := by decide +kernel
theorem dL_law_287 : decode cL_law 287 = .ok (.invokestatic 139, 3) := by decide +kernel
theorem dL_law_290 : decode cL_law 290 = .ok (.iload 17, 2) := by decide +kernel
theorem dL_law_292 : decode cL_law 292 = .ok (.if_icmp .ne 33, 3) := by decide +kernel
theorem dL_law_295 : decode cL_law 295 = .ok (.aload_n 1, 1) := by decide +kernel
theorem dL_law_296 : decode cL_law 296 = .ok (.bipush 9, 2) := by decide +kernel
theorem dL_law_298 : decode cL_law 298 = .ok (.iload 10, 2) := by decide +kernel
theorem dL_law_300 : decode cL_law 300 = .ok (.iload 12, 2) := by decide +kernel
theorem dL_law_302 : decode cL_law 302 = .ok (.iconst 0, 1) := by decide +kernel
theorem dL_law_303 : decode cL_law 303 = .ok (.invokestatic 139, 3) := by decide +kernel
theorem dL_law_306 : decode cL_law 306 = .ok (.iload 16, 2) := by decide +kernel
theorem dL_law_308 : decode cL_law 308 = .ok (.if_icmp .ne 17, 3) := by decide +kernel
theorem dL_law_311 : decode cL_law 311 = .ok (.aload_n 1, 1) := by decide +kernel
theorem dL_law_312 : decode cL_law 312 = .ok (.bipush 12, 2) := by decide +kernel
theorem dL_law_314 : decode cL_law 314 = .ok (.iload 16, 2) := by decide +kernel
theorem dL_law_316 : decode cL_law 316 = .ok (.iconst 0, 1) := by decide +kernel
theorem dL_law_317 : decode cL_law 317 = .ok (.iconst 0, 1) := by decide +kernel
theorem dL_law_318 : decode cL_law 318 = .ok (.invokestatic 139, 3) := by decide +kernel
theorem dL_law_321 : decode cL_law 321 = .ok (.iconst 1, 1) := by decide +kernel
theorem dL_law_322 : decode cL_law 322 = .ok (.if_icmp .eq 5, 3) := by decide +kernel
theorem dL_law_325 : decode cL_law 325 = .ok (.iconst 0, 1) := by decide +kernel
theorem dL_law_326 : decode cL_law 326 = .ok (.ireturn, 1) := by decide +kernel
theorem dL_law_327 : decode cL_law 327 = .ok (.goto 657, 3) := by decide +kernel
theorem dL_law_330 : decode cL_law 330 = .ok (.iload 13, 2) := by decide +kernel
theorem dL_law_332 : decode cL_law 332 = .ok (.bipush 13, 2) := by decide +kernel
theorem dL_law_334 : decode cL_law 334 = .ok (.if_icmp .ne 40, 3) := by decide +kernel
theorem dL_law_337 : decode cL_law 337 = .ok (.aload_n 1, 1) := by decide +kernel
theorem dL_law_338 : decode cL_law 338 = .ok (.bipush 7, 2) := by decide +kernel
theorem dL_law_340 : decode cL_law 340 = .ok (.iload 10, 2) := by decide +kernel
theorem dL_law_342 : decode cL_law 342 = .ok (.iload 12, 2) := by decide +kernel
theorem dL_law_344 : decode cL_law 344 = .ok (.iconst 0, 1) := by decide +kernel
theorem dL_law_345 : decode cL_law 345 = .ok (.invokestatic 139, 3) := by decide +kernel
theorem dL_law_348 : decode cL_law 348 = .ok (.istore 16, 2) := by decide +kernel
theorem dL_law_350 : decode cL_law 350 = .ok (.iload 16, 2) := by decide +kernel
theorem dL_law_352 : decode cL_law 352 = .ok (.ifCond .lt 632, 3) := by decide +kernel
theorem dL_law_355 : decode cL_law 355 = .ok (.aload_n 1, 1) := by decide +kernel
theorem dL_law_356 : decode cL_law 356 = .ok (.bipush 8, 2) := by decide +kernel
theorem dL_law_358 : decode cL_law 358 = .ok (.iload 10, 2) := by decide +kernel
theorem dL_law_360 : decode cL_law 360 = .ok (.iload 12, 2) := by decide +kernel
theorem dL_law_362 : decode cL_law 362 = .ok (.iconst 0, 1) := by decide +kernel
theorem dL_law_363 : decode cL_law 363 = .ok (.invokestatic 139, 3) := by decide +kernel
theorem dL_law_366 : decode cL_law 366 = .ok (.sipush (-1005), 3) := by decide +kernel
theorem dL_law_369 : decode cL_law 369 = .ok (.if_icmp .eq 615, 3) := by decide +kernel
theorem dL_law_372 : decode cL_law 372 = .ok (.iconst 0, 1) := by decide +kernel
theorem dL_law_373 : decode cL_law 373 = .ok (.ireturn, 1) := by decide +kernel
theorem dL_law_374 : decode cL_law 374 = .ok (.iload 13, 2) := by decide +kernel
theorem dL_law_376 : decode cL_law 376 = .ok (.bipush 14, 2) := by decide +kernel
theorem dL_law_378 : decode cL_law 378 = .ok (.if_icmp .ne 17, 3) := by decide +kernel
theorem dL_law_381 : decode cL_law 381 = .ok (.aload_n 1, 1) := by decide +kernel
theorem dL_law_382 : decode cL_law 382 = .ok (.iconst 4, 1) := by decide +kernel
theorem dL_law_383 : decode cL_law 383 = .ok (.iload 10, 2) := by decide +kernel
theorem dL_law_385 : decode cL_law 385 = .ok (.iconst 0, 1) := by decide +kernel
theorem dL_law_386 : decode cL_law 386 = .ok (.iconst 0, 1) := by decide +kernel
theorem dL_law_387 : decode cL_law 387 = .ok (.invokestatic 139, 3) := by decide +kernel
theorem dL_law_390 : decode cL_law 390 = .ok (.istore 16, 2) := by decide +kernel
theorem dL_law_392 : decode cL_law 392 = .ok (.goto 592, 3) := by decide +kernel
theorem dL_law_395 : decode cL_law 395 = .ok (.iload 13, 2) := by decide +kernel
theorem dL_law_397 : decode cL_law 397 = .ok (.bipush 17, 2) := by decide +kernel
theorem dL_law_399 : decode cL_law 399 = .ok (.if_icmp .ge 17, 3) := by decide +kernel
theorem dL_law_402 : decode cL_law 402 = .ok (.aload_n 1, 1) := by decide +kernel
theorem dL_law_403 : decode cL_law 403 = .ok (.iconst 5, 1) := by decide +kernel
theorem dL_law_404 : decode cL_law 404 = .ok (.iload 10, 2) := by decide +kernel
theorem dL_law_406 : decode cL_law 406 = .ok (.iconst 0, 1) := by decide +kernel
theorem dL_law_407 : decode cL_law 407 = .ok (.iconst 0, 1) := by decide +kernel
theorem dL_law_408 : decode cL_law 408 = .ok (.invokestatic 139, 3) := by decide +kernel
theorem dL_law_411 : decode cL_law 411 = .ok (.istore 16, 2) := by decide +kernel
theorem dL_law_413 : decode cL_law 413 = .ok (.goto 571, 3) := by decide +kernel
theorem dL_law_416 : decode cL_law 416 = .ok (.iload 13, 2) := by decide +kernel
theorem dL_law_418 : decode cL_law 418 = .ok (.bipush 17, 2) := by decide +kernel
theorem dL_law_420 : decode cL_law 420 = .ok (.if_icmp .ne 27, 3) := by decide +kernel
theorem dL_law_423 : decode cL_law 423 = .ok (.aload_n 1, 1) := by decide +kernel
theorem dL_law_424 : decode cL_law 424 = .ok (.bipush 14, 2) := by decide +kernel
theorem dL_law_426 : decode cL_law 426 = .ok (.iload 11, 2) := by decide +kernel
theorem dL_law_428 : decode cL_law 428 = .ok (.iload 9, 2) := by decide +kernel
theorem dL_law_430 : decode cL_law 430 = .ok (.bipush 8, 2) := by decide +kernel
theorem dL_law_432 : decode cL_law 432 = .ok (.ishr, 1) := by decide +kernel
theorem dL_law_433 : decode cL_law 433 = .ok (.bipush 9, 2) := by decide +kernel
theorem dL_law_435 : decode cL_law 435 = .ok (.invokestatic 163, 3) := by decide +kernel
theorem dL_law_438 : decode cL_law 438 = .ok (.iconst 0, 1) := by decide +kernel
theorem dL_law_439 : decode cL_law 439 = .ok (.invokestatic 139, 3) := by decide +kernel
theorem dL_law_442 : decode cL_law 442 = .ok (.istore 16, 2) := by decide +kernel
theorem dL_law_444 : decode cL_law 444 = .ok (.goto 540, 3) := by decide +kernel
theorem dL_law_447 : decode cL_law 447 = .ok (.iload 13, 2) := by decide +kernel
theorem dL_law_449 : decode cL_law 449 = .ok (.bipush 18, 2) := by decide +kernel
theorem dL_law_451 : decode cL_law 451 = .ok (.if_icmp .ne 18, 3) := by decide +kernel
theorem dL_law_454 : decode cL_law 454 = .ok (.aload_n 1, 1) := by decide +kernel
theorem dL_law_455 : decode cL_law 455 = .ok (.bipush 16, 2) := by decide +kernel
theorem dL_law_457 : decode cL_law 457 = .ok (.iload 11, 2) := by decide +kernel
theorem dL_law_459 : decode cL_law 459 = .ok (.iconst 0, 1) := by decide +kernel
theorem dL_law_460 : decode cL_law 460 = .ok (.iconst 0, 1) := by decide +kernel
theorem dL_law_461 : decode cL_law 461 = .ok (.invokestatic 139, 3) := by decide +kernel
theorem dL_law_464 : decode cL_law 464 = .ok (.istore 16, 2) := by decide +kernel
theorem dL_law_466 : decode cL_law 466 = .ok (.goto 518, 3) := by decide +kernel
theorem dL_law_469 : decode cL_law 469 = .ok (.iload 13, 2) := by decide +kernel
theorem dL_law_471 : decode cL_law 471 = .ok (.bipush 22, 2) := by decide +kernel
theorem dL_law_473 : decode cL_law 473 = .ok (.if_icmp .ge 158, 3) := by decide +kernel
theorem dL_law_476 : decode cL_law 476 = .ok (.aload_n 1, 1) := by decide +kernel
theorem dL_law_477 : decode cL_law 477 = .ok (.bipush 17, 2) := by decide +kernel
theorem dL_law_479 : decode cL_law 479 = .ok (.iload 9, 2) := by decide +kernel
theorem dL_law_481 : decode cL_law 481 = .ok (.iconst 5, 1) := by decide +kernel
theorem dL_law_482 : decode cL_law 482 = .ok (.ishr, 1) := by decide +kernel
theorem dL_law_483 : decode cL_law 483 = .ok (.bipush 11, 2) := by decide +kernel
theorem dL_law_485 : decode cL_law 485 = .ok (.invokestatic 163, 3) := by decide +kernel
theorem dL_law_488 : decode cL_law 488 = .ok (.iconst 0, 1) := by decide +kernel
theorem dL_law_489 : decode cL_law 489 = .ok (.iconst 0, 1) := by decide +kernel
theorem dL_law_490 : decode cL_law 490 = .ok (.invokestatic 139, 3) := by decide +kernel
theorem dL_law_493 : decode cL_law 493 = .ok (.istore 16, 2) := by decide +kernel
theorem dL_law_495 : decode cL_law 495 = .ok (.iload 16, 2) := by decide +kernel
theorem dL_law_497 : decode cL_law 497 = .ok (.ifCond .lt 487, 3) := by decide +kernel
theorem dL_law_500 : decode cL_law 500 = .ok (.iinc 6 1, 3) := by decide +kernel
theorem dL_law_503 : decode cL_law 503 = .ok (.iconst 0, 1) := by decide +kernel
theorem dL_law_504 : decode cL_law 504 = .ok (.istore 17, 2) := by decide +kernel
theorem dL_law_506 : decode cL_law 506 = .ok (.iload 17, 2) := by decide +kernel
theorem dL_law_508 : decode cL_law 508 = .ok (.iconst 4, 1) := by decide +kernel
