theorem dX3_writeFile_14 : decode cX3_writeFile 14 = .ok (.getfield 55, 3) := by decide +kernel
theorem dX3_writeFile_17 : decode cX3_writeFile 17 = .ok (.iload_n 1, 1) := by decide +kernel
theorem dX3_writeFile_18 : decode cX3_writeFile 18 = .ok (.invokevirtual 301, 3) := by decide +kernel
theorem dX3_writeFile_21 : decode cX3_writeFile 21 = .ok (.bipush 120, 2) := by decide +kernel
theorem dX3_writeFile_23 : decode cX3_writeFile 23 = .ok (.invokevirtual 305, 3) := by decide +kernel
theorem dX3_writeFile_26 : decode cX3_writeFile 26 = .ok (.aload_n 0, 1) := by decide +kernel
theorem dX3_writeFile_27 : decode cX3_writeFile 27 = .ok (.getfield 12, 3) := by decide +kernel
theorem dX3_writeFile_30 : decode cX3_writeFile 30 = .ok (.iload_n 1, 1) := by decide +kernel
theorem dX3_writeFile_31 : decode cX3_writeFile 31 = .ok (.invokevirtual 101, 3) := by decide +kernel
theorem dX3_writeFile_34 : decode cX3_writeFile 34 = .ok (.invokevirtual 301, 3) := by decide +kernel
theorem dX3_writeFile_37 : decode cX3_writeFile 37 = .ok (.pop, 1) := by decide +kernel
theorem dX3_writeFile_38 : decode cX3_writeFile 38 = .ok (.iconst 0, 1) := by decide +kernel
theorem dX3_writeFile_39 : decode cX3_writeFile 39 = .ok (.istore_n 2, 1) := by decide +kernel
theorem dX3_writeFile_40 : decode cX3_writeFile 40 = .ok (.iload_n 2, 1) := by decide +kernel
theorem dX3_writeFile_41 : decode cX3_writeFile 41 = .ok (.bipush 16, 2) := by decide +kernel
theorem dX3_writeFile_43 : decode cX3_writeFile 43 = .ok (.if_icmp .ge 47, 3) := by decide +kernel
theorem dX3_writeFile_46 : decode cX3_writeFile 46 = .ok (.aload_n 0, 1) := by decide +kernel
theorem dX3_writeFile_47 : decode cX3_writeFile 47 = .ok (.getfield 12, 3) := by decide +kernel
theorem dX3_writeFile_50 : decode cX3_writeFile 50 = .ok (.iload_n 1, 1) := by decide +kernel
theorem dX3_writeFile_51 : decode cX3_writeFile 51 = .ok (.iload_n 2, 1) := by decide +kernel
theorem dX3_writeFile_52 : decode cX3_writeFile 52 = .ok (.invokevirtual 119, 3) := by decide +kernel
theorem dX3_writeFile_55 : decode cX3_writeFile 55 = .ok (.istore_n 3, 1) := by decide +kernel
theorem dX3_writeFile_56 : decode cX3_writeFile 56 = .ok (.iload_n 3, 1) := by decide +kernel
theorem dX3_writeFile_57 : decode cX3_writeFile 57 = .ok (.iconst (-1), 1) := by decide +kernel
theorem dX3_writeFile_58 : decode cX3_writeFile 58 = .ok (.if_icmp .eq 26, 3) := by decide +kernel
theorem dX3_writeFile_61 : decode cX3_writeFile 61 = .ok (.aload_n 0, 1) := by decide +kernel
theorem dX3_writeFile_62 : decode cX3_writeFile 62 = .ok (.getfield 55, 3) := by decide +kernel
theorem dX3_writeFile_65 : decode cX3_writeFile 65 = .ok (.bipush 32, 2) := by decide +kernel
theorem dX3_writeFile_67 : decode cX3_writeFile 67 = .ok (.invokevirtual 305, 3) := by decide +kernel
theorem dX3_writeFile_70 : decode cX3_writeFile 70 = .ok (.iload_n 2, 1) := by decide +kernel
theorem dX3_writeFile_71 : decode cX3_writeFile 71 = .ok (.invokevirtual 301, 3) := by decide +kernel
theorem dX3_writeFile_74 : decode cX3_writeFile 74 = .ok (.bipush 58, 2) := by decide +kernel
theorem dX3_writeFile_76 : decode cX3_writeFile 76 = .ok (.invokevirtual 305, 3) := by decide +kernel
theorem dX3_writeFile_79 : decode cX3_writeFile 79 = .ok (.iload_n 3, 1) := by decide +kernel
theorem dX3_writeFile_80 : decode cX3_writeFile 80 = .ok (.invokevirtual 301, 3) := by decide +kernel
theorem dX3_writeFile_83 : decode cX3_writeFile 83 = .ok (.pop, 1) := by decide +kernel
theorem dX3_writeFile_84 : decode cX3_writeFile 84 = .ok (.iinc 2 1, 3) := by decide +kernel
theorem dX3_writeFile_87 : decode cX3_writeFile 87 = .ok (.goto (-47), 3) := by decide +kernel
theorem dX3_writeFile_90 : decode cX3_writeFile 90 = .ok (.aload_n 0, 1) := by decide +kernel
theorem dX3_writeFile_91 : decode cX3_writeFile 91 = .ok (.getfield 55, 3) := by decide +kernel
theorem dX3_writeFile_94 : decode cX3_writeFile 94 = .ok (.invokevirtual 308, 3) := by decide +kernel
theorem dX3_writeFile_97 : decode cX3_writeFile 97 = .ok (.ireturn, 1) := by decide +kernel
theorem dX3_lineAt_0 : decode cX3_lineAt 0 = .ok (.iload_n 1, 1) := by decide +kernel
theorem dX3_lineAt_1 : decode cX3_lineAt 1 = .ok (.ifCond .lt 14, 3) := by decide +kernel
theorem dX3_lineAt_4 : decode cX3_lineAt 4 = .ok (.iload_n 1, 1) := by decide +kernel
theorem dX3_lineAt_5 : decode cX3_lineAt 5 = .ok (.aload_n 0, 1) := by decide +kernel
theorem dX3_lineAt_6 : decode cX3_lineAt 6 = .ok (.getfield 55, 3) := by decide +kernel
theorem dX3_lineAt_9 : decode cX3_lineAt 9 = .ok (.invokevirtual 308, 3) := by decide +kernel
theorem dX3_lineAt_12 : decode cX3_lineAt 12 = .ok (.if_icmp .lt 14, 3) := by decide +kernel
theorem dX3_lineAt_15 : decode cX3_lineAt 15 = .ok (.new 279, 3) := by decide +kernel
theorem dX3_lineAt_18 : decode cX3_lineAt 18 = .ok (.dup, 1) := by decide +kernel
theorem dX3_lineAt_19 : decode cX3_lineAt 19 = .ok (.ldc_w 311, 3) := by decide +kernel
theorem dX3_lineAt_22 : decode cX3_lineAt 22 = .ok (.invokespecial 283, 3) := by decide +kernel
theorem dX3_lineAt_25 : decode cX3_lineAt 25 = .ok (.athrow, 1) := by decide +kernel
theorem dX3_lineAt_26 : decode cX3_lineAt 26 = .ok (.aload_n 0, 1) := by decide +kernel
theorem dX3_lineAt_27 : decode cX3_lineAt 27 = .ok (.getfield 55, 3) := by decide +kernel
theorem dX3_lineAt_30 : decode cX3_lineAt 30 = .ok (.iload_n 1, 1) := by decide +kernel
theorem dX3_lineAt_31 : decode cX3_lineAt 31 = .ok (.invokevirtual 313, 3) := by decide +kernel
theorem dX3_lineAt_34 : decode cX3_lineAt 34 = .ok (.ireturn, 1) := by decide +kernel
theorem dX3_requireWithin_0 : decode cX3_requireWithin 0 = .ok (.iload_n 1, 1) := by decide +kernel
theorem dX3_requireWithin_1 : decode cX3_requireWithin 1 = .ok (.iload_n 2, 1) := by decide +kernel
theorem dX3_requireWithin_2 : decode cX3_requireWithin 2 = .ok (.if_icmp .lt 8, 3) := by decide +kernel
theorem dX3_requireWithin_5 : decode cX3_requireWithin 5 = .ok (.iload_n 1, 1) := by decide +kernel
theorem dX3_requireWithin_6 : decode cX3_requireWithin 6 = .ok (.iload_n 3, 1) := by decide +kernel
theorem dX3_requireWithin_7 : decode cX3_requireWithin 7 = .ok (.if_icmp .le 14, 3) := by decide +kernel
theorem dX3_requireWithin_10 : decode cX3_requireWithin 10 = .ok (.new 317, 3) := by decide +kernel
theorem dX3_requireWithin_13 : decode cX3_requireWithin 13 = .ok (.dup, 1) := by decide +kernel
theorem dX3_requireWithin_14 : decode cX3_requireWithin 14 = .ok (.ldc_w 319, 3) := by decide +kernel
theorem dX3_requireWithin_17 : decode cX3_requireWithin 17 = .ok (.invokespecial 321, 3) := by decide +kernel
theorem dX3_requireWithin_20 : decode cX3_requireWithin 20 = .ok (.athrow, 1) := by decide +kernel
theorem dX3_requireWithin_21 : decode cX3_requireWithin 21 = .ok (.return_, 1) := by decide +kernel
theorem dX3_requireOwner_0 : decode cX3_requireOwner 0 = .ok (.iload_n 1, 1) := by decide +kernel
theorem dX3_requireOwner_1 : decode cX3_requireOwner 1 = .ok (.ifCond .lt 11, 3) := by decide +kernel
theorem dX3_requireOwner_4 : decode cX3_requireOwner 4 = .ok (.iload_n 1, 1) := by decide +kernel
theorem dX3_requireOwner_5 : decode cX3_requireOwner 5 = .ok (.aload_n 0, 1) := by decide +kernel
theorem dX3_requireOwner_6 : decode cX3_requireOwner 6 = .ok (.getfield 27, 3) := by decide +kernel
theorem dX3_requireOwner_9 : decode cX3_requireOwner 9 = .ok (.if_icmp .lt 14, 3) := by decide +kernel
theorem dX3_requireOwner_12 : decode cX3_requireOwner 12 = .ok (.new 279, 3) := by decide +kernel
theorem dX3_requireOwner_15 : decode cX3_requireOwner 15 = .ok (.dup, 1) := by decide +kernel
theorem dX3_requireOwner_16 : decode cX3_requireOwner 16 = .ok (.ldc_w 322, 3) := by decide +kernel
theorem dX3_requireOwner_19 : decode cX3_requireOwner 19 = .ok (.invokespecial 283, 3) := by decide +kernel
theorem dX3_requireOwner_22 : decode cX3_requireOwner 22 = .ok (.athrow, 1) := by decide +kernel
theorem dX3_requireOwner_23 : decode cX3_requireOwner 23 = .ok (.return_, 1) := by decide +kernel
theorem dX3_requireFile_0 : decode cX3_requireFile 0 = .ok (.aload_n 0, 1) := by decide +kernel
theorem dX3_requireFile_1 : decode cX3_requireFile 1 = .ok (.getfield 12, 3) := by decide +kernel
theorem dX3_requireFile_4 : decode cX3_requireFile 4 = .ok (.iload_n 1, 1) := by decide +kernel
theorem dX3_requireFile_5 : decode cX3_requireFile 5 = .ok (.invokevirtual 324, 3) := by decide +kernel
theorem dX3_requireFile_8 : decode cX3_requireFile 8 = .ok (.ifCond .ne 14, 3) := by decide +kernel
theorem dX3_requireFile_11 : decode cX3_requireFile 11 = .ok (.new 279, 3) := by decide +kernel
theorem dX3_requireFile_14 : decode cX3_requireFile 14 = .ok (.dup, 1) := by decide +kernel
theorem dX3_requireFile_15 : decode cX3_requireFile 15 = .ok (.ldc_w 327, 3) := by decide +kernel
theorem dX3_requireFile_18 : decode cX3_requireFile 18 = .ok (.invokespecial 283, 3) := by decide +kernel
theorem dX3_requireFile_21 : decode cX3_requireFile 21 = .ok (.athrow, 1) := by decide +kernel
theorem dX3_requireFile_22 : decode cX3_requireFile 22 = .ok (.return_, 1) := by decide +kernel
theorem dX3_requirePlace_0 : decode cX3_requirePlace 0 = .ok (.iload_n 1, 1) := by decide +kernel
theorem dX3_requirePlace_1 : decode cX3_requirePlace 1 = .ok (.invokestatic 329, 3) := by decide +kernel
theorem dX3_requirePlace_4 : decode cX3_requirePlace 4 = .ok (.ifCond .ne 14, 3) := by decide +kernel
theorem dX3_requirePlace_7 : decode cX3_requirePlace 7 = .ok (.new 279, 3) := by decide +kernel
theorem dX3_requirePlace_10 : decode cX3_requirePlace 10 = .ok (.dup, 1) := by decide +kernel
theorem dX3_requirePlace_11 : decode cX3_requirePlace 11 = .ok (.ldc_w 332, 3) := by decide +kernel
theorem dX3_requirePlace_14 : decode cX3_requirePlace 14 = .ok (.invokespecial 283, 3) := by decide +kernel
theorem dX3_requirePlace_17 : decode cX3_requirePlace 17 = .ok (.athrow, 1) := by decide +kernel
theorem dX3_requirePlace_18 : decode cX3_requirePlace 18 = .ok (.return_, 1) := by decide +kernel
theorem dX3_requireBlock_0 : decode cX3_requireBlock 0 = .ok (.iload_n 1, 1) := by decide +kernel
theorem dX3_requireBlock_1 : decode cX3_requireBlock 1 = .ok (.invokestatic 334, 3) := by decide +kernel
theorem dX3_requireBlock_4 : decode cX3_requireBlock 4 = .ok (.ifCond .ne 14, 3) := by decide +kernel
theorem dX3_requireBlock_7 : decode cX3_requireBlock 7 = .ok (.new 279, 3) := by decide +kernel
theorem dX3_requireBlock_10 : decode cX3_requireBlock 10 = .ok (.dup, 1) := by decide +kernel
theorem dX3_requireBlock_11 : decode cX3_requireBlock 11 = .ok (.ldc_w 337, 3) := by decide +kernel
theorem dX3_requireBlock_14 : decode cX3_requireBlock 14 = .ok (.invokespecial 283, 3) := by decide +kernel
theorem dX3_requireBlock_17 : decode cX3_requireBlock 17 = .ok (.athrow, 1) := by decide +kernel
theorem dX3_requireBlock_18 : decode cX3_requireBlock 18 = .ok (.return_, 1) := by decide +kernel
theorem dX3_requireSnapshot_0 : decode cX3_requireSnapshot 0 = .ok (.aload_n 0, 1) := by decide +kernel
theorem dX3_requireSnapshot_1 : decode cX3_requireSnapshot 1 = .ok (.getfield 38, 3) := by decide +kernel
theorem dX3_requireSnapshot_4 : decode cX3_requireSnapshot 4 = .ok (.iload_n 1, 1) := by decide +kernel
theorem dX3_requireSnapshot_5 : decode cX3_requireSnapshot 5 = .ok (.invokevirtual 339, 3) := by decide +kernel
theorem dX3_requireSnapshot_8 : decode cX3_requireSnapshot 8 = .ok (.ifCond .ne 14, 3) := by decide +kernel
theorem dX3_requireSnapshot_11 : decode cX3_requireSnapshot 11 = .ok (.new 279, 3) := by decide +kernel
theorem dX3_requireSnapshot_14 : decode cX3_requireSnapshot 14 = .ok (.dup, 1) := by decide +kernel
theorem dX3_requireSnapshot_15 : decode cX3_requireSnapshot 15 = .ok (.ldc_w 342, 3) := by decide +kernel
theorem dX3_requireSnapshot_18 : decode cX3_requireSnapshot 18 = .ok (.invokespecial 283, 3) := by decide +kernel
theorem dX3_requireSnapshot_21 : decode cX3_requireSnapshot 21 = .ok (.athrow, 1) := by decide +kernel
theorem dX3_requireSnapshot_22 : decode cX3_requireSnapshot 22 = .ok (.return_, 1) := by decide +kernel
theorem dX3_requireInSnapshot_0 : decode cX3_requireInSnapshot 0 = .ok (.aload_n 0, 1) := by decide +kernel
theorem dX3_requireInSnapshot_1 : decode cX3_requireInSnapshot 1 = .ok (.getfield 38, 3) := by decide +kernel
theorem dX3_requireInSnapshot_4 : decode cX3_requireInSnapshot 4 = .ok (.iload_n 1, 1) := by decide +kernel
theorem dX3_requireInSnapshot_5 : decode cX3_requireInSnapshot 5 = .ok (.iload_n 2, 1) := by decide +kernel
theorem dX3_requireInSnapshot_6 : decode cX3_requireInSnapshot 6 = .ok (.invokevirtual 344, 3) := by decide +kernel
theorem dX3_requireInSnapshot_9 : decode cX3_requireInSnapshot 9 = .ok (.ifCond .ne 14, 3) := by decide +kernel
theorem dX3_requireInSnapshot_12 : decode cX3_requireInSnapshot 12 = .ok (.new 210, 3) := by decide +kernel
theorem dX3_requireInSnapshot_15 : decode cX3_requireInSnapshot 15 = .ok (.dup, 1) := by decide +kernel
theorem dX3_requireInSnapshot_16 : decode cX3_requireInSnapshot 16 = .ok (.ldc_w 348, 3) := by decide +kernel
theorem dX3_requireInSnapshot_19 : decode cX3_requireInSnapshot 19 = .ok (.invokespecial 214, 3) := by decide +kernel
theorem dX3_requireInSnapshot_22 : decode cX3_requireInSnapshot 22 = .ok (.athrow, 1) := by decide +kernel
theorem dX3_requireInSnapshot_23 : decode cX3_requireInSnapshot 23 = .ok (.return_, 1) := by decide +kernel
theorem dX3_requireHold_0 : decode cX3_requireHold 0 = .ok (.aload_n 0, 1) := by decide +kernel
theorem dX3_requireHold_1 : decode cX3_requireHold 1 = .ok (.getfield 45, 3) := by decide +kernel
theorem dX3_requireHold_4 : decode cX3_requireHold 4 = .ok (.iload_n 1, 1) := by decide +kernel
theorem dX3_requireHold_5 : decode cX3_requireHold 5 = .ok (.invokevirtual 350, 3) := by decide +kernel
theorem dX3_requireHold_8 : decode cX3_requireHold 8 = .ok (.ifCond .ne 14, 3) := by decide +kernel
theorem dX3_requireHold_11 : decode cX3_requireHold 11 = .ok (.new 279, 3) := by decide +kernel
theorem dX3_requireHold_14 : decode cX3_requireHold 14 = .ok (.dup, 1) := by decide +kernel
theorem dX3_requireHold_15 : decode cX3_requireHold 15 = .ok (.ldc_w 353, 3) := by decide +kernel
theorem dX3_requireHold_18 : decode cX3_requireHold 18 = .ok (.invokespecial 283, 3) := by decide +kernel
theorem dX3_requireHold_21 : decode cX3_requireHold 21 = .ok (.athrow, 1) := by decide +kernel
theorem dX3_requireHold_22 : decode cX3_requireHold 22 = .ok (.return_, 1) := by decide +kernel
theorem dX3_requireLinks_0 : decode cX3_requireLinks 0 = .ok (.aload_n 0, 1) := by decide +kernel
theorem dX3_requireLinks_1 : decode cX3_requireLinks 1 = .ok (.getfield 12, 3) := by decide +kernel
theorem dX3_requireLinks_4 : decode cX3_requireLinks 4 = .ok (.iload_n 1, 1) := by decide +kernel
theorem dX3_requireLinks_5 : decode cX3_requireLinks 5 = .ok (.invokevirtual 101, 3) := by decide +kernel
theorem dX3_requireLinks_8 : decode cX3_requireLinks 8 = .ok (.ifCond .ne 14, 3) := by decide +kernel
theorem dX3_requireLinks_11 : decode cX3_requireLinks 11 = .ok (.new 69, 3) := by decide +kernel
theorem dX3_requireLinks_14 : decode cX3_requireLinks 14 = .ok (.dup, 1) := by decide +kernel
theorem dX3_requireLinks_15 : decode cX3_requireLinks 15 = .ok (.ldc_w 355, 3) := by decide +kernel
theorem dX3_requireLinks_18 : decode cX3_requireLinks 18 = .ok (.invokespecial 73, 3) := by decide +kernel
theorem dX3_requireLinks_21 : decode cX3_requireLinks 21 = .ok (.athrow, 1) := by decide +kernel
theorem dX3_requireLinks_22 : decode cX3_requireLinks 22 = .ok (.return_, 1) := by decide +kernel
theorem dX3_requireNoTransaction_0 : decode cX3_requireNoTransaction 0 = .ok (.aload_n 0, 1) := by decide +kernel
theorem dX3_requireNoTransaction_1 : decode cX3_requireNoTransaction 1 = .ok (.getfield 19, 3) := by decide +kernel
theorem dX3_requireNoTransaction_4 : decode cX3_requireNoTransaction 4 = .ok (.ifCond .eq 14, 3) := by decide +kernel
theorem dX3_requireNoTransaction_7 : decode cX3_requireNoTransaction 7 = .ok (.new 69, 3) := by decide +kernel
theorem dX3_requireNoTransaction_10 : decode cX3_requireNoTransaction 10 = .ok (.dup, 1) := by decide +kernel
theorem dX3_requireNoTransaction_11 : decode cX3_requireNoTransaction 11 = .ok (.ldc_w 357, 3) := by decide +kernel
theorem dX3_requireNoTransaction_14 : decode cX3_requireNoTransaction 14 = .ok (.invokespecial 73, 3) := by decide +kernel
theorem dX3_requireNoTransaction_17 : decode cX3_requireNoTransaction 17 = .ok (.athrow, 1) := by decide +kernel
theorem dX3_requireNoTransaction_18 : decode cX3_requireNoTransaction 18 = .ok (.return_, 1) := by decide +kernel
theorem dX3_requireBlockFor_0 : decode cX3_requireBlockFor 0 = .ok (.aload_n 0, 1) := by decide +kernel
theorem dX3_requireBlockFor_1 : decode cX3_requireBlockFor 1 = .ok (.getfield 12, 3) := by decide +kernel
theorem dX3_requireBlockFor_4 : decode cX3_requireBlockFor 4 = .ok (.iload_n 1, 1) := by decide +kernel
theorem dX3_requireBlockFor_5 : decode cX3_requireBlockFor 5 = .ok (.iload_n 2, 1) := by decide +kernel
theorem dX3_requireBlockFor_6 : decode cX3_requireBlockFor 6 = .ok (.invokevirtual 149, 3) := by decide +kernel
theorem dX3_requireBlockFor_9 : decode cX3_requireBlockFor 9 = .ok (.aload_n 0, 1) := by decide +kernel
theorem dX3_requireBlockFor_10 : decode cX3_requireBlockFor 10 = .ok (.getfield 12, 3) := by decide +kernel
theorem dX3_requireBlockFor_13 : decode cX3_requireBlockFor 13 = .ok (.iload_n 2, 1) := by decide +kernel
theorem dX3_requireBlockFor_14 : decode cX3_requireBlockFor 14 = .ok (.iload_n 3, 1) := by decide +kernel
theorem dX3_requireBlockFor_15 : decode cX3_requireBlockFor 15 = .ok (.invokevirtual 359, 3) := by decide +kernel
theorem dX3_requireBlockFor_18 : decode cX3_requireBlockFor 18 = .ok (.lor, 1) := by decide +kernel
theorem dX3_requireBlockFor_19 : decode cX3_requireBlockFor 19 = .ok (.lstore 4, 2) := by decide +kernel
theorem dX3_requireBlockFor_21 : decode cX3_requireBlockFor 21 = .ok (.lload 4, 2) := by decide +kernel
theorem dX3_requireBlockFor_23 : decode cX3_requireBlockFor 23 = .ok (.invokestatic 153, 3) := by decide +kernel
theorem dX3_requireBlockFor_26 : decode cX3_requireBlockFor 26 = .ok (.iconst 1, 1) := by decide +kernel
theorem dX3_requireBlockFor_27 : decode cX3_requireBlockFor 27 = .ok (.iadd, 1) := by decide +kernel
theorem dX3_requireBlockFor_28 : decode cX3_requireBlockFor 28 = .ok (.aload_n 0, 1) := by decide +kernel
theorem dX3_requireBlockFor_29 : decode cX3_requireBlockFor 29 = .ok (.iload_n 1, 1) := by decide +kernel
theorem dX3_requireBlockFor_30 : decode cX3_requireBlockFor 30 = .ok (.invokevirtual 232, 3) := by decide +kernel
theorem dX3_requireBlockFor_33 : decode cX3_requireBlockFor 33 = .ok (.if_icmp .le 13, 3) := by decide +kernel
theorem dX3_requireBlockFor_36 : decode cX3_requireBlockFor 36 = .ok (.new 171, 3) := by decide +kernel
theorem dX3_requireBlockFor_39 : decode cX3_requireBlockFor 39 = .ok (.dup, 1) := by decide +kernel
theorem dX3_requireBlockFor_40 : decode cX3_requireBlockFor 40 = .ok (.ldc 235, 2) := by decide +kernel
theorem dX3_requireBlockFor_42 : decode cX3_requireBlockFor 42 = .ok (.invokespecial 175, 3) := by decide +kernel
theorem dX3_requireBlockFor_45 : decode cX3_requireBlockFor 45 = .ok (.athrow, 1) := by decide +kernel
theorem dX3_requireBlockFor_46 : decode cX3_requireBlockFor 46 = .ok (.aload_n 0, 1) := by decide +kernel
theorem dX3_requireBlockFor_47 : decode cX3_requireBlockFor 47 = .ok (.getfield 12, 3) := by decide +kernel
theorem dX3_requireBlockFor_50 : decode cX3_requireBlockFor 50 = .ok (.invokevirtual 159, 3) := by decide +kernel
theorem dX3_requireBlockFor_53 : decode cX3_requireBlockFor 53 = .ok (.aload_n 0, 1) := by decide +kernel
theorem dX3_requireBlockFor_54 : decode cX3_requireBlockFor 54 = .ok (.getfield 12, 3) := by decide +kernel
theorem dX3_requireBlockFor_57 : decode cX3_requireBlockFor 57 = .ok (.invokevirtual 168, 3) := by decide +kernel
theorem dX3_requireBlockFor_60 : decode cX3_requireBlockFor 60 = .ok (.isub, 1) := by decide +kernel
theorem dX3_requireBlockFor_61 : decode cX3_requireBlockFor 61 = .ok (.aload_n 0, 1) := by decide +kernel
theorem dX3_requireBlockFor_62 : decode cX3_requireBlockFor 62 = .ok (.getfield 12, 3) := by decide +kernel
theorem dX3_requireBlockFor_65 : decode cX3_requireBlockFor 65 = .ok (.iload_n 1, 1) := by decide +kernel
theorem dX3_requireBlockFor_66 : decode cX3_requireBlockFor 66 = .ok (.invokevirtual 176, 3) := by decide +kernel
theorem dX3_requireBlockFor_69 : decode cX3_requireBlockFor 69 = .ok (.iadd, 1) := by decide +kernel
theorem dX3_requireBlockFor_70 : decode cX3_requireBlockFor 70 = .ok (.ifCond .gt 14, 3) := by decide +kernel
theorem dX3_requireBlockFor_73 : decode cX3_requireBlockFor 73 = .ok (.new 171, 3) := by decide +kernel
theorem dX3_requireBlockFor_76 : decode cX3_requireBlockFor 76 = .ok (.dup, 1) := by decide +kernel
theorem dX3_requireBlockFor_77 : decode cX3_requireBlockFor 77 = .ok (.ldc_w 360, 3) := by decide +kernel
theorem dX3_requireBlockFor_80 : decode cX3_requireBlockFor 80 = .ok (.invokespecial 175, 3) := by decide +kernel
theorem dX3_requireBlockFor_83 : decode cX3_requireBlockFor 83 = .ok (.athrow, 1) := by decide +kernel
theorem dX3_requireBlockFor_84 : decode cX3_requireBlockFor 84 = .ok (.return_, 1) := by decide +kernel
theorem dX3_blockOrThrow_0 : decode cX3_blockOrThrow 0 = .ok (.aload_n 0, 1) := by decide +kernel
theorem dX3_blockOrThrow_1 : decode cX3_blockOrThrow 1 = .ok (.iload_n 1, 1) := by decide +kernel
theorem dX3_blockOrThrow_2 : decode cX3_blockOrThrow 2 = .ok (.invokevirtual 94, 3) := by decide +kernel
theorem dX3_blockOrThrow_5 : decode cX3_blockOrThrow 5 = .ok (.aload_n 0, 1) := by decide +kernel
theorem dX3_blockOrThrow_6 : decode cX3_blockOrThrow 6 = .ok (.iload_n 2, 1) := by decide +kernel
theorem dX3_blockOrThrow_7 : decode cX3_blockOrThrow 7 = .ok (.invokevirtual 116, 3) := by decide +kernel
theorem dX3_blockOrThrow_10 : decode cX3_blockOrThrow 10 = .ok (.aload_n 0, 1) := by decide +kernel
theorem dX3_blockOrThrow_11 : decode cX3_blockOrThrow 11 = .ok (.getfield 12, 3) := by decide +kernel
theorem dX3_blockOrThrow_14 : decode cX3_blockOrThrow 14 = .ok (.iload_n 1, 1) := by decide +kernel
theorem dX3_blockOrThrow_15 : decode cX3_blockOrThrow 15 = .ok (.iload_n 2, 1) := by decide +kernel
theorem dX3_blockOrThrow_16 : decode cX3_blockOrThrow 16 = .ok (.invokevirtual 119, 3) := by decide +kernel
theorem dX3_blockOrThrow_19 : decode cX3_blockOrThrow 19 = .ok (.istore_n 3, 1) := by decide +kernel
theorem dX3_blockOrThrow_20 : decode cX3_blockOrThrow 20 = .ok (.iload_n 3, 1) := by decide +kernel
theorem dX3_blockOrThrow_21 : decode cX3_blockOrThrow 21 = .ok (.iconst (-1), 1) := by decide +kernel
theorem dX3_blockOrThrow_22 : decode cX3_blockOrThrow 22 = .ok (.if_icmp .ne 14, 3) := by decide +kernel
theorem dX3_blockOrThrow_25 : decode cX3_blockOrThrow 25 = .ok (.new 210, 3) := by decide +kernel
theorem dX3_blockOrThrow_28 : decode cX3_blockOrThrow 28 = .ok (.dup, 1) := by decide +kernel
theorem dX3_blockOrThrow_29 : decode cX3_blockOrThrow 29 = .ok (.ldc_w 362, 3) := by decide +kernel
theorem dX3_blockOrThrow_32 : decode cX3_blockOrThrow 32 = .ok (.invokespecial 214, 3) := by decide +kernel
theorem dX3_blockOrThrow_35 : decode cX3_blockOrThrow 35 = .ok (.athrow, 1) := by decide +kernel
theorem dX3_blockOrThrow_36 : decode cX3_blockOrThrow 36 = .ok (.iload_n 3, 1) := by decide +kernel
theorem dX3_blockOrThrow_37 : decode cX3_blockOrThrow 37 = .ok (.ireturn, 1) := by decide +kernel
theorem dX3_isBlock_0 : decode cX3_isBlock 0 = .ok (.iload_n 0, 1) := by decide +kernel
theorem dX3_isBlock_1 : decode cX3_isBlock 1 = .ok (.ifCond .lt 13, 3) := by decide +kernel
theorem dX3_isBlock_4 : decode cX3_isBlock 4 = .ok (.iload_n 0, 1) := by decide +kernel
theorem dX3_isBlock_5 : decode cX3_isBlock 5 = .ok (.bipush 64, 2) := by decide +kernel
theorem dX3_isBlock_7 : decode cX3_isBlock 7 = .ok (.if_icmp .ge 7, 3) := by decide +kernel
theorem dX3_isBlock_10 : decode cX3_isBlock 10 = .ok (.iconst 1, 1) := by decide +kernel
theorem dX3_isBlock_11 : decode cX3_isBlock 11 = .ok (.goto 4, 3) := by decide +kernel
theorem dX3_isBlock_14 : decode cX3_isBlock 14 = .ok (.iconst 0, 1) := by decide +kernel
theorem dX3_isBlock_15 : decode cX3_isBlock 15 = .ok (.ireturn, 1) := by decide +kernel
theorem dX3_isPlace_0 : decode cX3_isPlace 0 = .ok (.iload_n 0, 1) := by decide +kernel
theorem dX3_isPlace_1 : decode cX3_isPlace 1 = .ok (.ifCond .lt 13, 3) := by decide +kernel
theorem dX3_isPlace_4 : decode cX3_isPlace 4 = .ok (.iload_n 0, 1) := by decide +kernel
theorem dX3_isPlace_5 : decode cX3_isPlace 5 = .ok (.bipush 16, 2) := by decide +kernel
theorem dX3_isPlace_7 : decode cX3_isPlace 7 = .ok (.if_icmp .ge 7, 3) := by decide +kernel
theorem dX3_isPlace_10 : decode cX3_isPlace 10 = .ok (.iconst 1, 1) := by decide +kernel
theorem dX3_isPlace_11 : decode cX3_isPlace 11 = .ok (.goto 4, 3) := by decide +kernel
theorem dX3_isPlace_14 : decode cX3_isPlace 14 = .ok (.iconst 0, 1) := by decide +kernel
theorem dX3_isPlace_15 : decode cX3_isPlace 15 = .ok (.ireturn, 1) := by decide +kernel
theorem dX3_countUser_0 : decode cX3_countUser 0 = .ok (.iload_n 1, 1) := by decide +kernel
theorem dX3_countUser_1 : decode cX3_countUser 1 = .ok (.invokestatic 334, 3) := by decide +kernel
theorem dX3_countUser_4 : decode cX3_countUser 4 = .ok (.ifCond .eq 16, 3) := by decide +kernel
theorem dX3_countUser_7 : decode cX3_countUser 7 = .ok (.iload_n 1, 1) := by decide +kernel
theorem dX3_countUser_8 : decode cX3_countUser 8 = .ok (.aload_n 0, 1) := by decide +kernel
theorem dX3_countUser_9 : decode cX3_countUser 9 = .ok (.arraylength, 1) := by decide +kernel
theorem dX3_countUser_10 : decode cX3_countUser 10 = .ok (.if_icmp .ge 10, 3) := by decide +kernel
theorem dX3_countUser_13 : decode cX3_countUser 13 = .ok (.aload_n 0, 1) := by decide +kernel
theorem dX3_countUser_14 : decode cX3_countUser 14 = .ok (.iload_n 1, 1) := by decide +kernel
theorem dX3_countUser_15 : decode cX3_countUser 15 = .ok (.dup2, 1) := by decide +kernel
theorem dX3_countUser_16 : decode cX3_countUser 16 = .ok (.iaload, 1) := by decide +kernel
theorem dX3_countUser_17 : decode cX3_countUser 17 = .ok (.iconst 1, 1) := by decide +kernel
theorem dX3_countUser_18 : decode cX3_countUser 18 = .ok (.iadd, 1) := by decide +kernel
theorem dX3_countUser_19 : decode cX3_countUser 19 = .ok (.iastore, 1) := by decide +kernel
theorem dX3_countUser_20 : decode cX3_countUser 20 = .ok (.return_, 1) := by decide +kernel
theorem dX3_quotaOf_0 : decode cX3_quotaOf 0 = .ok (.iload_n 1, 1) := by decide +kernel
theorem dX3_quotaOf_1 : decode cX3_quotaOf 1 = .ok (.ifCond .lt 20, 3) := by decide +kernel
theorem dX3_quotaOf_4 : decode cX3_quotaOf 4 = .ok (.iload_n 1, 1) := by decide +kernel
theorem dX3_quotaOf_5 : decode cX3_quotaOf 5 = .ok (.aload_n 0, 1) := by decide +kernel
theorem dX3_quotaOf_6 : decode cX3_quotaOf 6 = .ok (.getfield 27, 3) := by decide +kernel
theorem dX3_quotaOf_9 : decode cX3_quotaOf 9 = .ok (.if_icmp .ge 12, 3) := by decide +kernel
theorem dX3_quotaOf_12 : decode cX3_quotaOf 12 = .ok (.aload_n 0, 1) := by decide +kernel
theorem dX3_quotaOf_13 : decode cX3_quotaOf 13 = .ok (.getfield 31, 3) := by decide +kernel
theorem dX3_quotaOf_16 : decode cX3_quotaOf 16 = .ok (.iload_n 1, 1) := by decide +kernel
theorem dX3_quotaOf_17 : decode cX3_quotaOf 17 = .ok (.iaload, 1) := by decide +kernel
theorem dX3_quotaOf_18 : decode cX3_quotaOf 18 = .ok (.goto 4, 3) := by decide +kernel
theorem dX3_quotaOf_21 : decode cX3_quotaOf 21 = .ok (.iconst 0, 1) := by decide +kernel
theorem dX3_quotaOf_22 : decode cX3_quotaOf 22 = .ok (.ireturn, 1) := by decide +kernel
theorem dX3_note_0 : decode cX3_note 0 = .ok (.aload_n 0, 1) := by decide +kernel
theorem dX3_note_1 : decode cX3_note 1 = .ok (.getfield 12, 3) := by decide +kernel
theorem dX3_note_4 : decode cX3_note 4 = .ok (.invokevirtual 274, 3) := by decide +kernel
theorem dX3_note_7 : decode cX3_note 7 = .ok (.istore_n 2, 1) := by decide +kernel
theorem dX3_note_8 : decode cX3_note 8 = .ok (.iload_n 2, 1) := by decide +kernel
theorem dX3_note_9 : decode cX3_note 9 = .ok (.sipush 512, 3) := by decide +kernel
theorem dX3_note_12 : decode cX3_note 12 = .ok (.if_icmp .ge 20, 3) := by decide +kernel
theorem dX3_note_15 : decode cX3_note 15 = .ok (.aload_n 0, 1) := by decide +kernel
theorem dX3_note_16 : decode cX3_note 16 = .ok (.getfield 23, 3) := by decide +kernel
theorem dX3_note_19 : decode cX3_note 19 = .ok (.iload_n 2, 1) := by decide +kernel
theorem dX3_note_20 : decode cX3_note 20 = .ok (.iload_n 1, 1) := by decide +kernel
theorem dX3_note_21 : decode cX3_note 21 = .ok (.castore, 1) := by decide +kernel
theorem dX3_note_22 : decode cX3_note 22 = .ok (.aload_n 0, 1) := by decide +kernel
theorem dX3_note_23 : decode cX3_note 23 = .ok (.getfield 12, 3) := by decide +kernel
theorem dX3_note_26 : decode cX3_note 26 = .ok (.iload_n 2, 1) := by decide +kernel
theorem dX3_note_27 : decode cX3_note 27 = .ok (.iconst 1, 1) := by decide +kernel
theorem dX3_note_28 : decode cX3_note 28 = .ok (.iadd, 1) := by decide +kernel
theorem dX3_note_29 : decode cX3_note 29 = .ok (.invokevirtual 364, 3) := by decide +kernel
theorem dX3_note_32 : decode cX3_note 32 = .ok (.return_, 1) := by decide +kernel
theorem dX3_endHold_0 : decode cX3_endHold 0 = .ok (.aload_n 0, 1) := by decide +kernel
theorem dX3_endHold_1 : decode cX3_endHold 1 = .ok (.getfield 45, 3) := by decide +kernel
theorem dX3_endHold_4 : decode cX3_endHold 4 = .ok (.iload_n 1, 1) := by decide +kernel
theorem dX3_endHold_5 : decode cX3_endHold 5 = .ok (.invokevirtual 367, 3) := by decide +kernel
theorem dX3_endHold_8 : decode cX3_endHold 8 = .ok (.aload_n 0, 1) := by decide +kernel
theorem dX3_endHold_9 : decode cX3_endHold 9 = .ok (.aload_n 0, 1) := by decide +kernel
theorem dX3_endHold_10 : decode cX3_endHold 10 = .ok (.getfield 45, 3) := by decide +kernel
theorem dX3_endHold_13 : decode cX3_endHold 13 = .ok (.iload_n 1, 1) := by decide +kernel
theorem dX3_endHold_14 : decode cX3_endHold 14 = .ok (.invokevirtual 370, 3) := by decide +kernel
theorem dX3_endHold_17 : decode cX3_endHold 17 = .ok (.invokevirtual 113, 3) := by decide +kernel
theorem dX3_endHold_20 : decode cX3_endHold 20 = .ok (.ireturn, 1) := by decide +kernel
theorem dX3_removeIfAbandoned_0 : decode cX3_removeIfAbandoned 0 = .ok (.aload_n 0, 1) := by decide +kernel
theorem dX3_removeIfAbandoned_1 : decode cX3_removeIfAbandoned 1 = .ok (.getfield 12, 3) := by decide +kernel
theorem dX3_removeIfAbandoned_4 : decode cX3_removeIfAbandoned 4 = .ok (.iload_n 1, 1) := by decide +kernel
theorem dX3_removeIfAbandoned_5 : decode cX3_removeIfAbandoned 5 = .ok (.invokevirtual 101, 3) := by decide +kernel
theorem dX3_removeIfAbandoned_8 : decode cX3_removeIfAbandoned 8 = .ok (.ifCond .gt 14, 3) := by decide +kernel
theorem dX3_removeIfAbandoned_11 : decode cX3_removeIfAbandoned 11 = .ok (.aload_n 0, 1) := by decide +kernel
theorem dX3_removeIfAbandoned_12 : decode cX3_removeIfAbandoned 12 = .ok (.getfield 45, 3) := by decide +kernel
theorem dX3_removeIfAbandoned_15 : decode cX3_removeIfAbandoned 15 = .ok (.iload_n 1, 1) := by decide +kernel
theorem dX3_removeIfAbandoned_16 : decode cX3_removeIfAbandoned 16 = .ok (.invokevirtual 257, 3) := by decide +kernel
theorem dX3_removeIfAbandoned_19 : decode cX3_removeIfAbandoned 19 = .ok (.ifCond .le 5, 3) := by decide +kernel
theorem dX3_removeIfAbandoned_22 : decode cX3_removeIfAbandoned 22 = .ok (.iconst 0, 1) := by decide +kernel
theorem dX3_removeIfAbandoned_23 : decode cX3_removeIfAbandoned 23 = .ok (.ireturn, 1) := by decide +kernel
theorem dX3_removeIfAbandoned_24 : decode cX3_removeIfAbandoned 24 = .ok (.aload_n 0, 1) := by decide +kernel
theorem dX3_removeIfAbandoned_25 : decode cX3_removeIfAbandoned 25 = .ok (.getfield 12, 3) := by decide +kernel
theorem dX3_removeIfAbandoned_28 : decode cX3_removeIfAbandoned 28 = .ok (.iload_n 1, 1) := by decide +kernel
theorem dX3_removeIfAbandoned_29 : decode cX3_removeIfAbandoned 29 = .ok (.invokevirtual 373, 3) := by decide +kernel
theorem dX3_removeIfAbandoned_32 : decode cX3_removeIfAbandoned 32 = .ok (.iconst 1, 1) := by decide +kernel
theorem dX3_removeIfAbandoned_33 : decode cX3_removeIfAbandoned 33 = .ok (.ireturn, 1) := by decide +kernel
theorem dX3_walkUsers_0 : decode cX3_walkUsers 0 = .ok (.aload_n 0, 1) := by decide +kernel
theorem dX3_walkUsers_1 : decode cX3_walkUsers 1 = .ok (.getfield 59, 3) := by decide +kernel
theorem dX3_walkUsers_4 : decode cX3_walkUsers 4 = .ok (.iconst 0, 1) := by decide +kernel
theorem dX3_walkUsers_5 : decode cX3_walkUsers 5 = .ok (.invokestatic 376, 3) := by decide +kernel
theorem dX3_walkUsers_8 : decode cX3_walkUsers 8 = .ok (.aload_n 0, 1) := by decide +kernel
theorem dX3_walkUsers_9 : decode cX3_walkUsers 9 = .ok (.getfield 12, 3) := by decide +kernel
theorem dX3_walkUsers_12 : decode cX3_walkUsers 12 = .ok (.aload_n 0, 1) := by decide +kernel
theorem dX3_walkUsers_13 : decode cX3_walkUsers 13 = .ok (.getfield 59, 3) := by decide +kernel
theorem dX3_walkUsers_16 : decode cX3_walkUsers 16 = .ok (.invokevirtual 382, 3) := by decide +kernel
theorem dX3_walkUsers_19 : decode cX3_walkUsers 19 = .ok (.aload_n 0, 1) := by decide +kernel
theorem dX3_walkUsers_20 : decode cX3_walkUsers 20 = .ok (.getfield 38, 3) := by decide +kernel
theorem dX3_walkUsers_23 : decode cX3_walkUsers 23 = .ok (.aload_n 0, 1) := by decide +kernel
theorem dX3_walkUsers_24 : decode cX3_walkUsers 24 = .ok (.getfield 59, 3) := by decide +kernel
theorem dX3_walkUsers_27 : decode cX3_walkUsers 27 = .ok (.invokevirtual 386, 3) := by decide +kernel
theorem dX3_walkUsers_30 : decode cX3_walkUsers 30 = .ok (.return_, 1) := by decide +kernel
theorem dX3_areUsersAsWalked_0 : decode cX3_areUsersAsWalked 0 = .ok (.aload_n 0, 1) := by decide +kernel
theorem dX3_areUsersAsWalked_1 : decode cX3_areUsersAsWalked 1 = .ok (.invokevirtual 165, 3) := by decide +kernel
theorem dX3_areUsersAsWalked_4 : decode cX3_areUsersAsWalked 4 = .ok (.iconst 0, 1) := by decide +kernel
theorem dX3_areUsersAsWalked_5 : decode cX3_areUsersAsWalked 5 = .ok (.istore_n 1, 1) := by decide +kernel
theorem dX3_areUsersAsWalked_6 : decode cX3_areUsersAsWalked 6 = .ok (.iload_n 1, 1) := by decide +kernel
theorem dX3_areUsersAsWalked_7 : decode cX3_areUsersAsWalked 7 = .ok (.bipush 64, 2) := by decide +kernel
theorem dX3_areUsersAsWalked_9 : decode cX3_areUsersAsWalked 9 = .ok (.if_icmp .ge 28, 3) := by decide +kernel
theorem dX3_areUsersAsWalked_12 : decode cX3_areUsersAsWalked 12 = .ok (.aload_n 0, 1) := by decide +kernel
theorem dX3_areUsersAsWalked_13 : decode cX3_areUsersAsWalked 13 = .ok (.getfield 59, 3) := by decide +kernel
theorem dX3_areUsersAsWalked_16 : decode cX3_areUsersAsWalked 16 = .ok (.iload_n 1, 1) := by decide +kernel
theorem dX3_areUsersAsWalked_17 : decode cX3_areUsersAsWalked 17 = .ok (.iaload, 1) := by decide +kernel
theorem dX3_areUsersAsWalked_18 : decode cX3_areUsersAsWalked 18 = .ok (.aload_n 0, 1) := by decide +kernel
theorem dX3_areUsersAsWalked_19 : decode cX3_areUsersAsWalked 19 = .ok (.getfield 12, 3) := by decide +kernel
theorem dX3_areUsersAsWalked_22 : decode cX3_areUsersAsWalked 22 = .ok (.iload_n 1, 1) := by decide +kernel
theorem dX3_areUsersAsWalked_23 : decode cX3_areUsersAsWalked 23 = .ok (.invokevirtual 123, 3) := by decide +kernel
theorem dX3_areUsersAsWalked_26 : decode cX3_areUsersAsWalked 26 = .ok (.if_icmp .eq 5, 3) := by decide +kernel
theorem dX3_areUsersAsWalked_29 : decode cX3_areUsersAsWalked 29 = .ok (.iconst 0, 1) := by decide +kernel
theorem dX3_areUsersAsWalked_30 : decode cX3_areUsersAsWalked 30 = .ok (.ireturn, 1) := by decide +kernel
theorem dX3_areUsersAsWalked_31 : decode cX3_areUsersAsWalked 31 = .ok (.iinc 1 1, 3) := by decide +kernel
theorem dX3_areUsersAsWalked_34 : decode cX3_areUsersAsWalked 34 = .ok (.goto (-28), 3) := by decide +kernel
theorem dX3_areUsersAsWalked_37 : decode cX3_areUsersAsWalked 37 = .ok (.iconst 1, 1) := by decide +kernel
theorem dX3_areUsersAsWalked_38 : decode cX3_areUsersAsWalked 38 = .ok (.ireturn, 1) := by decide +kernel
theorem dX3_areHeldFilesAlive_0 : decode cX3_areHeldFilesAlive 0 = .ok (.iconst 0, 1) := by decide +kernel
theorem dX3_areHeldFilesAlive_1 : decode cX3_areHeldFilesAlive 1 = .ok (.istore_n 1, 1) := by decide +kernel
theorem dX3_areHeldFilesAlive_2 : decode cX3_areHeldFilesAlive 2 = .ok (.iload_n 1, 1) := by decide +kernel
theorem dX3_areHeldFilesAlive_3 : decode cX3_areHeldFilesAlive 3 = .ok (.bipush 30, 2) := by decide +kernel
theorem dX3_areHeldFilesAlive_5 : decode cX3_areHeldFilesAlive 5 = .ok (.if_icmp .ge 40, 3) := by decide +kernel
theorem dX3_areHeldFilesAlive_8 : decode cX3_areHeldFilesAlive 8 = .ok (.aload_n 0, 1) := by decide +kernel
theorem dX3_areHeldFilesAlive_9 : decode cX3_areHeldFilesAlive 9 = .ok (.getfield 45, 3) := by decide +kernel
theorem dX3_areHeldFilesAlive_12 : decode cX3_areHeldFilesAlive 12 = .ok (.iload_n 1, 1) := by decide +kernel
theorem dX3_areHeldFilesAlive_13 : decode cX3_areHeldFilesAlive 13 = .ok (.invokevirtual 249, 3) := by decide +kernel
theorem dX3_areHeldFilesAlive_16 : decode cX3_areHeldFilesAlive 16 = .ok (.ifCond .eq 23, 3) := by decide +kernel
theorem dX3_areHeldFilesAlive_19 : decode cX3_areHeldFilesAlive 19 = .ok (.aload_n 0, 1) := by decide +kernel
theorem dX3_areHeldFilesAlive_20 : decode cX3_areHeldFilesAlive 20 = .ok (.getfield 12, 3) := by decide +kernel
theorem dX3_areHeldFilesAlive_23 : decode cX3_areHeldFilesAlive 23 = .ok (.aload_n 0, 1) := by decide +kernel
theorem dX3_areHeldFilesAlive_24 : decode cX3_areHeldFilesAlive 24 = .ok (.getfield 45, 3) := by decide +kernel
theorem dX3_areHeldFilesAlive_27 : decode cX3_areHeldFilesAlive 27 = .ok (.iload_n 1, 1) := by decide +kernel
theorem dX3_areHeldFilesAlive_28 : decode cX3_areHeldFilesAlive 28 = .ok (.invokevirtual 370, 3) := by decide +kernel
theorem dX3_areHeldFilesAlive_31 : decode cX3_areHeldFilesAlive 31 = .ok (.invokevirtual 97, 3) := by decide +kernel
theorem dX3_areHeldFilesAlive_34 : decode cX3_areHeldFilesAlive 34 = .ok (.ifCond .ne 5, 3) := by decide +kernel
theorem dX3_areHeldFilesAlive_37 : decode cX3_areHeldFilesAlive 37 = .ok (.iconst 0, 1) := by decide +kernel
theorem dX3_areHeldFilesAlive_38 : decode cX3_areHeldFilesAlive 38 = .ok (.ireturn, 1) := by decide +kernel
theorem dX3_areHeldFilesAlive_39 : decode cX3_areHeldFilesAlive 39 = .ok (.iinc 1 1, 3) := by decide +kernel
theorem dX3_areHeldFilesAlive_42 : decode cX3_areHeldFilesAlive 42 = .ok (.goto (-40), 3) := by decide +kernel
theorem dX3_areHeldFilesAlive_45 : decode cX3_areHeldFilesAlive 45 = .ok (.iconst 1, 1) := by decide +kernel
theorem dX3_areHeldFilesAlive_46 : decode cX3_areHeldFilesAlive 46 = .ok (.ireturn, 1) := by decide +kernel
theorem dX4_init_0 : decode cX4_init 0 = .ok (.aload_n 0, 1) := by decide +kernel
theorem dX4_init_1 : decode cX4_init 1 = .ok (.invokespecial 1, 3) := by decide +kernel
theorem dX4_init_4 : decode cX4_init 4 = .ok (.aload_n 0, 1) := by decide +kernel
theorem dX4_init_5 : decode cX4_init 5 = .ok (.iconst 4, 1) := by decide +kernel
theorem dX4_init_6 : decode cX4_init 6 = .ok (.newarray .int, 2) := by decide +kernel
theorem dX4_init_8 : decode cX4_init 8 = .ok (.putfield 7, 3) := by decide +kernel
theorem dX4_init_11 : decode cX4_init 11 = .ok (.aload_n 0, 1) := by decide +kernel
theorem dX4_init_12 : decode cX4_init 12 = .ok (.iconst 4, 1) := by decide +kernel
theorem dX4_init_13 : decode cX4_init 13 = .ok (.newarray .int, 2) := by decide +kernel
theorem dX4_init_15 : decode cX4_init 15 = .ok (.putfield 13, 3) := by decide +kernel
theorem dX4_init_18 : decode cX4_init 18 = .ok (.aload_n 0, 1) := by decide +kernel
theorem dX4_init_19 : decode cX4_init 19 = .ok (.bipush 40, 2) := by decide +kernel
theorem dX4_init_21 : decode cX4_init 21 = .ok (.newarray .int, 2) := by decide +kernel
theorem dX4_init_23 : decode cX4_init 23 = .ok (.putfield 16, 3) := by decide +kernel
theorem dX4_init_26 : decode cX4_init 26 = .ok (.aload_n 0, 1) := by decide +kernel
theorem dX4_init_27 : decode cX4_init 27 = .ok (.bipush 40, 2) := by decide +kernel
theorem dX4_init_29 : decode cX4_init 29 = .ok (.newarray .int, 2) := by decide +kernel
theorem dX4_init_31 : decode cX4_init 31 = .ok (.putfield 19, 3) := by decide +kernel
theorem dX4_init_34 : decode cX4_init 34 = .ok (.aload_n 0, 1) := by decide +kernel
theorem dX4_init_35 : decode cX4_init 35 = .ok (.sipush 640, 3) := by decide +kernel
theorem dX4_init_38 : decode cX4_init 38 = .ok (.newarray .int, 2) := by decide +kernel
theorem dX4_init_40 : decode cX4_init 40 = .ok (.putfield 22, 3) := by decide +kernel
theorem dX4_init_43 : decode cX4_init 43 = .ok (.aload_n 0, 1) := by decide +kernel
theorem dX4_init_44 : decode cX4_init 44 = .ok (.bipush 64, 2) := by decide +kernel
theorem dX4_init_46 : decode cX4_init 46 = .ok (.newarray .int, 2) := by decide +kernel
theorem dX4_init_48 : decode cX4_init 48 = .ok (.putfield 25, 3) := by decide +kernel
theorem dX4_init_51 : decode cX4_init 51 = .ok (.aload_n 0, 1) := by decide +kernel
theorem dX4_init_52 : decode cX4_init 52 = .ok (.bipush 30, 2) := by decide +kernel
theorem dX4_init_54 : decode cX4_init 54 = .ok (.newarray .int, 2) := by decide +kernel
theorem dX4_init_56 : decode cX4_init 56 = .ok (.putfield 28, 3) := by decide +kernel
theorem dX4_init_59 : decode cX4_init 59 = .ok (.aload_n 0, 1) := by decide +kernel
theorem dX4_init_60 : decode cX4_init 60 = .ok (.bipush 30, 2) := by decide +kernel
theorem dX4_init_62 : decode cX4_init 62 = .ok (.newarray .boolean, 2) := by decide +kernel
theorem dX4_init_64 : decode cX4_init 64 = .ok (.putfield 31, 3) := by decide +kernel
theorem dX4_init_67 : decode cX4_init 67 = .ok (.aload_n 0, 1) := by decide +kernel
theorem dX4_init_68 : decode cX4_init 68 = .ok (.sipush 19200, 3) := by decide +kernel
theorem dX4_init_71 : decode cX4_init 71 = .ok (.newarray .int, 2) := by decide +kernel
theorem dX4_init_73 : decode cX4_init 73 = .ok (.putfield 35, 3) := by decide +kernel
theorem dX4_init_76 : decode cX4_init 76 = .ok (.aload_n 0, 1) := by decide +kernel
theorem dX4_init_77 : decode cX4_init 77 = .ok (.sipush 1200, 3) := by decide +kernel
theorem dX4_init_80 : decode cX4_init 80 = .ok (.newarray .boolean, 2) := by decide +kernel
theorem dX4_init_82 : decode cX4_init 82 = .ok (.putfield 38, 3) := by decide +kernel
theorem dX4_init_85 : decode cX4_init 85 = .ok (.aload_n 0, 1) := by decide +kernel
theorem dX4_init_86 : decode cX4_init 86 = .ok (.bipush 30, 2) := by decide +kernel
theorem dX4_init_88 : decode cX4_init 88 = .ok (.newarray .int, 2) := by decide +kernel
theorem dX4_init_90 : decode cX4_init 90 = .ok (.putfield 41, 3) := by decide +kernel
theorem dX4_init_93 : decode cX4_init 93 = .ok (.aload_n 0, 1) := by decide +kernel
theorem dX4_init_94 : decode cX4_init 94 = .ok (.bipush 30, 2) := by decide +kernel
theorem dX4_init_96 : decode cX4_init 96 = .ok (.newarray .int, 2) := by decide +kernel
theorem dX4_init_98 : decode cX4_init 98 = .ok (.putfield 44, 3) := by decide +kernel
theorem dX4_init_101 : decode cX4_init 101 = .ok (.aload_n 0, 1) := by decide +kernel
theorem dX4_init_102 : decode cX4_init 102 = .ok (.bipush 30, 2) := by decide +kernel
theorem dX4_init_104 : decode cX4_init 104 = .ok (.newarray .boolean, 2) := by decide +kernel
theorem dX4_init_106 : decode cX4_init 106 = .ok (.putfield 47, 3) := by decide +kernel
theorem dX4_init_109 : decode cX4_init 109 = .ok (.aload_n 0, 1) := by decide +kernel
theorem dX4_init_110 : decode cX4_init 110 = .ok (.sipush 4000, 3) := by decide +kernel
theorem dX4_init_113 : decode cX4_init 113 = .ok (.newarray .char, 2) := by decide +kernel
theorem dX4_init_115 : decode cX4_init 115 = .ok (.putfield 50, 3) := by decide +kernel
theorem dX4_init_118 : decode cX4_init 118 = .ok (.aload_n 0, 1) := by decide +kernel
theorem dX4_init_119 : decode cX4_init 119 = .ok (.iconst 4, 1) := by decide +kernel
theorem dX4_init_120 : decode cX4_init 120 = .ok (.newarray .int, 2) := by decide +kernel
theorem dX4_init_122 : decode cX4_init 122 = .ok (.putfield 54, 3) := by decide +kernel
theorem dX4_init_125 : decode cX4_init 125 = .ok (.aload_n 0, 1) := by decide +kernel
theorem dX4_init_126 : decode cX4_init 126 = .ok (.bipush 40, 2) := by decide +kernel
theorem dX4_init_128 : decode cX4_init 128 = .ok (.newarray .int, 2) := by decide +kernel
theorem dX4_init_130 : decode cX4_init 130 = .ok (.putfield 57, 3) := by decide +kernel
theorem dX4_init_133 : decode cX4_init 133 = .ok (.aload_n 0, 1) := by decide +kernel
theorem dX4_init_134 : decode cX4_init 134 = .ok (.sipush 640, 3) := by decide +kernel
theorem dX4_init_137 : decode cX4_init 137 = .ok (.newarray .int, 2) := by decide +kernel
theorem dX4_init_139 : decode cX4_init 139 = .ok (.putfield 60, 3) := by decide +kernel
theorem dX4_init_142 : decode cX4_init 142 = .ok (.aload_n 0, 1) := by decide +kernel
theorem dX4_init_143 : decode cX4_init 143 = .ok (.bipush 64, 2) := by decide +kernel
theorem dX4_init_145 : decode cX4_init 145 = .ok (.newarray .int, 2) := by decide +kernel
theorem dX4_init_147 : decode cX4_init 147 = .ok (.putfield 63, 3) := by decide +kernel
theorem dX4_init_150 : decode cX4_init 150 = .ok (.aload_n 0, 1) := by decide +kernel
theorem dX4_init_151 : decode cX4_init 151 = .ok (.ldc 66, 2) := by decide +kernel
theorem dX4_init_153 : decode cX4_init 153 = .ok (.putfield 68, 3) := by decide +kernel
theorem dX4_init_156 : decode cX4_init 156 = .ok (.return_, 1) := by decide +kernel
theorem dX4_thrown_0 : decode cX4_thrown 0 = .ok (.aload_n 0, 1) := by decide +kernel
theorem dX4_thrown_1 : decode cX4_thrown 1 = .ok (.getfield 72, 3) := by decide +kernel
theorem dX4_thrown_4 : decode cX4_thrown 4 = .ok (.ireturn, 1) := by decide +kernel
theorem dX4_in_0 : decode cX4_in 0 = .ok (.iload_n 0, 1) := by decide +kernel
theorem dX4_in_1 : decode cX4_in 1 = .ok (.iload_n 1, 1) := by decide +kernel
theorem dX4_in_2 : decode cX4_in 2 = .ok (.if_icmp .lt 12, 3) := by decide +kernel
theorem dX4_in_5 : decode cX4_in 5 = .ok (.iload_n 0, 1) := by decide +kernel
theorem dX4_in_6 : decode cX4_in 6 = .ok (.iload_n 2, 1) := by decide +kernel
theorem dX4_in_7 : decode cX4_in 7 = .ok (.if_icmp .gt 7, 3) := by decide +kernel
theorem dX4_in_10 : decode cX4_in 10 = .ok (.iconst 1, 1) := by decide +kernel
theorem dX4_in_11 : decode cX4_in 11 = .ok (.goto 4, 3) := by decide +kernel
theorem dX4_in_14 : decode cX4_in 14 = .ok (.iconst 0, 1) := by decide +kernel
theorem dX4_in_15 : decode cX4_in 15 = .ok (.ireturn, 1) := by decide +kernel
theorem dX4_fails_0 : decode cX4_fails 0 = .ok (.aload_n 0, 1) := by decide +kernel
theorem dX4_fails_1 : decode cX4_fails 1 = .ok (.iload_n 1, 1) := by decide +kernel
theorem dX4_fails_2 : decode cX4_fails 2 = .ok (.putfield 72, 3) := by decide +kernel
theorem dX4_fails_5 : decode cX4_fails 5 = .ok (.iconst 0, 1) := by decide +kernel
theorem dX4_fails_6 : decode cX4_fails 6 = .ok (.ireturn, 1) := by decide +kernel
theorem dX4_isOwner_0 : decode cX4_isOwner 0 = .ok (.iload_n 1, 1) := by decide +kernel
theorem dX4_isOwner_1 : decode cX4_isOwner 1 = .ok (.iconst 0, 1) := by decide +kernel
theorem dX4_isOwner_2 : decode cX4_isOwner 2 = .ok (.aload_n 0, 1) := by decide +kernel
theorem dX4_isOwner_3 : decode cX4_isOwner 3 = .ok (.getfield 76, 3) := by decide +kernel
theorem dX4_isOwner_6 : decode cX4_isOwner 6 = .ok (.iconst 1, 1) := by decide +kernel
theorem dX4_isOwner_7 : decode cX4_isOwner 7 = .ok (.isub, 1) := by decide +kernel
theorem dX4_isOwner_8 : decode cX4_isOwner 8 = .ok (.invokestatic 79, 3) := by decide +kernel
theorem dX4_isOwner_11 : decode cX4_isOwner 11 = .ok (.ireturn, 1) := by decide +kernel
theorem dX4_isFile_0 : decode cX4_isFile 0 = .ok (.iload_n 1, 1) := by decide +kernel
theorem dX4_isFile_1 : decode cX4_isFile 1 = .ok (.iconst 0, 1) := by decide +kernel
theorem dX4_isFile_2 : decode cX4_isFile 2 = .ok (.aload_n 0, 1) := by decide +kernel
theorem dX4_isFile_3 : decode cX4_isFile 3 = .ok (.getfield 83, 3) := by decide +kernel
theorem dX4_isFile_6 : decode cX4_isFile 6 = .ok (.iconst 1, 1) := by decide +kernel
theorem dX4_isFile_7 : decode cX4_isFile 7 = .ok (.isub, 1) := by decide +kernel
theorem dX4_isFile_8 : decode cX4_isFile 8 = .ok (.invokestatic 79, 3) := by decide +kernel
theorem dX4_isFile_11 : decode cX4_isFile 11 = .ok (.ireturn, 1) := by decide +kernel
theorem dX4_isPlace_0 : decode cX4_isPlace 0 = .ok (.iload_n 0, 1) := by decide +kernel
theorem dX4_isPlace_1 : decode cX4_isPlace 1 = .ok (.iconst 0, 1) := by decide +kernel
theorem dX4_isPlace_2 : decode cX4_isPlace 2 = .ok (.bipush 15, 2) := by decide +kernel
theorem dX4_isPlace_4 : decode cX4_isPlace 4 = .ok (.invokestatic 79, 3) := by decide +kernel
theorem dX4_isPlace_7 : decode cX4_isPlace 7 = .ok (.ireturn, 1) := by decide +kernel
theorem dX4_isSnapshot_0 : decode cX4_isSnapshot 0 = .ok (.iload_n 1, 1) := by decide +kernel
theorem dX4_isSnapshot_1 : decode cX4_isSnapshot 1 = .ok (.iconst 0, 1) := by decide +kernel
theorem dX4_isSnapshot_2 : decode cX4_isSnapshot 2 = .ok (.aload_n 0, 1) := by decide +kernel
theorem dX4_isSnapshot_3 : decode cX4_isSnapshot 3 = .ok (.getfield 86, 3) := by decide +kernel
theorem dX4_isSnapshot_6 : decode cX4_isSnapshot 6 = .ok (.iconst 1, 1) := by decide +kernel
theorem dX4_isSnapshot_7 : decode cX4_isSnapshot 7 = .ok (.isub, 1) := by decide +kernel
theorem dX4_isSnapshot_8 : decode cX4_isSnapshot 8 = .ok (.invokestatic 79, 3) := by decide +kernel
theorem dX4_isSnapshot_11 : decode cX4_isSnapshot 11 = .ok (.ireturn, 1) := by decide +kernel
theorem dX4_isHold_0 : decode cX4_isHold 0 = .ok (.iload_n 1, 1) := by decide +kernel
theorem dX4_isHold_1 : decode cX4_isHold 1 = .ok (.iconst 0, 1) := by decide +kernel
theorem dX4_isHold_2 : decode cX4_isHold 2 = .ok (.aload_n 0, 1) := by decide +kernel
theorem dX4_isHold_3 : decode cX4_isHold 3 = .ok (.getfield 89, 3) := by decide +kernel
theorem dX4_isHold_6 : decode cX4_isHold 6 = .ok (.iconst 1, 1) := by decide +kernel
theorem dX4_isHold_7 : decode cX4_isHold 7 = .ok (.isub, 1) := by decide +kernel
theorem dX4_isHold_8 : decode cX4_isHold 8 = .ok (.invokestatic 79, 3) := by decide +kernel
theorem dX4_isHold_11 : decode cX4_isHold 11 = .ok (.ireturn, 1) := by decide +kernel
theorem dX4_held_0 : decode cX4_held 0 = .ok (.iconst 0, 1) := by decide +kernel
theorem dX4_held_1 : decode cX4_held 1 = .ok (.istore_n 2, 1) := by decide +kernel
theorem dX4_held_2 : decode cX4_held 2 = .ok (.iconst 0, 1) := by decide +kernel
theorem dX4_held_3 : decode cX4_held 3 = .ok (.istore_n 3, 1) := by decide +kernel
theorem dX4_held_4 : decode cX4_held 4 = .ok (.iload_n 3, 1) := by decide +kernel
theorem dX4_held_5 : decode cX4_held 5 = .ok (.aload_n 0, 1) := by decide +kernel
theorem dX4_held_6 : decode cX4_held 6 = .ok (.getfield 89, 3) := by decide +kernel
theorem dX4_held_9 : decode cX4_held 9 = .ok (.if_icmp .ge 36, 3) := by decide +kernel
theorem dX4_held_12 : decode cX4_held 12 = .ok (.iload_n 2, 1) := by decide +kernel
theorem dX4_held_13 : decode cX4_held 13 = .ok (.aload_n 0, 1) := by decide +kernel
theorem dX4_held_14 : decode cX4_held 14 = .ok (.getfield 47, 3) := by decide +kernel
theorem dX4_held_17 : decode cX4_held 17 = .ok (.iload_n 3, 1) := by decide +kernel
theorem dX4_held_18 : decode cX4_held 18 = .ok (.baload, 1) := by decide +kernel
theorem dX4_held_19 : decode cX4_held 19 = .ok (.ifCond .eq 17, 3) := by decide +kernel
theorem dX4_held_22 : decode cX4_held 22 = .ok (.aload_n 0, 1) := by decide +kernel
theorem dX4_held_23 : decode cX4_held 23 = .ok (.getfield 41, 3) := by decide +kernel
theorem dX4_held_26 : decode cX4_held 26 = .ok (.iload_n 3, 1) := by decide +kernel
theorem dX4_held_27 : decode cX4_held 27 = .ok (.iaload, 1) := by decide +kernel
theorem dX4_held_28 : decode cX4_held 28 = .ok (.iload_n 1, 1) := by decide +kernel
theorem dX4_held_29 : decode cX4_held 29 = .ok (.if_icmp .ne 7, 3) := by decide +kernel
theorem dX4_held_32 : decode cX4_held 32 = .ok (.iconst 1, 1) := by decide +kernel
theorem dX4_held_33 : decode cX4_held 33 = .ok (.goto 4, 3) := by decide +kernel
theorem dX4_held_36 : decode cX4_held 36 = .ok (.iconst 0, 1) := by decide +kernel
theorem dX4_held_37 : decode cX4_held 37 = .ok (.iadd, 1) := by decide +kernel
theorem dX4_held_38 : decode cX4_held 38 = .ok (.istore_n 2, 1) := by decide +kernel
theorem dX4_held_39 : decode cX4_held 39 = .ok (.iinc 3 1, 3) := by decide +kernel
theorem dX4_held_42 : decode cX4_held 42 = .ok (.goto (-38), 3) := by decide +kernel
theorem dX4_held_45 : decode cX4_held 45 = .ok (.iload_n 2, 1) := by decide +kernel
theorem dX4_held_46 : decode cX4_held 46 = .ok (.ireturn, 1) := by decide +kernel
theorem dX4_exists_0 : decode cX4_exists 0 = .ok (.aload_n 0, 1) := by decide +kernel
theorem dX4_exists_1 : decode cX4_exists 1 = .ok (.getfield 19, 3) := by decide +kernel
theorem dX4_exists_4 : decode cX4_exists 4 = .ok (.iload_n 1, 1) := by decide +kernel
theorem dX4_exists_5 : decode cX4_exists 5 = .ok (.iaload, 1) := by decide +kernel
theorem dX4_exists_6 : decode cX4_exists 6 = .ok (.ifCond .gt 11, 3) := by decide +kernel
theorem dX4_exists_9 : decode cX4_exists 9 = .ok (.aload_n 0, 1) := by decide +kernel
theorem dX4_exists_10 : decode cX4_exists 10 = .ok (.iload_n 1, 1) := by decide +kernel
theorem dX4_exists_11 : decode cX4_exists 11 = .ok (.invokevirtual 92, 3) := by decide +kernel
theorem dX4_exists_14 : decode cX4_exists 14 = .ok (.ifCond .le 7, 3) := by decide +kernel
theorem dX4_exists_17 : decode cX4_exists 17 = .ok (.iconst 1, 1) := by decide +kernel
theorem dX4_exists_18 : decode cX4_exists 18 = .ok (.goto 4, 3) := by decide +kernel
theorem dX4_exists_21 : decode cX4_exists 21 = .ok (.iconst 0, 1) := by decide +kernel
theorem dX4_exists_22 : decode cX4_exists 22 = .ok (.ireturn, 1) := by decide +kernel
theorem dX4_goes_0 : decode cX4_goes 0 = .ok (.aload_n 0, 1) := by decide +kernel
theorem dX4_goes_1 : decode cX4_goes 1 = .ok (.iload_n 1, 1) := by decide +kernel
theorem dX4_goes_2 : decode cX4_goes 2 = .ok (.invokevirtual 96, 3) := by decide +kernel
theorem dX4_goes_5 : decode cX4_goes 5 = .ok (.ifCond .eq 5, 3) := by decide +kernel
theorem dX4_goes_8 : decode cX4_goes 8 = .ok (.iconst 0, 1) := by decide +kernel
theorem dX4_goes_9 : decode cX4_goes 9 = .ok (.ireturn, 1) := by decide +kernel
theorem dX4_goes_10 : decode cX4_goes 10 = .ok (.iconst 0, 1) := by decide +kernel
theorem dX4_goes_11 : decode cX4_goes 11 = .ok (.istore_n 2, 1) := by decide +kernel
theorem dX4_goes_12 : decode cX4_goes 12 = .ok (.iload_n 2, 1) := by decide +kernel
theorem dX4_goes_13 : decode cX4_goes 13 = .ok (.bipush 16, 2) := by decide +kernel
theorem dX4_goes_15 : decode cX4_goes 15 = .ok (.if_icmp .ge 21, 3) := by decide +kernel
theorem dX4_goes_18 : decode cX4_goes 18 = .ok (.aload_n 0, 1) := by decide +kernel
theorem dX4_goes_19 : decode cX4_goes 19 = .ok (.getfield 22, 3) := by decide +kernel
theorem dX4_goes_22 : decode cX4_goes 22 = .ok (.bipush 16, 2) := by decide +kernel
theorem dX4_goes_24 : decode cX4_goes 24 = .ok (.iload_n 1, 1) := by decide +kernel
theorem dX4_goes_25 : decode cX4_goes 25 = .ok (.imul, 1) := by decide +kernel
theorem dX4_goes_26 : decode cX4_goes 26 = .ok (.iload_n 2, 1) := by decide +kernel
theorem dX4_goes_27 : decode cX4_goes 27 = .ok (.iadd, 1) := by decide +kernel
theorem dX4_goes_28 : decode cX4_goes 28 = .ok (.iconst 0, 1) := by decide +kernel
theorem dX4_goes_29 : decode cX4_goes 29 = .ok (.iastore, 1) := by decide +kernel
theorem dX4_goes_30 : decode cX4_goes 30 = .ok (.iinc 2 1, 3) := by decide +kernel
theorem dX4_goes_33 : decode cX4_goes 33 = .ok (.goto (-21), 3) := by decide +kernel
theorem dX4_goes_36 : decode cX4_goes 36 = .ok (.iconst 1, 1) := by decide +kernel
theorem dX4_goes_37 : decode cX4_goes 37 = .ok (.ireturn, 1) := by decide +kernel
theorem dX4_enters_0 : decode cX4_enters 0 = .ok (.aload_n 0, 1) := by decide +kernel
theorem dX4_enters_1 : decode cX4_enters 1 = .ok (.getfield 50, 3) := by decide +kernel
theorem dX4_enters_4 : decode cX4_enters 4 = .ok (.aload_n 0, 1) := by decide +kernel
theorem dX4_enters_5 : decode cX4_enters 5 = .ok (.getfield 100, 3) := by decide +kernel
theorem dX4_enters_8 : decode cX4_enters 8 = .ok (.iload_n 1, 1) := by decide +kernel
theorem dX4_enters_9 : decode cX4_enters 9 = .ok (.castore, 1) := by decide +kernel
theorem dX4_enters_10 : decode cX4_enters 10 = .ok (.aload_n 0, 1) := by decide +kernel
theorem dX4_enters_11 : decode cX4_enters 11 = .ok (.dup, 1) := by decide +kernel
theorem dX4_enters_12 : decode cX4_enters 12 = .ok (.getfield 100, 3) := by decide +kernel
theorem dX4_enters_15 : decode cX4_enters 15 = .ok (.iconst 1, 1) := by decide +kernel
theorem dX4_enters_16 : decode cX4_enters 16 = .ok (.iadd, 1) := by decide +kernel
theorem dX4_enters_17 : decode cX4_enters 17 = .ok (.putfield 100, 3) := by decide +kernel
theorem dX4_enters_20 : decode cX4_enters 20 = .ok (.return_, 1) := by decide +kernel
theorem dX4_users_0 : decode cX4_users 0 = .ok (.iconst 0, 1) := by decide +kernel
theorem dX4_users_1 : decode cX4_users 1 = .ok (.istore_n 2, 1) := by decide +kernel
theorem dX4_users_2 : decode cX4_users 2 = .ok (.iconst 0, 1) := by decide +kernel
theorem dX4_users_3 : decode cX4_users 3 = .ok (.istore_n 3, 1) := by decide +kernel
theorem dX4_users_4 : decode cX4_users 4 = .ok (.iload_n 3, 1) := by decide +kernel
theorem dX4_users_5 : decode cX4_users 5 = .ok (.sipush 640, 3) := by decide +kernel
theorem dX4_users_8 : decode cX4_users 8 = .ok (.if_icmp .ge 29, 3) := by decide +kernel
theorem dX4_users_11 : decode cX4_users 11 = .ok (.iload_n 2, 1) := by decide +kernel
theorem dX4_users_12 : decode cX4_users 12 = .ok (.aload_n 0, 1) := by decide +kernel
theorem dX4_users_13 : decode cX4_users 13 = .ok (.getfield 22, 3) := by decide +kernel
theorem dX4_users_16 : decode cX4_users 16 = .ok (.iload_n 3, 1) := by decide +kernel
theorem dX4_users_17 : decode cX4_users 17 = .ok (.iaload, 1) := by decide +kernel
theorem dX4_users_18 : decode cX4_users 18 = .ok (.iload_n 1, 1) := by decide +kernel
theorem dX4_users_19 : decode cX4_users 19 = .ok (.iconst 1, 1) := by decide +kernel
theorem dX4_users_20 : decode cX4_users 20 = .ok (.iadd, 1) := by decide +kernel
theorem dX4_users_21 : decode cX4_users 21 = .ok (.if_icmp .ne 7, 3) := by decide +kernel
theorem dX4_users_24 : decode cX4_users 24 = .ok (.iconst 1, 1) := by decide +kernel
theorem dX4_users_25 : decode cX4_users 25 = .ok (.goto 4, 3) := by decide +kernel
theorem dX4_users_28 : decode cX4_users 28 = .ok (.iconst 0, 1) := by decide +kernel
theorem dX4_users_29 : decode cX4_users 29 = .ok (.iadd, 1) := by decide +kernel
theorem dX4_users_30 : decode cX4_users 30 = .ok (.istore_n 2, 1) := by decide +kernel
theorem dX4_users_31 : decode cX4_users 31 = .ok (.iinc 3 1, 3) := by decide +kernel
theorem dX4_users_34 : decode cX4_users 34 = .ok (.goto (-30), 3) := by decide +kernel
theorem dX4_users_37 : decode cX4_users 37 = .ok (.iconst 0, 1) := by decide +kernel
theorem dX4_users_38 : decode cX4_users 38 = .ok (.istore_n 3, 1) := by decide +kernel
theorem dX4_users_39 : decode cX4_users 39 = .ok (.iload_n 3, 1) := by decide +kernel
theorem dX4_users_40 : decode cX4_users 40 = .ok (.aload_n 0, 1) := by decide +kernel
theorem dX4_users_41 : decode cX4_users 41 = .ok (.getfield 86, 3) := by decide +kernel
theorem dX4_users_44 : decode cX4_users 44 = .ok (.if_icmp .ge 62, 3) := by decide +kernel
theorem dX4_users_47 : decode cX4_users 47 = .ok (.iconst 0, 1) := by decide +kernel
theorem dX4_users_48 : decode cX4_users 48 = .ok (.istore 4, 2) := by decide +kernel
theorem dX4_users_50 : decode cX4_users 50 = .ok (.iload 4, 2) := by decide +kernel
theorem dX4_users_52 : decode cX4_users 52 = .ok (.sipush 640, 3) := by decide +kernel
theorem dX4_users_55 : decode cX4_users 55 = .ok (.if_icmp .ge 45, 3) := by decide +kernel
theorem dX4_users_58 : decode cX4_users 58 = .ok (.aload_n 0, 1) := by decide +kernel
theorem dX4_users_59 : decode cX4_users 59 = .ok (.getfield 31, 3) := by decide +kernel
theorem dX4_users_62 : decode cX4_users 62 = .ok (.iload_n 3, 1) := by decide +kernel
theorem dX4_users_63 : decode cX4_users 63 = .ok (.baload, 1) := by decide +kernel
theorem dX4_users_64 : decode cX4_users 64 = .ok (.ifCond .eq 36, 3) := by decide +kernel
theorem dX4_users_67 : decode cX4_users 67 = .ok (.iload_n 2, 1) := by decide +kernel
theorem dX4_users_68 : decode cX4_users 68 = .ok (.aload_n 0, 1) := by decide +kernel
theorem dX4_users_69 : decode cX4_users 69 = .ok (.getfield 35, 3) := by decide +kernel
theorem dX4_users_72 : decode cX4_users 72 = .ok (.sipush 640, 3) := by decide +kernel
theorem dX4_users_75 : decode cX4_users 75 = .ok (.iload_n 3, 1) := by decide +kernel
theorem dX4_users_76 : decode cX4_users 76 = .ok (.imul, 1) := by decide +kernel
theorem dX4_users_77 : decode cX4_users 77 = .ok (.iload 4, 2) := by decide +kernel
theorem dX4_users_79 : decode cX4_users 79 = .ok (.iadd, 1) := by decide +kernel
theorem dX4_users_80 : decode cX4_users 80 = .ok (.iaload, 1) := by decide +kernel
theorem dX4_users_81 : decode cX4_users 81 = .ok (.iload_n 1, 1) := by decide +kernel
theorem dX4_users_82 : decode cX4_users 82 = .ok (.iconst 1, 1) := by decide +kernel
theorem dX4_users_83 : decode cX4_users 83 = .ok (.iadd, 1) := by decide +kernel
theorem dX4_users_84 : decode cX4_users 84 = .ok (.if_icmp .ne 7, 3) := by decide +kernel
theorem dX4_users_87 : decode cX4_users 87 = .ok (.iconst 1, 1) := by decide +kernel
theorem dX4_users_88 : decode cX4_users 88 = .ok (.goto 4, 3) := by decide +kernel
theorem dX4_users_91 : decode cX4_users 91 = .ok (.iconst 0, 1) := by decide +kernel
theorem dX4_users_92 : decode cX4_users 92 = .ok (.iadd, 1) := by decide +kernel
theorem dX4_users_93 : decode cX4_users 93 = .ok (.istore_n 2, 1) := by decide +kernel
theorem dX4_users_94 : decode cX4_users 94 = .ok (.iinc 4 1, 3) := by decide +kernel
theorem dX4_users_97 : decode cX4_users 97 = .ok (.goto (-47), 3) := by decide +kernel
theorem dX4_users_100 : decode cX4_users 100 = .ok (.iinc 3 1, 3) := by decide +kernel
theorem dX4_users_103 : decode cX4_users 103 = .ok (.goto (-64), 3) := by decide +kernel
theorem dX4_users_106 : decode cX4_users 106 = .ok (.iload_n 2, 1) := by decide +kernel
theorem dX4_users_107 : decode cX4_users 107 = .ok (.ireturn, 1) := by decide +kernel
theorem dX4_freeNow_0 : decode cX4_freeNow 0 = .ok (.iconst 0, 1) := by decide +kernel
theorem dX4_freeNow_1 : decode cX4_freeNow 1 = .ok (.istore_n 1, 1) := by decide +kernel
theorem dX4_freeNow_2 : decode cX4_freeNow 2 = .ok (.iconst 0, 1) := by decide +kernel
theorem dX4_freeNow_3 : decode cX4_freeNow 3 = .ok (.istore_n 2, 1) := by decide +kernel
theorem dX4_freeNow_4 : decode cX4_freeNow 4 = .ok (.iload_n 2, 1) := by decide +kernel
theorem dX4_freeNow_5 : decode cX4_freeNow 5 = .ok (.bipush 64, 2) := by decide +kernel
theorem dX4_freeNow_7 : decode cX4_freeNow 7 = .ok (.if_icmp .ge 25, 3) := by decide +kernel
theorem dX4_freeNow_10 : decode cX4_freeNow 10 = .ok (.iload_n 1, 1) := by decide +kernel
theorem dX4_freeNow_11 : decode cX4_freeNow 11 = .ok (.aload_n 0, 1) := by decide +kernel
theorem dX4_freeNow_12 : decode cX4_freeNow 12 = .ok (.iload_n 2, 1) := by decide +kernel
theorem dX4_freeNow_13 : decode cX4_freeNow 13 = .ok (.invokevirtual 103, 3) := by decide +kernel
theorem dX4_freeNow_16 : decode cX4_freeNow 16 = .ok (.ifCond .ne 7, 3) := by decide +kernel
theorem dX4_freeNow_19 : decode cX4_freeNow 19 = .ok (.iconst 1, 1) := by decide +kernel
theorem dX4_freeNow_20 : decode cX4_freeNow 20 = .ok (.goto 4, 3) := by decide +kernel
theorem dX4_freeNow_23 : decode cX4_freeNow 23 = .ok (.iconst 0, 1) := by decide +kernel
theorem dX4_freeNow_24 : decode cX4_freeNow 24 = .ok (.iadd, 1) := by decide +kernel
theorem dX4_freeNow_25 : decode cX4_freeNow 25 = .ok (.istore_n 1, 1) := by decide +kernel
theorem dX4_freeNow_26 : decode cX4_freeNow 26 = .ok (.iinc 2 1, 3) := by decide +kernel
theorem dX4_freeNow_29 : decode cX4_freeNow 29 = .ok (.goto (-25), 3) := by decide +kernel
theorem dX4_freeNow_32 : decode cX4_freeNow 32 = .ok (.iload_n 1, 1) := by decide +kernel
theorem dX4_freeNow_33 : decode cX4_freeNow 33 = .ok (.ireturn, 1) := by decide +kernel
theorem dX4_promisedNow_0 : decode cX4_promisedNow 0 = .ok (.aload_n 0, 1) := by decide +kernel
theorem dX4_promisedNow_1 : decode cX4_promisedNow 1 = .ok (.getfield 13, 3) := by decide +kernel
theorem dX4_promisedNow_4 : decode cX4_promisedNow 4 = .ok (.iconst 0, 1) := by decide +kernel
theorem dX4_promisedNow_5 : decode cX4_promisedNow 5 = .ok (.iaload, 1) := by decide +kernel
theorem dX4_promisedNow_6 : decode cX4_promisedNow 6 = .ok (.aload_n 0, 1) := by decide +kernel
theorem dX4_promisedNow_7 : decode cX4_promisedNow 7 = .ok (.getfield 13, 3) := by decide +kernel
theorem dX4_promisedNow_10 : decode cX4_promisedNow 10 = .ok (.iconst 1, 1) := by decide +kernel
theorem dX4_promisedNow_11 : decode cX4_promisedNow 11 = .ok (.iaload, 1) := by decide +kernel
theorem dX4_promisedNow_12 : decode cX4_promisedNow 12 = .ok (.iadd, 1) := by decide +kernel
theorem dX4_promisedNow_13 : decode cX4_promisedNow 13 = .ok (.aload_n 0, 1) := by decide +kernel
theorem dX4_promisedNow_14 : decode cX4_promisedNow 14 = .ok (.getfield 13, 3) := by decide +kernel
theorem dX4_promisedNow_17 : decode cX4_promisedNow 17 = .ok (.iconst 2, 1) := by decide +kernel
theorem dX4_promisedNow_18 : decode cX4_promisedNow 18 = .ok (.iaload, 1) := by decide +kernel
theorem dX4_promisedNow_19 : decode cX4_promisedNow 19 = .ok (.iadd, 1) := by decide +kernel
theorem dX4_promisedNow_20 : decode cX4_promisedNow 20 = .ok (.aload_n 0, 1) := by decide +kernel
theorem dX4_promisedNow_21 : decode cX4_promisedNow 21 = .ok (.getfield 13, 3) := by decide +kernel
theorem dX4_promisedNow_24 : decode cX4_promisedNow 24 = .ok (.iconst 3, 1) := by decide +kernel
theorem dX4_promisedNow_25 : decode cX4_promisedNow 25 = .ok (.iaload, 1) := by decide +kernel
theorem dX4_promisedNow_26 : decode cX4_promisedNow 26 = .ok (.iadd, 1) := by decide +kernel
theorem dX4_promisedNow_27 : decode cX4_promisedNow 27 = .ok (.ireturn, 1) := by decide +kernel
theorem dX4_isUsedBy_0 : decode cX4_isUsedBy 0 = .ok (.iconst 0, 1) := by decide +kernel
theorem dX4_isUsedBy_1 : decode cX4_isUsedBy 1 = .ok (.istore_n 3, 1) := by decide +kernel
theorem dX4_isUsedBy_2 : decode cX4_isUsedBy 2 = .ok (.iload_n 3, 1) := by decide +kernel
theorem dX4_isUsedBy_3 : decode cX4_isUsedBy 3 = .ok (.sipush 640, 3) := by decide +kernel
theorem dX4_isUsedBy_6 : decode cX4_isUsedBy 6 = .ok (.if_icmp .ge 36, 3) := by decide +kernel
theorem dX4_isUsedBy_9 : decode cX4_isUsedBy 9 = .ok (.aload_n 0, 1) := by decide +kernel
theorem dX4_isUsedBy_10 : decode cX4_isUsedBy 10 = .ok (.getfield 22, 3) := by decide +kernel
theorem dX4_isUsedBy_13 : decode cX4_isUsedBy 13 = .ok (.iload_n 3, 1) := by decide +kernel
theorem dX4_isUsedBy_14 : decode cX4_isUsedBy 14 = .ok (.iaload, 1) := by decide +kernel
theorem dX4_isUsedBy_15 : decode cX4_isUsedBy 15 = .ok (.iload_n 2, 1) := by decide +kernel
theorem dX4_isUsedBy_16 : decode cX4_isUsedBy 16 = .ok (.iconst 1, 1) := by decide +kernel
theorem dX4_isUsedBy_17 : decode cX4_isUsedBy 17 = .ok (.iadd, 1) := by decide +kernel
theorem dX4_isUsedBy_18 : decode cX4_isUsedBy 18 = .ok (.if_icmp .ne 18, 3) := by decide +kernel
theorem dX4_isUsedBy_21 : decode cX4_isUsedBy 21 = .ok (.aload_n 0, 1) := by decide +kernel
theorem dX4_isUsedBy_22 : decode cX4_isUsedBy 22 = .ok (.getfield 16, 3) := by decide +kernel
theorem dX4_isUsedBy_25 : decode cX4_isUsedBy 25 = .ok (.iload_n 3, 1) := by decide +kernel
theorem dX4_isUsedBy_26 : decode cX4_isUsedBy 26 = .ok (.bipush 16, 2) := by decide +kernel
theorem dX4_isUsedBy_28 : decode cX4_isUsedBy 28 = .ok (.idiv, 1) := by decide +kernel
theorem dX4_isUsedBy_29 : decode cX4_isUsedBy 29 = .ok (.iaload, 1) := by decide +kernel
theorem dX4_isUsedBy_30 : decode cX4_isUsedBy 30 = .ok (.iload_n 1, 1) := by decide +kernel
theorem dX4_isUsedBy_31 : decode cX4_isUsedBy 31 = .ok (.if_icmp .ne 5, 3) := by decide +kernel
theorem dX4_isUsedBy_34 : decode cX4_isUsedBy 34 = .ok (.iconst 1, 1) := by decide +kernel
theorem dX4_isUsedBy_35 : decode cX4_isUsedBy 35 = .ok (.ireturn, 1) := by decide +kernel
theorem dX4_isUsedBy_36 : decode cX4_isUsedBy 36 = .ok (.iinc 3 1, 3) := by decide +kernel
theorem dX4_isUsedBy_39 : decode cX4_isUsedBy 39 = .ok (.goto (-37), 3) := by decide +kernel
theorem dX4_isUsedBy_42 : decode cX4_isUsedBy 42 = .ok (.iconst 0, 1) := by decide +kernel
theorem dX4_isUsedBy_43 : decode cX4_isUsedBy 43 = .ok (.ireturn, 1) := by decide +kernel
theorem dX4_countsFor_0 : decode cX4_countsFor 0 = .ok (.iconst 0, 1) := by decide +kernel
theorem dX4_countsFor_1 : decode cX4_countsFor 1 = .ok (.istore_n 2, 1) := by decide +kernel
theorem dX4_countsFor_2 : decode cX4_countsFor 2 = .ok (.iconst 0, 1) := by decide +kernel
theorem dX4_countsFor_3 : decode cX4_countsFor 3 = .ok (.istore_n 3, 1) := by decide +kernel
theorem dX4_countsFor_4 : decode cX4_countsFor 4 = .ok (.iload_n 3, 1) := by decide +kernel
theorem dX4_countsFor_5 : decode cX4_countsFor 5 = .ok (.bipush 64, 2) := by decide +kernel
theorem dX4_countsFor_7 : decode cX4_countsFor 7 = .ok (.if_icmp .ge 26, 3) := by decide +kernel
theorem dX4_countsFor_10 : decode cX4_countsFor 10 = .ok (.iload_n 2, 1) := by decide +kernel
theorem dX4_countsFor_11 : decode cX4_countsFor 11 = .ok (.aload_n 0, 1) := by decide +kernel
theorem dX4_countsFor_12 : decode cX4_countsFor 12 = .ok (.iload_n 1, 1) := by decide +kernel
theorem dX4_countsFor_13 : decode cX4_countsFor 13 = .ok (.iload_n 3, 1) := by decide +kernel
theorem dX4_countsFor_14 : decode cX4_countsFor 14 = .ok (.invokevirtual 106, 3) := by decide +kernel
theorem dX4_countsFor_17 : decode cX4_countsFor 17 = .ok (.ifCond .eq 7, 3) := by decide +kernel
theorem dX4_countsFor_20 : decode cX4_countsFor 20 = .ok (.iconst 1, 1) := by decide +kernel
theorem dX4_countsFor_21 : decode cX4_countsFor 21 = .ok (.goto 4, 3) := by decide +kernel
theorem dX4_countsFor_24 : decode cX4_countsFor 24 = .ok (.iconst 0, 1) := by decide +kernel
theorem dX4_countsFor_25 : decode cX4_countsFor 25 = .ok (.iadd, 1) := by decide +kernel
theorem dX4_countsFor_26 : decode cX4_countsFor 26 = .ok (.istore_n 2, 1) := by decide +kernel
theorem dX4_countsFor_27 : decode cX4_countsFor 27 = .ok (.iinc 3 1, 3) := by decide +kernel
theorem dX4_countsFor_30 : decode cX4_countsFor 30 = .ok (.goto (-26), 3) := by decide +kernel
theorem dX4_countsFor_33 : decode cX4_countsFor 33 = .ok (.iload_n 2, 1) := by decide +kernel
theorem dX4_countsFor_34 : decode cX4_countsFor 34 = .ok (.ireturn, 1) := by decide +kernel
theorem dX4_addOwner_0 : decode cX4_addOwner 0 = .ok (.aload_n 0, 1) := by decide +kernel
theorem dX4_addOwner_1 : decode cX4_addOwner 1 = .ok (.iconst 0, 1) := by decide +kernel
theorem dX4_addOwner_2 : decode cX4_addOwner 2 = .ok (.putfield 72, 3) := by decide +kernel
theorem dX4_addOwner_5 : decode cX4_addOwner 5 = .ok (.iload_n 1, 1) := by decide +kernel
theorem dX4_addOwner_6 : decode cX4_addOwner 6 = .ok (.iconst 0, 1) := by decide +kernel
theorem dX4_addOwner_7 : decode cX4_addOwner 7 = .ok (.bipush 64, 2) := by decide +kernel
theorem dX4_addOwner_9 : decode cX4_addOwner 9 = .ok (.invokestatic 79, 3) := by decide +kernel
theorem dX4_addOwner_12 : decode cX4_addOwner 12 = .ok (.ifCond .ne 9, 3) := by decide +kernel
theorem dX4_addOwner_15 : decode cX4_addOwner 15 = .ok (.aload_n 0, 1) := by decide +kernel
theorem dX4_addOwner_16 : decode cX4_addOwner 16 = .ok (.iconst 1, 1) := by decide +kernel
theorem dX4_addOwner_17 : decode cX4_addOwner 17 = .ok (.invokevirtual 110, 3) := by decide +kernel
theorem dX4_addOwner_20 : decode cX4_addOwner 20 = .ok (.ireturn, 1) := by decide +kernel
theorem dX4_addOwner_21 : decode cX4_addOwner 21 = .ok (.aload_n 0, 1) := by decide +kernel
theorem dX4_addOwner_22 : decode cX4_addOwner 22 = .ok (.getfield 113, 3) := by decide +kernel
theorem dX4_addOwner_25 : decode cX4_addOwner 25 = .ok (.ifCond .ne 11, 3) := by decide +kernel
theorem dX4_addOwner_28 : decode cX4_addOwner 28 = .ok (.aload_n 0, 1) := by decide +kernel
theorem dX4_addOwner_29 : decode cX4_addOwner 29 = .ok (.getfield 76, 3) := by decide +kernel
theorem dX4_addOwner_32 : decode cX4_addOwner 32 = .ok (.iconst 4, 1) := by decide +kernel
theorem dX4_addOwner_33 : decode cX4_addOwner 33 = .ok (.if_icmp .ne 9, 3) := by decide +kernel
theorem dX4_addOwner_36 : decode cX4_addOwner 36 = .ok (.aload_n 0, 1) := by decide +kernel
theorem dX4_addOwner_37 : decode cX4_addOwner 37 = .ok (.iconst 2, 1) := by decide +kernel
theorem dX4_addOwner_38 : decode cX4_addOwner 38 = .ok (.invokevirtual 110, 3) := by decide +kernel
theorem dX4_addOwner_41 : decode cX4_addOwner 41 = .ok (.ireturn, 1) := by decide +kernel
theorem dX4_addOwner_42 : decode cX4_addOwner 42 = .ok (.aload_n 0, 1) := by decide +kernel
theorem dX4_addOwner_43 : decode cX4_addOwner 43 = .ok (.getfield 7, 3) := by decide +kernel
theorem dX4_addOwner_46 : decode cX4_addOwner 46 = .ok (.aload_n 0, 1) := by decide +kernel
theorem dX4_addOwner_47 : decode cX4_addOwner 47 = .ok (.getfield 76, 3) := by decide +kernel
theorem dX4_addOwner_50 : decode cX4_addOwner 50 = .ok (.iload_n 1, 1) := by decide +kernel
theorem dX4_addOwner_51 : decode cX4_addOwner 51 = .ok (.iastore, 1) := by decide +kernel
theorem dX4_addOwner_52 : decode cX4_addOwner 52 = .ok (.aload_n 0, 1) := by decide +kernel
theorem dX4_addOwner_53 : decode cX4_addOwner 53 = .ok (.dup, 1) := by decide +kernel
theorem dX4_addOwner_54 : decode cX4_addOwner 54 = .ok (.getfield 76, 3) := by decide +kernel
theorem dX4_addOwner_57 : decode cX4_addOwner 57 = .ok (.iconst 1, 1) := by decide +kernel
theorem dX4_addOwner_58 : decode cX4_addOwner 58 = .ok (.iadd, 1) := by decide +kernel
theorem dX4_addOwner_59 : decode cX4_addOwner 59 = .ok (.putfield 76, 3) := by decide +kernel
theorem dX4_addOwner_62 : decode cX4_addOwner 62 = .ok (.aload_n 0, 1) := by decide +kernel
theorem dX4_addOwner_63 : decode cX4_addOwner 63 = .ok (.getfield 76, 3) := by decide +kernel
theorem dX4_addOwner_66 : decode cX4_addOwner 66 = .ok (.iconst 1, 1) := by decide +kernel
theorem dX4_addOwner_67 : decode cX4_addOwner 67 = .ok (.isub, 1) := by decide +kernel
theorem dX4_addOwner_68 : decode cX4_addOwner 68 = .ok (.ireturn, 1) := by decide +kernel
theorem dX4_createFile_0 : decode cX4_createFile 0 = .ok (.aload_n 0, 1) := by decide +kernel
theorem dX4_createFile_1 : decode cX4_createFile 1 = .ok (.iconst 0, 1) := by decide +kernel
theorem dX4_createFile_2 : decode cX4_createFile 2 = .ok (.putfield 72, 3) := by decide +kernel
theorem dX4_createFile_5 : decode cX4_createFile 5 = .ok (.aload_n 0, 1) := by decide +kernel
theorem dX4_createFile_6 : decode cX4_createFile 6 = .ok (.iload_n 1, 1) := by decide +kernel
theorem dX4_createFile_7 : decode cX4_createFile 7 = .ok (.invokevirtual 117, 3) := by decide +kernel
theorem dX4_createFile_10 : decode cX4_createFile 10 = .ok (.ifCond .ne 9, 3) := by decide +kernel
theorem dX4_createFile_13 : decode cX4_createFile 13 = .ok (.aload_n 0, 1) := by decide +kernel
theorem dX4_createFile_14 : decode cX4_createFile 14 = .ok (.iconst 1, 1) := by decide +kernel
theorem dX4_createFile_15 : decode cX4_createFile 15 = .ok (.invokevirtual 110, 3) := by decide +kernel
theorem dX4_createFile_18 : decode cX4_createFile 18 = .ok (.ireturn, 1) := by decide +kernel
theorem dX4_createFile_19 : decode cX4_createFile 19 = .ok (.aload_n 0, 1) := by decide +kernel
theorem dX4_createFile_20 : decode cX4_createFile 20 = .ok (.getfield 83, 3) := by decide +kernel
theorem dX4_createFile_23 : decode cX4_createFile 23 = .ok (.bipush 40, 2) := by decide +kernel
theorem dX4_createFile_25 : decode cX4_createFile 25 = .ok (.if_icmp .ne 9, 3) := by decide +kernel
theorem dX4_createFile_28 : decode cX4_createFile 28 = .ok (.aload_n 0, 1) := by decide +kernel
theorem dX4_createFile_29 : decode cX4_createFile 29 = .ok (.iconst 2, 1) := by decide +kernel
theorem dX4_createFile_30 : decode cX4_createFile 30 = .ok (.invokevirtual 110, 3) := by decide +kernel
theorem dX4_createFile_33 : decode cX4_createFile 33 = .ok (.ireturn, 1) := by decide +kernel
theorem dX4_createFile_34 : decode cX4_createFile 34 = .ok (.aload_n 0, 1) := by decide +kernel
theorem dX4_createFile_35 : decode cX4_createFile 35 = .ok (.getfield 16, 3) := by decide +kernel
theorem dX4_createFile_38 : decode cX4_createFile 38 = .ok (.aload_n 0, 1) := by decide +kernel
theorem dX4_createFile_39 : decode cX4_createFile 39 = .ok (.getfield 83, 3) := by decide +kernel
theorem dX4_createFile_42 : decode cX4_createFile 42 = .ok (.iload_n 1, 1) := by decide +kernel
theorem dX4_createFile_43 : decode cX4_createFile 43 = .ok (.iastore, 1) := by decide +kernel
theorem dX4_createFile_44 : decode cX4_createFile 44 = .ok (.aload_n 0, 1) := by decide +kernel
theorem dX4_createFile_45 : decode cX4_createFile 45 = .ok (.getfield 19, 3) := by decide +kernel
theorem dX4_createFile_48 : decode cX4_createFile 48 = .ok (.aload_n 0, 1) := by decide +kernel
theorem dX4_createFile_49 : decode cX4_createFile 49 = .ok (.getfield 83, 3) := by decide +kernel
theorem dX4_createFile_52 : decode cX4_createFile 52 = .ok (.iconst 1, 1) := by decide +kernel
theorem dX4_createFile_53 : decode cX4_createFile 53 = .ok (.iastore, 1) := by decide +kernel
theorem dX4_createFile_54 : decode cX4_createFile 54 = .ok (.aload_n 0, 1) := by decide +kernel
theorem dX4_createFile_55 : decode cX4_createFile 55 = .ok (.dup, 1) := by decide +kernel
theorem dX4_createFile_56 : decode cX4_createFile 56 = .ok (.getfield 83, 3) := by decide +kernel
theorem dX4_createFile_59 : decode cX4_createFile 59 = .ok (.iconst 1, 1) := by decide +kernel
theorem dX4_createFile_60 : decode cX4_createFile 60 = .ok (.iadd, 1) := by decide +kernel
theorem dX4_createFile_61 : decode cX4_createFile 61 = .ok (.putfield 83, 3) := by decide +kernel
theorem dX4_createFile_64 : decode cX4_createFile 64 = .ok (.aload_n 0, 1) := by decide +kernel
theorem dX4_createFile_65 : decode cX4_createFile 65 = .ok (.bipush 99, 2) := by decide +kernel
theorem dX4_createFile_67 : decode cX4_createFile 67 = .ok (.invokevirtual 120, 3) := by decide +kernel
theorem dX4_createFile_70 : decode cX4_createFile 70 = .ok (.aload_n 0, 1) := by decide +kernel
theorem dX4_createFile_71 : decode cX4_createFile 71 = .ok (.getfield 83, 3) := by decide +kernel
theorem dX4_createFile_74 : decode cX4_createFile 74 = .ok (.iconst 1, 1) := by decide +kernel
theorem dX4_createFile_75 : decode cX4_createFile 75 = .ok (.isub, 1) := by decide +kernel
theorem dX4_createFile_76 : decode cX4_createFile 76 = .ok (.ireturn, 1) := by decide +kernel
theorem dX4_fileCount_0 : decode cX4_fileCount 0 = .ok (.aload_n 0, 1) := by decide +kernel
theorem dX4_fileCount_1 : decode cX4_fileCount 1 = .ok (.iconst 0, 1) := by decide +kernel
theorem dX4_fileCount_2 : decode cX4_fileCount 2 = .ok (.putfield 72, 3) := by decide +kernel
theorem dX4_fileCount_5 : decode cX4_fileCount 5 = .ok (.aload_n 0, 1) := by decide +kernel
theorem dX4_fileCount_6 : decode cX4_fileCount 6 = .ok (.getfield 83, 3) := by decide +kernel
theorem dX4_fileCount_9 : decode cX4_fileCount 9 = .ok (.ireturn, 1) := by decide +kernel
theorem dX4_doesExist_0 : decode cX4_doesExist 0 = .ok (.aload_n 0, 1) := by decide +kernel
theorem dX4_doesExist_1 : decode cX4_doesExist 1 = .ok (.aload_n 0, 1) := by decide +kernel
theorem dX4_doesExist_2 : decode cX4_doesExist 2 = .ok (.iload_n 1, 1) := by decide +kernel
theorem dX4_doesExist_3 : decode cX4_doesExist 3 = .ok (.invokevirtual 124, 3) := by decide +kernel
theorem dX4_doesExist_6 : decode cX4_doesExist 6 = .ok (.ifCond .eq 7, 3) := by decide +kernel
theorem dX4_doesExist_9 : decode cX4_doesExist 9 = .ok (.iconst 0, 1) := by decide +kernel
theorem dX4_doesExist_10 : decode cX4_doesExist 10 = .ok (.goto 4, 3) := by decide +kernel
theorem dX4_doesExist_13 : decode cX4_doesExist 13 = .ok (.iconst 1, 1) := by decide +kernel
theorem dX4_doesExist_14 : decode cX4_doesExist 14 = .ok (.putfield 72, 3) := by decide +kernel
theorem dX4_doesExist_17 : decode cX4_doesExist 17 = .ok (.aload_n 0, 1) := by decide +kernel
theorem dX4_doesExist_18 : decode cX4_doesExist 18 = .ok (.getfield 72, 3) := by decide +kernel
theorem dX4_doesExist_21 : decode cX4_doesExist 21 = .ok (.ifCond .ne 15, 3) := by decide +kernel
theorem dX4_doesExist_24 : decode cX4_doesExist 24 = .ok (.aload_n 0, 1) := by decide +kernel
theorem dX4_doesExist_25 : decode cX4_doesExist 25 = .ok (.iload_n 1, 1) := by decide +kernel
theorem dX4_doesExist_26 : decode cX4_doesExist 26 = .ok (.invokevirtual 96, 3) := by decide +kernel
theorem dX4_doesExist_29 : decode cX4_doesExist 29 = .ok (.ifCond .eq 7, 3) := by decide +kernel
theorem dX4_doesExist_32 : decode cX4_doesExist 32 = .ok (.iconst 1, 1) := by decide +kernel
theorem dX4_doesExist_33 : decode cX4_doesExist 33 = .ok (.goto 4, 3) := by decide +kernel
theorem dX4_doesExist_36 : decode cX4_doesExist 36 = .ok (.iconst 0, 1) := by decide +kernel
theorem dX4_doesExist_37 : decode cX4_doesExist 37 = .ok (.ireturn, 1) := by decide +kernel
theorem dX4_linksOf_0 : decode cX4_linksOf 0 = .ok (.aload_n 0, 1) := by decide +kernel
theorem dX4_linksOf_1 : decode cX4_linksOf 1 = .ok (.iconst 0, 1) := by decide +kernel
theorem dX4_linksOf_2 : decode cX4_linksOf 2 = .ok (.putfield 72, 3) := by decide +kernel
theorem dX4_linksOf_5 : decode cX4_linksOf 5 = .ok (.aload_n 0, 1) := by decide +kernel
theorem dX4_linksOf_6 : decode cX4_linksOf 6 = .ok (.iload_n 1, 1) := by decide +kernel
theorem dX4_linksOf_7 : decode cX4_linksOf 7 = .ok (.invokevirtual 124, 3) := by decide +kernel
theorem dX4_linksOf_10 : decode cX4_linksOf 10 = .ok (.ifCond .eq 12, 3) := by decide +kernel
theorem dX4_linksOf_13 : decode cX4_linksOf 13 = .ok (.aload_n 0, 1) := by decide +kernel
theorem dX4_linksOf_14 : decode cX4_linksOf 14 = .ok (.getfield 19, 3) := by decide +kernel
theorem dX4_linksOf_17 : decode cX4_linksOf 17 = .ok (.iload_n 1, 1) := by decide +kernel
theorem dX4_linksOf_18 : decode cX4_linksOf 18 = .ok (.iaload, 1) := by decide +kernel
theorem dX4_linksOf_19 : decode cX4_linksOf 19 = .ok (.goto 8, 3) := by decide +kernel
theorem dX4_linksOf_22 : decode cX4_linksOf 22 = .ok (.aload_n 0, 1) := by decide +kernel
theorem dX4_linksOf_23 : decode cX4_linksOf 23 = .ok (.iconst 1, 1) := by decide +kernel
theorem dX4_linksOf_24 : decode cX4_linksOf 24 = .ok (.invokevirtual 110, 3) := by decide +kernel
theorem dX4_linksOf_27 : decode cX4_linksOf 27 = .ok (.ireturn, 1) := by decide +kernel
theorem dX4_link_0 : decode cX4_link 0 = .ok (.aload_n 0, 1) := by decide +kernel
theorem dX4_link_1 : decode cX4_link 1 = .ok (.iconst 0, 1) := by decide +kernel
theorem dX4_link_2 : decode cX4_link 2 = .ok (.putfield 72, 3) := by decide +kernel
theorem dX4_link_5 : decode cX4_link 5 = .ok (.aload_n 0, 1) := by decide +kernel
theorem dX4_link_6 : decode cX4_link 6 = .ok (.iload_n 1, 1) := by decide +kernel
theorem dX4_link_7 : decode cX4_link 7 = .ok (.invokevirtual 124, 3) := by decide +kernel
theorem dX4_link_10 : decode cX4_link 10 = .ok (.ifCond .ne 9, 3) := by decide +kernel
theorem dX4_link_13 : decode cX4_link 13 = .ok (.aload_n 0, 1) := by decide +kernel
theorem dX4_link_14 : decode cX4_link 14 = .ok (.iconst 1, 1) := by decide +kernel
theorem dX4_link_15 : decode cX4_link 15 = .ok (.invokevirtual 110, 3) := by decide +kernel
theorem dX4_link_18 : decode cX4_link 18 = .ok (.ireturn, 1) := by decide +kernel
theorem dX4_link_19 : decode cX4_link 19 = .ok (.aload_n 0, 1) := by decide +kernel
theorem dX4_link_20 : decode cX4_link 20 = .ok (.getfield 19, 3) := by decide +kernel
theorem dX4_link_23 : decode cX4_link 23 = .ok (.iload_n 1, 1) := by decide +kernel
theorem dX4_link_24 : decode cX4_link 24 = .ok (.iaload, 1) := by decide +kernel
theorem dX4_link_25 : decode cX4_link 25 = .ok (.ifCond .eq 14, 3) := by decide +kernel
theorem dX4_link_28 : decode cX4_link 28 = .ok (.aload_n 0, 1) := by decide +kernel
theorem dX4_link_29 : decode cX4_link 29 = .ok (.getfield 19, 3) := by decide +kernel
theorem dX4_link_32 : decode cX4_link 32 = .ok (.iload_n 1, 1) := by decide +kernel
theorem dX4_link_33 : decode cX4_link 33 = .ok (.iaload, 1) := by decide +kernel
theorem dX4_link_34 : decode cX4_link 34 = .ok (.bipush 9, 2) := by decide +kernel
theorem dX4_link_36 : decode cX4_link 36 = .ok (.if_icmp .ne 9, 3) := by decide +kernel
theorem dX4_link_39 : decode cX4_link 39 = .ok (.aload_n 0, 1) := by decide +kernel
theorem dX4_link_40 : decode cX4_link 40 = .ok (.iconst 2, 1) := by decide +kernel
theorem dX4_link_41 : decode cX4_link 41 = .ok (.invokevirtual 110, 3) := by decide +kernel
theorem dX4_link_44 : decode cX4_link 44 = .ok (.ireturn, 1) := by decide +kernel
theorem dX4_link_45 : decode cX4_link 45 = .ok (.aload_n 0, 1) := by decide +kernel
theorem dX4_link_46 : decode cX4_link 46 = .ok (.getfield 19, 3) := by decide +kernel
theorem dX4_link_49 : decode cX4_link 49 = .ok (.iload_n 1, 1) := by decide +kernel
theorem dX4_link_50 : decode cX4_link 50 = .ok (.dup2, 1) := by decide +kernel
theorem dX4_link_51 : decode cX4_link 51 = .ok (.iaload, 1) := by decide +kernel
theorem dX4_link_52 : decode cX4_link 52 = .ok (.iconst 1, 1) := by decide +kernel
theorem dX4_link_53 : decode cX4_link 53 = .ok (.iadd, 1) := by decide +kernel
theorem dX4_link_54 : decode cX4_link 54 = .ok (.iastore, 1) := by decide +kernel
theorem dX4_link_55 : decode cX4_link 55 = .ok (.aload_n 0, 1) := by decide +kernel
theorem dX4_link_56 : decode cX4_link 56 = .ok (.bipush 108, 2) := by decide +kernel
theorem dX4_link_58 : decode cX4_link 58 = .ok (.invokevirtual 120, 3) := by decide +kernel
theorem dX4_link_61 : decode cX4_link 61 = .ok (.aload_n 0, 1) := by decide +kernel
theorem dX4_link_62 : decode cX4_link 62 = .ok (.getfield 19, 3) := by decide +kernel
theorem dX4_link_65 : decode cX4_link 65 = .ok (.iload_n 1, 1) := by decide +kernel
theorem dX4_link_66 : decode cX4_link 66 = .ok (.iaload, 1) := by decide +kernel
theorem dX4_link_67 : decode cX4_link 67 = .ok (.ireturn, 1) := by decide +kernel
theorem dX4_unlink_0 : decode cX4_unlink 0 = .ok (.aload_n 0, 1) := by decide +kernel
theorem dX4_unlink_1 : decode cX4_unlink 1 = .ok (.iconst 0, 1) := by decide +kernel
theorem dX4_unlink_2 : decode cX4_unlink 2 = .ok (.putfield 72, 3) := by decide +kernel
theorem dX4_unlink_5 : decode cX4_unlink 5 = .ok (.aload_n 0, 1) := by decide +kernel
theorem dX4_unlink_6 : decode cX4_unlink 6 = .ok (.iload_n 1, 1) := by decide +kernel
theorem dX4_unlink_7 : decode cX4_unlink 7 = .ok (.invokevirtual 124, 3) := by decide +kernel
theorem dX4_unlink_10 : decode cX4_unlink 10 = .ok (.ifCond .ne 9, 3) := by decide +kernel
theorem dX4_unlink_13 : decode cX4_unlink 13 = .ok (.aload_n 0, 1) := by decide +kernel
theorem dX4_unlink_14 : decode cX4_unlink 14 = .ok (.iconst 1, 1) := by decide +kernel
theorem dX4_unlink_15 : decode cX4_unlink 15 = .ok (.invokevirtual 110, 3) := by decide +kernel
theorem dX4_unlink_18 : decode cX4_unlink 18 = .ok (.ireturn, 1) := by decide +kernel
theorem dX4_unlink_19 : decode cX4_unlink 19 = .ok (.aload_n 0, 1) := by decide +kernel
theorem dX4_unlink_20 : decode cX4_unlink 20 = .ok (.getfield 19, 3) := by decide +kernel
theorem dX4_unlink_23 : decode cX4_unlink 23 = .ok (.iload_n 1, 1) := by decide +kernel
theorem dX4_unlink_24 : decode cX4_unlink 24 = .ok (.iaload, 1) := by decide +kernel
theorem dX4_unlink_25 : decode cX4_unlink 25 = .ok (.ifCond .ne 9, 3) := by decide +kernel
theorem dX4_unlink_28 : decode cX4_unlink 28 = .ok (.aload_n 0, 1) := by decide +kernel
theorem dX4_unlink_29 : decode cX4_unlink 29 = .ok (.iconst 2, 1) := by decide +kernel
theorem dX4_unlink_30 : decode cX4_unlink 30 = .ok (.invokevirtual 110, 3) := by decide +kernel
theorem dX4_unlink_33 : decode cX4_unlink 33 = .ok (.ireturn, 1) := by decide +kernel
theorem dX4_unlink_34 : decode cX4_unlink 34 = .ok (.aload_n 0, 1) := by decide +kernel
theorem dX4_unlink_35 : decode cX4_unlink 35 = .ok (.getfield 19, 3) := by decide +kernel
theorem dX4_unlink_38 : decode cX4_unlink 38 = .ok (.iload_n 1, 1) := by decide +kernel
theorem dX4_unlink_39 : decode cX4_unlink 39 = .ok (.dup2, 1) := by decide +kernel
theorem dX4_unlink_40 : decode cX4_unlink 40 = .ok (.iaload, 1) := by decide +kernel
theorem dX4_unlink_41 : decode cX4_unlink 41 = .ok (.iconst 1, 1) := by decide +kernel
theorem dX4_unlink_42 : decode cX4_unlink 42 = .ok (.isub, 1) := by decide +kernel
theorem dX4_unlink_43 : decode cX4_unlink 43 = .ok (.iastore, 1) := by decide +kernel
theorem dX4_unlink_44 : decode cX4_unlink 44 = .ok (.aload_n 0, 1) := by decide +kernel
theorem dX4_unlink_45 : decode cX4_unlink 45 = .ok (.bipush 117, 2) := by decide +kernel
theorem dX4_unlink_47 : decode cX4_unlink 47 = .ok (.invokevirtual 120, 3) := by decide +kernel
theorem dX4_unlink_50 : decode cX4_unlink 50 = .ok (.aload_n 0, 1) := by decide +kernel
theorem dX4_unlink_51 : decode cX4_unlink 51 = .ok (.iload_n 1, 1) := by decide +kernel
theorem dX4_unlink_52 : decode cX4_unlink 52 = .ok (.invokevirtual 127, 3) := by decide +kernel
theorem dX4_unlink_55 : decode cX4_unlink 55 = .ok (.istore_n 2, 1) := by decide +kernel
theorem dX4_unlink_56 : decode cX4_unlink 56 = .ok (.aload_n 0, 1) := by decide +kernel
theorem dX4_unlink_57 : decode cX4_unlink 57 = .ok (.getfield 19, 3) := by decide +kernel
theorem dX4_unlink_60 : decode cX4_unlink 60 = .ok (.iload_n 1, 1) := by decide +kernel
theorem dX4_unlink_61 : decode cX4_unlink 61 = .ok (.iaload, 1) := by decide +kernel
theorem dX4_unlink_62 : decode cX4_unlink 62 = .ok (.ireturn, 1) := by decide +kernel
theorem dX4_lowestFree_0 : decode cX4_lowestFree 0 = .ok (.iconst 0, 1) := by decide +kernel
theorem dX4_lowestFree_1 : decode cX4_lowestFree 1 = .ok (.istore_n 1, 1) := by decide +kernel
theorem dX4_lowestFree_2 : decode cX4_lowestFree 2 = .ok (.iload_n 1, 1) := by decide +kernel
theorem dX4_lowestFree_3 : decode cX4_lowestFree 3 = .ok (.bipush 64, 2) := by decide +kernel
theorem dX4_lowestFree_5 : decode cX4_lowestFree 5 = .ok (.if_icmp .ge 17, 3) := by decide +kernel
theorem dX4_lowestFree_8 : decode cX4_lowestFree 8 = .ok (.aload_n 0, 1) := by decide +kernel
theorem dX4_lowestFree_9 : decode cX4_lowestFree 9 = .ok (.iload_n 1, 1) := by decide +kernel
theorem dX4_lowestFree_10 : decode cX4_lowestFree 10 = .ok (.invokevirtual 103, 3) := by decide +kernel
theorem dX4_lowestFree_13 : decode cX4_lowestFree 13 = .ok (.ifCond .le 9, 3) := by decide +kernel
theorem dX4_lowestFree_16 : decode cX4_lowestFree 16 = .ok (.iinc 1 1, 3) := by decide +kernel
theorem dX4_lowestFree_19 : decode cX4_lowestFree 19 = .ok (.goto (-17), 3) := by decide +kernel
theorem dX4_lowestFree_22 : decode cX4_lowestFree 22 = .ok (.iload_n 1, 1) := by decide +kernel
theorem dX4_lowestFree_23 : decode cX4_lowestFree 23 = .ok (.ireturn, 1) := by decide +kernel
theorem dX4_write_0 : decode cX4_write 0 = .ok (.aload_n 0, 1) := by decide +kernel
theorem dX4_write_1 : decode cX4_write 1 = .ok (.iconst 0, 1) := by decide +kernel
theorem dX4_write_2 : decode cX4_write 2 = .ok (.putfield 72, 3) := by decide +kernel
theorem dX4_write_5 : decode cX4_write 5 = .ok (.aload_n 0, 1) := by decide +kernel
theorem dX4_write_6 : decode cX4_write 6 = .ok (.iload_n 1, 1) := by decide +kernel
theorem dX4_write_7 : decode cX4_write 7 = .ok (.invokevirtual 124, 3) := by decide +kernel
theorem dX4_write_10 : decode cX4_write 10 = .ok (.ifCond .eq 10, 3) := by decide +kernel
theorem dX4_write_13 : decode cX4_write 13 = .ok (.iload_n 2, 1) := by decide +kernel
theorem dX4_write_14 : decode cX4_write 14 = .ok (.invokestatic 130, 3) := by decide +kernel
theorem dX4_write_17 : decode cX4_write 17 = .ok (.ifCond .ne 9, 3) := by decide +kernel
theorem dX4_write_20 : decode cX4_write 20 = .ok (.aload_n 0, 1) := by decide +kernel
theorem dX4_write_21 : decode cX4_write 21 = .ok (.iconst 1, 1) := by decide +kernel
theorem dX4_write_22 : decode cX4_write 22 = .ok (.invokevirtual 110, 3) := by decide +kernel
theorem dX4_write_25 : decode cX4_write 25 = .ok (.ireturn, 1) := by decide +kernel
theorem dX4_write_26 : decode cX4_write 26 = .ok (.iload_n 3, 1) := by decide +kernel
theorem dX4_write_27 : decode cX4_write 27 = .ok (.iconst 0, 1) := by decide +kernel
theorem dX4_write_28 : decode cX4_write 28 = .ok (.sipush 999, 3) := by decide +kernel
theorem dX4_write_31 : decode cX4_write 31 = .ok (.invokestatic 79, 3) := by decide +kernel
theorem dX4_write_34 : decode cX4_write 34 = .ok (.ifCond .ne 9, 3) := by decide +kernel
theorem dX4_write_37 : decode cX4_write 37 = .ok (.aload_n 0, 1) := by decide +kernel
theorem dX4_write_38 : decode cX4_write 38 = .ok (.iconst 2, 1) := by decide +kernel
theorem dX4_write_39 : decode cX4_write 39 = .ok (.invokevirtual 110, 3) := by decide +kernel
theorem dX4_write_42 : decode cX4_write 42 = .ok (.ireturn, 1) := by decide +kernel
theorem dX4_write_43 : decode cX4_write 43 = .ok (.aload_n 0, 1) := by decide +kernel
theorem dX4_write_44 : decode cX4_write 44 = .ok (.getfield 19, 3) := by decide +kernel
theorem dX4_write_47 : decode cX4_write 47 = .ok (.iload_n 1, 1) := by decide +kernel
theorem dX4_write_48 : decode cX4_write 48 = .ok (.iaload, 1) := by decide +kernel
theorem dX4_write_49 : decode cX4_write 49 = .ok (.ifCond .ne 9, 3) := by decide +kernel
theorem dX4_write_52 : decode cX4_write 52 = .ok (.aload_n 0, 1) := by decide +kernel
theorem dX4_write_53 : decode cX4_write 53 = .ok (.iconst 3, 1) := by decide +kernel
theorem dX4_write_54 : decode cX4_write 54 = .ok (.invokevirtual 110, 3) := by decide +kernel
theorem dX4_write_57 : decode cX4_write 57 = .ok (.ireturn, 1) := by decide +kernel
theorem dX4_write_58 : decode cX4_write 58 = .ok (.bipush 16, 2) := by decide +kernel
theorem dX4_write_60 : decode cX4_write 60 = .ok (.iload_n 1, 1) := by decide +kernel
theorem dX4_write_61 : decode cX4_write 61 = .ok (.imul, 1) := by decide +kernel
theorem dX4_write_62 : decode cX4_write 62 = .ok (.iload_n 2, 1) := by decide +kernel
theorem dX4_write_63 : decode cX4_write 63 = .ok (.iadd, 1) := by decide +kernel
theorem dX4_write_64 : decode cX4_write 64 = .ok (.istore 4, 2) := by decide +kernel
theorem dX4_write_66 : decode cX4_write 66 = .ok (.aload_n 0, 1) := by decide +kernel
theorem dX4_write_67 : decode cX4_write 67 = .ok (.getfield 16, 3) := by decide +kernel
theorem dX4_write_70 : decode cX4_write 70 = .ok (.iload_n 1, 1) := by decide +kernel
theorem dX4_write_71 : decode cX4_write 71 = .ok (.iaload, 1) := by decide +kernel
theorem dX4_write_72 : decode cX4_write 72 = .ok (.istore 5, 2) := by decide +kernel
theorem dX4_write_74 : decode cX4_write 74 = .ok (.aload_n 0, 1) := by decide +kernel
theorem dX4_write_75 : decode cX4_write 75 = .ok (.getfield 22, 3) := by decide +kernel
theorem dX4_write_78 : decode cX4_write 78 = .ok (.iload 4, 2) := by decide +kernel
theorem dX4_write_80 : decode cX4_write 80 = .ok (.iaload, 1) := by decide +kernel
theorem dX4_write_81 : decode cX4_write 81 = .ok (.istore 6, 2) := by decide +kernel
theorem dX4_write_83 : decode cX4_write 83 = .ok (.iload 6, 2) := by decide +kernel
theorem dX4_write_85 : decode cX4_write 85 = .ok (.ifCond .eq 15, 3) := by decide +kernel
theorem dX4_write_88 : decode cX4_write 88 = .ok (.aload_n 0, 1) := by decide +kernel
theorem dX4_write_89 : decode cX4_write 89 = .ok (.iload 6, 2) := by decide +kernel
theorem dX4_write_91 : decode cX4_write 91 = .ok (.iconst 1, 1) := by decide +kernel
theorem dX4_write_92 : decode cX4_write 92 = .ok (.isub, 1) := by decide +kernel
theorem dX4_write_93 : decode cX4_write 93 = .ok (.invokevirtual 103, 3) := by decide +kernel
theorem dX4_write_96 : decode cX4_write 96 = .ok (.iconst 1, 1) := by decide +kernel
theorem dX4_write_97 : decode cX4_write 97 = .ok (.if_icmp .le 103, 3) := by decide +kernel
theorem dX4_write_100 : decode cX4_write 100 = .ok (.aload_n 0, 1) := by decide +kernel
theorem dX4_write_101 : decode cX4_write 101 = .ok (.invokevirtual 133, 3) := by decide +kernel
theorem dX4_write_104 : decode cX4_write 104 = .ok (.aload_n 0, 1) := by decide +kernel
theorem dX4_write_105 : decode cX4_write 105 = .ok (.invokevirtual 137, 3) := by decide +kernel
theorem dX4_write_108 : decode cX4_write 108 = .ok (.isub, 1) := by decide +kernel
theorem dX4_write_109 : decode cX4_write 109 = .ok (.aload_n 0, 1) := by decide +kernel
theorem dX4_write_110 : decode cX4_write 110 = .ok (.getfield 13, 3) := by decide +kernel
theorem dX4_write_113 : decode cX4_write 113 = .ok (.iload 5, 2) := by decide +kernel
theorem dX4_write_115 : decode cX4_write 115 = .ok (.iaload, 1) := by decide +kernel
theorem dX4_write_116 : decode cX4_write 116 = .ok (.iadd, 1) := by decide +kernel
theorem dX4_write_117 : decode cX4_write 117 = .ok (.iconst 1, 1) := by decide +kernel
theorem dX4_write_118 : decode cX4_write 118 = .ok (.if_icmp .ge 9, 3) := by decide +kernel
theorem dX4_write_121 : decode cX4_write 121 = .ok (.aload_n 0, 1) := by decide +kernel
theorem dX4_write_122 : decode cX4_write 122 = .ok (.iconst 4, 1) := by decide +kernel
theorem dX4_write_123 : decode cX4_write 123 = .ok (.invokevirtual 110, 3) := by decide +kernel
theorem dX4_write_126 : decode cX4_write 126 = .ok (.ireturn, 1) := by decide +kernel
theorem dX4_write_127 : decode cX4_write 127 = .ok (.aload_n 0, 1) := by decide +kernel
theorem dX4_write_128 : decode cX4_write 128 = .ok (.invokevirtual 140, 3) := by decide +kernel
theorem dX4_write_131 : decode cX4_write 131 = .ok (.istore 7, 2) := by decide +kernel
theorem dX4_write_133 : decode cX4_write 133 = .ok (.aload_n 0, 1) := by decide +kernel
theorem dX4_write_134 : decode cX4_write 134 = .ok (.getfield 22, 3) := by decide +kernel
theorem dX4_write_137 : decode cX4_write 137 = .ok (.iload 4, 2) := by decide +kernel
theorem dX4_write_139 : decode cX4_write 139 = .ok (.iload 7, 2) := by decide +kernel
theorem dX4_write_141 : decode cX4_write 141 = .ok (.iconst 1, 1) := by decide +kernel
theorem dX4_write_142 : decode cX4_write 142 = .ok (.iadd, 1) := by decide +kernel
theorem dX4_write_143 : decode cX4_write 143 = .ok (.iastore, 1) := by decide +kernel
theorem dX4_write_144 : decode cX4_write 144 = .ok (.aload_n 0, 1) := by decide +kernel
theorem dX4_write_145 : decode cX4_write 145 = .ok (.iload 5, 2) := by decide +kernel
theorem dX4_write_147 : decode cX4_write 147 = .ok (.invokevirtual 143, 3) := by decide +kernel
theorem dX4_write_150 : decode cX4_write 150 = .ok (.aload_n 0, 1) := by decide +kernel
theorem dX4_write_151 : decode cX4_write 151 = .ok (.getfield 7, 3) := by decide +kernel
theorem dX4_write_154 : decode cX4_write 154 = .ok (.iload 5, 2) := by decide +kernel
theorem dX4_write_156 : decode cX4_write 156 = .ok (.iaload, 1) := by decide +kernel
theorem dX4_write_157 : decode cX4_write 157 = .ok (.if_icmp .le 18, 3) := by decide +kernel
theorem dX4_write_160 : decode cX4_write 160 = .ok (.aload_n 0, 1) := by decide +kernel
theorem dX4_write_161 : decode cX4_write 161 = .ok (.getfield 22, 3) := by decide +kernel
theorem dX4_write_164 : decode cX4_write 164 = .ok (.iload 4, 2) := by decide +kernel
theorem dX4_write_166 : decode cX4_write 166 = .ok (.iload 6, 2) := by decide +kernel
theorem dX4_write_168 : decode cX4_write 168 = .ok (.iastore, 1) := by decide +kernel
theorem dX4_write_169 : decode cX4_write 169 = .ok (.aload_n 0, 1) := by decide +kernel
theorem dX4_write_170 : decode cX4_write 170 = .ok (.iconst 4, 1) := by decide +kernel
theorem dX4_write_171 : decode cX4_write 171 = .ok (.invokevirtual 110, 3) := by decide +kernel
theorem dX4_write_174 : decode cX4_write 174 = .ok (.ireturn, 1) := by decide +kernel
theorem dX4_write_175 : decode cX4_write 175 = .ok (.aload_n 0, 1) := by decide +kernel
theorem dX4_write_176 : decode cX4_write 176 = .ok (.getfield 13, 3) := by decide +kernel
theorem dX4_write_179 : decode cX4_write 179 = .ok (.iload 5, 2) := by decide +kernel
theorem dX4_write_181 : decode cX4_write 181 = .ok (.dup2, 1) := by decide +kernel
theorem dX4_write_182 : decode cX4_write 182 = .ok (.iaload, 1) := by decide +kernel
theorem dX4_write_183 : decode cX4_write 183 = .ok (.aload_n 0, 1) := by decide +kernel
theorem dX4_write_184 : decode cX4_write 184 = .ok (.getfield 13, 3) := by decide +kernel
theorem dX4_write_187 : decode cX4_write 187 = .ok (.iload 5, 2) := by decide +kernel
theorem dX4_write_189 : decode cX4_write 189 = .ok (.iaload, 1) := by decide +kernel
theorem dX4_write_190 : decode cX4_write 190 = .ok (.ifCond .le 7, 3) := by decide +kernel
theorem dX4_write_193 : decode cX4_write 193 = .ok (.iconst 1, 1) := by decide +kernel
theorem dX4_write_194 : decode cX4_write 194 = .ok (.goto 4, 3) := by decide +kernel
theorem dX4_write_197 : decode cX4_write 197 = .ok (.iconst 0, 1) := by decide +kernel
theorem dX4_write_198 : decode cX4_write 198 = .ok (.isub, 1) := by decide +kernel
theorem dX4_write_199 : decode cX4_write 199 = .ok (.iastore, 1) := by decide +kernel
theorem dX4_write_200 : decode cX4_write 200 = .ok (.aload_n 0, 1) := by decide +kernel
theorem dX4_write_201 : decode cX4_write 201 = .ok (.getfield 25, 3) := by decide +kernel
theorem dX4_write_204 : decode cX4_write 204 = .ok (.aload_n 0, 1) := by decide +kernel
theorem dX4_write_205 : decode cX4_write 205 = .ok (.getfield 22, 3) := by decide +kernel
theorem dX4_write_208 : decode cX4_write 208 = .ok (.iload 4, 2) := by decide +kernel
theorem dX4_write_210 : decode cX4_write 210 = .ok (.iaload, 1) := by decide +kernel
theorem dX4_write_211 : decode cX4_write 211 = .ok (.iconst 1, 1) := by decide +kernel
theorem dX4_write_212 : decode cX4_write 212 = .ok (.isub, 1) := by decide +kernel
theorem dX4_write_213 : decode cX4_write 213 = .ok (.iload_n 3, 1) := by decide +kernel
theorem dX4_write_214 : decode cX4_write 214 = .ok (.iastore, 1) := by decide +kernel
theorem dX4_write_215 : decode cX4_write 215 = .ok (.aload_n 0, 1) := by decide +kernel
theorem dX4_write_216 : decode cX4_write 216 = .ok (.bipush 119, 2) := by decide +kernel
theorem dX4_write_218 : decode cX4_write 218 = .ok (.invokevirtual 120, 3) := by decide +kernel
theorem dX4_write_221 : decode cX4_write 221 = .ok (.aload_n 0, 1) := by decide +kernel
theorem dX4_write_222 : decode cX4_write 222 = .ok (.getfield 22, 3) := by decide +kernel
theorem dX4_write_225 : decode cX4_write 225 = .ok (.iload 4, 2) := by decide +kernel
theorem dX4_write_227 : decode cX4_write 227 = .ok (.iaload, 1) := by decide +kernel
theorem dX4_write_228 : decode cX4_write 228 = .ok (.iconst 1, 1) := by decide +kernel
theorem dX4_write_229 : decode cX4_write 229 = .ok (.isub, 1) := by decide +kernel
theorem dX4_write_230 : decode cX4_write 230 = .ok (.ireturn, 1) := by decide +kernel
theorem dX4_punch_0 : decode cX4_punch 0 = .ok (.aload_n 0, 1) := by decide +kernel
theorem dX4_punch_1 : decode cX4_punch 1 = .ok (.iconst 0, 1) := by decide +kernel
theorem dX4_punch_2 : decode cX4_punch 2 = .ok (.putfield 72, 3) := by decide +kernel
theorem dX4_punch_5 : decode cX4_punch 5 = .ok (.aload_n 0, 1) := by decide +kernel
theorem dX4_punch_6 : decode cX4_punch 6 = .ok (.iload_n 1, 1) := by decide +kernel
theorem dX4_punch_7 : decode cX4_punch 7 = .ok (.invokevirtual 124, 3) := by decide +kernel
theorem dX4_punch_10 : decode cX4_punch 10 = .ok (.ifCond .eq 10, 3) := by decide +kernel
theorem dX4_punch_13 : decode cX4_punch 13 = .ok (.iload_n 2, 1) := by decide +kernel
theorem dX4_punch_14 : decode cX4_punch 14 = .ok (.invokestatic 130, 3) := by decide +kernel
theorem dX4_punch_17 : decode cX4_punch 17 = .ok (.ifCond .ne 9, 3) := by decide +kernel
theorem dX4_punch_20 : decode cX4_punch 20 = .ok (.aload_n 0, 1) := by decide +kernel
theorem dX4_punch_21 : decode cX4_punch 21 = .ok (.iconst 1, 1) := by decide +kernel
theorem dX4_punch_22 : decode cX4_punch 22 = .ok (.invokevirtual 110, 3) := by decide +kernel
theorem dX4_punch_25 : decode cX4_punch 25 = .ok (.ireturn, 1) := by decide +kernel
theorem dX4_punch_26 : decode cX4_punch 26 = .ok (.bipush 16, 2) := by decide +kernel
theorem dX4_punch_28 : decode cX4_punch 28 = .ok (.iload_n 1, 1) := by decide +kernel
theorem dX4_punch_29 : decode cX4_punch 29 = .ok (.imul, 1) := by decide +kernel
theorem dX4_punch_30 : decode cX4_punch 30 = .ok (.iload_n 2, 1) := by decide +kernel
theorem dX4_punch_31 : decode cX4_punch 31 = .ok (.iadd, 1) := by decide +kernel
theorem dX4_punch_32 : decode cX4_punch 32 = .ok (.istore_n 3, 1) := by decide +kernel
theorem dX4_punch_33 : decode cX4_punch 33 = .ok (.aload_n 0, 1) := by decide +kernel
theorem dX4_punch_34 : decode cX4_punch 34 = .ok (.getfield 19, 3) := by decide +kernel
theorem dX4_punch_37 : decode cX4_punch 37 = .ok (.iload_n 1, 1) := by decide +kernel
theorem dX4_punch_38 : decode cX4_punch 38 = .ok (.iaload, 1) := by decide +kernel
theorem dX4_punch_39 : decode cX4_punch 39 = .ok (.ifCond .eq 12, 3) := by decide +kernel
theorem dX4_punch_42 : decode cX4_punch 42 = .ok (.aload_n 0, 1) := by decide +kernel
theorem dX4_punch_43 : decode cX4_punch 43 = .ok (.getfield 22, 3) := by decide +kernel
theorem dX4_punch_46 : decode cX4_punch 46 = .ok (.iload_n 3, 1) := by decide +kernel
theorem dX4_punch_47 : decode cX4_punch 47 = .ok (.iaload, 1) := by decide +kernel
theorem dX4_punch_48 : decode cX4_punch 48 = .ok (.ifCond .ne 9, 3) := by decide +kernel
theorem dX4_punch_51 : decode cX4_punch 51 = .ok (.aload_n 0, 1) := by decide +kernel
theorem dX4_punch_52 : decode cX4_punch 52 = .ok (.iconst 2, 1) := by decide +kernel
theorem dX4_punch_53 : decode cX4_punch 53 = .ok (.invokevirtual 110, 3) := by decide +kernel
theorem dX4_punch_56 : decode cX4_punch 56 = .ok (.ireturn, 1) := by decide +kernel
theorem dX4_punch_57 : decode cX4_punch 57 = .ok (.aload_n 0, 1) := by decide +kernel
theorem dX4_punch_58 : decode cX4_punch 58 = .ok (.getfield 22, 3) := by decide +kernel
theorem dX4_punch_61 : decode cX4_punch 61 = .ok (.iload_n 3, 1) := by decide +kernel
theorem dX4_punch_62 : decode cX4_punch 62 = .ok (.iaload, 1) := by decide +kernel
theorem dX4_punch_63 : decode cX4_punch 63 = .ok (.istore 4, 2) := by decide +kernel
theorem dX4_punch_65 : decode cX4_punch 65 = .ok (.aload_n 0, 1) := by decide +kernel
theorem dX4_punch_66 : decode cX4_punch 66 = .ok (.getfield 22, 3) := by decide +kernel
theorem dX4_punch_69 : decode cX4_punch 69 = .ok (.iload_n 3, 1) := by decide +kernel
theorem dX4_punch_70 : decode cX4_punch 70 = .ok (.iconst 0, 1) := by decide +kernel
theorem dX4_punch_71 : decode cX4_punch 71 = .ok (.iastore, 1) := by decide +kernel
theorem dX4_punch_72 : decode cX4_punch 72 = .ok (.aload_n 0, 1) := by decide +kernel
theorem dX4_punch_73 : decode cX4_punch 73 = .ok (.bipush 104, 2) := by decide +kernel
theorem dX4_punch_75 : decode cX4_punch 75 = .ok (.invokevirtual 120, 3) := by decide +kernel
theorem dX4_punch_78 : decode cX4_punch 78 = .ok (.iload 4, 2) := by decide +kernel
theorem dX4_punch_80 : decode cX4_punch 80 = .ok (.iconst 1, 1) := by decide +kernel
theorem dX4_punch_81 : decode cX4_punch 81 = .ok (.isub, 1) := by decide +kernel
theorem dX4_punch_82 : decode cX4_punch 82 = .ok (.ireturn, 1) := by decide +kernel
theorem dX4_read_0 : decode cX4_read 0 = .ok (.aload_n 0, 1) := by decide +kernel
theorem dX4_read_1 : decode cX4_read 1 = .ok (.iconst 0, 1) := by decide +kernel
theorem dX4_read_2 : decode cX4_read 2 = .ok (.putfield 72, 3) := by decide +kernel
theorem dX4_read_5 : decode cX4_read 5 = .ok (.aload_n 0, 1) := by decide +kernel
theorem dX4_read_6 : decode cX4_read 6 = .ok (.iload_n 1, 1) := by decide +kernel
theorem dX4_read_7 : decode cX4_read 7 = .ok (.invokevirtual 124, 3) := by decide +kernel
theorem dX4_read_10 : decode cX4_read 10 = .ok (.ifCond .eq 10, 3) := by decide +kernel
theorem dX4_read_13 : decode cX4_read 13 = .ok (.iload_n 2, 1) := by decide +kernel
theorem dX4_read_14 : decode cX4_read 14 = .ok (.invokestatic 130, 3) := by decide +kernel
theorem dX4_read_17 : decode cX4_read 17 = .ok (.ifCond .ne 9, 3) := by decide +kernel
theorem dX4_read_20 : decode cX4_read 20 = .ok (.aload_n 0, 1) := by decide +kernel
theorem dX4_read_21 : decode cX4_read 21 = .ok (.iconst 1, 1) := by decide +kernel
theorem dX4_read_22 : decode cX4_read 22 = .ok (.invokevirtual 110, 3) := by decide +kernel
theorem dX4_read_25 : decode cX4_read 25 = .ok (.ireturn, 1) := by decide +kernel
theorem dX4_read_26 : decode cX4_read 26 = .ok (.aload_n 0, 1) := by decide +kernel
theorem dX4_read_27 : decode cX4_read 27 = .ok (.getfield 22, 3) := by decide +kernel
theorem dX4_read_30 : decode cX4_read 30 = .ok (.bipush 16, 2) := by decide +kernel
theorem dX4_read_32 : decode cX4_read 32 = .ok (.iload_n 1, 1) := by decide +kernel
theorem dX4_read_33 : decode cX4_read 33 = .ok (.imul, 1) := by decide +kernel
theorem dX4_read_34 : decode cX4_read 34 = .ok (.iload_n 2, 1) := by decide +kernel
theorem dX4_read_35 : decode cX4_read 35 = .ok (.iadd, 1) := by decide +kernel
theorem dX4_read_36 : decode cX4_read 36 = .ok (.iaload, 1) := by decide +kernel
theorem dX4_read_37 : decode cX4_read 37 = .ok (.istore_n 3, 1) := by decide +kernel
theorem dX4_read_38 : decode cX4_read 38 = .ok (.iload_n 3, 1) := by decide +kernel
theorem dX4_read_39 : decode cX4_read 39 = .ok (.ifCond .ne 11, 3) := by decide +kernel
theorem dX4_read_42 : decode cX4_read 42 = .ok (.aload_n 0, 1) := by decide +kernel
theorem dX4_read_43 : decode cX4_read 43 = .ok (.iconst 2, 1) := by decide +kernel
theorem dX4_read_44 : decode cX4_read 44 = .ok (.invokevirtual 110, 3) := by decide +kernel
theorem dX4_read_47 : decode cX4_read 47 = .ok (.goto 11, 3) := by decide +kernel
theorem dX4_read_50 : decode cX4_read 50 = .ok (.aload_n 0, 1) := by decide +kernel
theorem dX4_read_51 : decode cX4_read 51 = .ok (.getfield 25, 3) := by decide +kernel
theorem dX4_read_54 : decode cX4_read 54 = .ok (.iload_n 3, 1) := by decide +kernel
theorem dX4_read_55 : decode cX4_read 55 = .ok (.iconst 1, 1) := by decide +kernel
theorem dX4_read_56 : decode cX4_read 56 = .ok (.isub, 1) := by decide +kernel
theorem dX4_read_57 : decode cX4_read 57 = .ok (.iaload, 1) := by decide +kernel
theorem dX4_read_58 : decode cX4_read 58 = .ok (.ireturn, 1) := by decide +kernel
theorem dX4_blockAt_0 : decode cX4_blockAt 0 = .ok (.aload_n 0, 1) := by decide +kernel
theorem dX4_blockAt_1 : decode cX4_blockAt 1 = .ok (.iconst 0, 1) := by decide +kernel
theorem dX4_blockAt_2 : decode cX4_blockAt 2 = .ok (.putfield 72, 3) := by decide +kernel
theorem dX4_blockAt_5 : decode cX4_blockAt 5 = .ok (.aload_n 0, 1) := by decide +kernel
theorem dX4_blockAt_6 : decode cX4_blockAt 6 = .ok (.iload_n 1, 1) := by decide +kernel
theorem dX4_blockAt_7 : decode cX4_blockAt 7 = .ok (.invokevirtual 124, 3) := by decide +kernel
theorem dX4_blockAt_10 : decode cX4_blockAt 10 = .ok (.ifCond .eq 10, 3) := by decide +kernel
theorem dX4_blockAt_13 : decode cX4_blockAt 13 = .ok (.iload_n 2, 1) := by decide +kernel
theorem dX4_blockAt_14 : decode cX4_blockAt 14 = .ok (.invokestatic 130, 3) := by decide +kernel
theorem dX4_blockAt_17 : decode cX4_blockAt 17 = .ok (.ifCond .ne 9, 3) := by decide +kernel
theorem dX4_blockAt_20 : decode cX4_blockAt 20 = .ok (.aload_n 0, 1) := by decide +kernel
theorem dX4_blockAt_21 : decode cX4_blockAt 21 = .ok (.iconst 1, 1) := by decide +kernel
theorem dX4_blockAt_22 : decode cX4_blockAt 22 = .ok (.invokevirtual 110, 3) := by decide +kernel
theorem dX4_blockAt_25 : decode cX4_blockAt 25 = .ok (.ireturn, 1) := by decide +kernel
theorem dX4_blockAt_26 : decode cX4_blockAt 26 = .ok (.aload_n 0, 1) := by decide +kernel
theorem dX4_blockAt_27 : decode cX4_blockAt 27 = .ok (.getfield 22, 3) := by decide +kernel
theorem dX4_blockAt_30 : decode cX4_blockAt 30 = .ok (.bipush 16, 2) := by decide +kernel
theorem dX4_blockAt_32 : decode cX4_blockAt 32 = .ok (.iload_n 1, 1) := by decide +kernel
theorem dX4_blockAt_33 : decode cX4_blockAt 33 = .ok (.imul, 1) := by decide +kernel
theorem dX4_blockAt_34 : decode cX4_blockAt 34 = .ok (.iload_n 2, 1) := by decide +kernel
theorem dX4_blockAt_35 : decode cX4_blockAt 35 = .ok (.iadd, 1) := by decide +kernel
theorem dX4_blockAt_36 : decode cX4_blockAt 36 = .ok (.iaload, 1) := by decide +kernel
theorem dX4_blockAt_37 : decode cX4_blockAt 37 = .ok (.istore_n 3, 1) := by decide +kernel
theorem dX4_blockAt_38 : decode cX4_blockAt 38 = .ok (.iload_n 3, 1) := by decide +kernel
theorem dX4_blockAt_39 : decode cX4_blockAt 39 = .ok (.ifCond .ne 11, 3) := by decide +kernel
theorem dX4_blockAt_42 : decode cX4_blockAt 42 = .ok (.aload_n 0, 1) := by decide +kernel
theorem dX4_blockAt_43 : decode cX4_blockAt 43 = .ok (.iconst 2, 1) := by decide +kernel
theorem dX4_blockAt_44 : decode cX4_blockAt 44 = .ok (.invokevirtual 110, 3) := by decide +kernel
theorem dX4_blockAt_47 : decode cX4_blockAt 47 = .ok (.goto 6, 3) := by decide +kernel
theorem dX4_blockAt_50 : decode cX4_blockAt 50 = .ok (.iload_n 3, 1) := by decide +kernel
theorem dX4_blockAt_51 : decode cX4_blockAt 51 = .ok (.iconst 1, 1) := by decide +kernel
theorem dX4_blockAt_52 : decode cX4_blockAt 52 = .ok (.isub, 1) := by decide +kernel
theorem dX4_blockAt_53 : decode cX4_blockAt 53 = .ok (.ireturn, 1) := by decide +kernel
theorem dX4_blocksOf_0 : decode cX4_blocksOf 0 = .ok (.aload_n 0, 1) := by decide +kernel
theorem dX4_blocksOf_1 : decode cX4_blocksOf 1 = .ok (.iconst 0, 1) := by decide +kernel
theorem dX4_blocksOf_2 : decode cX4_blocksOf 2 = .ok (.putfield 72, 3) := by decide +kernel
theorem dX4_blocksOf_5 : decode cX4_blocksOf 5 = .ok (.aload_n 0, 1) := by decide +kernel
theorem dX4_blocksOf_6 : decode cX4_blocksOf 6 = .ok (.iload_n 1, 1) := by decide +kernel
theorem dX4_blocksOf_7 : decode cX4_blocksOf 7 = .ok (.invokevirtual 124, 3) := by decide +kernel
theorem dX4_blocksOf_10 : decode cX4_blocksOf 10 = .ok (.ifCond .ne 9, 3) := by decide +kernel
theorem dX4_blocksOf_13 : decode cX4_blocksOf 13 = .ok (.aload_n 0, 1) := by decide +kernel
theorem dX4_blocksOf_14 : decode cX4_blocksOf 14 = .ok (.iconst 1, 1) := by decide +kernel
theorem dX4_blocksOf_15 : decode cX4_blocksOf 15 = .ok (.invokevirtual 110, 3) := by decide +kernel
theorem dX4_blocksOf_18 : decode cX4_blocksOf 18 = .ok (.ireturn, 1) := by decide +kernel
theorem dX4_blocksOf_19 : decode cX4_blocksOf 19 = .ok (.iconst 0, 1) := by decide +kernel
theorem dX4_blocksOf_20 : decode cX4_blocksOf 20 = .ok (.istore_n 2, 1) := by decide +kernel
theorem dX4_blocksOf_21 : decode cX4_blocksOf 21 = .ok (.iconst 0, 1) := by decide +kernel
theorem dX4_blocksOf_22 : decode cX4_blocksOf 22 = .ok (.istore_n 3, 1) := by decide +kernel
theorem dX4_blocksOf_23 : decode cX4_blocksOf 23 = .ok (.iload_n 3, 1) := by decide +kernel
theorem dX4_blocksOf_24 : decode cX4_blocksOf 24 = .ok (.bipush 16, 2) := by decide +kernel
theorem dX4_blocksOf_26 : decode cX4_blocksOf 26 = .ok (.if_icmp .ge 31, 3) := by decide +kernel
theorem dX4_blocksOf_29 : decode cX4_blocksOf 29 = .ok (.iload_n 2, 1) := by decide +kernel
theorem dX4_blocksOf_30 : decode cX4_blocksOf 30 = .ok (.aload_n 0, 1) := by decide +kernel
theorem dX4_blocksOf_31 : decode cX4_blocksOf 31 = .ok (.getfield 22, 3) := by decide +kernel
theorem dX4_blocksOf_34 : decode cX4_blocksOf 34 = .ok (.bipush 16, 2) := by decide +kernel
theorem dX4_blocksOf_36 : decode cX4_blocksOf 36 = .ok (.iload_n 1, 1) := by decide +kernel
theorem dX4_blocksOf_37 : decode cX4_blocksOf 37 = .ok (.imul, 1) := by decide +kernel
theorem dX4_blocksOf_38 : decode cX4_blocksOf 38 = .ok (.iload_n 3, 1) := by decide +kernel
theorem dX4_blocksOf_39 : decode cX4_blocksOf 39 = .ok (.iadd, 1) := by decide +kernel
theorem dX4_blocksOf_40 : decode cX4_blocksOf 40 = .ok (.iaload, 1) := by decide +kernel
theorem dX4_blocksOf_41 : decode cX4_blocksOf 41 = .ok (.ifCond .le 7, 3) := by decide +kernel
theorem dX4_blocksOf_44 : decode cX4_blocksOf 44 = .ok (.iconst 1, 1) := by decide +kernel
theorem dX4_blocksOf_45 : decode cX4_blocksOf 45 = .ok (.goto 4, 3) := by decide +kernel
theorem dX4_blocksOf_48 : decode cX4_blocksOf 48 = .ok (.iconst 0, 1) := by decide +kernel
theorem dX4_blocksOf_49 : decode cX4_blocksOf 49 = .ok (.iadd, 1) := by decide +kernel
theorem dX4_blocksOf_50 : decode cX4_blocksOf 50 = .ok (.istore_n 2, 1) := by decide +kernel
theorem dX4_blocksOf_51 : decode cX4_blocksOf 51 = .ok (.iinc 3 1, 3) := by decide +kernel
theorem dX4_blocksOf_54 : decode cX4_blocksOf 54 = .ok (.goto (-31), 3) := by decide +kernel
theorem dX4_blocksOf_57 : decode cX4_blocksOf 57 = .ok (.iload_n 2, 1) := by decide +kernel
theorem dX4_blocksOf_58 : decode cX4_blocksOf 58 = .ok (.ireturn, 1) := by decide +kernel
theorem dX4_usedBy_0 : decode cX4_usedBy 0 = .ok (.aload_n 0, 1) := by decide +kernel
theorem dX4_usedBy_1 : decode cX4_usedBy 1 = .ok (.iconst 0, 1) := by decide +kernel
theorem dX4_usedBy_2 : decode cX4_usedBy 2 = .ok (.putfield 72, 3) := by decide +kernel
theorem dX4_usedBy_5 : decode cX4_usedBy 5 = .ok (.aload_n 0, 1) := by decide +kernel
theorem dX4_usedBy_6 : decode cX4_usedBy 6 = .ok (.iload_n 1, 1) := by decide +kernel
theorem dX4_usedBy_7 : decode cX4_usedBy 7 = .ok (.invokevirtual 117, 3) := by decide +kernel
theorem dX4_usedBy_10 : decode cX4_usedBy 10 = .ok (.ifCond .eq 11, 3) := by decide +kernel
theorem dX4_usedBy_13 : decode cX4_usedBy 13 = .ok (.aload_n 0, 1) := by decide +kernel
theorem dX4_usedBy_14 : decode cX4_usedBy 14 = .ok (.iload_n 1, 1) := by decide +kernel
theorem dX4_usedBy_15 : decode cX4_usedBy 15 = .ok (.invokevirtual 143, 3) := by decide +kernel
theorem dX4_usedBy_18 : decode cX4_usedBy 18 = .ok (.goto 8, 3) := by decide +kernel
theorem dX4_usedBy_21 : decode cX4_usedBy 21 = .ok (.aload_n 0, 1) := by decide +kernel
theorem dX4_usedBy_22 : decode cX4_usedBy 22 = .ok (.iconst 1, 1) := by decide +kernel
theorem dX4_usedBy_23 : decode cX4_usedBy 23 = .ok (.invokevirtual 110, 3) := by decide +kernel
theorem dX4_usedBy_26 : decode cX4_usedBy 26 = .ok (.ireturn, 1) := by decide +kernel
theorem dX4_free_0 : decode cX4_free 0 = .ok (.aload_n 0, 1) := by decide +kernel
theorem dX4_free_1 : decode cX4_free 1 = .ok (.iconst 0, 1) := by decide +kernel
theorem dX4_free_2 : decode cX4_free 2 = .ok (.putfield 72, 3) := by decide +kernel
theorem dX4_free_5 : decode cX4_free 5 = .ok (.aload_n 0, 1) := by decide +kernel
theorem dX4_free_6 : decode cX4_free 6 = .ok (.invokevirtual 133, 3) := by decide +kernel
theorem dX4_free_9 : decode cX4_free 9 = .ok (.ireturn, 1) := by decide +kernel
theorem dX4_usersOf_0 : decode cX4_usersOf 0 = .ok (.aload_n 0, 1) := by decide +kernel
theorem dX4_usersOf_1 : decode cX4_usersOf 1 = .ok (.iconst 0, 1) := by decide +kernel
theorem dX4_usersOf_2 : decode cX4_usersOf 2 = .ok (.putfield 72, 3) := by decide +kernel
theorem dX4_usersOf_5 : decode cX4_usersOf 5 = .ok (.iload_n 1, 1) := by decide +kernel
theorem dX4_usersOf_6 : decode cX4_usersOf 6 = .ok (.iconst 0, 1) := by decide +kernel
theorem dX4_usersOf_7 : decode cX4_usersOf 7 = .ok (.bipush 63, 2) := by decide +kernel
theorem dX4_usersOf_9 : decode cX4_usersOf 9 = .ok (.invokestatic 79, 3) := by decide +kernel
theorem dX4_usersOf_12 : decode cX4_usersOf 12 = .ok (.ifCond .eq 11, 3) := by decide +kernel
theorem dX4_usersOf_15 : decode cX4_usersOf 15 = .ok (.aload_n 0, 1) := by decide +kernel
theorem dX4_usersOf_16 : decode cX4_usersOf 16 = .ok (.iload_n 1, 1) := by decide +kernel
theorem dX4_usersOf_17 : decode cX4_usersOf 17 = .ok (.invokevirtual 103, 3) := by decide +kernel
theorem dX4_usersOf_20 : decode cX4_usersOf 20 = .ok (.goto 8, 3) := by decide +kernel
theorem dX4_usersOf_23 : decode cX4_usersOf 23 = .ok (.aload_n 0, 1) := by decide +kernel
theorem dX4_usersOf_24 : decode cX4_usersOf 24 = .ok (.iconst 1, 1) := by decide +kernel
theorem dX4_usersOf_25 : decode cX4_usersOf 25 = .ok (.invokevirtual 110, 3) := by decide +kernel
theorem dX4_usersOf_28 : decode cX4_usersOf 28 = .ok (.ireturn, 1) := by decide +kernel
theorem dX4_usersByWalk_0 : decode cX4_usersByWalk 0 = .ok (.aload_n 0, 1) := by decide +kernel
theorem dX4_usersByWalk_1 : decode cX4_usersByWalk 1 = .ok (.iload_n 1, 1) := by decide +kernel
theorem dX4_usersByWalk_2 : decode cX4_usersByWalk 2 = .ok (.invokevirtual 146, 3) := by decide +kernel
theorem dX4_usersByWalk_5 : decode cX4_usersByWalk 5 = .ok (.ireturn, 1) := by decide +kernel
theorem dX4_promise_0 : decode cX4_promise 0 = .ok (.aload_n 0, 1) := by decide +kernel
theorem dX4_promise_1 : decode cX4_promise 1 = .ok (.iconst 0, 1) := by decide +kernel
theorem dX4_promise_2 : decode cX4_promise 2 = .ok (.putfield 72, 3) := by decide +kernel
theorem dX4_promise_5 : decode cX4_promise 5 = .ok (.aload_n 0, 1) := by decide +kernel
theorem dX4_promise_6 : decode cX4_promise 6 = .ok (.iload_n 1, 1) := by decide +kernel
theorem dX4_promise_7 : decode cX4_promise 7 = .ok (.invokevirtual 117, 3) := by decide +kernel
theorem dX4_promise_10 : decode cX4_promise 10 = .ok (.ifCond .ne 9, 3) := by decide +kernel
theorem dX4_promise_13 : decode cX4_promise 13 = .ok (.aload_n 0, 1) := by decide +kernel
theorem dX4_promise_14 : decode cX4_promise 14 = .ok (.iconst 1, 1) := by decide +kernel
theorem dX4_promise_15 : decode cX4_promise 15 = .ok (.invokevirtual 110, 3) := by decide +kernel
theorem dX4_promise_18 : decode cX4_promise 18 = .ok (.ireturn, 1) := by decide +kernel
theorem dX4_promise_19 : decode cX4_promise 19 = .ok (.iload_n 2, 1) := by decide +kernel
theorem dX4_promise_20 : decode cX4_promise 20 = .ok (.iconst 1, 1) := by decide +kernel
theorem dX4_promise_21 : decode cX4_promise 21 = .ok (.bipush 64, 2) := by decide +kernel
theorem dX4_promise_23 : decode cX4_promise 23 = .ok (.invokestatic 79, 3) := by decide +kernel
theorem dX4_promise_26 : decode cX4_promise 26 = .ok (.ifCond .ne 9, 3) := by decide +kernel
theorem dX4_promise_29 : decode cX4_promise 29 = .ok (.aload_n 0, 1) := by decide +kernel
theorem dX4_promise_30 : decode cX4_promise 30 = .ok (.iconst 2, 1) := by decide +kernel
theorem dX4_promise_31 : decode cX4_promise 31 = .ok (.invokevirtual 110, 3) := by decide +kernel
theorem dX4_promise_34 : decode cX4_promise 34 = .ok (.ireturn, 1) := by decide +kernel
theorem dX4_promise_35 : decode cX4_promise 35 = .ok (.iload_n 2, 1) := by decide +kernel
theorem dX4_promise_36 : decode cX4_promise 36 = .ok (.aload_n 0, 1) := by decide +kernel
theorem dX4_promise_37 : decode cX4_promise 37 = .ok (.invokevirtual 133, 3) := by decide +kernel
theorem dX4_promise_40 : decode cX4_promise 40 = .ok (.aload_n 0, 1) := by decide +kernel
theorem dX4_promise_41 : decode cX4_promise 41 = .ok (.invokevirtual 137, 3) := by decide +kernel
theorem dX4_promise_44 : decode cX4_promise 44 = .ok (.isub, 1) := by decide +kernel
theorem dX4_promise_45 : decode cX4_promise 45 = .ok (.if_icmp .le 9, 3) := by decide +kernel
theorem dX4_promise_48 : decode cX4_promise 48 = .ok (.aload_n 0, 1) := by decide +kernel
theorem dX4_promise_49 : decode cX4_promise 49 = .ok (.iconst 3, 1) := by decide +kernel
theorem dX4_promise_50 : decode cX4_promise 50 = .ok (.invokevirtual 110, 3) := by decide +kernel
theorem dX4_promise_53 : decode cX4_promise 53 = .ok (.ireturn, 1) := by decide +kernel
theorem dX4_promise_54 : decode cX4_promise 54 = .ok (.aload_n 0, 1) := by decide +kernel
theorem dX4_promise_55 : decode cX4_promise 55 = .ok (.getfield 13, 3) := by decide +kernel
theorem dX4_promise_58 : decode cX4_promise 58 = .ok (.iload_n 1, 1) := by decide +kernel
theorem dX4_promise_59 : decode cX4_promise 59 = .ok (.dup2, 1) := by decide +kernel
theorem dX4_promise_60 : decode cX4_promise 60 = .ok (.iaload, 1) := by decide +kernel
theorem dX4_promise_61 : decode cX4_promise 61 = .ok (.iload_n 2, 1) := by decide +kernel
theorem dX4_promise_62 : decode cX4_promise 62 = .ok (.iadd, 1) := by decide +kernel
theorem dX4_promise_63 : decode cX4_promise 63 = .ok (.iastore, 1) := by decide +kernel
theorem dX4_promise_64 : decode cX4_promise 64 = .ok (.aload_n 0, 1) := by decide +kernel
theorem dX4_promise_65 : decode cX4_promise 65 = .ok (.bipush 112, 2) := by decide +kernel
theorem dX4_promise_67 : decode cX4_promise 67 = .ok (.invokevirtual 120, 3) := by decide +kernel
theorem dX4_promise_70 : decode cX4_promise 70 = .ok (.aload_n 0, 1) := by decide +kernel
theorem dX4_promise_71 : decode cX4_promise 71 = .ok (.getfield 13, 3) := by decide +kernel
theorem dX4_promise_74 : decode cX4_promise 74 = .ok (.iload_n 1, 1) := by decide +kernel
theorem dX4_promise_75 : decode cX4_promise 75 = .ok (.iaload, 1) := by decide +kernel
theorem dX4_promise_76 : decode cX4_promise 76 = .ok (.ireturn, 1) := by decide +kernel
theorem dX4_promisedTo_0 : decode cX4_promisedTo 0 = .ok (.aload_n 0, 1) := by decide +kernel
theorem dX4_promisedTo_1 : decode cX4_promisedTo 1 = .ok (.iconst 0, 1) := by decide +kernel
theorem dX4_promisedTo_2 : decode cX4_promisedTo 2 = .ok (.putfield 72, 3) := by decide +kernel
theorem dX4_promisedTo_5 : decode cX4_promisedTo 5 = .ok (.aload_n 0, 1) := by decide +kernel
theorem dX4_promisedTo_6 : decode cX4_promisedTo 6 = .ok (.iload_n 1, 1) := by decide +kernel
theorem dX4_promisedTo_7 : decode cX4_promisedTo 7 = .ok (.invokevirtual 117, 3) := by decide +kernel
theorem dX4_promisedTo_10 : decode cX4_promisedTo 10 = .ok (.ifCond .eq 12, 3) := by decide +kernel
theorem dX4_promisedTo_13 : decode cX4_promisedTo 13 = .ok (.aload_n 0, 1) := by decide +kernel
theorem dX4_promisedTo_14 : decode cX4_promisedTo 14 = .ok (.getfield 13, 3) := by decide +kernel
theorem dX4_promisedTo_17 : decode cX4_promisedTo 17 = .ok (.iload_n 1, 1) := by decide +kernel
theorem dX4_promisedTo_18 : decode cX4_promisedTo 18 = .ok (.iaload, 1) := by decide +kernel
theorem dX4_promisedTo_19 : decode cX4_promisedTo 19 = .ok (.goto 8, 3) := by decide +kernel
theorem dX4_promisedTo_22 : decode cX4_promisedTo 22 = .ok (.aload_n 0, 1) := by decide +kernel
theorem dX4_promisedTo_23 : decode cX4_promisedTo 23 = .ok (.iconst 1, 1) := by decide +kernel
theorem dX4_promisedTo_24 : decode cX4_promisedTo 24 = .ok (.invokevirtual 110, 3) := by decide +kernel
theorem dX4_promisedTo_27 : decode cX4_promisedTo 27 = .ok (.ireturn, 1) := by decide +kernel
theorem dX4_giveBack_0 : decode cX4_giveBack 0 = .ok (.aload_n 0, 1) := by decide +kernel
theorem dX4_giveBack_1 : decode cX4_giveBack 1 = .ok (.iconst 0, 1) := by decide +kernel
theorem dX4_giveBack_2 : decode cX4_giveBack 2 = .ok (.putfield 72, 3) := by decide +kernel
theorem dX4_giveBack_5 : decode cX4_giveBack 5 = .ok (.aload_n 0, 1) := by decide +kernel
theorem dX4_giveBack_6 : decode cX4_giveBack 6 = .ok (.iload_n 1, 1) := by decide +kernel
theorem dX4_giveBack_7 : decode cX4_giveBack 7 = .ok (.invokevirtual 117, 3) := by decide +kernel
theorem dX4_giveBack_10 : decode cX4_giveBack 10 = .ok (.ifCond .ne 9, 3) := by decide +kernel
theorem dX4_giveBack_13 : decode cX4_giveBack 13 = .ok (.aload_n 0, 1) := by decide +kernel
theorem dX4_giveBack_14 : decode cX4_giveBack 14 = .ok (.iconst 1, 1) := by decide +kernel
theorem dX4_giveBack_15 : decode cX4_giveBack 15 = .ok (.invokevirtual 110, 3) := by decide +kernel
theorem dX4_giveBack_18 : decode cX4_giveBack 18 = .ok (.ireturn, 1) := by decide +kernel
theorem dX4_giveBack_19 : decode cX4_giveBack 19 = .ok (.aload_n 0, 1) := by decide +kernel
theorem dX4_giveBack_20 : decode cX4_giveBack 20 = .ok (.getfield 13, 3) := by decide +kernel
theorem dX4_giveBack_23 : decode cX4_giveBack 23 = .ok (.iload_n 1, 1) := by decide +kernel
theorem dX4_giveBack_24 : decode cX4_giveBack 24 = .ok (.iaload, 1) := by decide +kernel
theorem dX4_giveBack_25 : decode cX4_giveBack 25 = .ok (.ifCond .ne 9, 3) := by decide +kernel
theorem dX4_giveBack_28 : decode cX4_giveBack 28 = .ok (.aload_n 0, 1) := by decide +kernel
theorem dX4_giveBack_29 : decode cX4_giveBack 29 = .ok (.iconst 2, 1) := by decide +kernel
theorem dX4_giveBack_30 : decode cX4_giveBack 30 = .ok (.invokevirtual 110, 3) := by decide +kernel
theorem dX4_giveBack_33 : decode cX4_giveBack 33 = .ok (.ireturn, 1) := by decide +kernel
theorem dX4_giveBack_34 : decode cX4_giveBack 34 = .ok (.aload_n 0, 1) := by decide +kernel
theorem dX4_giveBack_35 : decode cX4_giveBack 35 = .ok (.getfield 13, 3) := by decide +kernel
theorem dX4_giveBack_38 : decode cX4_giveBack 38 = .ok (.iload_n 1, 1) := by decide +kernel
theorem dX4_giveBack_39 : decode cX4_giveBack 39 = .ok (.iaload, 1) := by decide +kernel
theorem dX4_giveBack_40 : decode cX4_giveBack 40 = .ok (.istore_n 2, 1) := by decide +kernel
theorem dX4_giveBack_41 : decode cX4_giveBack 41 = .ok (.aload_n 0, 1) := by decide +kernel
theorem dX4_giveBack_42 : decode cX4_giveBack 42 = .ok (.getfield 13, 3) := by decide +kernel
theorem dX4_giveBack_45 : decode cX4_giveBack 45 = .ok (.iload_n 1, 1) := by decide +kernel
theorem dX4_giveBack_46 : decode cX4_giveBack 46 = .ok (.iconst 0, 1) := by decide +kernel
theorem dX4_giveBack_47 : decode cX4_giveBack 47 = .ok (.iastore, 1) := by decide +kernel
theorem dX4_giveBack_48 : decode cX4_giveBack 48 = .ok (.aload_n 0, 1) := by decide +kernel
theorem dX4_giveBack_49 : decode cX4_giveBack 49 = .ok (.bipush 103, 2) := by decide +kernel
theorem dX4_giveBack_51 : decode cX4_giveBack 51 = .ok (.invokevirtual 120, 3) := by decide +kernel
theorem dX4_giveBack_54 : decode cX4_giveBack 54 = .ok (.iload_n 2, 1) := by decide +kernel
theorem dX4_giveBack_55 : decode cX4_giveBack 55 = .ok (.ireturn, 1) := by decide +kernel
theorem dX4_keptNow_0 : decode cX4_keptNow 0 = .ok (.iconst 0, 1) := by decide +kernel
theorem dX4_keptNow_1 : decode cX4_keptNow 1 = .ok (.istore_n 1, 1) := by decide +kernel
theorem dX4_keptNow_2 : decode cX4_keptNow 2 = .ok (.iconst 0, 1) := by decide +kernel
theorem dX4_keptNow_3 : decode cX4_keptNow 3 = .ok (.istore_n 2, 1) := by decide +kernel
theorem dX4_keptNow_4 : decode cX4_keptNow 4 = .ok (.iload_n 2, 1) := by decide +kernel
theorem dX4_keptNow_5 : decode cX4_keptNow 5 = .ok (.aload_n 0, 1) := by decide +kernel
theorem dX4_keptNow_6 : decode cX4_keptNow 6 = .ok (.getfield 86, 3) := by decide +kernel
theorem dX4_keptNow_9 : decode cX4_keptNow 9 = .ok (.if_icmp .ge 26, 3) := by decide +kernel
theorem dX4_keptNow_12 : decode cX4_keptNow 12 = .ok (.iload_n 1, 1) := by decide +kernel
theorem dX4_keptNow_13 : decode cX4_keptNow 13 = .ok (.aload_n 0, 1) := by decide +kernel
theorem dX4_keptNow_14 : decode cX4_keptNow 14 = .ok (.getfield 31, 3) := by decide +kernel
theorem dX4_keptNow_17 : decode cX4_keptNow 17 = .ok (.iload_n 2, 1) := by decide +kernel
theorem dX4_keptNow_18 : decode cX4_keptNow 18 = .ok (.baload, 1) := by decide +kernel
theorem dX4_keptNow_19 : decode cX4_keptNow 19 = .ok (.ifCond .eq 7, 3) := by decide +kernel
theorem dX4_keptNow_22 : decode cX4_keptNow 22 = .ok (.iconst 1, 1) := by decide +kernel
theorem dX4_keptNow_23 : decode cX4_keptNow 23 = .ok (.goto 4, 3) := by decide +kernel
theorem dX4_keptNow_26 : decode cX4_keptNow 26 = .ok (.iconst 0, 1) := by decide +kernel
theorem dX4_keptNow_27 : decode cX4_keptNow 27 = .ok (.iadd, 1) := by decide +kernel
theorem dX4_keptNow_28 : decode cX4_keptNow 28 = .ok (.istore_n 1, 1) := by decide +kernel
theorem dX4_keptNow_29 : decode cX4_keptNow 29 = .ok (.iinc 2 1, 3) := by decide +kernel
theorem dX4_keptNow_32 : decode cX4_keptNow 32 = .ok (.goto (-28), 3) := by decide +kernel
theorem dX4_keptNow_35 : decode cX4_keptNow 35 = .ok (.iload_n 1, 1) := by decide +kernel
theorem dX4_keptNow_36 : decode cX4_keptNow 36 = .ok (.ireturn, 1) := by decide +kernel
theorem dX4_takeSnapshot_0 : decode cX4_takeSnapshot 0 = .ok (.aload_n 0, 1) := by decide +kernel
theorem dX4_takeSnapshot_1 : decode cX4_takeSnapshot 1 = .ok (.iconst 0, 1) := by decide +kernel
theorem dX4_takeSnapshot_2 : decode cX4_takeSnapshot 2 = .ok (.putfield 72, 3) := by decide +kernel
theorem dX4_takeSnapshot_5 : decode cX4_takeSnapshot 5 = .ok (.iload_n 1, 1) := by decide +kernel
theorem dX4_takeSnapshot_6 : decode cX4_takeSnapshot 6 = .ok (.iconst 0, 1) := by decide +kernel
theorem dX4_takeSnapshot_7 : decode cX4_takeSnapshot 7 = .ok (.bipush 9, 2) := by decide +kernel
theorem dX4_takeSnapshot_9 : decode cX4_takeSnapshot 9 = .ok (.invokestatic 79, 3) := by decide +kernel
theorem dX4_takeSnapshot_12 : decode cX4_takeSnapshot 12 = .ok (.ifCond .ne 9, 3) := by decide +kernel
theorem dX4_takeSnapshot_15 : decode cX4_takeSnapshot 15 = .ok (.aload_n 0, 1) := by decide +kernel
theorem dX4_takeSnapshot_16 : decode cX4_takeSnapshot 16 = .ok (.iconst 1, 1) := by decide +kernel
theorem dX4_takeSnapshot_17 : decode cX4_takeSnapshot 17 = .ok (.invokevirtual 110, 3) := by decide +kernel
theorem dX4_takeSnapshot_20 : decode cX4_takeSnapshot 20 = .ok (.ireturn, 1) := by decide +kernel
theorem dX4_takeSnapshot_21 : decode cX4_takeSnapshot 21 = .ok (.aload_n 0, 1) := by decide +kernel
theorem dX4_takeSnapshot_22 : decode cX4_takeSnapshot 22 = .ok (.getfield 113, 3) := by decide +kernel
theorem dX4_takeSnapshot_25 : decode cX4_takeSnapshot 25 = .ok (.ifCond .ne 21, 3) := by decide +kernel
theorem dX4_takeSnapshot_28 : decode cX4_takeSnapshot 28 = .ok (.aload_n 0, 1) := by decide +kernel
theorem dX4_takeSnapshot_29 : decode cX4_takeSnapshot 29 = .ok (.invokevirtual 149, 3) := by decide +kernel
theorem dX4_takeSnapshot_32 : decode cX4_takeSnapshot 32 = .ok (.bipush 8, 2) := by decide +kernel
theorem dX4_takeSnapshot_34 : decode cX4_takeSnapshot 34 = .ok (.if_icmp .eq 12, 3) := by decide +kernel
theorem dX4_takeSnapshot_37 : decode cX4_takeSnapshot 37 = .ok (.aload_n 0, 1) := by decide +kernel
theorem dX4_takeSnapshot_38 : decode cX4_takeSnapshot 38 = .ok (.getfield 86, 3) := by decide +kernel
theorem dX4_takeSnapshot_41 : decode cX4_takeSnapshot 41 = .ok (.bipush 30, 2) := by decide +kernel
theorem dX4_takeSnapshot_43 : decode cX4_takeSnapshot 43 = .ok (.if_icmp .ne 9, 3) := by decide +kernel
theorem dX4_takeSnapshot_46 : decode cX4_takeSnapshot 46 = .ok (.aload_n 0, 1) := by decide +kernel
theorem dX4_takeSnapshot_47 : decode cX4_takeSnapshot 47 = .ok (.iconst 2, 1) := by decide +kernel
theorem dX4_takeSnapshot_48 : decode cX4_takeSnapshot 48 = .ok (.invokevirtual 110, 3) := by decide +kernel
theorem dX4_takeSnapshot_51 : decode cX4_takeSnapshot 51 = .ok (.ireturn, 1) := by decide +kernel
theorem dX4_takeSnapshot_52 : decode cX4_takeSnapshot 52 = .ok (.aload_n 0, 1) := by decide +kernel
theorem dX4_takeSnapshot_53 : decode cX4_takeSnapshot 53 = .ok (.getfield 28, 3) := by decide +kernel
theorem dX4_takeSnapshot_56 : decode cX4_takeSnapshot 56 = .ok (.aload_n 0, 1) := by decide +kernel
theorem dX4_takeSnapshot_57 : decode cX4_takeSnapshot 57 = .ok (.getfield 86, 3) := by decide +kernel
theorem dX4_takeSnapshot_60 : decode cX4_takeSnapshot 60 = .ok (.iload_n 1, 1) := by decide +kernel
theorem dX4_takeSnapshot_61 : decode cX4_takeSnapshot 61 = .ok (.iastore, 1) := by decide +kernel
theorem dX4_takeSnapshot_62 : decode cX4_takeSnapshot 62 = .ok (.aload_n 0, 1) := by decide +kernel
theorem dX4_takeSnapshot_63 : decode cX4_takeSnapshot 63 = .ok (.getfield 31, 3) := by decide +kernel
theorem dX4_takeSnapshot_66 : decode cX4_takeSnapshot 66 = .ok (.aload_n 0, 1) := by decide +kernel
theorem dX4_takeSnapshot_67 : decode cX4_takeSnapshot 67 = .ok (.getfield 86, 3) := by decide +kernel
theorem dX4_takeSnapshot_70 : decode cX4_takeSnapshot 70 = .ok (.iconst 1, 1) := by decide +kernel
theorem dX4_takeSnapshot_71 : decode cX4_takeSnapshot 71 = .ok (.bastore, 1) := by decide +kernel
theorem dX4_takeSnapshot_72 : decode cX4_takeSnapshot 72 = .ok (.iconst 0, 1) := by decide +kernel
theorem dX4_takeSnapshot_73 : decode cX4_takeSnapshot 73 = .ok (.istore_n 2, 1) := by decide +kernel
theorem dX4_takeSnapshot_74 : decode cX4_takeSnapshot 74 = .ok (.iload_n 2, 1) := by decide +kernel
theorem dX4_takeSnapshot_75 : decode cX4_takeSnapshot 75 = .ok (.sipush 640, 3) := by decide +kernel
theorem dX4_takeSnapshot_78 : decode cX4_takeSnapshot 78 = .ok (.if_icmp .ge 30, 3) := by decide +kernel
theorem dX4_takeSnapshot_81 : decode cX4_takeSnapshot 81 = .ok (.aload_n 0, 1) := by decide +kernel
theorem dX4_takeSnapshot_82 : decode cX4_takeSnapshot 82 = .ok (.getfield 35, 3) := by decide +kernel
theorem dX4_takeSnapshot_85 : decode cX4_takeSnapshot 85 = .ok (.sipush 640, 3) := by decide +kernel
theorem dX4_takeSnapshot_88 : decode cX4_takeSnapshot 88 = .ok (.aload_n 0, 1) := by decide +kernel
theorem dX4_takeSnapshot_89 : decode cX4_takeSnapshot 89 = .ok (.getfield 86, 3) := by decide +kernel
theorem dX4_takeSnapshot_92 : decode cX4_takeSnapshot 92 = .ok (.imul, 1) := by decide +kernel
theorem dX4_takeSnapshot_93 : decode cX4_takeSnapshot 93 = .ok (.iload_n 2, 1) := by decide +kernel
theorem dX4_takeSnapshot_94 : decode cX4_takeSnapshot 94 = .ok (.iadd, 1) := by decide +kernel
theorem dX4_takeSnapshot_95 : decode cX4_takeSnapshot 95 = .ok (.aload_n 0, 1) := by decide +kernel
theorem dX4_takeSnapshot_96 : decode cX4_takeSnapshot 96 = .ok (.getfield 22, 3) := by decide +kernel
theorem dX4_takeSnapshot_99 : decode cX4_takeSnapshot 99 = .ok (.iload_n 2, 1) := by decide +kernel
theorem dX4_takeSnapshot_100 : decode cX4_takeSnapshot 100 = .ok (.iaload, 1) := by decide +kernel
theorem dX4_takeSnapshot_101 : decode cX4_takeSnapshot 101 = .ok (.iastore, 1) := by decide +kernel
theorem dX4_takeSnapshot_102 : decode cX4_takeSnapshot 102 = .ok (.iinc 2 1, 3) := by decide +kernel
theorem dX4_takeSnapshot_105 : decode cX4_takeSnapshot 105 = .ok (.goto (-31), 3) := by decide +kernel
theorem dX4_takeSnapshot_108 : decode cX4_takeSnapshot 108 = .ok (.iconst 0, 1) := by decide +kernel
theorem dX4_takeSnapshot_109 : decode cX4_takeSnapshot 109 = .ok (.istore_n 2, 1) := by decide +kernel
theorem dX4_takeSnapshot_110 : decode cX4_takeSnapshot 110 = .ok (.iload_n 2, 1) := by decide +kernel
theorem dX4_takeSnapshot_111 : decode cX4_takeSnapshot 111 = .ok (.aload_n 0, 1) := by decide +kernel
theorem dX4_takeSnapshot_112 : decode cX4_takeSnapshot 112 = .ok (.getfield 83, 3) := by decide +kernel
theorem dX4_takeSnapshot_115 : decode cX4_takeSnapshot 115 = .ok (.if_icmp .ge 28, 3) := by decide +kernel
theorem dX4_takeSnapshot_118 : decode cX4_takeSnapshot 118 = .ok (.aload_n 0, 1) := by decide +kernel
theorem dX4_takeSnapshot_119 : decode cX4_takeSnapshot 119 = .ok (.getfield 38, 3) := by decide +kernel
theorem dX4_takeSnapshot_122 : decode cX4_takeSnapshot 122 = .ok (.bipush 40, 2) := by decide +kernel
theorem dX4_takeSnapshot_124 : decode cX4_takeSnapshot 124 = .ok (.aload_n 0, 1) := by decide +kernel
theorem dX4_takeSnapshot_125 : decode cX4_takeSnapshot 125 = .ok (.getfield 86, 3) := by decide +kernel
theorem dX4_takeSnapshot_128 : decode cX4_takeSnapshot 128 = .ok (.imul, 1) := by decide +kernel
theorem dX4_takeSnapshot_129 : decode cX4_takeSnapshot 129 = .ok (.iload_n 2, 1) := by decide +kernel
theorem dX4_takeSnapshot_130 : decode cX4_takeSnapshot 130 = .ok (.iadd, 1) := by decide +kernel
theorem dX4_takeSnapshot_131 : decode cX4_takeSnapshot 131 = .ok (.aload_n 0, 1) := by decide +kernel
theorem dX4_takeSnapshot_132 : decode cX4_takeSnapshot 132 = .ok (.iload_n 2, 1) := by decide +kernel
theorem dX4_takeSnapshot_133 : decode cX4_takeSnapshot 133 = .ok (.invokevirtual 96, 3) := by decide +kernel
theorem dX4_takeSnapshot_136 : decode cX4_takeSnapshot 136 = .ok (.bastore, 1) := by decide +kernel
theorem dX4_takeSnapshot_137 : decode cX4_takeSnapshot 137 = .ok (.iinc 2 1, 3) := by decide +kernel
theorem dX4_takeSnapshot_140 : decode cX4_takeSnapshot 140 = .ok (.goto (-30), 3) := by decide +kernel
theorem dX4_takeSnapshot_143 : decode cX4_takeSnapshot 143 = .ok (.aload_n 0, 1) := by decide +kernel
theorem dX4_takeSnapshot_144 : decode cX4_takeSnapshot 144 = .ok (.dup, 1) := by decide +kernel
theorem dX4_takeSnapshot_145 : decode cX4_takeSnapshot 145 = .ok (.getfield 86, 3) := by decide +kernel
theorem dX4_takeSnapshot_148 : decode cX4_takeSnapshot 148 = .ok (.iconst 1, 1) := by decide +kernel
theorem dX4_takeSnapshot_149 : decode cX4_takeSnapshot 149 = .ok (.iadd, 1) := by decide +kernel
theorem dX4_takeSnapshot_150 : decode cX4_takeSnapshot 150 = .ok (.putfield 86, 3) := by decide +kernel
theorem dX4_takeSnapshot_153 : decode cX4_takeSnapshot 153 = .ok (.aload_n 0, 1) := by decide +kernel
theorem dX4_takeSnapshot_154 : decode cX4_takeSnapshot 154 = .ok (.getfield 86, 3) := by decide +kernel
theorem dX4_takeSnapshot_157 : decode cX4_takeSnapshot 157 = .ok (.iconst 1, 1) := by decide +kernel
theorem dX4_takeSnapshot_158 : decode cX4_takeSnapshot 158 = .ok (.isub, 1) := by decide +kernel
theorem dX4_takeSnapshot_159 : decode cX4_takeSnapshot 159 = .ok (.ireturn, 1) := by decide +kernel
theorem dX4_isKept_0 : decode cX4_isKept 0 = .ok (.aload_n 0, 1) := by decide +kernel
theorem dX4_isKept_1 : decode cX4_isKept 1 = .ok (.aload_n 0, 1) := by decide +kernel
theorem dX4_isKept_2 : decode cX4_isKept 2 = .ok (.iload_n 1, 1) := by decide +kernel
theorem dX4_isKept_3 : decode cX4_isKept 3 = .ok (.invokevirtual 152, 3) := by decide +kernel
theorem dX4_isKept_6 : decode cX4_isKept 6 = .ok (.ifCond .eq 7, 3) := by decide +kernel
theorem dX4_isKept_9 : decode cX4_isKept 9 = .ok (.iconst 0, 1) := by decide +kernel
theorem dX4_isKept_10 : decode cX4_isKept 10 = .ok (.goto 4, 3) := by decide +kernel
theorem dX4_isKept_13 : decode cX4_isKept 13 = .ok (.iconst 1, 1) := by decide +kernel
theorem dX4_isKept_14 : decode cX4_isKept 14 = .ok (.putfield 72, 3) := by decide +kernel
theorem dX4_isKept_17 : decode cX4_isKept 17 = .ok (.aload_n 0, 1) := by decide +kernel
theorem dX4_isKept_18 : decode cX4_isKept 18 = .ok (.getfield 72, 3) := by decide +kernel
theorem dX4_isKept_21 : decode cX4_isKept 21 = .ok (.ifCond .ne 16, 3) := by decide +kernel
theorem dX4_isKept_24 : decode cX4_isKept 24 = .ok (.aload_n 0, 1) := by decide +kernel
theorem dX4_isKept_25 : decode cX4_isKept 25 = .ok (.getfield 31, 3) := by decide +kernel
theorem dX4_isKept_28 : decode cX4_isKept 28 = .ok (.iload_n 1, 1) := by decide +kernel
theorem dX4_isKept_29 : decode cX4_isKept 29 = .ok (.baload, 1) := by decide +kernel
theorem dX4_isKept_30 : decode cX4_isKept 30 = .ok (.ifCond .eq 7, 3) := by decide +kernel
theorem dX4_isKept_33 : decode cX4_isKept 33 = .ok (.iconst 1, 1) := by decide +kernel
theorem dX4_isKept_34 : decode cX4_isKept 34 = .ok (.goto 4, 3) := by decide +kernel
theorem dX4_isKept_37 : decode cX4_isKept 37 = .ok (.iconst 0, 1) := by decide +kernel
theorem dX4_isKept_38 : decode cX4_isKept 38 = .ok (.ireturn, 1) := by decide +kernel
theorem dX4_readFrom_0 : decode cX4_readFrom 0 = .ok (.aload_n 0, 1) := by decide +kernel
theorem dX4_readFrom_1 : decode cX4_readFrom 1 = .ok (.iconst 0, 1) := by decide +kernel
theorem dX4_readFrom_2 : decode cX4_readFrom 2 = .ok (.putfield 72, 3) := by decide +kernel
theorem dX4_readFrom_5 : decode cX4_readFrom 5 = .ok (.aload_n 0, 1) := by decide +kernel
theorem dX4_readFrom_6 : decode cX4_readFrom 6 = .ok (.iload_n 1, 1) := by decide +kernel
theorem dX4_readFrom_7 : decode cX4_readFrom 7 = .ok (.invokevirtual 152, 3) := by decide +kernel
theorem dX4_readFrom_10 : decode cX4_readFrom 10 = .ok (.ifCond .eq 18, 3) := by decide +kernel
theorem dX4_readFrom_13 : decode cX4_readFrom 13 = .ok (.aload_n 0, 1) := by decide +kernel
theorem dX4_readFrom_14 : decode cX4_readFrom 14 = .ok (.iload_n 2, 1) := by decide +kernel
theorem dX4_readFrom_15 : decode cX4_readFrom 15 = .ok (.invokevirtual 124, 3) := by decide +kernel
theorem dX4_readFrom_18 : decode cX4_readFrom 18 = .ok (.ifCond .eq 10, 3) := by decide +kernel
theorem dX4_readFrom_21 : decode cX4_readFrom 21 = .ok (.iload_n 3, 1) := by decide +kernel
theorem dX4_readFrom_22 : decode cX4_readFrom 22 = .ok (.invokestatic 130, 3) := by decide +kernel
theorem dX4_readFrom_25 : decode cX4_readFrom 25 = .ok (.ifCond .ne 9, 3) := by decide +kernel
theorem dX4_readFrom_28 : decode cX4_readFrom 28 = .ok (.aload_n 0, 1) := by decide +kernel
theorem dX4_readFrom_29 : decode cX4_readFrom 29 = .ok (.iconst 1, 1) := by decide +kernel
theorem dX4_readFrom_30 : decode cX4_readFrom 30 = .ok (.invokevirtual 110, 3) := by decide +kernel
theorem dX4_readFrom_33 : decode cX4_readFrom 33 = .ok (.ireturn, 1) := by decide +kernel
theorem dX4_readFrom_34 : decode cX4_readFrom 34 = .ok (.aload_n 0, 1) := by decide +kernel
theorem dX4_readFrom_35 : decode cX4_readFrom 35 = .ok (.getfield 35, 3) := by decide +kernel
theorem dX4_readFrom_38 : decode cX4_readFrom 38 = .ok (.sipush 640, 3) := by decide +kernel
theorem dX4_readFrom_41 : decode cX4_readFrom 41 = .ok (.iload_n 1, 1) := by decide +kernel
theorem dX4_readFrom_42 : decode cX4_readFrom 42 = .ok (.imul, 1) := by decide +kernel
theorem dX4_readFrom_43 : decode cX4_readFrom 43 = .ok (.bipush 16, 2) := by decide +kernel
theorem dX4_readFrom_45 : decode cX4_readFrom 45 = .ok (.iload_n 2, 1) := by decide +kernel
theorem dX4_readFrom_46 : decode cX4_readFrom 46 = .ok (.imul, 1) := by decide +kernel
theorem dX4_readFrom_47 : decode cX4_readFrom 47 = .ok (.iadd, 1) := by decide +kernel
theorem dX4_readFrom_48 : decode cX4_readFrom 48 = .ok (.iload_n 3, 1) := by decide +kernel
theorem dX4_readFrom_49 : decode cX4_readFrom 49 = .ok (.iadd, 1) := by decide +kernel
theorem dX4_readFrom_50 : decode cX4_readFrom 50 = .ok (.iaload, 1) := by decide +kernel
theorem dX4_readFrom_51 : decode cX4_readFrom 51 = .ok (.istore 4, 2) := by decide +kernel
theorem dX4_readFrom_53 : decode cX4_readFrom 53 = .ok (.aload_n 0, 1) := by decide +kernel
theorem dX4_readFrom_54 : decode cX4_readFrom 54 = .ok (.getfield 31, 3) := by decide +kernel
theorem dX4_readFrom_57 : decode cX4_readFrom 57 = .ok (.iload_n 1, 1) := by decide +kernel
theorem dX4_readFrom_58 : decode cX4_readFrom 58 = .ok (.baload, 1) := by decide +kernel
theorem dX4_readFrom_59 : decode cX4_readFrom 59 = .ok (.ifCond .eq 22, 3) := by decide +kernel
theorem dX4_readFrom_62 : decode cX4_readFrom 62 = .ok (.aload_n 0, 1) := by decide +kernel
theorem dX4_readFrom_63 : decode cX4_readFrom 63 = .ok (.getfield 38, 3) := by decide +kernel
theorem dX4_readFrom_66 : decode cX4_readFrom 66 = .ok (.bipush 40, 2) := by decide +kernel
theorem dX4_readFrom_68 : decode cX4_readFrom 68 = .ok (.iload_n 1, 1) := by decide +kernel
theorem dX4_readFrom_69 : decode cX4_readFrom 69 = .ok (.imul, 1) := by decide +kernel
theorem dX4_readFrom_70 : decode cX4_readFrom 70 = .ok (.iload_n 2, 1) := by decide +kernel
theorem dX4_readFrom_71 : decode cX4_readFrom 71 = .ok (.iadd, 1) := by decide +kernel
theorem dX4_readFrom_72 : decode cX4_readFrom 72 = .ok (.baload, 1) := by decide +kernel
theorem dX4_readFrom_73 : decode cX4_readFrom 73 = .ok (.ifCond .eq 8, 3) := by decide +kernel
theorem dX4_readFrom_76 : decode cX4_readFrom 76 = .ok (.iload 4, 2) := by decide +kernel
theorem dX4_readFrom_78 : decode cX4_readFrom 78 = .ok (.ifCond .ne 11, 3) := by decide +kernel
theorem dX4_readFrom_81 : decode cX4_readFrom 81 = .ok (.aload_n 0, 1) := by decide +kernel
theorem dX4_readFrom_82 : decode cX4_readFrom 82 = .ok (.iconst 2, 1) := by decide +kernel
theorem dX4_readFrom_83 : decode cX4_readFrom 83 = .ok (.invokevirtual 110, 3) := by decide +kernel
theorem dX4_readFrom_86 : decode cX4_readFrom 86 = .ok (.goto 12, 3) := by decide +kernel
theorem dX4_readFrom_89 : decode cX4_readFrom 89 = .ok (.aload_n 0, 1) := by decide +kernel
theorem dX4_readFrom_90 : decode cX4_readFrom 90 = .ok (.getfield 25, 3) := by decide +kernel
theorem dX4_readFrom_93 : decode cX4_readFrom 93 = .ok (.iload 4, 2) := by decide +kernel
theorem dX4_readFrom_95 : decode cX4_readFrom 95 = .ok (.iconst 1, 1) := by decide +kernel
theorem dX4_readFrom_96 : decode cX4_readFrom 96 = .ok (.isub, 1) := by decide +kernel
theorem dX4_readFrom_97 : decode cX4_readFrom 97 = .ok (.iaload, 1) := by decide +kernel
theorem dX4_readFrom_98 : decode cX4_readFrom 98 = .ok (.ireturn, 1) := by decide +kernel
theorem dX4_nextDrop_0 : decode cX4_nextDrop 0 = .ok (.iconst (-1), 1) := by decide +kernel
theorem dX4_nextDrop_1 : decode cX4_nextDrop 1 = .ok (.istore_n 1, 1) := by decide +kernel
theorem dX4_nextDrop_2 : decode cX4_nextDrop 2 = .ok (.iconst 0, 1) := by decide +kernel
theorem dX4_nextDrop_3 : decode cX4_nextDrop 3 = .ok (.istore_n 2, 1) := by decide +kernel
theorem dX4_nextDrop_4 : decode cX4_nextDrop 4 = .ok (.iload_n 2, 1) := by decide +kernel
theorem dX4_nextDrop_5 : decode cX4_nextDrop 5 = .ok (.aload_n 0, 1) := by decide +kernel
theorem dX4_nextDrop_6 : decode cX4_nextDrop 6 = .ok (.getfield 86, 3) := by decide +kernel
theorem dX4_nextDrop_9 : decode cX4_nextDrop 9 = .ok (.if_icmp .ge 44, 3) := by decide +kernel
theorem dX4_nextDrop_12 : decode cX4_nextDrop 12 = .ok (.aload_n 0, 1) := by decide +kernel
theorem dX4_nextDrop_13 : decode cX4_nextDrop 13 = .ok (.getfield 31, 3) := by decide +kernel
theorem dX4_nextDrop_16 : decode cX4_nextDrop 16 = .ok (.iload_n 2, 1) := by decide +kernel
theorem dX4_nextDrop_17 : decode cX4_nextDrop 17 = .ok (.baload, 1) := by decide +kernel
theorem dX4_nextDrop_18 : decode cX4_nextDrop 18 = .ok (.ifCond .eq 27, 3) := by decide +kernel
theorem dX4_nextDrop_21 : decode cX4_nextDrop 21 = .ok (.iload_n 1, 1) := by decide +kernel
theorem dX4_nextDrop_22 : decode cX4_nextDrop 22 = .ok (.iconst (-1), 1) := by decide +kernel
theorem dX4_nextDrop_23 : decode cX4_nextDrop 23 = .ok (.if_icmp .eq 18, 3) := by decide +kernel
theorem dX4_nextDrop_26 : decode cX4_nextDrop 26 = .ok (.aload_n 0, 1) := by decide +kernel
theorem dX4_nextDrop_27 : decode cX4_nextDrop 27 = .ok (.getfield 28, 3) := by decide +kernel
theorem dX4_nextDrop_30 : decode cX4_nextDrop 30 = .ok (.iload_n 2, 1) := by decide +kernel
theorem dX4_nextDrop_31 : decode cX4_nextDrop 31 = .ok (.iaload, 1) := by decide +kernel
theorem dX4_nextDrop_32 : decode cX4_nextDrop 32 = .ok (.aload_n 0, 1) := by decide +kernel
theorem dX4_nextDrop_33 : decode cX4_nextDrop 33 = .ok (.getfield 28, 3) := by decide +kernel
theorem dX4_nextDrop_36 : decode cX4_nextDrop 36 = .ok (.iload_n 1, 1) := by decide +kernel
theorem dX4_nextDrop_37 : decode cX4_nextDrop 37 = .ok (.iaload, 1) := by decide +kernel
theorem dX4_nextDrop_38 : decode cX4_nextDrop 38 = .ok (.if_icmp .ge 7, 3) := by decide +kernel
theorem dX4_nextDrop_41 : decode cX4_nextDrop 41 = .ok (.iload_n 2, 1) := by decide +kernel
theorem dX4_nextDrop_42 : decode cX4_nextDrop 42 = .ok (.goto 4, 3) := by decide +kernel
theorem dX4_nextDrop_45 : decode cX4_nextDrop 45 = .ok (.iload_n 1, 1) := by decide +kernel
theorem dX4_nextDrop_46 : decode cX4_nextDrop 46 = .ok (.istore_n 1, 1) := by decide +kernel
theorem dX4_nextDrop_47 : decode cX4_nextDrop 47 = .ok (.iinc 2 1, 3) := by decide +kernel
theorem dX4_nextDrop_50 : decode cX4_nextDrop 50 = .ok (.goto (-46), 3) := by decide +kernel
theorem dX4_nextDrop_53 : decode cX4_nextDrop 53 = .ok (.iload_n 1, 1) := by decide +kernel
theorem dX4_nextDrop_54 : decode cX4_nextDrop 54 = .ok (.ireturn, 1) := by decide +kernel
theorem dX4_thin_0 : decode cX4_thin 0 = .ok (.aload_n 0, 1) := by decide +kernel
theorem dX4_thin_1 : decode cX4_thin 1 = .ok (.iconst 0, 1) := by decide +kernel
theorem dX4_thin_2 : decode cX4_thin 2 = .ok (.putfield 72, 3) := by decide +kernel
theorem dX4_thin_5 : decode cX4_thin 5 = .ok (.iload_n 1, 1) := by decide +kernel
theorem dX4_thin_6 : decode cX4_thin 6 = .ok (.iconst 0, 1) := by decide +kernel
theorem dX4_thin_7 : decode cX4_thin 7 = .ok (.bipush 8, 2) := by decide +kernel
theorem dX4_thin_9 : decode cX4_thin 9 = .ok (.invokestatic 79, 3) := by decide +kernel
theorem dX4_thin_12 : decode cX4_thin 12 = .ok (.ifCond .ne 9, 3) := by decide +kernel
theorem dX4_thin_15 : decode cX4_thin 15 = .ok (.aload_n 0, 1) := by decide +kernel
theorem dX4_thin_16 : decode cX4_thin 16 = .ok (.iconst 1, 1) := by decide +kernel
theorem dX4_thin_17 : decode cX4_thin 17 = .ok (.invokevirtual 110, 3) := by decide +kernel
theorem dX4_thin_20 : decode cX4_thin 20 = .ok (.ireturn, 1) := by decide +kernel
theorem dX4_thin_21 : decode cX4_thin 21 = .ok (.aload_n 0, 1) := by decide +kernel
theorem dX4_thin_22 : decode cX4_thin 22 = .ok (.getfield 113, 3) := by decide +kernel
theorem dX4_thin_25 : decode cX4_thin 25 = .ok (.ifCond .eq 9, 3) := by decide +kernel
theorem dX4_thin_28 : decode cX4_thin 28 = .ok (.aload_n 0, 1) := by decide +kernel
theorem dX4_thin_29 : decode cX4_thin 29 = .ok (.iconst 2, 1) := by decide +kernel
theorem dX4_thin_30 : decode cX4_thin 30 = .ok (.invokevirtual 110, 3) := by decide +kernel
theorem dX4_thin_33 : decode cX4_thin 33 = .ok (.ireturn, 1) := by decide +kernel
theorem dX4_thin_34 : decode cX4_thin 34 = .ok (.iconst 0, 1) := by decide +kernel
theorem dX4_thin_35 : decode cX4_thin 35 = .ok (.istore_n 2, 1) := by decide +kernel
theorem dX4_thin_36 : decode cX4_thin 36 = .ok (.aload_n 0, 1) := by decide +kernel
theorem dX4_thin_37 : decode cX4_thin 37 = .ok (.invokevirtual 149, 3) := by decide +kernel
theorem dX4_thin_40 : decode cX4_thin 40 = .ok (.iload_n 1, 1) := by decide +kernel
theorem dX4_thin_41 : decode cX4_thin 41 = .ok (.if_icmp .le 19, 3) := by decide +kernel
theorem dX4_thin_44 : decode cX4_thin 44 = .ok (.aload_n 0, 1) := by decide +kernel
theorem dX4_thin_45 : decode cX4_thin 45 = .ok (.getfield 31, 3) := by decide +kernel
theorem dX4_thin_48 : decode cX4_thin 48 = .ok (.aload_n 0, 1) := by decide +kernel
theorem dX4_thin_49 : decode cX4_thin 49 = .ok (.invokevirtual 155, 3) := by decide +kernel
theorem dX4_thin_52 : decode cX4_thin 52 = .ok (.iconst 0, 1) := by decide +kernel
theorem dX4_thin_53 : decode cX4_thin 53 = .ok (.bastore, 1) := by decide +kernel
theorem dX4_thin_54 : decode cX4_thin 54 = .ok (.iinc 2 1, 3) := by decide +kernel
theorem dX4_thin_57 : decode cX4_thin 57 = .ok (.goto (-21), 3) := by decide +kernel
theorem dX4_thin_60 : decode cX4_thin 60 = .ok (.iload_n 2, 1) := by decide +kernel
theorem dX4_thin_61 : decode cX4_thin 61 = .ok (.ireturn, 1) := by decide +kernel
theorem dX4_nextToDrop_0 : decode cX4_nextToDrop 0 = .ok (.aload_n 0, 1) := by decide +kernel
theorem dX4_nextToDrop_1 : decode cX4_nextToDrop 1 = .ok (.iconst 0, 1) := by decide +kernel
theorem dX4_nextToDrop_2 : decode cX4_nextToDrop 2 = .ok (.putfield 72, 3) := by decide +kernel
theorem dX4_nextToDrop_5 : decode cX4_nextToDrop 5 = .ok (.aload_n 0, 1) := by decide +kernel
theorem dX4_nextToDrop_6 : decode cX4_nextToDrop 6 = .ok (.invokevirtual 155, 3) := by decide +kernel
theorem dX4_nextToDrop_9 : decode cX4_nextToDrop 9 = .ok (.istore_n 1, 1) := by decide +kernel
theorem dX4_nextToDrop_10 : decode cX4_nextToDrop 10 = .ok (.iload_n 1, 1) := by decide +kernel
theorem dX4_nextToDrop_11 : decode cX4_nextToDrop 11 = .ok (.iconst (-1), 1) := by decide +kernel
theorem dX4_nextToDrop_12 : decode cX4_nextToDrop 12 = .ok (.if_icmp .ne 11, 3) := by decide +kernel
theorem dX4_nextToDrop_15 : decode cX4_nextToDrop 15 = .ok (.aload_n 0, 1) := by decide +kernel
theorem dX4_nextToDrop_16 : decode cX4_nextToDrop 16 = .ok (.iconst 1, 1) := by decide +kernel
theorem dX4_nextToDrop_17 : decode cX4_nextToDrop 17 = .ok (.invokevirtual 110, 3) := by decide +kernel
theorem dX4_nextToDrop_20 : decode cX4_nextToDrop 20 = .ok (.goto 4, 3) := by decide +kernel
theorem dX4_nextToDrop_23 : decode cX4_nextToDrop 23 = .ok (.iload_n 1, 1) := by decide +kernel
theorem dX4_nextToDrop_24 : decode cX4_nextToDrop 24 = .ok (.ireturn, 1) := by decide +kernel
theorem dX4_restore_0 : decode cX4_restore 0 = .ok (.aload_n 0, 1) := by decide +kernel
theorem dX4_restore_1 : decode cX4_restore 1 = .ok (.iconst 0, 1) := by decide +kernel
theorem dX4_restore_2 : decode cX4_restore 2 = .ok (.putfield 72, 3) := by decide +kernel
theorem dX4_restore_5 : decode cX4_restore 5 = .ok (.aload_n 0, 1) := by decide +kernel
theorem dX4_restore_6 : decode cX4_restore 6 = .ok (.iload_n 1, 1) := by decide +kernel
theorem dX4_restore_7 : decode cX4_restore 7 = .ok (.invokevirtual 152, 3) := by decide +kernel
theorem dX4_restore_10 : decode cX4_restore 10 = .ok (.ifCond .eq 11, 3) := by decide +kernel
theorem dX4_restore_13 : decode cX4_restore 13 = .ok (.aload_n 0, 1) := by decide +kernel
theorem dX4_restore_14 : decode cX4_restore 14 = .ok (.iload_n 2, 1) := by decide +kernel
theorem dX4_restore_15 : decode cX4_restore 15 = .ok (.invokevirtual 124, 3) := by decide +kernel
theorem dX4_restore_18 : decode cX4_restore 18 = .ok (.ifCond .ne 9, 3) := by decide +kernel
theorem dX4_restore_21 : decode cX4_restore 21 = .ok (.aload_n 0, 1) := by decide +kernel
theorem dX4_restore_22 : decode cX4_restore 22 = .ok (.iconst 1, 1) := by decide +kernel
theorem dX4_restore_23 : decode cX4_restore 23 = .ok (.invokevirtual 110, 3) := by decide +kernel
theorem dX4_restore_26 : decode cX4_restore 26 = .ok (.ireturn, 1) := by decide +kernel
theorem dX4_restore_27 : decode cX4_restore 27 = .ok (.aload_n 0, 1) := by decide +kernel
theorem dX4_restore_28 : decode cX4_restore 28 = .ok (.getfield 31, 3) := by decide +kernel
theorem dX4_restore_31 : decode cX4_restore 31 = .ok (.iload_n 1, 1) := by decide +kernel
theorem dX4_restore_32 : decode cX4_restore 32 = .ok (.baload, 1) := by decide +kernel
theorem dX4_restore_33 : decode cX4_restore 33 = .ok (.ifCond .eq 17, 3) := by decide +kernel
theorem dX4_restore_36 : decode cX4_restore 36 = .ok (.aload_n 0, 1) := by decide +kernel
theorem dX4_restore_37 : decode cX4_restore 37 = .ok (.getfield 38, 3) := by decide +kernel
theorem dX4_restore_40 : decode cX4_restore 40 = .ok (.bipush 40, 2) := by decide +kernel
theorem dX4_restore_42 : decode cX4_restore 42 = .ok (.iload_n 1, 1) := by decide +kernel
theorem dX4_restore_43 : decode cX4_restore 43 = .ok (.imul, 1) := by decide +kernel
theorem dX4_restore_44 : decode cX4_restore 44 = .ok (.iload_n 2, 1) := by decide +kernel
theorem dX4_restore_45 : decode cX4_restore 45 = .ok (.iadd, 1) := by decide +kernel
theorem dX4_restore_46 : decode cX4_restore 46 = .ok (.baload, 1) := by decide +kernel
theorem dX4_restore_47 : decode cX4_restore 47 = .ok (.ifCond .ne 9, 3) := by decide +kernel
theorem dX4_restore_50 : decode cX4_restore 50 = .ok (.aload_n 0, 1) := by decide +kernel
theorem dX4_restore_51 : decode cX4_restore 51 = .ok (.iconst 2, 1) := by decide +kernel
theorem dX4_restore_52 : decode cX4_restore 52 = .ok (.invokevirtual 110, 3) := by decide +kernel
theorem dX4_restore_55 : decode cX4_restore 55 = .ok (.ireturn, 1) := by decide +kernel
theorem dX4_restore_56 : decode cX4_restore 56 = .ok (.aload_n 0, 1) := by decide +kernel
theorem dX4_restore_57 : decode cX4_restore 57 = .ok (.getfield 113, 3) := by decide +kernel
theorem dX4_restore_60 : decode cX4_restore 60 = .ok (.ifCond .ne 12, 3) := by decide +kernel
theorem dX4_restore_63 : decode cX4_restore 63 = .ok (.aload_n 0, 1) := by decide +kernel
theorem dX4_restore_64 : decode cX4_restore 64 = .ok (.getfield 19, 3) := by decide +kernel
theorem dX4_restore_67 : decode cX4_restore 67 = .ok (.iload_n 2, 1) := by decide +kernel
theorem dX4_restore_68 : decode cX4_restore 68 = .ok (.iaload, 1) := by decide +kernel
theorem dX4_restore_69 : decode cX4_restore 69 = .ok (.ifCond .ne 9, 3) := by decide +kernel
theorem dX4_restore_72 : decode cX4_restore 72 = .ok (.aload_n 0, 1) := by decide +kernel
theorem dX4_restore_73 : decode cX4_restore 73 = .ok (.iconst 3, 1) := by decide +kernel
theorem dX4_restore_74 : decode cX4_restore 74 = .ok (.invokevirtual 110, 3) := by decide +kernel
theorem dX4_restore_77 : decode cX4_restore 77 = .ok (.ireturn, 1) := by decide +kernel
theorem dX4_restore_78 : decode cX4_restore 78 = .ok (.iconst 0, 1) := by decide +kernel
theorem dX4_restore_79 : decode cX4_restore 79 = .ok (.istore_n 3, 1) := by decide +kernel
theorem dX4_restore_80 : decode cX4_restore 80 = .ok (.iconst 0, 1) := by decide +kernel
theorem dX4_restore_81 : decode cX4_restore 81 = .ok (.istore 4, 2) := by decide +kernel
theorem dX4_restore_83 : decode cX4_restore 83 = .ok (.iload 4, 2) := by decide +kernel
theorem dX4_restore_85 : decode cX4_restore 85 = .ok (.bipush 16, 2) := by decide +kernel
theorem dX4_restore_87 : decode cX4_restore 87 = .ok (.if_icmp .ge 88, 3) := by decide +kernel
theorem dX4_restore_90 : decode cX4_restore 90 = .ok (.aload_n 0, 1) := by decide +kernel
theorem dX4_restore_91 : decode cX4_restore 91 = .ok (.getfield 60, 3) := by decide +kernel
theorem dX4_restore_94 : decode cX4_restore 94 = .ok (.iload 4, 2) := by decide +kernel
theorem dX4_restore_96 : decode cX4_restore 96 = .ok (.aload_n 0, 1) := by decide +kernel
theorem dX4_restore_97 : decode cX4_restore 97 = .ok (.getfield 22, 3) := by decide +kernel
theorem dX4_restore_100 : decode cX4_restore 100 = .ok (.bipush 16, 2) := by decide +kernel
theorem dX4_restore_102 : decode cX4_restore 102 = .ok (.iload_n 2, 1) := by decide +kernel
theorem dX4_restore_103 : decode cX4_restore 103 = .ok (.imul, 1) := by decide +kernel
theorem dX4_restore_104 : decode cX4_restore 104 = .ok (.iload 4, 2) := by decide +kernel
theorem dX4_restore_106 : decode cX4_restore 106 = .ok (.iadd, 1) := by decide +kernel
theorem dX4_restore_107 : decode cX4_restore 107 = .ok (.iaload, 1) := by decide +kernel
theorem dX4_restore_108 : decode cX4_restore 108 = .ok (.iastore, 1) := by decide +kernel
theorem dX4_restore_109 : decode cX4_restore 109 = .ok (.aload_n 0, 1) := by decide +kernel
theorem dX4_restore_110 : decode cX4_restore 110 = .ok (.getfield 22, 3) := by decide +kernel
theorem dX4_restore_113 : decode cX4_restore 113 = .ok (.bipush 16, 2) := by decide +kernel
theorem dX4_restore_115 : decode cX4_restore 115 = .ok (.iload_n 2, 1) := by decide +kernel
theorem dX4_restore_116 : decode cX4_restore 116 = .ok (.imul, 1) := by decide +kernel
theorem dX4_restore_117 : decode cX4_restore 117 = .ok (.iload 4, 2) := by decide +kernel
theorem dX4_restore_119 : decode cX4_restore 119 = .ok (.iadd, 1) := by decide +kernel
theorem dX4_restore_120 : decode cX4_restore 120 = .ok (.aload_n 0, 1) := by decide +kernel
theorem dX4_restore_121 : decode cX4_restore 121 = .ok (.getfield 35, 3) := by decide +kernel
theorem dX4_restore_124 : decode cX4_restore 124 = .ok (.sipush 640, 3) := by decide +kernel
theorem dX4_restore_127 : decode cX4_restore 127 = .ok (.iload_n 1, 1) := by decide +kernel
theorem dX4_restore_128 : decode cX4_restore 128 = .ok (.imul, 1) := by decide +kernel
theorem dX4_restore_129 : decode cX4_restore 129 = .ok (.bipush 16, 2) := by decide +kernel
theorem dX4_restore_131 : decode cX4_restore 131 = .ok (.iload_n 2, 1) := by decide +kernel
theorem dX4_restore_132 : decode cX4_restore 132 = .ok (.imul, 1) := by decide +kernel
theorem dX4_restore_133 : decode cX4_restore 133 = .ok (.iadd, 1) := by decide +kernel
theorem dX4_restore_134 : decode cX4_restore 134 = .ok (.iload 4, 2) := by decide +kernel
theorem dX4_restore_136 : decode cX4_restore 136 = .ok (.iadd, 1) := by decide +kernel
theorem dX4_restore_137 : decode cX4_restore 137 = .ok (.iaload, 1) := by decide +kernel
theorem dX4_restore_138 : decode cX4_restore 138 = .ok (.iastore, 1) := by decide +kernel
theorem dX4_restore_139 : decode cX4_restore 139 = .ok (.iload_n 3, 1) := by decide +kernel
theorem dX4_restore_140 : decode cX4_restore 140 = .ok (.aload_n 0, 1) := by decide +kernel
theorem dX4_restore_141 : decode cX4_restore 141 = .ok (.getfield 22, 3) := by decide +kernel
theorem dX4_restore_144 : decode cX4_restore 144 = .ok (.bipush 16, 2) := by decide +kernel
theorem dX4_restore_146 : decode cX4_restore 146 = .ok (.iload_n 2, 1) := by decide +kernel
theorem dX4_restore_147 : decode cX4_restore 147 = .ok (.imul, 1) := by decide +kernel
theorem dX4_restore_148 : decode cX4_restore 148 = .ok (.iload 4, 2) := by decide +kernel
theorem dX4_restore_150 : decode cX4_restore 150 = .ok (.iadd, 1) := by decide +kernel
theorem dX4_restore_151 : decode cX4_restore 151 = .ok (.iaload, 1) := by decide +kernel
theorem dX4_restore_152 : decode cX4_restore 152 = .ok (.aload_n 0, 1) := by decide +kernel
theorem dX4_restore_153 : decode cX4_restore 153 = .ok (.getfield 60, 3) := by decide +kernel
theorem dX4_restore_156 : decode cX4_restore 156 = .ok (.iload 4, 2) := by decide +kernel
theorem dX4_restore_158 : decode cX4_restore 158 = .ok (.iaload, 1) := by decide +kernel
theorem dX4_restore_159 : decode cX4_restore 159 = .ok (.if_icmp .ne 7, 3) := by decide +kernel
theorem dX4_restore_162 : decode cX4_restore 162 = .ok (.iconst 0, 1) := by decide +kernel
theorem dX4_restore_163 : decode cX4_restore 163 = .ok (.goto 4, 3) := by decide +kernel
theorem dX4_restore_166 : decode cX4_restore 166 = .ok (.iconst 1, 1) := by decide +kernel
theorem dX4_restore_167 : decode cX4_restore 167 = .ok (.iadd, 1) := by decide +kernel
theorem dX4_restore_168 : decode cX4_restore 168 = .ok (.istore_n 3, 1) := by decide +kernel
theorem dX4_restore_169 : decode cX4_restore 169 = .ok (.iinc 4 1, 3) := by decide +kernel
theorem dX4_restore_172 : decode cX4_restore 172 = .ok (.goto (-89), 3) := by decide +kernel
theorem dX4_restore_175 : decode cX4_restore 175 = .ok (.aload_n 0, 1) := by decide +kernel
theorem dX4_restore_176 : decode cX4_restore 176 = .ok (.aload_n 0, 1) := by decide +kernel
theorem dX4_restore_177 : decode cX4_restore 177 = .ok (.getfield 16, 3) := by decide +kernel
theorem dX4_restore_180 : decode cX4_restore 180 = .ok (.iload_n 2, 1) := by decide +kernel
theorem dX4_restore_181 : decode cX4_restore 181 = .ok (.iaload, 1) := by decide +kernel
theorem dX4_restore_182 : decode cX4_restore 182 = .ok (.invokevirtual 143, 3) := by decide +kernel
theorem dX4_restore_185 : decode cX4_restore 185 = .ok (.aload_n 0, 1) := by decide +kernel
theorem dX4_restore_186 : decode cX4_restore 186 = .ok (.getfield 7, 3) := by decide +kernel
theorem dX4_restore_189 : decode cX4_restore 189 = .ok (.aload_n 0, 1) := by decide +kernel
theorem dX4_restore_190 : decode cX4_restore 190 = .ok (.getfield 16, 3) := by decide +kernel
theorem dX4_restore_193 : decode cX4_restore 193 = .ok (.iload_n 2, 1) := by decide +kernel
theorem dX4_restore_194 : decode cX4_restore 194 = .ok (.iaload, 1) := by decide +kernel
theorem dX4_restore_195 : decode cX4_restore 195 = .ok (.iaload, 1) := by decide +kernel
theorem dX4_restore_196 : decode cX4_restore 196 = .ok (.if_icmp .le 44, 3) := by decide +kernel
theorem dX4_restore_199 : decode cX4_restore 199 = .ok (.iconst 0, 1) := by decide +kernel
theorem dX4_restore_200 : decode cX4_restore 200 = .ok (.istore 4, 2) := by decide +kernel
theorem dX4_restore_202 : decode cX4_restore 202 = .ok (.iload 4, 2) := by decide +kernel
theorem dX4_restore_204 : decode cX4_restore 204 = .ok (.bipush 16, 2) := by decide +kernel
theorem dX4_restore_206 : decode cX4_restore 206 = .ok (.if_icmp .ge 28, 3) := by decide +kernel
theorem dX4_restore_209 : decode cX4_restore 209 = .ok (.aload_n 0, 1) := by decide +kernel
theorem dX4_restore_210 : decode cX4_restore 210 = .ok (.getfield 22, 3) := by decide +kernel
theorem dX4_restore_213 : decode cX4_restore 213 = .ok (.bipush 16, 2) := by decide +kernel
theorem dX4_restore_215 : decode cX4_restore 215 = .ok (.iload_n 2, 1) := by decide +kernel
theorem dX4_restore_216 : decode cX4_restore 216 = .ok (.imul, 1) := by decide +kernel
theorem dX4_restore_217 : decode cX4_restore 217 = .ok (.iload 4, 2) := by decide +kernel
theorem dX4_restore_219 : decode cX4_restore 219 = .ok (.iadd, 1) := by decide +kernel
theorem dX4_restore_220 : decode cX4_restore 220 = .ok (.aload_n 0, 1) := by decide +kernel
theorem dX4_restore_221 : decode cX4_restore 221 = .ok (.getfield 60, 3) := by decide +kernel
theorem dX4_restore_224 : decode cX4_restore 224 = .ok (.iload 4, 2) := by decide +kernel
theorem dX4_restore_226 : decode cX4_restore 226 = .ok (.iaload, 1) := by decide +kernel
theorem dX4_restore_227 : decode cX4_restore 227 = .ok (.iastore, 1) := by decide +kernel
theorem dX4_restore_228 : decode cX4_restore 228 = .ok (.iinc 4 1, 3) := by decide +kernel
theorem dX4_restore_231 : decode cX4_restore 231 = .ok (.goto (-29), 3) := by decide +kernel
theorem dX4_restore_234 : decode cX4_restore 234 = .ok (.aload_n 0, 1) := by decide +kernel
theorem dX4_restore_235 : decode cX4_restore 235 = .ok (.iconst 4, 1) := by decide +kernel
theorem dX4_restore_236 : decode cX4_restore 236 = .ok (.invokevirtual 110, 3) := by decide +kernel
theorem dX4_restore_239 : decode cX4_restore 239 = .ok (.ireturn, 1) := by decide +kernel
theorem dX4_restore_240 : decode cX4_restore 240 = .ok (.iload_n 3, 1) := by decide +kernel
theorem dX4_restore_241 : decode cX4_restore 241 = .ok (.ireturn, 1) := by decide +kernel
theorem dX4_openHold_0 : decode cX4_openHold 0 = .ok (.aload_n 0, 1) := by decide +kernel
theorem dX4_openHold_1 : decode cX4_openHold 1 = .ok (.iconst 0, 1) := by decide +kernel
theorem dX4_openHold_2 : decode cX4_openHold 2 = .ok (.putfield 72, 3) := by decide +kernel
theorem dX4_openHold_5 : decode cX4_openHold 5 = .ok (.aload_n 0, 1) := by decide +kernel
theorem dX4_openHold_6 : decode cX4_openHold 6 = .ok (.iload_n 1, 1) := by decide +kernel
theorem dX4_openHold_7 : decode cX4_openHold 7 = .ok (.invokevirtual 124, 3) := by decide +kernel
theorem dX4_openHold_10 : decode cX4_openHold 10 = .ok (.ifCond .ne 9, 3) := by decide +kernel
theorem dX4_openHold_13 : decode cX4_openHold 13 = .ok (.aload_n 0, 1) := by decide +kernel
theorem dX4_openHold_14 : decode cX4_openHold 14 = .ok (.iconst 1, 1) := by decide +kernel
theorem dX4_openHold_15 : decode cX4_openHold 15 = .ok (.invokevirtual 110, 3) := by decide +kernel
theorem dX4_openHold_18 : decode cX4_openHold 18 = .ok (.ireturn, 1) := by decide +kernel
theorem dX4_openHold_19 : decode cX4_openHold 19 = .ok (.iload_n 2, 1) := by decide +kernel
theorem dX4_openHold_20 : decode cX4_openHold 20 = .ok (.iconst 1, 1) := by decide +kernel
theorem dX4_openHold_21 : decode cX4_openHold 21 = .ok (.bipush 99, 2) := by decide +kernel
theorem dX4_openHold_23 : decode cX4_openHold 23 = .ok (.invokestatic 79, 3) := by decide +kernel
theorem dX4_openHold_26 : decode cX4_openHold 26 = .ok (.ifCond .ne 9, 3) := by decide +kernel
theorem dX4_openHold_29 : decode cX4_openHold 29 = .ok (.aload_n 0, 1) := by decide +kernel
theorem dX4_openHold_30 : decode cX4_openHold 30 = .ok (.iconst 2, 1) := by decide +kernel
theorem dX4_openHold_31 : decode cX4_openHold 31 = .ok (.invokevirtual 110, 3) := by decide +kernel
theorem dX4_openHold_34 : decode cX4_openHold 34 = .ok (.ireturn, 1) := by decide +kernel
theorem dX4_openHold_35 : decode cX4_openHold 35 = .ok (.aload_n 0, 1) := by decide +kernel
theorem dX4_openHold_36 : decode cX4_openHold 36 = .ok (.getfield 113, 3) := by decide +kernel
theorem dX4_openHold_39 : decode cX4_openHold 39 = .ok (.ifCond .ne 20, 3) := by decide +kernel
theorem dX4_openHold_42 : decode cX4_openHold 42 = .ok (.aload_n 0, 1) := by decide +kernel
theorem dX4_openHold_43 : decode cX4_openHold 43 = .ok (.iload_n 1, 1) := by decide +kernel
theorem dX4_openHold_44 : decode cX4_openHold 44 = .ok (.invokevirtual 96, 3) := by decide +kernel
theorem dX4_openHold_47 : decode cX4_openHold 47 = .ok (.ifCond .eq 12, 3) := by decide +kernel
theorem dX4_openHold_50 : decode cX4_openHold 50 = .ok (.aload_n 0, 1) := by decide +kernel
theorem dX4_openHold_51 : decode cX4_openHold 51 = .ok (.getfield 89, 3) := by decide +kernel
theorem dX4_openHold_54 : decode cX4_openHold 54 = .ok (.bipush 30, 2) := by decide +kernel
theorem dX4_openHold_56 : decode cX4_openHold 56 = .ok (.if_icmp .ne 9, 3) := by decide +kernel
theorem dX4_openHold_59 : decode cX4_openHold 59 = .ok (.aload_n 0, 1) := by decide +kernel
theorem dX4_openHold_60 : decode cX4_openHold 60 = .ok (.iconst 3, 1) := by decide +kernel
theorem dX4_openHold_61 : decode cX4_openHold 61 = .ok (.invokevirtual 110, 3) := by decide +kernel
theorem dX4_openHold_64 : decode cX4_openHold 64 = .ok (.ireturn, 1) := by decide +kernel
theorem dX4_openHold_65 : decode cX4_openHold 65 = .ok (.aload_n 0, 1) := by decide +kernel
theorem dX4_openHold_66 : decode cX4_openHold 66 = .ok (.getfield 41, 3) := by decide +kernel
theorem dX4_openHold_69 : decode cX4_openHold 69 = .ok (.aload_n 0, 1) := by decide +kernel
theorem dX4_openHold_70 : decode cX4_openHold 70 = .ok (.getfield 89, 3) := by decide +kernel
theorem dX4_openHold_73 : decode cX4_openHold 73 = .ok (.iload_n 1, 1) := by decide +kernel
theorem dX4_openHold_74 : decode cX4_openHold 74 = .ok (.iastore, 1) := by decide +kernel
theorem dX4_openHold_75 : decode cX4_openHold 75 = .ok (.aload_n 0, 1) := by decide +kernel
theorem dX4_openHold_76 : decode cX4_openHold 76 = .ok (.getfield 44, 3) := by decide +kernel
theorem dX4_openHold_79 : decode cX4_openHold 79 = .ok (.aload_n 0, 1) := by decide +kernel
theorem dX4_openHold_80 : decode cX4_openHold 80 = .ok (.getfield 89, 3) := by decide +kernel
theorem dX4_openHold_83 : decode cX4_openHold 83 = .ok (.aload_n 0, 1) := by decide +kernel
theorem dX4_openHold_84 : decode cX4_openHold 84 = .ok (.getfield 158, 3) := by decide +kernel
theorem dX4_openHold_87 : decode cX4_openHold 87 = .ok (.iload_n 2, 1) := by decide +kernel
theorem dX4_openHold_88 : decode cX4_openHold 88 = .ok (.iadd, 1) := by decide +kernel
theorem dX4_openHold_89 : decode cX4_openHold 89 = .ok (.iastore, 1) := by decide +kernel
theorem dX4_openHold_90 : decode cX4_openHold 90 = .ok (.aload_n 0, 1) := by decide +kernel
theorem dX4_openHold_91 : decode cX4_openHold 91 = .ok (.getfield 47, 3) := by decide +kernel
theorem dX4_openHold_94 : decode cX4_openHold 94 = .ok (.aload_n 0, 1) := by decide +kernel
theorem dX4_openHold_95 : decode cX4_openHold 95 = .ok (.getfield 89, 3) := by decide +kernel
theorem dX4_openHold_98 : decode cX4_openHold 98 = .ok (.iconst 1, 1) := by decide +kernel
theorem dX4_openHold_99 : decode cX4_openHold 99 = .ok (.bastore, 1) := by decide +kernel
theorem dX4_openHold_100 : decode cX4_openHold 100 = .ok (.aload_n 0, 1) := by decide +kernel
theorem dX4_openHold_101 : decode cX4_openHold 101 = .ok (.dup, 1) := by decide +kernel
theorem dX4_openHold_102 : decode cX4_openHold 102 = .ok (.getfield 89, 3) := by decide +kernel
theorem dX4_openHold_105 : decode cX4_openHold 105 = .ok (.iconst 1, 1) := by decide +kernel
theorem dX4_openHold_106 : decode cX4_openHold 106 = .ok (.iadd, 1) := by decide +kernel
theorem dX4_openHold_107 : decode cX4_openHold 107 = .ok (.putfield 89, 3) := by decide +kernel
theorem dX4_openHold_110 : decode cX4_openHold 110 = .ok (.aload_n 0, 1) := by decide +kernel
theorem dX4_openHold_111 : decode cX4_openHold 111 = .ok (.getfield 89, 3) := by decide +kernel
theorem dX4_openHold_114 : decode cX4_openHold 114 = .ok (.iconst 1, 1) := by decide +kernel
theorem dX4_openHold_115 : decode cX4_openHold 115 = .ok (.isub, 1) := by decide +kernel
theorem dX4_openHold_116 : decode cX4_openHold 116 = .ok (.ireturn, 1) := by decide +kernel
theorem dX4_release_0 : decode cX4_release 0 = .ok (.aload_n 0, 1) := by decide +kernel
theorem dX4_release_1 : decode cX4_release 1 = .ok (.iconst 0, 1) := by decide +kernel
theorem dX4_release_2 : decode cX4_release 2 = .ok (.putfield 72, 3) := by decide +kernel
theorem dX4_release_5 : decode cX4_release 5 = .ok (.aload_n 0, 1) := by decide +kernel
theorem dX4_release_6 : decode cX4_release 6 = .ok (.iload_n 1, 1) := by decide +kernel
theorem dX4_release_7 : decode cX4_release 7 = .ok (.invokevirtual 161, 3) := by decide +kernel
theorem dX4_release_10 : decode cX4_release 10 = .ok (.ifCond .ne 9, 3) := by decide +kernel
theorem dX4_release_13 : decode cX4_release 13 = .ok (.aload_n 0, 1) := by decide +kernel
theorem dX4_release_14 : decode cX4_release 14 = .ok (.iconst 1, 1) := by decide +kernel
theorem dX4_release_15 : decode cX4_release 15 = .ok (.invokevirtual 110, 3) := by decide +kernel
theorem dX4_release_18 : decode cX4_release 18 = .ok (.ireturn, 1) := by decide +kernel
theorem dX4_release_19 : decode cX4_release 19 = .ok (.aload_n 0, 1) := by decide +kernel
theorem dX4_release_20 : decode cX4_release 20 = .ok (.getfield 113, 3) := by decide +kernel
theorem dX4_release_23 : decode cX4_release 23 = .ok (.ifCond .ne 12, 3) := by decide +kernel
theorem dX4_release_26 : decode cX4_release 26 = .ok (.aload_n 0, 1) := by decide +kernel
theorem dX4_release_27 : decode cX4_release 27 = .ok (.getfield 47, 3) := by decide +kernel
theorem dX4_release_30 : decode cX4_release 30 = .ok (.iload_n 1, 1) := by decide +kernel
theorem dX4_release_31 : decode cX4_release 31 = .ok (.baload, 1) := by decide +kernel
theorem dX4_release_32 : decode cX4_release 32 = .ok (.ifCond .ne 9, 3) := by decide +kernel
theorem dX4_release_35 : decode cX4_release 35 = .ok (.aload_n 0, 1) := by decide +kernel
theorem dX4_release_36 : decode cX4_release 36 = .ok (.iconst 2, 1) := by decide +kernel
theorem dX4_release_37 : decode cX4_release 37 = .ok (.invokevirtual 110, 3) := by decide +kernel
theorem dX4_release_40 : decode cX4_release 40 = .ok (.ireturn, 1) := by decide +kernel
theorem dX4_release_41 : decode cX4_release 41 = .ok (.aload_n 0, 1) := by decide +kernel
theorem dX4_release_42 : decode cX4_release 42 = .ok (.getfield 47, 3) := by decide +kernel
theorem dX4_release_45 : decode cX4_release 45 = .ok (.iload_n 1, 1) := by decide +kernel
theorem dX4_release_46 : decode cX4_release 46 = .ok (.iconst 0, 1) := by decide +kernel
theorem dX4_release_47 : decode cX4_release 47 = .ok (.bastore, 1) := by decide +kernel
theorem dX4_release_48 : decode cX4_release 48 = .ok (.aload_n 0, 1) := by decide +kernel
theorem dX4_release_49 : decode cX4_release 49 = .ok (.aload_n 0, 1) := by decide +kernel
theorem dX4_release_50 : decode cX4_release 50 = .ok (.getfield 41, 3) := by decide +kernel
theorem dX4_release_53 : decode cX4_release 53 = .ok (.iload_n 1, 1) := by decide +kernel
theorem dX4_release_54 : decode cX4_release 54 = .ok (.iaload, 1) := by decide +kernel
theorem dX4_release_55 : decode cX4_release 55 = .ok (.invokevirtual 127, 3) := by decide +kernel
theorem dX4_release_58 : decode cX4_release 58 = .ok (.ifCond .eq 7, 3) := by decide +kernel
theorem dX4_release_61 : decode cX4_release 61 = .ok (.iconst 1, 1) := by decide +kernel
theorem dX4_release_62 : decode cX4_release 62 = .ok (.goto 4, 3) := by decide +kernel
theorem dX4_release_65 : decode cX4_release 65 = .ok (.iconst 0, 1) := by decide +kernel
theorem dX4_release_66 : decode cX4_release 66 = .ok (.ireturn, 1) := by decide +kernel
theorem dX4_isOpen_0 : decode cX4_isOpen 0 = .ok (.aload_n 0, 1) := by decide +kernel
theorem dX4_isOpen_1 : decode cX4_isOpen 1 = .ok (.aload_n 0, 1) := by decide +kernel
theorem dX4_isOpen_2 : decode cX4_isOpen 2 = .ok (.iload_n 1, 1) := by decide +kernel
theorem dX4_isOpen_3 : decode cX4_isOpen 3 = .ok (.invokevirtual 161, 3) := by decide +kernel
theorem dX4_isOpen_6 : decode cX4_isOpen 6 = .ok (.ifCond .eq 7, 3) := by decide +kernel
theorem dX4_isOpen_9 : decode cX4_isOpen 9 = .ok (.iconst 0, 1) := by decide +kernel
theorem dX4_isOpen_10 : decode cX4_isOpen 10 = .ok (.goto 4, 3) := by decide +kernel
theorem dX4_isOpen_13 : decode cX4_isOpen 13 = .ok (.iconst 1, 1) := by decide +kernel
theorem dX4_isOpen_14 : decode cX4_isOpen 14 = .ok (.putfield 72, 3) := by decide +kernel
theorem dX4_isOpen_17 : decode cX4_isOpen 17 = .ok (.aload_n 0, 1) := by decide +kernel
theorem dX4_isOpen_18 : decode cX4_isOpen 18 = .ok (.getfield 72, 3) := by decide +kernel
theorem dX4_isOpen_21 : decode cX4_isOpen 21 = .ok (.ifCond .ne 16, 3) := by decide +kernel
theorem dX4_isOpen_24 : decode cX4_isOpen 24 = .ok (.aload_n 0, 1) := by decide +kernel
theorem dX4_isOpen_25 : decode cX4_isOpen 25 = .ok (.getfield 47, 3) := by decide +kernel
theorem dX4_isOpen_28 : decode cX4_isOpen 28 = .ok (.iload_n 1, 1) := by decide +kernel
theorem dX4_isOpen_29 : decode cX4_isOpen 29 = .ok (.baload, 1) := by decide +kernel
theorem dX4_isOpen_30 : decode cX4_isOpen 30 = .ok (.ifCond .eq 7, 3) := by decide +kernel
theorem dX4_isOpen_33 : decode cX4_isOpen 33 = .ok (.iconst 1, 1) := by decide +kernel
theorem dX4_isOpen_34 : decode cX4_isOpen 34 = .ok (.goto 4, 3) := by decide +kernel
theorem dX4_isOpen_37 : decode cX4_isOpen 37 = .ok (.iconst 0, 1) := by decide +kernel
theorem dX4_isOpen_38 : decode cX4_isOpen 38 = .ok (.ireturn, 1) := by decide +kernel
theorem dX4_holdsOn_0 : decode cX4_holdsOn 0 = .ok (.aload_n 0, 1) := by decide +kernel
theorem dX4_holdsOn_1 : decode cX4_holdsOn 1 = .ok (.iconst 0, 1) := by decide +kernel
theorem dX4_holdsOn_2 : decode cX4_holdsOn 2 = .ok (.putfield 72, 3) := by decide +kernel
theorem dX4_holdsOn_5 : decode cX4_holdsOn 5 = .ok (.aload_n 0, 1) := by decide +kernel
theorem dX4_holdsOn_6 : decode cX4_holdsOn 6 = .ok (.iload_n 1, 1) := by decide +kernel
theorem dX4_holdsOn_7 : decode cX4_holdsOn 7 = .ok (.invokevirtual 124, 3) := by decide +kernel
theorem dX4_holdsOn_10 : decode cX4_holdsOn 10 = .ok (.ifCond .eq 11, 3) := by decide +kernel
theorem dX4_holdsOn_13 : decode cX4_holdsOn 13 = .ok (.aload_n 0, 1) := by decide +kernel
theorem dX4_holdsOn_14 : decode cX4_holdsOn 14 = .ok (.iload_n 1, 1) := by decide +kernel
theorem dX4_holdsOn_15 : decode cX4_holdsOn 15 = .ok (.invokevirtual 92, 3) := by decide +kernel
theorem dX4_holdsOn_18 : decode cX4_holdsOn 18 = .ok (.goto 8, 3) := by decide +kernel
theorem dX4_holdsOn_21 : decode cX4_holdsOn 21 = .ok (.aload_n 0, 1) := by decide +kernel
theorem dX4_holdsOn_22 : decode cX4_holdsOn 22 = .ok (.iconst 1, 1) := by decide +kernel
theorem dX4_holdsOn_23 : decode cX4_holdsOn 23 = .ok (.invokevirtual 110, 3) := by decide +kernel
theorem dX4_holdsOn_26 : decode cX4_holdsOn 26 = .ok (.ireturn, 1) := by decide +kernel
theorem dX4_nextEnd_0 : decode cX4_nextEnd 0 = .ok (.aload_n 0, 1) := by decide +kernel
theorem dX4_nextEnd_1 : decode cX4_nextEnd 1 = .ok (.iconst 0, 1) := by decide +kernel
theorem dX4_nextEnd_2 : decode cX4_nextEnd 2 = .ok (.putfield 72, 3) := by decide +kernel
theorem dX4_nextEnd_5 : decode cX4_nextEnd 5 = .ok (.iconst (-1), 1) := by decide +kernel
theorem dX4_nextEnd_6 : decode cX4_nextEnd 6 = .ok (.istore_n 1, 1) := by decide +kernel
theorem dX4_nextEnd_7 : decode cX4_nextEnd 7 = .ok (.iconst 0, 1) := by decide +kernel
theorem dX4_nextEnd_8 : decode cX4_nextEnd 8 = .ok (.istore_n 2, 1) := by decide +kernel
theorem dX4_nextEnd_9 : decode cX4_nextEnd 9 = .ok (.iload_n 2, 1) := by decide +kernel
theorem dX4_nextEnd_10 : decode cX4_nextEnd 10 = .ok (.aload_n 0, 1) := by decide +kernel
theorem dX4_nextEnd_11 : decode cX4_nextEnd 11 = .ok (.getfield 89, 3) := by decide +kernel
theorem dX4_nextEnd_14 : decode cX4_nextEnd 14 = .ok (.if_icmp .ge 44, 3) := by decide +kernel
theorem dX4_nextEnd_17 : decode cX4_nextEnd 17 = .ok (.aload_n 0, 1) := by decide +kernel
theorem dX4_nextEnd_18 : decode cX4_nextEnd 18 = .ok (.getfield 47, 3) := by decide +kernel
theorem dX4_nextEnd_21 : decode cX4_nextEnd 21 = .ok (.iload_n 2, 1) := by decide +kernel
theorem dX4_nextEnd_22 : decode cX4_nextEnd 22 = .ok (.baload, 1) := by decide +kernel
theorem dX4_nextEnd_23 : decode cX4_nextEnd 23 = .ok (.ifCond .eq 27, 3) := by decide +kernel
theorem dX4_nextEnd_26 : decode cX4_nextEnd 26 = .ok (.iload_n 1, 1) := by decide +kernel
theorem dX4_nextEnd_27 : decode cX4_nextEnd 27 = .ok (.iconst (-1), 1) := by decide +kernel
theorem dX4_nextEnd_28 : decode cX4_nextEnd 28 = .ok (.if_icmp .eq 18, 3) := by decide +kernel
theorem dX4_nextEnd_31 : decode cX4_nextEnd 31 = .ok (.aload_n 0, 1) := by decide +kernel
theorem dX4_nextEnd_32 : decode cX4_nextEnd 32 = .ok (.getfield 44, 3) := by decide +kernel
theorem dX4_nextEnd_35 : decode cX4_nextEnd 35 = .ok (.iload_n 2, 1) := by decide +kernel
theorem dX4_nextEnd_36 : decode cX4_nextEnd 36 = .ok (.iaload, 1) := by decide +kernel
theorem dX4_nextEnd_37 : decode cX4_nextEnd 37 = .ok (.aload_n 0, 1) := by decide +kernel
theorem dX4_nextEnd_38 : decode cX4_nextEnd 38 = .ok (.getfield 44, 3) := by decide +kernel
theorem dX4_nextEnd_41 : decode cX4_nextEnd 41 = .ok (.iload_n 1, 1) := by decide +kernel
theorem dX4_nextEnd_42 : decode cX4_nextEnd 42 = .ok (.iaload, 1) := by decide +kernel
theorem dX4_nextEnd_43 : decode cX4_nextEnd 43 = .ok (.if_icmp .ge 7, 3) := by decide +kernel
theorem dX4_nextEnd_46 : decode cX4_nextEnd 46 = .ok (.iload_n 2, 1) := by decide +kernel
theorem dX4_nextEnd_47 : decode cX4_nextEnd 47 = .ok (.goto 4, 3) := by decide +kernel
theorem dX4_nextEnd_50 : decode cX4_nextEnd 50 = .ok (.iload_n 1, 1) := by decide +kernel
theorem dX4_nextEnd_51 : decode cX4_nextEnd 51 = .ok (.istore_n 1, 1) := by decide +kernel
theorem dX4_nextEnd_52 : decode cX4_nextEnd 52 = .ok (.iinc 2 1, 3) := by decide +kernel
theorem dX4_nextEnd_55 : decode cX4_nextEnd 55 = .ok (.goto (-46), 3) := by decide +kernel
