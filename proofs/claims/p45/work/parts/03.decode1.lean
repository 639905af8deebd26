theorem dX0_init_0 : decode cX0_init 0 = .ok (.aload_n 0, 1) := by decide +kernel
theorem dX0_init_1 : decode cX0_init 1 = .ok (.invokespecial 3, 3) := by decide +kernel
theorem dX0_init_4 : decode cX0_init 4 = .ok (.aload_n 0, 1) := by decide +kernel
theorem dX0_init_5 : decode cX0_init 5 = .ok (.iconst 0, 1) := by decide +kernel
theorem dX0_init_6 : decode cX0_init 6 = .ok (.putfield 9, 3) := by decide +kernel
theorem dX0_init_9 : decode cX0_init 9 = .ok (.aload_n 0, 1) := by decide +kernel
theorem dX0_init_10 : decode cX0_init 10 = .ok (.bipush 30, 2) := by decide +kernel
theorem dX0_init_12 : decode cX0_init 12 = .ok (.newarray .int, 2) := by decide +kernel
theorem dX0_init_14 : decode cX0_init 14 = .ok (.putfield 15, 3) := by decide +kernel
theorem dX0_init_17 : decode cX0_init 17 = .ok (.aload_n 0, 1) := by decide +kernel
theorem dX0_init_18 : decode cX0_init 18 = .ok (.bipush 30, 2) := by decide +kernel
theorem dX0_init_20 : decode cX0_init 20 = .ok (.newarray .int, 2) := by decide +kernel
theorem dX0_init_22 : decode cX0_init 22 = .ok (.putfield 19, 3) := by decide +kernel
theorem dX0_init_25 : decode cX0_init 25 = .ok (.aload_n 0, 1) := by decide +kernel
theorem dX0_init_26 : decode cX0_init 26 = .ok (.bipush 30, 2) := by decide +kernel
theorem dX0_init_28 : decode cX0_init 28 = .ok (.newarray .boolean, 2) := by decide +kernel
theorem dX0_init_30 : decode cX0_init 30 = .ok (.putfield 22, 3) := by decide +kernel
theorem dX0_init_33 : decode cX0_init 33 = .ok (.return_, 1) := by decide +kernel
theorem dX0_openedTotal_0 : decode cX0_openedTotal 0 = .ok (.aload_n 0, 1) := by decide +kernel
theorem dX0_openedTotal_1 : decode cX0_openedTotal 1 = .ok (.getfield 9, 3) := by decide +kernel
theorem dX0_openedTotal_4 : decode cX0_openedTotal 4 = .ok (.ireturn, 1) := by decide +kernel
theorem dX0_wasOpened_0 : decode cX0_wasOpened 0 = .ok (.iload_n 1, 1) := by decide +kernel
theorem dX0_wasOpened_1 : decode cX0_wasOpened 1 = .ok (.ifCond .lt 21, 3) := by decide +kernel
theorem dX0_wasOpened_4 : decode cX0_wasOpened 4 = .ok (.iload_n 1, 1) := by decide +kernel
theorem dX0_wasOpened_5 : decode cX0_wasOpened 5 = .ok (.aload_n 0, 1) := by decide +kernel
theorem dX0_wasOpened_6 : decode cX0_wasOpened 6 = .ok (.getfield 9, 3) := by decide +kernel
theorem dX0_wasOpened_9 : decode cX0_wasOpened 9 = .ok (.if_icmp .ge 13, 3) := by decide +kernel
theorem dX0_wasOpened_12 : decode cX0_wasOpened 12 = .ok (.iload_n 1, 1) := by decide +kernel
theorem dX0_wasOpened_13 : decode cX0_wasOpened 13 = .ok (.bipush 30, 2) := by decide +kernel
theorem dX0_wasOpened_15 : decode cX0_wasOpened 15 = .ok (.if_icmp .ge 7, 3) := by decide +kernel
theorem dX0_wasOpened_18 : decode cX0_wasOpened 18 = .ok (.iconst 1, 1) := by decide +kernel
theorem dX0_wasOpened_19 : decode cX0_wasOpened 19 = .ok (.goto 4, 3) := by decide +kernel
theorem dX0_wasOpened_22 : decode cX0_wasOpened 22 = .ok (.iconst 0, 1) := by decide +kernel
theorem dX0_wasOpened_23 : decode cX0_wasOpened 23 = .ok (.ireturn, 1) := by decide +kernel
theorem dX0_isStillOpen_0 : decode cX0_isStillOpen 0 = .ok (.aload_n 0, 1) := by decide +kernel
theorem dX0_isStillOpen_1 : decode cX0_isStillOpen 1 = .ok (.iload_n 1, 1) := by decide +kernel
theorem dX0_isStillOpen_2 : decode cX0_isStillOpen 2 = .ok (.invokevirtual 26, 3) := by decide +kernel
theorem dX0_isStillOpen_5 : decode cX0_isStillOpen 5 = .ok (.ifCond .eq 16, 3) := by decide +kernel
theorem dX0_isStillOpen_8 : decode cX0_isStillOpen 8 = .ok (.aload_n 0, 1) := by decide +kernel
theorem dX0_isStillOpen_9 : decode cX0_isStillOpen 9 = .ok (.getfield 22, 3) := by decide +kernel
theorem dX0_isStillOpen_12 : decode cX0_isStillOpen 12 = .ok (.iload_n 1, 1) := by decide +kernel
theorem dX0_isStillOpen_13 : decode cX0_isStillOpen 13 = .ok (.baload, 1) := by decide +kernel
theorem dX0_isStillOpen_14 : decode cX0_isStillOpen 14 = .ok (.ifCond .eq 7, 3) := by decide +kernel
theorem dX0_isStillOpen_17 : decode cX0_isStillOpen 17 = .ok (.iconst 1, 1) := by decide +kernel
theorem dX0_isStillOpen_18 : decode cX0_isStillOpen 18 = .ok (.goto 4, 3) := by decide +kernel
theorem dX0_isStillOpen_21 : decode cX0_isStillOpen 21 = .ok (.iconst 0, 1) := by decide +kernel
theorem dX0_isStillOpen_22 : decode cX0_isStillOpen 22 = .ok (.ireturn, 1) := by decide +kernel
theorem dX0_fileOf_0 : decode cX0_fileOf 0 = .ok (.aload_n 0, 1) := by decide +kernel
theorem dX0_fileOf_1 : decode cX0_fileOf 1 = .ok (.iload_n 1, 1) := by decide +kernel
theorem dX0_fileOf_2 : decode cX0_fileOf 2 = .ok (.invokevirtual 26, 3) := by decide +kernel
theorem dX0_fileOf_5 : decode cX0_fileOf 5 = .ok (.ifCond .eq 12, 3) := by decide +kernel
theorem dX0_fileOf_8 : decode cX0_fileOf 8 = .ok (.aload_n 0, 1) := by decide +kernel
theorem dX0_fileOf_9 : decode cX0_fileOf 9 = .ok (.getfield 15, 3) := by decide +kernel
theorem dX0_fileOf_12 : decode cX0_fileOf 12 = .ok (.iload_n 1, 1) := by decide +kernel
theorem dX0_fileOf_13 : decode cX0_fileOf 13 = .ok (.iaload, 1) := by decide +kernel
theorem dX0_fileOf_14 : decode cX0_fileOf 14 = .ok (.goto 4, 3) := by decide +kernel
theorem dX0_fileOf_17 : decode cX0_fileOf 17 = .ok (.iconst (-1), 1) := by decide +kernel
theorem dX0_fileOf_18 : decode cX0_fileOf 18 = .ok (.ireturn, 1) := by decide +kernel
theorem dX0_endOf_0 : decode cX0_endOf 0 = .ok (.aload_n 0, 1) := by decide +kernel
theorem dX0_endOf_1 : decode cX0_endOf 1 = .ok (.iload_n 1, 1) := by decide +kernel
theorem dX0_endOf_2 : decode cX0_endOf 2 = .ok (.invokevirtual 26, 3) := by decide +kernel
theorem dX0_endOf_5 : decode cX0_endOf 5 = .ok (.ifCond .eq 12, 3) := by decide +kernel
theorem dX0_endOf_8 : decode cX0_endOf 8 = .ok (.aload_n 0, 1) := by decide +kernel
theorem dX0_endOf_9 : decode cX0_endOf 9 = .ok (.getfield 19, 3) := by decide +kernel
theorem dX0_endOf_12 : decode cX0_endOf 12 = .ok (.iload_n 1, 1) := by decide +kernel
theorem dX0_endOf_13 : decode cX0_endOf 13 = .ok (.iaload, 1) := by decide +kernel
theorem dX0_endOf_14 : decode cX0_endOf 14 = .ok (.goto 4, 3) := by decide +kernel
theorem dX0_endOf_17 : decode cX0_endOf 17 = .ok (.iconst (-1), 1) := by decide +kernel
theorem dX0_endOf_18 : decode cX0_endOf 18 = .ok (.ireturn, 1) := by decide +kernel
theorem dX0_add_0 : decode cX0_add 0 = .ok (.aload_n 0, 1) := by decide +kernel
theorem dX0_add_1 : decode cX0_add 1 = .ok (.getfield 9, 3) := by decide +kernel
theorem dX0_add_4 : decode cX0_add 4 = .ok (.bipush 30, 2) := by decide +kernel
theorem dX0_add_6 : decode cX0_add 6 = .ok (.if_icmp .lt 5, 3) := by decide +kernel
theorem dX0_add_9 : decode cX0_add 9 = .ok (.iconst (-1), 1) := by decide +kernel
theorem dX0_add_10 : decode cX0_add 10 = .ok (.ireturn, 1) := by decide +kernel
theorem dX0_add_11 : decode cX0_add 11 = .ok (.aload_n 0, 1) := by decide +kernel
theorem dX0_add_12 : decode cX0_add 12 = .ok (.getfield 9, 3) := by decide +kernel
theorem dX0_add_15 : decode cX0_add 15 = .ok (.istore_n 3, 1) := by decide +kernel
theorem dX0_add_16 : decode cX0_add 16 = .ok (.aload_n 0, 1) := by decide +kernel
theorem dX0_add_17 : decode cX0_add 17 = .ok (.getfield 15, 3) := by decide +kernel
theorem dX0_add_20 : decode cX0_add 20 = .ok (.iload_n 3, 1) := by decide +kernel
theorem dX0_add_21 : decode cX0_add 21 = .ok (.iload_n 1, 1) := by decide +kernel
theorem dX0_add_22 : decode cX0_add 22 = .ok (.iastore, 1) := by decide +kernel
theorem dX0_add_23 : decode cX0_add 23 = .ok (.aload_n 0, 1) := by decide +kernel
theorem dX0_add_24 : decode cX0_add 24 = .ok (.getfield 19, 3) := by decide +kernel
theorem dX0_add_27 : decode cX0_add 27 = .ok (.iload_n 3, 1) := by decide +kernel
theorem dX0_add_28 : decode cX0_add 28 = .ok (.iload_n 2, 1) := by decide +kernel
theorem dX0_add_29 : decode cX0_add 29 = .ok (.iastore, 1) := by decide +kernel
theorem dX0_add_30 : decode cX0_add 30 = .ok (.aload_n 0, 1) := by decide +kernel
theorem dX0_add_31 : decode cX0_add 31 = .ok (.getfield 22, 3) := by decide +kernel
theorem dX0_add_34 : decode cX0_add 34 = .ok (.iload_n 3, 1) := by decide +kernel
theorem dX0_add_35 : decode cX0_add 35 = .ok (.iconst 1, 1) := by decide +kernel
theorem dX0_add_36 : decode cX0_add 36 = .ok (.bastore, 1) := by decide +kernel
theorem dX0_add_37 : decode cX0_add 37 = .ok (.aload_n 0, 1) := by decide +kernel
theorem dX0_add_38 : decode cX0_add 38 = .ok (.iload_n 3, 1) := by decide +kernel
theorem dX0_add_39 : decode cX0_add 39 = .ok (.iconst 1, 1) := by decide +kernel
theorem dX0_add_40 : decode cX0_add 40 = .ok (.iadd, 1) := by decide +kernel
theorem dX0_add_41 : decode cX0_add 41 = .ok (.putfield 9, 3) := by decide +kernel
theorem dX0_add_44 : decode cX0_add 44 = .ok (.iload_n 3, 1) := by decide +kernel
theorem dX0_add_45 : decode cX0_add 45 = .ok (.ireturn, 1) := by decide +kernel
theorem dX0_close_0 : decode cX0_close 0 = .ok (.aload_n 0, 1) := by decide +kernel
theorem dX0_close_1 : decode cX0_close 1 = .ok (.iload_n 1, 1) := by decide +kernel
theorem dX0_close_2 : decode cX0_close 2 = .ok (.invokevirtual 26, 3) := by decide +kernel
theorem dX0_close_5 : decode cX0_close 5 = .ok (.ifCond .eq 10, 3) := by decide +kernel
theorem dX0_close_8 : decode cX0_close 8 = .ok (.aload_n 0, 1) := by decide +kernel
theorem dX0_close_9 : decode cX0_close 9 = .ok (.getfield 22, 3) := by decide +kernel
theorem dX0_close_12 : decode cX0_close 12 = .ok (.iload_n 1, 1) := by decide +kernel
theorem dX0_close_13 : decode cX0_close 13 = .ok (.iconst 0, 1) := by decide +kernel
theorem dX0_close_14 : decode cX0_close 14 = .ok (.bastore, 1) := by decide +kernel
theorem dX0_close_15 : decode cX0_close 15 = .ok (.return_, 1) := by decide +kernel
theorem dX0_openTotal_0 : decode cX0_openTotal 0 = .ok (.iconst 0, 1) := by decide +kernel
theorem dX0_openTotal_1 : decode cX0_openTotal 1 = .ok (.istore_n 2, 1) := by decide +kernel
theorem dX0_openTotal_2 : decode cX0_openTotal 2 = .ok (.iconst 0, 1) := by decide +kernel
theorem dX0_openTotal_3 : decode cX0_openTotal 3 = .ok (.istore_n 3, 1) := by decide +kernel
theorem dX0_openTotal_4 : decode cX0_openTotal 4 = .ok (.iload_n 3, 1) := by decide +kernel
theorem dX0_openTotal_5 : decode cX0_openTotal 5 = .ok (.aload_n 0, 1) := by decide +kernel
theorem dX0_openTotal_6 : decode cX0_openTotal 6 = .ok (.getfield 9, 3) := by decide +kernel
theorem dX0_openTotal_9 : decode cX0_openTotal 9 = .ok (.if_icmp .ge 30, 3) := by decide +kernel
theorem dX0_openTotal_12 : decode cX0_openTotal 12 = .ok (.aload_n 0, 1) := by decide +kernel
theorem dX0_openTotal_13 : decode cX0_openTotal 13 = .ok (.iload_n 3, 1) := by decide +kernel
theorem dX0_openTotal_14 : decode cX0_openTotal 14 = .ok (.invokevirtual 30, 3) := by decide +kernel
theorem dX0_openTotal_17 : decode cX0_openTotal 17 = .ok (.ifCond .eq 16, 3) := by decide +kernel
theorem dX0_openTotal_20 : decode cX0_openTotal 20 = .ok (.aload_n 0, 1) := by decide +kernel
theorem dX0_openTotal_21 : decode cX0_openTotal 21 = .ok (.getfield 15, 3) := by decide +kernel
theorem dX0_openTotal_24 : decode cX0_openTotal 24 = .ok (.iload_n 3, 1) := by decide +kernel
theorem dX0_openTotal_25 : decode cX0_openTotal 25 = .ok (.iaload, 1) := by decide +kernel
theorem dX0_openTotal_26 : decode cX0_openTotal 26 = .ok (.iload_n 1, 1) := by decide +kernel
theorem dX0_openTotal_27 : decode cX0_openTotal 27 = .ok (.if_icmp .ne 6, 3) := by decide +kernel
theorem dX0_openTotal_30 : decode cX0_openTotal 30 = .ok (.iinc 2 1, 3) := by decide +kernel
theorem dX0_openTotal_33 : decode cX0_openTotal 33 = .ok (.iinc 3 1, 3) := by decide +kernel
theorem dX0_openTotal_36 : decode cX0_openTotal 36 = .ok (.goto (-32), 3) := by decide +kernel
theorem dX0_openTotal_39 : decode cX0_openTotal 39 = .ok (.iload_n 2, 1) := by decide +kernel
theorem dX0_openTotal_40 : decode cX0_openTotal 40 = .ok (.ireturn, 1) := by decide +kernel
theorem dX0_firstToEnd_0 : decode cX0_firstToEnd 0 = .ok (.iconst (-1), 1) := by decide +kernel
theorem dX0_firstToEnd_1 : decode cX0_firstToEnd 1 = .ok (.istore_n 1, 1) := by decide +kernel
theorem dX0_firstToEnd_2 : decode cX0_firstToEnd 2 = .ok (.iconst 0, 1) := by decide +kernel
theorem dX0_firstToEnd_3 : decode cX0_firstToEnd 3 = .ok (.istore_n 2, 1) := by decide +kernel
theorem dX0_firstToEnd_4 : decode cX0_firstToEnd 4 = .ok (.iload_n 2, 1) := by decide +kernel
theorem dX0_firstToEnd_5 : decode cX0_firstToEnd 5 = .ok (.aload_n 0, 1) := by decide +kernel
theorem dX0_firstToEnd_6 : decode cX0_firstToEnd 6 = .ok (.getfield 9, 3) := by decide +kernel
theorem dX0_firstToEnd_9 : decode cX0_firstToEnd 9 = .ok (.if_icmp .ge 38, 3) := by decide +kernel
theorem dX0_firstToEnd_12 : decode cX0_firstToEnd 12 = .ok (.aload_n 0, 1) := by decide +kernel
theorem dX0_firstToEnd_13 : decode cX0_firstToEnd 13 = .ok (.iload_n 2, 1) := by decide +kernel
theorem dX0_firstToEnd_14 : decode cX0_firstToEnd 14 = .ok (.invokevirtual 30, 3) := by decide +kernel
theorem dX0_firstToEnd_17 : decode cX0_firstToEnd 17 = .ok (.ifCond .eq 24, 3) := by decide +kernel
theorem dX0_firstToEnd_20 : decode cX0_firstToEnd 20 = .ok (.iload_n 1, 1) := by decide +kernel
theorem dX0_firstToEnd_21 : decode cX0_firstToEnd 21 = .ok (.iconst (-1), 1) := by decide +kernel
theorem dX0_firstToEnd_22 : decode cX0_firstToEnd 22 = .ok (.if_icmp .eq 17, 3) := by decide +kernel
theorem dX0_firstToEnd_25 : decode cX0_firstToEnd 25 = .ok (.aload_n 0, 1) := by decide +kernel
theorem dX0_firstToEnd_26 : decode cX0_firstToEnd 26 = .ok (.getfield 19, 3) := by decide +kernel
theorem dX0_firstToEnd_29 : decode cX0_firstToEnd 29 = .ok (.iload_n 2, 1) := by decide +kernel
theorem dX0_firstToEnd_30 : decode cX0_firstToEnd 30 = .ok (.iaload, 1) := by decide +kernel
theorem dX0_firstToEnd_31 : decode cX0_firstToEnd 31 = .ok (.aload_n 0, 1) := by decide +kernel
theorem dX0_firstToEnd_32 : decode cX0_firstToEnd 32 = .ok (.iload_n 1, 1) := by decide +kernel
theorem dX0_firstToEnd_33 : decode cX0_firstToEnd 33 = .ok (.invokevirtual 33, 3) := by decide +kernel
theorem dX0_firstToEnd_36 : decode cX0_firstToEnd 36 = .ok (.if_icmp .ge 5, 3) := by decide +kernel
theorem dX0_firstToEnd_39 : decode cX0_firstToEnd 39 = .ok (.iload_n 2, 1) := by decide +kernel
theorem dX0_firstToEnd_40 : decode cX0_firstToEnd 40 = .ok (.istore_n 1, 1) := by decide +kernel
theorem dX0_firstToEnd_41 : decode cX0_firstToEnd 41 = .ok (.iinc 2 1, 3) := by decide +kernel
theorem dX0_firstToEnd_44 : decode cX0_firstToEnd 44 = .ok (.goto (-40), 3) := by decide +kernel
theorem dX0_firstToEnd_47 : decode cX0_firstToEnd 47 = .ok (.iload_n 1, 1) := by decide +kernel
theorem dX0_firstToEnd_48 : decode cX0_firstToEnd 48 = .ok (.ireturn, 1) := by decide +kernel
theorem dX1_init_0 : decode cX1_init 0 = .ok (.aload_n 0, 1) := by decide +kernel
theorem dX1_init_1 : decode cX1_init 1 = .ok (.invokespecial 3, 3) := by decide +kernel
theorem dX1_init_4 : decode cX1_init 4 = .ok (.aload_n 0, 1) := by decide +kernel
theorem dX1_init_5 : decode cX1_init 5 = .ok (.iconst 0, 1) := by decide +kernel
theorem dX1_init_6 : decode cX1_init 6 = .ok (.putfield 9, 3) := by decide +kernel
theorem dX1_init_9 : decode cX1_init 9 = .ok (.aload_n 0, 1) := by decide +kernel
theorem dX1_init_10 : decode cX1_init 10 = .ok (.iconst 0, 1) := by decide +kernel
theorem dX1_init_11 : decode cX1_init 11 = .ok (.putfield 15, 3) := by decide +kernel
theorem dX1_init_14 : decode cX1_init 14 = .ok (.aload_n 0, 1) := by decide +kernel
theorem dX1_init_15 : decode cX1_init 15 = .ok (.bipush 30, 2) := by decide +kernel
theorem dX1_init_17 : decode cX1_init 17 = .ok (.newarray .int, 2) := by decide +kernel
theorem dX1_init_19 : decode cX1_init 19 = .ok (.putfield 18, 3) := by decide +kernel
theorem dX1_init_22 : decode cX1_init 22 = .ok (.aload_n 0, 1) := by decide +kernel
theorem dX1_init_23 : decode cX1_init 23 = .ok (.bipush 30, 2) := by decide +kernel
theorem dX1_init_25 : decode cX1_init 25 = .ok (.newarray .int, 2) := by decide +kernel
theorem dX1_init_27 : decode cX1_init 27 = .ok (.putfield 22, 3) := by decide +kernel
theorem dX1_init_30 : decode cX1_init 30 = .ok (.aload_n 0, 1) := by decide +kernel
theorem dX1_init_31 : decode cX1_init 31 = .ok (.getfield 22, 3) := by decide +kernel
theorem dX1_init_34 : decode cX1_init 34 = .ok (.iconst (-1), 1) := by decide +kernel
theorem dX1_init_35 : decode cX1_init 35 = .ok (.invokestatic 25, 3) := by decide +kernel
theorem dX1_init_38 : decode cX1_init 38 = .ok (.aload_n 0, 1) := by decide +kernel
theorem dX1_init_39 : decode cX1_init 39 = .ok (.bipush 8, 2) := by decide +kernel
theorem dX1_init_41 : decode cX1_init 41 = .ok (.newarray .boolean, 2) := by decide +kernel
theorem dX1_init_43 : decode cX1_init 43 = .ok (.putfield 31, 3) := by decide +kernel
theorem dX1_init_46 : decode cX1_init 46 = .ok (.aload_n 0, 1) := by decide +kernel
theorem dX1_init_47 : decode cX1_init 47 = .ok (.sipush 320, 3) := by decide +kernel
theorem dX1_init_50 : decode cX1_init 50 = .ok (.newarray .boolean, 2) := by decide +kernel
theorem dX1_init_52 : decode cX1_init 52 = .ok (.putfield 35, 3) := by decide +kernel
theorem dX1_init_55 : decode cX1_init 55 = .ok (.aload_n 0, 1) := by decide +kernel
theorem dX1_init_56 : decode cX1_init 56 = .ok (.bipush 8, 2) := by decide +kernel
theorem dX1_init_58 : decode cX1_init 58 = .ok (.sipush 640, 3) := by decide +kernel
theorem dX1_init_61 : decode cX1_init 61 = .ok (.multianewarray 38 2, 4) := by decide +kernel
theorem dX1_init_65 : decode cX1_init 65 = .ok (.putfield 40, 3) := by decide +kernel
theorem dX1_init_68 : decode cX1_init 68 = .ok (.return_, 1) := by decide +kernel
theorem dX1_takenTotal_0 : decode cX1_takenTotal 0 = .ok (.aload_n 0, 1) := by decide +kernel
theorem dX1_takenTotal_1 : decode cX1_takenTotal 1 = .ok (.getfield 9, 3) := by decide +kernel
theorem dX1_takenTotal_4 : decode cX1_takenTotal 4 = .ok (.ireturn, 1) := by decide +kernel
theorem dX1_keptTotal_0 : decode cX1_keptTotal 0 = .ok (.aload_n 0, 1) := by decide +kernel
theorem dX1_keptTotal_1 : decode cX1_keptTotal 1 = .ok (.getfield 15, 3) := by decide +kernel
theorem dX1_keptTotal_4 : decode cX1_keptTotal 4 = .ok (.ireturn, 1) := by decide +kernel
theorem dX1_wasTaken_0 : decode cX1_wasTaken 0 = .ok (.iload_n 1, 1) := by decide +kernel
theorem dX1_wasTaken_1 : decode cX1_wasTaken 1 = .ok (.ifCond .lt 21, 3) := by decide +kernel
theorem dX1_wasTaken_4 : decode cX1_wasTaken 4 = .ok (.iload_n 1, 1) := by decide +kernel
theorem dX1_wasTaken_5 : decode cX1_wasTaken 5 = .ok (.aload_n 0, 1) := by decide +kernel
theorem dX1_wasTaken_6 : decode cX1_wasTaken 6 = .ok (.getfield 9, 3) := by decide +kernel
theorem dX1_wasTaken_9 : decode cX1_wasTaken 9 = .ok (.if_icmp .ge 13, 3) := by decide +kernel
theorem dX1_wasTaken_12 : decode cX1_wasTaken 12 = .ok (.iload_n 1, 1) := by decide +kernel
theorem dX1_wasTaken_13 : decode cX1_wasTaken 13 = .ok (.bipush 30, 2) := by decide +kernel
theorem dX1_wasTaken_15 : decode cX1_wasTaken 15 = .ok (.if_icmp .ge 7, 3) := by decide +kernel
theorem dX1_wasTaken_18 : decode cX1_wasTaken 18 = .ok (.iconst 1, 1) := by decide +kernel
theorem dX1_wasTaken_19 : decode cX1_wasTaken 19 = .ok (.goto 4, 3) := by decide +kernel
theorem dX1_wasTaken_22 : decode cX1_wasTaken 22 = .ok (.iconst 0, 1) := by decide +kernel
theorem dX1_wasTaken_23 : decode cX1_wasTaken 23 = .ok (.ireturn, 1) := by decide +kernel
theorem dX1_rowOf_0 : decode cX1_rowOf 0 = .ok (.aload_n 0, 1) := by decide +kernel
theorem dX1_rowOf_1 : decode cX1_rowOf 1 = .ok (.iload_n 1, 1) := by decide +kernel
theorem dX1_rowOf_2 : decode cX1_rowOf 2 = .ok (.invokevirtual 43, 3) := by decide +kernel
theorem dX1_rowOf_5 : decode cX1_rowOf 5 = .ok (.ifCond .eq 12, 3) := by decide +kernel
theorem dX1_rowOf_8 : decode cX1_rowOf 8 = .ok (.aload_n 0, 1) := by decide +kernel
theorem dX1_rowOf_9 : decode cX1_rowOf 9 = .ok (.getfield 22, 3) := by decide +kernel
theorem dX1_rowOf_12 : decode cX1_rowOf 12 = .ok (.iload_n 1, 1) := by decide +kernel
theorem dX1_rowOf_13 : decode cX1_rowOf 13 = .ok (.iaload, 1) := by decide +kernel
theorem dX1_rowOf_14 : decode cX1_rowOf 14 = .ok (.goto 4, 3) := by decide +kernel
theorem dX1_rowOf_17 : decode cX1_rowOf 17 = .ok (.iconst (-1), 1) := by decide +kernel
theorem dX1_rowOf_18 : decode cX1_rowOf 18 = .ok (.ireturn, 1) := by decide +kernel
theorem dX1_isRow_0 : decode cX1_isRow 0 = .ok (.iload_n 0, 1) := by decide +kernel
theorem dX1_isRow_1 : decode cX1_isRow 1 = .ok (.ifCond .lt 13, 3) := by decide +kernel
theorem dX1_isRow_4 : decode cX1_isRow 4 = .ok (.iload_n 0, 1) := by decide +kernel
theorem dX1_isRow_5 : decode cX1_isRow 5 = .ok (.bipush 8, 2) := by decide +kernel
theorem dX1_isRow_7 : decode cX1_isRow 7 = .ok (.if_icmp .ge 7, 3) := by decide +kernel
theorem dX1_isRow_10 : decode cX1_isRow 10 = .ok (.iconst 1, 1) := by decide +kernel
theorem dX1_isRow_11 : decode cX1_isRow 11 = .ok (.goto 4, 3) := by decide +kernel
theorem dX1_isRow_14 : decode cX1_isRow 14 = .ok (.iconst 0, 1) := by decide +kernel
theorem dX1_isRow_15 : decode cX1_isRow 15 = .ok (.ireturn, 1) := by decide +kernel
theorem dX1_add_0 : decode cX1_add 0 = .ok (.aload_n 0, 1) := by decide +kernel
theorem dX1_add_1 : decode cX1_add 1 = .ok (.invokevirtual 47, 3) := by decide +kernel
theorem dX1_add_4 : decode cX1_add 4 = .ok (.istore_n 3, 1) := by decide +kernel
theorem dX1_add_5 : decode cX1_add 5 = .ok (.aload_n 0, 1) := by decide +kernel
theorem dX1_add_6 : decode cX1_add 6 = .ok (.getfield 9, 3) := by decide +kernel
theorem dX1_add_9 : decode cX1_add 9 = .ok (.bipush 30, 2) := by decide +kernel
theorem dX1_add_11 : decode cX1_add 11 = .ok (.if_icmp .ge 10, 3) := by decide +kernel
theorem dX1_add_14 : decode cX1_add 14 = .ok (.iload_n 3, 1) := by decide +kernel
theorem dX1_add_15 : decode cX1_add 15 = .ok (.invokestatic 51, 3) := by decide +kernel
theorem dX1_add_18 : decode cX1_add 18 = .ok (.ifCond .ne 5, 3) := by decide +kernel
theorem dX1_add_21 : decode cX1_add 21 = .ok (.iconst (-1), 1) := by decide +kernel
theorem dX1_add_22 : decode cX1_add 22 = .ok (.ireturn, 1) := by decide +kernel
theorem dX1_add_23 : decode cX1_add 23 = .ok (.aload_n 0, 1) := by decide +kernel
theorem dX1_add_24 : decode cX1_add 24 = .ok (.getfield 9, 3) := by decide +kernel
theorem dX1_add_27 : decode cX1_add 27 = .ok (.istore 4, 2) := by decide +kernel
theorem dX1_add_29 : decode cX1_add 29 = .ok (.aload_n 0, 1) := by decide +kernel
theorem dX1_add_30 : decode cX1_add 30 = .ok (.getfield 18, 3) := by decide +kernel
theorem dX1_add_33 : decode cX1_add 33 = .ok (.iload 4, 2) := by decide +kernel
theorem dX1_add_35 : decode cX1_add 35 = .ok (.iload_n 1, 1) := by decide +kernel
theorem dX1_add_36 : decode cX1_add 36 = .ok (.iastore, 1) := by decide +kernel
theorem dX1_add_37 : decode cX1_add 37 = .ok (.aload_n 0, 1) := by decide +kernel
theorem dX1_add_38 : decode cX1_add 38 = .ok (.getfield 22, 3) := by decide +kernel
theorem dX1_add_41 : decode cX1_add 41 = .ok (.iload 4, 2) := by decide +kernel
theorem dX1_add_43 : decode cX1_add 43 = .ok (.iload_n 3, 1) := by decide +kernel
theorem dX1_add_44 : decode cX1_add 44 = .ok (.iastore, 1) := by decide +kernel
theorem dX1_add_45 : decode cX1_add 45 = .ok (.aload_n 0, 1) := by decide +kernel
theorem dX1_add_46 : decode cX1_add 46 = .ok (.getfield 31, 3) := by decide +kernel
theorem dX1_add_49 : decode cX1_add 49 = .ok (.iload_n 3, 1) := by decide +kernel
theorem dX1_add_50 : decode cX1_add 50 = .ok (.iconst 1, 1) := by decide +kernel
theorem dX1_add_51 : decode cX1_add 51 = .ok (.bastore, 1) := by decide +kernel
theorem dX1_add_52 : decode cX1_add 52 = .ok (.aload_n 0, 1) := by decide +kernel
theorem dX1_add_53 : decode cX1_add 53 = .ok (.dup, 1) := by decide +kernel
theorem dX1_add_54 : decode cX1_add 54 = .ok (.getfield 9, 3) := by decide +kernel
theorem dX1_add_57 : decode cX1_add 57 = .ok (.iconst 1, 1) := by decide +kernel
theorem dX1_add_58 : decode cX1_add 58 = .ok (.iadd, 1) := by decide +kernel
theorem dX1_add_59 : decode cX1_add 59 = .ok (.putfield 9, 3) := by decide +kernel
theorem dX1_add_62 : decode cX1_add 62 = .ok (.aload_n 0, 1) := by decide +kernel
theorem dX1_add_63 : decode cX1_add 63 = .ok (.dup, 1) := by decide +kernel
theorem dX1_add_64 : decode cX1_add 64 = .ok (.getfield 15, 3) := by decide +kernel
theorem dX1_add_67 : decode cX1_add 67 = .ok (.iconst 1, 1) := by decide +kernel
theorem dX1_add_68 : decode cX1_add 68 = .ok (.iadd, 1) := by decide +kernel
theorem dX1_add_69 : decode cX1_add 69 = .ok (.putfield 15, 3) := by decide +kernel
theorem dX1_add_72 : decode cX1_add 72 = .ok (.aload_n 0, 1) := by decide +kernel
theorem dX1_add_73 : decode cX1_add 73 = .ok (.iload_n 3, 1) := by decide +kernel
theorem dX1_add_74 : decode cX1_add 74 = .ok (.aload_n 2, 1) := by decide +kernel
theorem dX1_add_75 : decode cX1_add 75 = .ok (.invokevirtual 54, 3) := by decide +kernel
theorem dX1_add_78 : decode cX1_add 78 = .ok (.iload 4, 2) := by decide +kernel
theorem dX1_add_80 : decode cX1_add 80 = .ok (.ireturn, 1) := by decide +kernel
theorem dX1_unusedRow_0 : decode cX1_unusedRow 0 = .ok (.iconst 0, 1) := by decide +kernel
theorem dX1_unusedRow_1 : decode cX1_unusedRow 1 = .ok (.istore_n 1, 1) := by decide +kernel
theorem dX1_unusedRow_2 : decode cX1_unusedRow 2 = .ok (.iload_n 1, 1) := by decide +kernel
theorem dX1_unusedRow_3 : decode cX1_unusedRow 3 = .ok (.bipush 8, 2) := by decide +kernel
theorem dX1_unusedRow_5 : decode cX1_unusedRow 5 = .ok (.if_icmp .ge 20, 3) := by decide +kernel
theorem dX1_unusedRow_8 : decode cX1_unusedRow 8 = .ok (.aload_n 0, 1) := by decide +kernel
theorem dX1_unusedRow_9 : decode cX1_unusedRow 9 = .ok (.getfield 31, 3) := by decide +kernel
theorem dX1_unusedRow_12 : decode cX1_unusedRow 12 = .ok (.iload_n 1, 1) := by decide +kernel
theorem dX1_unusedRow_13 : decode cX1_unusedRow 13 = .ok (.baload, 1) := by decide +kernel
theorem dX1_unusedRow_14 : decode cX1_unusedRow 14 = .ok (.ifCond .ne 5, 3) := by decide +kernel
theorem dX1_unusedRow_17 : decode cX1_unusedRow 17 = .ok (.iload_n 1, 1) := by decide +kernel
theorem dX1_unusedRow_18 : decode cX1_unusedRow 18 = .ok (.ireturn, 1) := by decide +kernel
theorem dX1_unusedRow_19 : decode cX1_unusedRow 19 = .ok (.iinc 1 1, 3) := by decide +kernel
theorem dX1_unusedRow_22 : decode cX1_unusedRow 22 = .ok (.goto (-20), 3) := by decide +kernel
theorem dX1_unusedRow_25 : decode cX1_unusedRow 25 = .ok (.iconst (-1), 1) := by decide +kernel
theorem dX1_unusedRow_26 : decode cX1_unusedRow 26 = .ok (.ireturn, 1) := by decide +kernel
theorem dX1_fillRow_0 : decode cX1_fillRow 0 = .ok (.iload_n 1, 1) := by decide +kernel
theorem dX1_fillRow_1 : decode cX1_fillRow 1 = .ok (.invokestatic 51, 3) := by decide +kernel
theorem dX1_fillRow_4 : decode cX1_fillRow 4 = .ok (.ifCond .ne 4, 3) := by decide +kernel
theorem dX1_fillRow_7 : decode cX1_fillRow 7 = .ok (.return_, 1) := by decide +kernel
theorem dX1_fillRow_8 : decode cX1_fillRow 8 = .ok (.iconst 0, 1) := by decide +kernel
theorem dX1_fillRow_9 : decode cX1_fillRow 9 = .ok (.istore_n 3, 1) := by decide +kernel
theorem dX1_fillRow_10 : decode cX1_fillRow 10 = .ok (.iload_n 3, 1) := by decide +kernel
theorem dX1_fillRow_11 : decode cX1_fillRow 11 = .ok (.bipush 40, 2) := by decide +kernel
theorem dX1_fillRow_13 : decode cX1_fillRow 13 = .ok (.if_icmp .ge 80, 3) := by decide +kernel
theorem dX1_fillRow_16 : decode cX1_fillRow 16 = .ok (.aload_n 0, 1) := by decide +kernel
theorem dX1_fillRow_17 : decode cX1_fillRow 17 = .ok (.getfield 35, 3) := by decide +kernel
theorem dX1_fillRow_20 : decode cX1_fillRow 20 = .ok (.iload_n 1, 1) := by decide +kernel
theorem dX1_fillRow_21 : decode cX1_fillRow 21 = .ok (.bipush 40, 2) := by decide +kernel
theorem dX1_fillRow_23 : decode cX1_fillRow 23 = .ok (.imul, 1) := by decide +kernel
theorem dX1_fillRow_24 : decode cX1_fillRow 24 = .ok (.iload_n 3, 1) := by decide +kernel
theorem dX1_fillRow_25 : decode cX1_fillRow 25 = .ok (.iadd, 1) := by decide +kernel
theorem dX1_fillRow_26 : decode cX1_fillRow 26 = .ok (.aload_n 2, 1) := by decide +kernel
theorem dX1_fillRow_27 : decode cX1_fillRow 27 = .ok (.iload_n 3, 1) := by decide +kernel
theorem dX1_fillRow_28 : decode cX1_fillRow 28 = .ok (.invokevirtual 58, 3) := by decide +kernel
theorem dX1_fillRow_31 : decode cX1_fillRow 31 = .ok (.bastore, 1) := by decide +kernel
theorem dX1_fillRow_32 : decode cX1_fillRow 32 = .ok (.iconst 0, 1) := by decide +kernel
theorem dX1_fillRow_33 : decode cX1_fillRow 33 = .ok (.istore 4, 2) := by decide +kernel
theorem dX1_fillRow_35 : decode cX1_fillRow 35 = .ok (.iload 4, 2) := by decide +kernel
theorem dX1_fillRow_37 : decode cX1_fillRow 37 = .ok (.bipush 16, 2) := by decide +kernel
theorem dX1_fillRow_39 : decode cX1_fillRow 39 = .ok (.if_icmp .ge 48, 3) := by decide +kernel
theorem dX1_fillRow_42 : decode cX1_fillRow 42 = .ok (.aload_n 2, 1) := by decide +kernel
theorem dX1_fillRow_43 : decode cX1_fillRow 43 = .ok (.iload_n 3, 1) := by decide +kernel
theorem dX1_fillRow_44 : decode cX1_fillRow 44 = .ok (.invokevirtual 58, 3) := by decide +kernel
theorem dX1_fillRow_47 : decode cX1_fillRow 47 = .ok (.ifCond .eq 40, 3) := by decide +kernel
theorem dX1_fillRow_50 : decode cX1_fillRow 50 = .ok (.aload_n 2, 1) := by decide +kernel
theorem dX1_fillRow_51 : decode cX1_fillRow 51 = .ok (.iload_n 3, 1) := by decide +kernel
theorem dX1_fillRow_52 : decode cX1_fillRow 52 = .ok (.iload 4, 2) := by decide +kernel
theorem dX1_fillRow_54 : decode cX1_fillRow 54 = .ok (.invokevirtual 63, 3) := by decide +kernel
theorem dX1_fillRow_57 : decode cX1_fillRow 57 = .ok (.istore 5, 2) := by decide +kernel
theorem dX1_fillRow_59 : decode cX1_fillRow 59 = .ok (.aload_n 0, 1) := by decide +kernel
theorem dX1_fillRow_60 : decode cX1_fillRow 60 = .ok (.getfield 40, 3) := by decide +kernel
theorem dX1_fillRow_63 : decode cX1_fillRow 63 = .ok (.iload_n 1, 1) := by decide +kernel
theorem dX1_fillRow_64 : decode cX1_fillRow 64 = .ok (.aaload, 1) := by decide +kernel
theorem dX1_fillRow_65 : decode cX1_fillRow 65 = .ok (.iload_n 3, 1) := by decide +kernel
theorem dX1_fillRow_66 : decode cX1_fillRow 66 = .ok (.bipush 16, 2) := by decide +kernel
theorem dX1_fillRow_68 : decode cX1_fillRow 68 = .ok (.imul, 1) := by decide +kernel
theorem dX1_fillRow_69 : decode cX1_fillRow 69 = .ok (.iload 4, 2) := by decide +kernel
theorem dX1_fillRow_71 : decode cX1_fillRow 71 = .ok (.iadd, 1) := by decide +kernel
theorem dX1_fillRow_72 : decode cX1_fillRow 72 = .ok (.iload 5, 2) := by decide +kernel
theorem dX1_fillRow_74 : decode cX1_fillRow 74 = .ok (.iastore, 1) := by decide +kernel
theorem dX1_fillRow_75 : decode cX1_fillRow 75 = .ok (.aload_n 2, 1) := by decide +kernel
theorem dX1_fillRow_76 : decode cX1_fillRow 76 = .ok (.iload 5, 2) := by decide +kernel
theorem dX1_fillRow_78 : decode cX1_fillRow 78 = .ok (.invokevirtual 67, 3) := by decide +kernel
theorem dX1_fillRow_81 : decode cX1_fillRow 81 = .ok (.iinc 4 1, 3) := by decide +kernel
theorem dX1_fillRow_84 : decode cX1_fillRow 84 = .ok (.goto (-49), 3) := by decide +kernel
theorem dX1_fillRow_87 : decode cX1_fillRow 87 = .ok (.iinc 3 1, 3) := by decide +kernel
theorem dX1_fillRow_90 : decode cX1_fillRow 90 = .ok (.goto (-80), 3) := by decide +kernel
theorem dX1_fillRow_93 : decode cX1_fillRow 93 = .ok (.return_, 1) := by decide +kernel
theorem dX1_drop_0 : decode cX1_drop 0 = .ok (.aload_n 0, 1) := by decide +kernel
theorem dX1_drop_1 : decode cX1_drop 1 = .ok (.iload_n 1, 1) := by decide +kernel
theorem dX1_drop_2 : decode cX1_drop 2 = .ok (.invokevirtual 71, 3) := by decide +kernel
theorem dX1_drop_5 : decode cX1_drop 5 = .ok (.istore_n 3, 1) := by decide +kernel
theorem dX1_drop_6 : decode cX1_drop 6 = .ok (.iload_n 3, 1) := by decide +kernel
theorem dX1_drop_7 : decode cX1_drop 7 = .ok (.invokestatic 51, 3) := by decide +kernel
theorem dX1_drop_10 : decode cX1_drop 10 = .ok (.ifCond .ne 4, 3) := by decide +kernel
theorem dX1_drop_13 : decode cX1_drop 13 = .ok (.return_, 1) := by decide +kernel
theorem dX1_drop_14 : decode cX1_drop 14 = .ok (.iconst 0, 1) := by decide +kernel
theorem dX1_drop_15 : decode cX1_drop 15 = .ok (.istore 4, 2) := by decide +kernel
theorem dX1_drop_17 : decode cX1_drop 17 = .ok (.iload 4, 2) := by decide +kernel
theorem dX1_drop_19 : decode cX1_drop 19 = .ok (.bipush 40, 2) := by decide +kernel
theorem dX1_drop_21 : decode cX1_drop 21 = .ok (.if_icmp .ge 54, 3) := by decide +kernel
theorem dX1_drop_24 : decode cX1_drop 24 = .ok (.iconst 0, 1) := by decide +kernel
theorem dX1_drop_25 : decode cX1_drop 25 = .ok (.istore 5, 2) := by decide +kernel
theorem dX1_drop_27 : decode cX1_drop 27 = .ok (.iload 5, 2) := by decide +kernel
theorem dX1_drop_29 : decode cX1_drop 29 = .ok (.bipush 16, 2) := by decide +kernel
theorem dX1_drop_31 : decode cX1_drop 31 = .ok (.if_icmp .ge 38, 3) := by decide +kernel
theorem dX1_drop_34 : decode cX1_drop 34 = .ok (.aload_n 0, 1) := by decide +kernel
theorem dX1_drop_35 : decode cX1_drop 35 = .ok (.iload_n 3, 1) := by decide +kernel
theorem dX1_drop_36 : decode cX1_drop 36 = .ok (.iload 4, 2) := by decide +kernel
theorem dX1_drop_38 : decode cX1_drop 38 = .ok (.invokevirtual 75, 3) := by decide +kernel
theorem dX1_drop_41 : decode cX1_drop 41 = .ok (.ifCond .eq 28, 3) := by decide +kernel
theorem dX1_drop_44 : decode cX1_drop 44 = .ok (.aload_n 2, 1) := by decide +kernel
theorem dX1_drop_45 : decode cX1_drop 45 = .ok (.aload_n 0, 1) := by decide +kernel
theorem dX1_drop_46 : decode cX1_drop 46 = .ok (.getfield 40, 3) := by decide +kernel
theorem dX1_drop_49 : decode cX1_drop 49 = .ok (.iload_n 3, 1) := by decide +kernel
theorem dX1_drop_50 : decode cX1_drop 50 = .ok (.aaload, 1) := by decide +kernel
theorem dX1_drop_51 : decode cX1_drop 51 = .ok (.iload 4, 2) := by decide +kernel
theorem dX1_drop_53 : decode cX1_drop 53 = .ok (.bipush 16, 2) := by decide +kernel
theorem dX1_drop_55 : decode cX1_drop 55 = .ok (.imul, 1) := by decide +kernel
theorem dX1_drop_56 : decode cX1_drop 56 = .ok (.iload 5, 2) := by decide +kernel
theorem dX1_drop_58 : decode cX1_drop 58 = .ok (.iadd, 1) := by decide +kernel
theorem dX1_drop_59 : decode cX1_drop 59 = .ok (.iaload, 1) := by decide +kernel
theorem dX1_drop_60 : decode cX1_drop 60 = .ok (.invokevirtual 79, 3) := by decide +kernel
theorem dX1_drop_63 : decode cX1_drop 63 = .ok (.iinc 5 1, 3) := by decide +kernel
theorem dX1_drop_66 : decode cX1_drop 66 = .ok (.goto (-39), 3) := by decide +kernel
theorem dX1_drop_69 : decode cX1_drop 69 = .ok (.iinc 4 1, 3) := by decide +kernel
theorem dX1_drop_72 : decode cX1_drop 72 = .ok (.goto (-55), 3) := by decide +kernel
theorem dX1_drop_75 : decode cX1_drop 75 = .ok (.aload_n 0, 1) := by decide +kernel
theorem dX1_drop_76 : decode cX1_drop 76 = .ok (.getfield 22, 3) := by decide +kernel
theorem dX1_drop_79 : decode cX1_drop 79 = .ok (.iload_n 1, 1) := by decide +kernel
theorem dX1_drop_80 : decode cX1_drop 80 = .ok (.iconst (-1), 1) := by decide +kernel
theorem dX1_drop_81 : decode cX1_drop 81 = .ok (.iastore, 1) := by decide +kernel
theorem dX1_drop_82 : decode cX1_drop 82 = .ok (.aload_n 0, 1) := by decide +kernel
theorem dX1_drop_83 : decode cX1_drop 83 = .ok (.getfield 31, 3) := by decide +kernel
theorem dX1_drop_86 : decode cX1_drop 86 = .ok (.iload_n 3, 1) := by decide +kernel
theorem dX1_drop_87 : decode cX1_drop 87 = .ok (.iconst 0, 1) := by decide +kernel
theorem dX1_drop_88 : decode cX1_drop 88 = .ok (.bastore, 1) := by decide +kernel
theorem dX1_drop_89 : decode cX1_drop 89 = .ok (.aload_n 0, 1) := by decide +kernel
theorem dX1_drop_90 : decode cX1_drop 90 = .ok (.dup, 1) := by decide +kernel
theorem dX1_drop_91 : decode cX1_drop 91 = .ok (.getfield 15, 3) := by decide +kernel
theorem dX1_drop_94 : decode cX1_drop 94 = .ok (.iconst 1, 1) := by decide +kernel
theorem dX1_drop_95 : decode cX1_drop 95 = .ok (.isub, 1) := by decide +kernel
theorem dX1_drop_96 : decode cX1_drop 96 = .ok (.putfield 15, 3) := by decide +kernel
theorem dX1_drop_99 : decode cX1_drop 99 = .ok (.return_, 1) := by decide +kernel
theorem dX1_includes_0 : decode cX1_includes 0 = .ok (.aload_n 0, 1) := by decide +kernel
theorem dX1_includes_1 : decode cX1_includes 1 = .ok (.aload_n 0, 1) := by decide +kernel
theorem dX1_includes_2 : decode cX1_includes 2 = .ok (.iload_n 1, 1) := by decide +kernel
theorem dX1_includes_3 : decode cX1_includes 3 = .ok (.invokevirtual 71, 3) := by decide +kernel
theorem dX1_includes_6 : decode cX1_includes 6 = .ok (.iload_n 2, 1) := by decide +kernel
theorem dX1_includes_7 : decode cX1_includes 7 = .ok (.invokevirtual 75, 3) := by decide +kernel
theorem dX1_includes_10 : decode cX1_includes 10 = .ok (.ireturn, 1) := by decide +kernel
theorem dX1_isInRow_0 : decode cX1_isInRow 0 = .ok (.iload_n 1, 1) := by decide +kernel
theorem dX1_isInRow_1 : decode cX1_isInRow 1 = .ok (.invokestatic 51, 3) := by decide +kernel
theorem dX1_isInRow_4 : decode cX1_isInRow 4 = .ok (.ifCond .eq 31, 3) := by decide +kernel
theorem dX1_isInRow_7 : decode cX1_isInRow 7 = .ok (.iload_n 2, 1) := by decide +kernel
theorem dX1_isInRow_8 : decode cX1_isInRow 8 = .ok (.ifCond .lt 27, 3) := by decide +kernel
theorem dX1_isInRow_11 : decode cX1_isInRow 11 = .ok (.iload_n 2, 1) := by decide +kernel
theorem dX1_isInRow_12 : decode cX1_isInRow 12 = .ok (.bipush 40, 2) := by decide +kernel
theorem dX1_isInRow_14 : decode cX1_isInRow 14 = .ok (.if_icmp .ge 21, 3) := by decide +kernel
theorem dX1_isInRow_17 : decode cX1_isInRow 17 = .ok (.aload_n 0, 1) := by decide +kernel
theorem dX1_isInRow_18 : decode cX1_isInRow 18 = .ok (.getfield 35, 3) := by decide +kernel
theorem dX1_isInRow_21 : decode cX1_isInRow 21 = .ok (.iload_n 1, 1) := by decide +kernel
theorem dX1_isInRow_22 : decode cX1_isInRow 22 = .ok (.bipush 40, 2) := by decide +kernel
theorem dX1_isInRow_24 : decode cX1_isInRow 24 = .ok (.imul, 1) := by decide +kernel
theorem dX1_isInRow_25 : decode cX1_isInRow 25 = .ok (.iload_n 2, 1) := by decide +kernel
theorem dX1_isInRow_26 : decode cX1_isInRow 26 = .ok (.iadd, 1) := by decide +kernel
theorem dX1_isInRow_27 : decode cX1_isInRow 27 = .ok (.baload, 1) := by decide +kernel
theorem dX1_isInRow_28 : decode cX1_isInRow 28 = .ok (.ifCond .eq 7, 3) := by decide +kernel
theorem dX1_isInRow_31 : decode cX1_isInRow 31 = .ok (.iconst 1, 1) := by decide +kernel
theorem dX1_isInRow_32 : decode cX1_isInRow 32 = .ok (.goto 4, 3) := by decide +kernel
theorem dX1_isInRow_35 : decode cX1_isInRow 35 = .ok (.iconst 0, 1) := by decide +kernel
theorem dX1_isInRow_36 : decode cX1_isInRow 36 = .ok (.ireturn, 1) := by decide +kernel
theorem dX1_blockIn_0 : decode cX1_blockIn 0 = .ok (.aload_n 0, 1) := by decide +kernel
theorem dX1_blockIn_1 : decode cX1_blockIn 1 = .ok (.iload_n 1, 1) := by decide +kernel
theorem dX1_blockIn_2 : decode cX1_blockIn 2 = .ok (.invokevirtual 71, 3) := by decide +kernel
theorem dX1_blockIn_5 : decode cX1_blockIn 5 = .ok (.istore 4, 2) := by decide +kernel
theorem dX1_blockIn_7 : decode cX1_blockIn 7 = .ok (.aload_n 0, 1) := by decide +kernel
theorem dX1_blockIn_8 : decode cX1_blockIn 8 = .ok (.iload 4, 2) := by decide +kernel
theorem dX1_blockIn_10 : decode cX1_blockIn 10 = .ok (.iload_n 2, 1) := by decide +kernel
theorem dX1_blockIn_11 : decode cX1_blockIn 11 = .ok (.invokevirtual 75, 3) := by decide +kernel
theorem dX1_blockIn_14 : decode cX1_blockIn 14 = .ok (.ifCond .eq 10, 3) := by decide +kernel
theorem dX1_blockIn_17 : decode cX1_blockIn 17 = .ok (.iload_n 3, 1) := by decide +kernel
theorem dX1_blockIn_18 : decode cX1_blockIn 18 = .ok (.invokestatic 82, 3) := by decide +kernel
theorem dX1_blockIn_21 : decode cX1_blockIn 21 = .ok (.ifCond .ne 5, 3) := by decide +kernel
theorem dX1_blockIn_24 : decode cX1_blockIn 24 = .ok (.iconst (-1), 1) := by decide +kernel
theorem dX1_blockIn_25 : decode cX1_blockIn 25 = .ok (.ireturn, 1) := by decide +kernel
theorem dX1_blockIn_26 : decode cX1_blockIn 26 = .ok (.aload_n 0, 1) := by decide +kernel
theorem dX1_blockIn_27 : decode cX1_blockIn 27 = .ok (.getfield 40, 3) := by decide +kernel
theorem dX1_blockIn_30 : decode cX1_blockIn 30 = .ok (.iload 4, 2) := by decide +kernel
theorem dX1_blockIn_32 : decode cX1_blockIn 32 = .ok (.aaload, 1) := by decide +kernel
theorem dX1_blockIn_33 : decode cX1_blockIn 33 = .ok (.iload_n 2, 1) := by decide +kernel
theorem dX1_blockIn_34 : decode cX1_blockIn 34 = .ok (.bipush 16, 2) := by decide +kernel
theorem dX1_blockIn_36 : decode cX1_blockIn 36 = .ok (.imul, 1) := by decide +kernel
theorem dX1_blockIn_37 : decode cX1_blockIn 37 = .ok (.iload_n 3, 1) := by decide +kernel
theorem dX1_blockIn_38 : decode cX1_blockIn 38 = .ok (.iadd, 1) := by decide +kernel
theorem dX1_blockIn_39 : decode cX1_blockIn 39 = .ok (.iaload, 1) := by decide +kernel
theorem dX1_blockIn_40 : decode cX1_blockIn 40 = .ok (.ireturn, 1) := by decide +kernel
theorem dX1_blocksInFile_0 : decode cX1_blocksInFile 0 = .ok (.lconst 0, 1) := by decide +kernel
theorem dX1_blocksInFile_1 : decode cX1_blocksInFile 1 = .ok (.lstore_n 3, 1) := by decide +kernel
theorem dX1_blocksInFile_2 : decode cX1_blocksInFile 2 = .ok (.iconst 0, 1) := by decide +kernel
theorem dX1_blocksInFile_3 : decode cX1_blocksInFile 3 = .ok (.istore 5, 2) := by decide +kernel
theorem dX1_blocksInFile_5 : decode cX1_blocksInFile 5 = .ok (.iload 5, 2) := by decide +kernel
theorem dX1_blocksInFile_7 : decode cX1_blocksInFile 7 = .ok (.bipush 16, 2) := by decide +kernel
theorem dX1_blocksInFile_9 : decode cX1_blocksInFile 9 = .ok (.if_icmp .ge 32, 3) := by decide +kernel
theorem dX1_blocksInFile_12 : decode cX1_blocksInFile 12 = .ok (.aload_n 0, 1) := by decide +kernel
theorem dX1_blocksInFile_13 : decode cX1_blocksInFile 13 = .ok (.iload_n 1, 1) := by decide +kernel
theorem dX1_blocksInFile_14 : decode cX1_blocksInFile 14 = .ok (.iload_n 2, 1) := by decide +kernel
theorem dX1_blocksInFile_15 : decode cX1_blocksInFile 15 = .ok (.iload 5, 2) := by decide +kernel
theorem dX1_blocksInFile_17 : decode cX1_blocksInFile 17 = .ok (.invokevirtual 85, 3) := by decide +kernel
theorem dX1_blocksInFile_20 : decode cX1_blocksInFile 20 = .ok (.istore 6, 2) := by decide +kernel
theorem dX1_blocksInFile_22 : decode cX1_blocksInFile 22 = .ok (.iload 6, 2) := by decide +kernel
theorem dX1_blocksInFile_24 : decode cX1_blocksInFile 24 = .ok (.iconst (-1), 1) := by decide +kernel
theorem dX1_blocksInFile_25 : decode cX1_blocksInFile 25 = .ok (.if_icmp .eq 10, 3) := by decide +kernel
theorem dX1_blocksInFile_28 : decode cX1_blocksInFile 28 = .ok (.lload_n 3, 1) := by decide +kernel
theorem dX1_blocksInFile_29 : decode cX1_blocksInFile 29 = .ok (.lconst 1, 1) := by decide +kernel
theorem dX1_blocksInFile_30 : decode cX1_blocksInFile 30 = .ok (.iload 6, 2) := by decide +kernel
theorem dX1_blocksInFile_32 : decode cX1_blocksInFile 32 = .ok (.lshl, 1) := by decide +kernel
theorem dX1_blocksInFile_33 : decode cX1_blocksInFile 33 = .ok (.lor, 1) := by decide +kernel
theorem dX1_blocksInFile_34 : decode cX1_blocksInFile 34 = .ok (.lstore_n 3, 1) := by decide +kernel
theorem dX1_blocksInFile_35 : decode cX1_blocksInFile 35 = .ok (.iinc 5 1, 3) := by decide +kernel
theorem dX1_blocksInFile_38 : decode cX1_blocksInFile 38 = .ok (.goto (-33), 3) := by decide +kernel
theorem dX1_blocksInFile_41 : decode cX1_blocksInFile 41 = .ok (.lload_n 3, 1) := by decide +kernel
theorem dX1_blocksInFile_42 : decode cX1_blocksInFile 42 = .ok (.lreturn, 1) := by decide +kernel
theorem dX1_leastKept_0 : decode cX1_leastKept 0 = .ok (.iconst (-1), 1) := by decide +kernel
theorem dX1_leastKept_1 : decode cX1_leastKept 1 = .ok (.istore_n 1, 1) := by decide +kernel
theorem dX1_leastKept_2 : decode cX1_leastKept 2 = .ok (.iconst 0, 1) := by decide +kernel
theorem dX1_leastKept_3 : decode cX1_leastKept 3 = .ok (.istore_n 2, 1) := by decide +kernel
theorem dX1_leastKept_4 : decode cX1_leastKept 4 = .ok (.iload_n 2, 1) := by decide +kernel
theorem dX1_leastKept_5 : decode cX1_leastKept 5 = .ok (.bipush 30, 2) := by decide +kernel
theorem dX1_leastKept_7 : decode cX1_leastKept 7 = .ok (.if_icmp .ge 51, 3) := by decide +kernel
theorem dX1_leastKept_10 : decode cX1_leastKept 10 = .ok (.iload_n 1, 1) := by decide +kernel
theorem dX1_leastKept_11 : decode cX1_leastKept 11 = .ok (.iconst (-1), 1) := by decide +kernel
theorem dX1_leastKept_12 : decode cX1_leastKept 12 = .ok (.if_icmp .eq 18, 3) := by decide +kernel
theorem dX1_leastKept_15 : decode cX1_leastKept 15 = .ok (.aload_n 0, 1) := by decide +kernel
theorem dX1_leastKept_16 : decode cX1_leastKept 16 = .ok (.getfield 18, 3) := by decide +kernel
theorem dX1_leastKept_19 : decode cX1_leastKept 19 = .ok (.iload_n 2, 1) := by decide +kernel
theorem dX1_leastKept_20 : decode cX1_leastKept 20 = .ok (.iaload, 1) := by decide +kernel
theorem dX1_leastKept_21 : decode cX1_leastKept 21 = .ok (.aload_n 0, 1) := by decide +kernel
theorem dX1_leastKept_22 : decode cX1_leastKept 22 = .ok (.getfield 18, 3) := by decide +kernel
theorem dX1_leastKept_25 : decode cX1_leastKept 25 = .ok (.iload_n 1, 1) := by decide +kernel
theorem dX1_leastKept_26 : decode cX1_leastKept 26 = .ok (.iaload, 1) := by decide +kernel
theorem dX1_leastKept_27 : decode cX1_leastKept 27 = .ok (.if_icmp .ge 7, 3) := by decide +kernel
theorem dX1_leastKept_30 : decode cX1_leastKept 30 = .ok (.iconst 1, 1) := by decide +kernel
theorem dX1_leastKept_31 : decode cX1_leastKept 31 = .ok (.goto 4, 3) := by decide +kernel
theorem dX1_leastKept_34 : decode cX1_leastKept 34 = .ok (.iconst 0, 1) := by decide +kernel
theorem dX1_leastKept_35 : decode cX1_leastKept 35 = .ok (.istore_n 3, 1) := by decide +kernel
theorem dX1_leastKept_36 : decode cX1_leastKept 36 = .ok (.aload_n 0, 1) := by decide +kernel
theorem dX1_leastKept_37 : decode cX1_leastKept 37 = .ok (.getfield 22, 3) := by decide +kernel
theorem dX1_leastKept_40 : decode cX1_leastKept 40 = .ok (.iload_n 2, 1) := by decide +kernel
theorem dX1_leastKept_41 : decode cX1_leastKept 41 = .ok (.iaload, 1) := by decide +kernel
theorem dX1_leastKept_42 : decode cX1_leastKept 42 = .ok (.iconst (-1), 1) := by decide +kernel
theorem dX1_leastKept_43 : decode cX1_leastKept 43 = .ok (.if_icmp .eq 9, 3) := by decide +kernel
theorem dX1_leastKept_46 : decode cX1_leastKept 46 = .ok (.iload_n 3, 1) := by decide +kernel
theorem dX1_leastKept_47 : decode cX1_leastKept 47 = .ok (.ifCond .eq 5, 3) := by decide +kernel
theorem dX1_leastKept_50 : decode cX1_leastKept 50 = .ok (.iload_n 2, 1) := by decide +kernel
theorem dX1_leastKept_51 : decode cX1_leastKept 51 = .ok (.istore_n 1, 1) := by decide +kernel
theorem dX1_leastKept_52 : decode cX1_leastKept 52 = .ok (.iinc 2 1, 3) := by decide +kernel
theorem dX1_leastKept_55 : decode cX1_leastKept 55 = .ok (.goto (-51), 3) := by decide +kernel
theorem dX1_leastKept_58 : decode cX1_leastKept 58 = .ok (.iload_n 1, 1) := by decide +kernel
theorem dX1_leastKept_59 : decode cX1_leastKept 59 = .ok (.ireturn, 1) := by decide +kernel
theorem dX1_walkKept_0 : decode cX1_walkKept 0 = .ok (.iconst 0, 1) := by decide +kernel
theorem dX1_walkKept_1 : decode cX1_walkKept 1 = .ok (.istore_n 2, 1) := by decide +kernel
theorem dX1_walkKept_2 : decode cX1_walkKept 2 = .ok (.iload_n 2, 1) := by decide +kernel
theorem dX1_walkKept_3 : decode cX1_walkKept 3 = .ok (.bipush 8, 2) := by decide +kernel
theorem dX1_walkKept_5 : decode cX1_walkKept 5 = .ok (.if_icmp .ge 75, 3) := by decide +kernel
theorem dX1_walkKept_8 : decode cX1_walkKept 8 = .ok (.iconst 0, 1) := by decide +kernel
theorem dX1_walkKept_9 : decode cX1_walkKept 9 = .ok (.istore_n 3, 1) := by decide +kernel
theorem dX1_walkKept_10 : decode cX1_walkKept 10 = .ok (.iload_n 3, 1) := by decide +kernel
theorem dX1_walkKept_11 : decode cX1_walkKept 11 = .ok (.bipush 40, 2) := by decide +kernel
theorem dX1_walkKept_13 : decode cX1_walkKept 13 = .ok (.if_icmp .ge 61, 3) := by decide +kernel
theorem dX1_walkKept_16 : decode cX1_walkKept 16 = .ok (.aload_n 0, 1) := by decide +kernel
theorem dX1_walkKept_17 : decode cX1_walkKept 17 = .ok (.getfield 31, 3) := by decide +kernel
theorem dX1_walkKept_20 : decode cX1_walkKept 20 = .ok (.iload_n 2, 1) := by decide +kernel
theorem dX1_walkKept_21 : decode cX1_walkKept 21 = .ok (.baload, 1) := by decide +kernel
theorem dX1_walkKept_22 : decode cX1_walkKept 22 = .ok (.ifCond .eq 52, 3) := by decide +kernel
theorem dX1_walkKept_25 : decode cX1_walkKept 25 = .ok (.iconst 0, 1) := by decide +kernel
theorem dX1_walkKept_26 : decode cX1_walkKept 26 = .ok (.istore 4, 2) := by decide +kernel
theorem dX1_walkKept_28 : decode cX1_walkKept 28 = .ok (.iload 4, 2) := by decide +kernel
theorem dX1_walkKept_30 : decode cX1_walkKept 30 = .ok (.bipush 16, 2) := by decide +kernel
theorem dX1_walkKept_32 : decode cX1_walkKept 32 = .ok (.if_icmp .ge 36, 3) := by decide +kernel
theorem dX1_walkKept_35 : decode cX1_walkKept 35 = .ok (.aload_n 0, 1) := by decide +kernel
theorem dX1_walkKept_36 : decode cX1_walkKept 36 = .ok (.iload_n 2, 1) := by decide +kernel
theorem dX1_walkKept_37 : decode cX1_walkKept 37 = .ok (.iload_n 3, 1) := by decide +kernel
theorem dX1_walkKept_38 : decode cX1_walkKept 38 = .ok (.invokevirtual 75, 3) := by decide +kernel
theorem dX1_walkKept_41 : decode cX1_walkKept 41 = .ok (.ifCond .eq 27, 3) := by decide +kernel
theorem dX1_walkKept_44 : decode cX1_walkKept 44 = .ok (.aload_n 1, 1) := by decide +kernel
theorem dX1_walkKept_45 : decode cX1_walkKept 45 = .ok (.aload_n 0, 1) := by decide +kernel
theorem dX1_walkKept_46 : decode cX1_walkKept 46 = .ok (.getfield 40, 3) := by decide +kernel
theorem dX1_walkKept_49 : decode cX1_walkKept 49 = .ok (.iload_n 2, 1) := by decide +kernel
theorem dX1_walkKept_50 : decode cX1_walkKept 50 = .ok (.aaload, 1) := by decide +kernel
theorem dX1_walkKept_51 : decode cX1_walkKept 51 = .ok (.iload_n 3, 1) := by decide +kernel
theorem dX1_walkKept_52 : decode cX1_walkKept 52 = .ok (.bipush 16, 2) := by decide +kernel
theorem dX1_walkKept_54 : decode cX1_walkKept 54 = .ok (.imul, 1) := by decide +kernel
theorem dX1_walkKept_55 : decode cX1_walkKept 55 = .ok (.iload 4, 2) := by decide +kernel
theorem dX1_walkKept_57 : decode cX1_walkKept 57 = .ok (.iadd, 1) := by decide +kernel
theorem dX1_walkKept_58 : decode cX1_walkKept 58 = .ok (.iaload, 1) := by decide +kernel
theorem dX1_walkKept_59 : decode cX1_walkKept 59 = .ok (.invokestatic 88, 3) := by decide +kernel
theorem dX1_walkKept_62 : decode cX1_walkKept 62 = .ok (.iinc 4 1, 3) := by decide +kernel
theorem dX1_walkKept_65 : decode cX1_walkKept 65 = .ok (.goto (-37), 3) := by decide +kernel
theorem dX1_walkKept_68 : decode cX1_walkKept 68 = .ok (.iinc 3 1, 3) := by decide +kernel
theorem dX1_walkKept_71 : decode cX1_walkKept 71 = .ok (.goto (-61), 3) := by decide +kernel
theorem dX1_walkKept_74 : decode cX1_walkKept 74 = .ok (.iinc 2 1, 3) := by decide +kernel
theorem dX1_walkKept_77 : decode cX1_walkKept 77 = .ok (.goto (-75), 3) := by decide +kernel
theorem dX1_walkKept_80 : decode cX1_walkKept 80 = .ok (.return_, 1) := by decide +kernel
theorem dX2_init_0 : decode cX2_init 0 = .ok (.aload_n 0, 1) := by decide +kernel
theorem dX2_init_1 : decode cX2_init 1 = .ok (.invokespecial 3, 3) := by decide +kernel
theorem dX2_init_4 : decode cX2_init 4 = .ok (.aload_n 0, 1) := by decide +kernel
theorem dX2_init_5 : decode cX2_init 5 = .ok (.iconst 0, 1) := by decide +kernel
theorem dX2_init_6 : decode cX2_init 6 = .ok (.putfield 9, 3) := by decide +kernel
theorem dX2_init_9 : decode cX2_init 9 = .ok (.aload_n 0, 1) := by decide +kernel
theorem dX2_init_10 : decode cX2_init 10 = .ok (.bipush 40, 2) := by decide +kernel
theorem dX2_init_12 : decode cX2_init 12 = .ok (.newarray .int, 2) := by decide +kernel
theorem dX2_init_14 : decode cX2_init 14 = .ok (.putfield 15, 3) := by decide +kernel
theorem dX2_init_17 : decode cX2_init 17 = .ok (.aload_n 0, 1) := by decide +kernel
theorem dX2_init_18 : decode cX2_init 18 = .ok (.bipush 40, 2) := by decide +kernel
theorem dX2_init_20 : decode cX2_init 20 = .ok (.newarray .int, 2) := by decide +kernel
theorem dX2_init_22 : decode cX2_init 22 = .ok (.putfield 19, 3) := by decide +kernel
theorem dX2_init_25 : decode cX2_init 25 = .ok (.aload_n 0, 1) := by decide +kernel
theorem dX2_init_26 : decode cX2_init 26 = .ok (.bipush 40, 2) := by decide +kernel
theorem dX2_init_28 : decode cX2_init 28 = .ok (.newarray .boolean, 2) := by decide +kernel
theorem dX2_init_30 : decode cX2_init 30 = .ok (.putfield 22, 3) := by decide +kernel
theorem dX2_init_33 : decode cX2_init 33 = .ok (.aload_n 0, 1) := by decide +kernel
theorem dX2_init_34 : decode cX2_init 34 = .ok (.sipush 640, 3) := by decide +kernel
theorem dX2_init_37 : decode cX2_init 37 = .ok (.newarray .int, 2) := by decide +kernel
theorem dX2_init_39 : decode cX2_init 39 = .ok (.putfield 26, 3) := by decide +kernel
theorem dX2_init_42 : decode cX2_init 42 = .ok (.aload_n 0, 1) := by decide +kernel
theorem dX2_init_43 : decode cX2_init 43 = .ok (.getfield 26, 3) := by decide +kernel
theorem dX2_init_46 : decode cX2_init 46 = .ok (.iconst (-1), 1) := by decide +kernel
theorem dX2_init_47 : decode cX2_init 47 = .ok (.invokestatic 29, 3) := by decide +kernel
theorem dX2_init_50 : decode cX2_init 50 = .ok (.aload_n 0, 1) := by decide +kernel
theorem dX2_init_51 : decode cX2_init 51 = .ok (.bipush 64, 2) := by decide +kernel
theorem dX2_init_53 : decode cX2_init 53 = .ok (.newarray .int, 2) := by decide +kernel
theorem dX2_init_55 : decode cX2_init 55 = .ok (.putfield 35, 3) := by decide +kernel
theorem dX2_init_58 : decode cX2_init 58 = .ok (.aload_n 0, 1) := by decide +kernel
theorem dX2_init_59 : decode cX2_init 59 = .ok (.bipush 64, 2) := by decide +kernel
theorem dX2_init_61 : decode cX2_init 61 = .ok (.newarray .int, 2) := by decide +kernel
theorem dX2_init_63 : decode cX2_init 63 = .ok (.putfield 38, 3) := by decide +kernel
theorem dX2_init_66 : decode cX2_init 66 = .ok (.aload_n 0, 1) := by decide +kernel
theorem dX2_init_67 : decode cX2_init 67 = .ok (.iconst 4, 1) := by decide +kernel
theorem dX2_init_68 : decode cX2_init 68 = .ok (.newarray .int, 2) := by decide +kernel
theorem dX2_init_70 : decode cX2_init 70 = .ok (.putfield 41, 3) := by decide +kernel
theorem dX2_init_73 : decode cX2_init 73 = .ok (.aload_n 0, 1) := by decide +kernel
theorem dX2_init_74 : decode cX2_init 74 = .ok (.iconst 0, 1) := by decide +kernel
theorem dX2_init_75 : decode cX2_init 75 = .ok (.putfield 44, 3) := by decide +kernel
theorem dX2_init_78 : decode cX2_init 78 = .ok (.return_, 1) := by decide +kernel
theorem dX2_copyFrom_0 : decode cX2_copyFrom 0 = .ok (.aload_n 0, 1) := by decide +kernel
theorem dX2_copyFrom_1 : decode cX2_copyFrom 1 = .ok (.aload_n 1, 1) := by decide +kernel
theorem dX2_copyFrom_2 : decode cX2_copyFrom 2 = .ok (.getfield 9, 3) := by decide +kernel
theorem dX2_copyFrom_5 : decode cX2_copyFrom 5 = .ok (.putfield 9, 3) := by decide +kernel
theorem dX2_copyFrom_8 : decode cX2_copyFrom 8 = .ok (.aload_n 1, 1) := by decide +kernel
theorem dX2_copyFrom_9 : decode cX2_copyFrom 9 = .ok (.getfield 15, 3) := by decide +kernel
theorem dX2_copyFrom_12 : decode cX2_copyFrom 12 = .ok (.iconst 0, 1) := by decide +kernel
theorem dX2_copyFrom_13 : decode cX2_copyFrom 13 = .ok (.aload_n 0, 1) := by decide +kernel
theorem dX2_copyFrom_14 : decode cX2_copyFrom 14 = .ok (.getfield 15, 3) := by decide +kernel
theorem dX2_copyFrom_17 : decode cX2_copyFrom 17 = .ok (.iconst 0, 1) := by decide +kernel
theorem dX2_copyFrom_18 : decode cX2_copyFrom 18 = .ok (.bipush 40, 2) := by decide +kernel
theorem dX2_copyFrom_20 : decode cX2_copyFrom 20 = .ok (.invokestatic 47, 3) := by decide +kernel
theorem dX2_copyFrom_23 : decode cX2_copyFrom 23 = .ok (.aload_n 1, 1) := by decide +kernel
theorem dX2_copyFrom_24 : decode cX2_copyFrom 24 = .ok (.getfield 19, 3) := by decide +kernel
theorem dX2_copyFrom_27 : decode cX2_copyFrom 27 = .ok (.iconst 0, 1) := by decide +kernel
theorem dX2_copyFrom_28 : decode cX2_copyFrom 28 = .ok (.aload_n 0, 1) := by decide +kernel
theorem dX2_copyFrom_29 : decode cX2_copyFrom 29 = .ok (.getfield 19, 3) := by decide +kernel
theorem dX2_copyFrom_32 : decode cX2_copyFrom 32 = .ok (.iconst 0, 1) := by decide +kernel
theorem dX2_copyFrom_33 : decode cX2_copyFrom 33 = .ok (.bipush 40, 2) := by decide +kernel
theorem dX2_copyFrom_35 : decode cX2_copyFrom 35 = .ok (.invokestatic 47, 3) := by decide +kernel
theorem dX2_copyFrom_38 : decode cX2_copyFrom 38 = .ok (.iconst 0, 1) := by decide +kernel
theorem dX2_copyFrom_39 : decode cX2_copyFrom 39 = .ok (.istore_n 2, 1) := by decide +kernel
theorem dX2_copyFrom_40 : decode cX2_copyFrom 40 = .ok (.iload_n 2, 1) := by decide +kernel
theorem dX2_copyFrom_41 : decode cX2_copyFrom 41 = .ok (.bipush 40, 2) := by decide +kernel
theorem dX2_copyFrom_43 : decode cX2_copyFrom 43 = .ok (.if_icmp .ge 21, 3) := by decide +kernel
theorem dX2_copyFrom_46 : decode cX2_copyFrom 46 = .ok (.aload_n 0, 1) := by decide +kernel
theorem dX2_copyFrom_47 : decode cX2_copyFrom 47 = .ok (.getfield 22, 3) := by decide +kernel
theorem dX2_copyFrom_50 : decode cX2_copyFrom 50 = .ok (.iload_n 2, 1) := by decide +kernel
theorem dX2_copyFrom_51 : decode cX2_copyFrom 51 = .ok (.aload_n 1, 1) := by decide +kernel
theorem dX2_copyFrom_52 : decode cX2_copyFrom 52 = .ok (.getfield 22, 3) := by decide +kernel
theorem dX2_copyFrom_55 : decode cX2_copyFrom 55 = .ok (.iload_n 2, 1) := by decide +kernel
theorem dX2_copyFrom_56 : decode cX2_copyFrom 56 = .ok (.baload, 1) := by decide +kernel
theorem dX2_copyFrom_57 : decode cX2_copyFrom 57 = .ok (.bastore, 1) := by decide +kernel
theorem dX2_copyFrom_58 : decode cX2_copyFrom 58 = .ok (.iinc 2 1, 3) := by decide +kernel
theorem dX2_copyFrom_61 : decode cX2_copyFrom 61 = .ok (.goto (-21), 3) := by decide +kernel
theorem dX2_copyFrom_64 : decode cX2_copyFrom 64 = .ok (.aload_n 1, 1) := by decide +kernel
theorem dX2_copyFrom_65 : decode cX2_copyFrom 65 = .ok (.getfield 26, 3) := by decide +kernel
theorem dX2_copyFrom_68 : decode cX2_copyFrom 68 = .ok (.iconst 0, 1) := by decide +kernel
theorem dX2_copyFrom_69 : decode cX2_copyFrom 69 = .ok (.aload_n 0, 1) := by decide +kernel
theorem dX2_copyFrom_70 : decode cX2_copyFrom 70 = .ok (.getfield 26, 3) := by decide +kernel
theorem dX2_copyFrom_73 : decode cX2_copyFrom 73 = .ok (.iconst 0, 1) := by decide +kernel
theorem dX2_copyFrom_74 : decode cX2_copyFrom 74 = .ok (.sipush 640, 3) := by decide +kernel
theorem dX2_copyFrom_77 : decode cX2_copyFrom 77 = .ok (.invokestatic 47, 3) := by decide +kernel
theorem dX2_copyFrom_80 : decode cX2_copyFrom 80 = .ok (.aload_n 1, 1) := by decide +kernel
theorem dX2_copyFrom_81 : decode cX2_copyFrom 81 = .ok (.getfield 35, 3) := by decide +kernel
theorem dX2_copyFrom_84 : decode cX2_copyFrom 84 = .ok (.iconst 0, 1) := by decide +kernel
theorem dX2_copyFrom_85 : decode cX2_copyFrom 85 = .ok (.aload_n 0, 1) := by decide +kernel
theorem dX2_copyFrom_86 : decode cX2_copyFrom 86 = .ok (.getfield 35, 3) := by decide +kernel
theorem dX2_copyFrom_89 : decode cX2_copyFrom 89 = .ok (.iconst 0, 1) := by decide +kernel
theorem dX2_copyFrom_90 : decode cX2_copyFrom 90 = .ok (.bipush 64, 2) := by decide +kernel
theorem dX2_copyFrom_92 : decode cX2_copyFrom 92 = .ok (.invokestatic 47, 3) := by decide +kernel
theorem dX2_copyFrom_95 : decode cX2_copyFrom 95 = .ok (.aload_n 1, 1) := by decide +kernel
theorem dX2_copyFrom_96 : decode cX2_copyFrom 96 = .ok (.getfield 38, 3) := by decide +kernel
theorem dX2_copyFrom_99 : decode cX2_copyFrom 99 = .ok (.iconst 0, 1) := by decide +kernel
theorem dX2_copyFrom_100 : decode cX2_copyFrom 100 = .ok (.aload_n 0, 1) := by decide +kernel
theorem dX2_copyFrom_101 : decode cX2_copyFrom 101 = .ok (.getfield 38, 3) := by decide +kernel
theorem dX2_copyFrom_104 : decode cX2_copyFrom 104 = .ok (.iconst 0, 1) := by decide +kernel
theorem dX2_copyFrom_105 : decode cX2_copyFrom 105 = .ok (.bipush 64, 2) := by decide +kernel
theorem dX2_copyFrom_107 : decode cX2_copyFrom 107 = .ok (.invokestatic 47, 3) := by decide +kernel
theorem dX2_copyFrom_110 : decode cX2_copyFrom 110 = .ok (.aload_n 1, 1) := by decide +kernel
theorem dX2_copyFrom_111 : decode cX2_copyFrom 111 = .ok (.getfield 41, 3) := by decide +kernel
theorem dX2_copyFrom_114 : decode cX2_copyFrom 114 = .ok (.iconst 0, 1) := by decide +kernel
theorem dX2_copyFrom_115 : decode cX2_copyFrom 115 = .ok (.aload_n 0, 1) := by decide +kernel
theorem dX2_copyFrom_116 : decode cX2_copyFrom 116 = .ok (.getfield 41, 3) := by decide +kernel
theorem dX2_copyFrom_119 : decode cX2_copyFrom 119 = .ok (.iconst 0, 1) := by decide +kernel
theorem dX2_copyFrom_120 : decode cX2_copyFrom 120 = .ok (.iconst 4, 1) := by decide +kernel
theorem dX2_copyFrom_121 : decode cX2_copyFrom 121 = .ok (.invokestatic 47, 3) := by decide +kernel
theorem dX2_copyFrom_124 : decode cX2_copyFrom 124 = .ok (.aload_n 0, 1) := by decide +kernel
theorem dX2_copyFrom_125 : decode cX2_copyFrom 125 = .ok (.aload_n 1, 1) := by decide +kernel
theorem dX2_copyFrom_126 : decode cX2_copyFrom 126 = .ok (.getfield 44, 3) := by decide +kernel
theorem dX2_copyFrom_129 : decode cX2_copyFrom 129 = .ok (.putfield 44, 3) := by decide +kernel
theorem dX2_copyFrom_132 : decode cX2_copyFrom 132 = .ok (.return_, 1) := by decide +kernel
theorem dX2_entryTotal_0 : decode cX2_entryTotal 0 = .ok (.aload_n 0, 1) := by decide +kernel
theorem dX2_entryTotal_1 : decode cX2_entryTotal 1 = .ok (.getfield 44, 3) := by decide +kernel
theorem dX2_entryTotal_4 : decode cX2_entryTotal 4 = .ok (.ireturn, 1) := by decide +kernel
theorem dX2_setEntries_0 : decode cX2_setEntries 0 = .ok (.aload_n 0, 1) := by decide +kernel
theorem dX2_setEntries_1 : decode cX2_setEntries 1 = .ok (.iload_n 1, 1) := by decide +kernel
theorem dX2_setEntries_2 : decode cX2_setEntries 2 = .ok (.putfield 44, 3) := by decide +kernel
theorem dX2_setEntries_5 : decode cX2_setEntries 5 = .ok (.return_, 1) := by decide +kernel
theorem dX2_fileTotal_0 : decode cX2_fileTotal 0 = .ok (.aload_n 0, 1) := by decide +kernel
theorem dX2_fileTotal_1 : decode cX2_fileTotal 1 = .ok (.getfield 9, 3) := by decide +kernel
theorem dX2_fileTotal_4 : decode cX2_fileTotal 4 = .ok (.ireturn, 1) := by decide +kernel
theorem dX2_hasFile_0 : decode cX2_hasFile 0 = .ok (.iload_n 1, 1) := by decide +kernel
theorem dX2_hasFile_1 : decode cX2_hasFile 1 = .ok (.ifCond .lt 21, 3) := by decide +kernel
theorem dX2_hasFile_4 : decode cX2_hasFile 4 = .ok (.iload_n 1, 1) := by decide +kernel
theorem dX2_hasFile_5 : decode cX2_hasFile 5 = .ok (.aload_n 0, 1) := by decide +kernel
theorem dX2_hasFile_6 : decode cX2_hasFile 6 = .ok (.getfield 9, 3) := by decide +kernel
theorem dX2_hasFile_9 : decode cX2_hasFile 9 = .ok (.if_icmp .ge 13, 3) := by decide +kernel
theorem dX2_hasFile_12 : decode cX2_hasFile 12 = .ok (.iload_n 1, 1) := by decide +kernel
theorem dX2_hasFile_13 : decode cX2_hasFile 13 = .ok (.bipush 40, 2) := by decide +kernel
theorem dX2_hasFile_15 : decode cX2_hasFile 15 = .ok (.if_icmp .ge 7, 3) := by decide +kernel
theorem dX2_hasFile_18 : decode cX2_hasFile 18 = .ok (.iconst 1, 1) := by decide +kernel
theorem dX2_hasFile_19 : decode cX2_hasFile 19 = .ok (.goto 4, 3) := by decide +kernel
theorem dX2_hasFile_22 : decode cX2_hasFile 22 = .ok (.iconst 0, 1) := by decide +kernel
theorem dX2_hasFile_23 : decode cX2_hasFile 23 = .ok (.ireturn, 1) := by decide +kernel
theorem dX2_addFile_0 : decode cX2_addFile 0 = .ok (.aload_n 0, 1) := by decide +kernel
theorem dX2_addFile_1 : decode cX2_addFile 1 = .ok (.getfield 9, 3) := by decide +kernel
theorem dX2_addFile_4 : decode cX2_addFile 4 = .ok (.bipush 40, 2) := by decide +kernel
theorem dX2_addFile_6 : decode cX2_addFile 6 = .ok (.if_icmp .lt 5, 3) := by decide +kernel
theorem dX2_addFile_9 : decode cX2_addFile 9 = .ok (.iconst (-1), 1) := by decide +kernel
theorem dX2_addFile_10 : decode cX2_addFile 10 = .ok (.ireturn, 1) := by decide +kernel
theorem dX2_addFile_11 : decode cX2_addFile 11 = .ok (.aload_n 0, 1) := by decide +kernel
theorem dX2_addFile_12 : decode cX2_addFile 12 = .ok (.getfield 9, 3) := by decide +kernel
theorem dX2_addFile_15 : decode cX2_addFile 15 = .ok (.istore_n 2, 1) := by decide +kernel
theorem dX2_addFile_16 : decode cX2_addFile 16 = .ok (.aload_n 0, 1) := by decide +kernel
theorem dX2_addFile_17 : decode cX2_addFile 17 = .ok (.getfield 15, 3) := by decide +kernel
theorem dX2_addFile_20 : decode cX2_addFile 20 = .ok (.iload_n 2, 1) := by decide +kernel
theorem dX2_addFile_21 : decode cX2_addFile 21 = .ok (.iload_n 1, 1) := by decide +kernel
theorem dX2_addFile_22 : decode cX2_addFile 22 = .ok (.iastore, 1) := by decide +kernel
theorem dX2_addFile_23 : decode cX2_addFile 23 = .ok (.aload_n 0, 1) := by decide +kernel
theorem dX2_addFile_24 : decode cX2_addFile 24 = .ok (.getfield 19, 3) := by decide +kernel
theorem dX2_addFile_27 : decode cX2_addFile 27 = .ok (.iload_n 2, 1) := by decide +kernel
theorem dX2_addFile_28 : decode cX2_addFile 28 = .ok (.iconst 1, 1) := by decide +kernel
theorem dX2_addFile_29 : decode cX2_addFile 29 = .ok (.iastore, 1) := by decide +kernel
theorem dX2_addFile_30 : decode cX2_addFile 30 = .ok (.aload_n 0, 1) := by decide +kernel
theorem dX2_addFile_31 : decode cX2_addFile 31 = .ok (.getfield 22, 3) := by decide +kernel
theorem dX2_addFile_34 : decode cX2_addFile 34 = .ok (.iload_n 2, 1) := by decide +kernel
theorem dX2_addFile_35 : decode cX2_addFile 35 = .ok (.iconst 1, 1) := by decide +kernel
theorem dX2_addFile_36 : decode cX2_addFile 36 = .ok (.bastore, 1) := by decide +kernel
theorem dX2_addFile_37 : decode cX2_addFile 37 = .ok (.aload_n 0, 1) := by decide +kernel
theorem dX2_addFile_38 : decode cX2_addFile 38 = .ok (.iload_n 2, 1) := by decide +kernel
theorem dX2_addFile_39 : decode cX2_addFile 39 = .ok (.iconst 1, 1) := by decide +kernel
theorem dX2_addFile_40 : decode cX2_addFile 40 = .ok (.iadd, 1) := by decide +kernel
theorem dX2_addFile_41 : decode cX2_addFile 41 = .ok (.putfield 9, 3) := by decide +kernel
theorem dX2_addFile_44 : decode cX2_addFile 44 = .ok (.iload_n 2, 1) := by decide +kernel
theorem dX2_addFile_45 : decode cX2_addFile 45 = .ok (.ireturn, 1) := by decide +kernel
theorem dX2_removeFile_0 : decode cX2_removeFile 0 = .ok (.aload_n 0, 1) := by decide +kernel
theorem dX2_removeFile_1 : decode cX2_removeFile 1 = .ok (.iload_n 1, 1) := by decide +kernel
theorem dX2_removeFile_2 : decode cX2_removeFile 2 = .ok (.invokevirtual 53, 3) := by decide +kernel
theorem dX2_removeFile_5 : decode cX2_removeFile 5 = .ok (.ifCond .eq 31, 3) := by decide +kernel
theorem dX2_removeFile_8 : decode cX2_removeFile 8 = .ok (.aload_n 0, 1) := by decide +kernel
theorem dX2_removeFile_9 : decode cX2_removeFile 9 = .ok (.getfield 22, 3) := by decide +kernel
theorem dX2_removeFile_12 : decode cX2_removeFile 12 = .ok (.iload_n 1, 1) := by decide +kernel
theorem dX2_removeFile_13 : decode cX2_removeFile 13 = .ok (.iconst 0, 1) := by decide +kernel
theorem dX2_removeFile_14 : decode cX2_removeFile 14 = .ok (.bastore, 1) := by decide +kernel
theorem dX2_removeFile_15 : decode cX2_removeFile 15 = .ok (.iconst 0, 1) := by decide +kernel
theorem dX2_removeFile_16 : decode cX2_removeFile 16 = .ok (.istore_n 2, 1) := by decide +kernel
theorem dX2_removeFile_17 : decode cX2_removeFile 17 = .ok (.iload_n 2, 1) := by decide +kernel
theorem dX2_removeFile_18 : decode cX2_removeFile 18 = .ok (.bipush 16, 2) := by decide +kernel
theorem dX2_removeFile_20 : decode cX2_removeFile 20 = .ok (.if_icmp .ge 16, 3) := by decide +kernel
theorem dX2_removeFile_23 : decode cX2_removeFile 23 = .ok (.aload_n 0, 1) := by decide +kernel
theorem dX2_removeFile_24 : decode cX2_removeFile 24 = .ok (.iload_n 1, 1) := by decide +kernel
theorem dX2_removeFile_25 : decode cX2_removeFile 25 = .ok (.iload_n 2, 1) := by decide +kernel
theorem dX2_removeFile_26 : decode cX2_removeFile 26 = .ok (.iconst (-1), 1) := by decide +kernel
theorem dX2_removeFile_27 : decode cX2_removeFile 27 = .ok (.invokevirtual 57, 3) := by decide +kernel
theorem dX2_removeFile_30 : decode cX2_removeFile 30 = .ok (.iinc 2 1, 3) := by decide +kernel
theorem dX2_removeFile_33 : decode cX2_removeFile 33 = .ok (.goto (-16), 3) := by decide +kernel
theorem dX2_removeFile_36 : decode cX2_removeFile 36 = .ok (.return_, 1) := by decide +kernel
theorem dX2_isAlive_0 : decode cX2_isAlive 0 = .ok (.aload_n 0, 1) := by decide +kernel
theorem dX2_isAlive_1 : decode cX2_isAlive 1 = .ok (.iload_n 1, 1) := by decide +kernel
theorem dX2_isAlive_2 : decode cX2_isAlive 2 = .ok (.invokevirtual 53, 3) := by decide +kernel
theorem dX2_isAlive_5 : decode cX2_isAlive 5 = .ok (.ifCond .eq 16, 3) := by decide +kernel
theorem dX2_isAlive_8 : decode cX2_isAlive 8 = .ok (.aload_n 0, 1) := by decide +kernel
theorem dX2_isAlive_9 : decode cX2_isAlive 9 = .ok (.getfield 22, 3) := by decide +kernel
theorem dX2_isAlive_12 : decode cX2_isAlive 12 = .ok (.iload_n 1, 1) := by decide +kernel
theorem dX2_isAlive_13 : decode cX2_isAlive 13 = .ok (.baload, 1) := by decide +kernel
theorem dX2_isAlive_14 : decode cX2_isAlive 14 = .ok (.ifCond .eq 7, 3) := by decide +kernel
theorem dX2_isAlive_17 : decode cX2_isAlive 17 = .ok (.iconst 1, 1) := by decide +kernel
theorem dX2_isAlive_18 : decode cX2_isAlive 18 = .ok (.goto 4, 3) := by decide +kernel
theorem dX2_isAlive_21 : decode cX2_isAlive 21 = .ok (.iconst 0, 1) := by decide +kernel
theorem dX2_isAlive_22 : decode cX2_isAlive 22 = .ok (.ireturn, 1) := by decide +kernel
theorem dX2_ownerIn_0 : decode cX2_ownerIn 0 = .ok (.aload_n 0, 1) := by decide +kernel
theorem dX2_ownerIn_1 : decode cX2_ownerIn 1 = .ok (.iload_n 1, 1) := by decide +kernel
theorem dX2_ownerIn_2 : decode cX2_ownerIn 2 = .ok (.invokevirtual 53, 3) := by decide +kernel
theorem dX2_ownerIn_5 : decode cX2_ownerIn 5 = .ok (.ifCond .eq 12, 3) := by decide +kernel
theorem dX2_ownerIn_8 : decode cX2_ownerIn 8 = .ok (.aload_n 0, 1) := by decide +kernel
theorem dX2_ownerIn_9 : decode cX2_ownerIn 9 = .ok (.getfield 15, 3) := by decide +kernel
theorem dX2_ownerIn_12 : decode cX2_ownerIn 12 = .ok (.iload_n 1, 1) := by decide +kernel
theorem dX2_ownerIn_13 : decode cX2_ownerIn 13 = .ok (.iaload, 1) := by decide +kernel
theorem dX2_ownerIn_14 : decode cX2_ownerIn 14 = .ok (.goto 4, 3) := by decide +kernel
theorem dX2_ownerIn_17 : decode cX2_ownerIn 17 = .ok (.iconst (-1), 1) := by decide +kernel
theorem dX2_ownerIn_18 : decode cX2_ownerIn 18 = .ok (.ireturn, 1) := by decide +kernel
theorem dX2_linkTotal_0 : decode cX2_linkTotal 0 = .ok (.aload_n 0, 1) := by decide +kernel
theorem dX2_linkTotal_1 : decode cX2_linkTotal 1 = .ok (.iload_n 1, 1) := by decide +kernel
theorem dX2_linkTotal_2 : decode cX2_linkTotal 2 = .ok (.invokevirtual 53, 3) := by decide +kernel
theorem dX2_linkTotal_5 : decode cX2_linkTotal 5 = .ok (.ifCond .eq 12, 3) := by decide +kernel
theorem dX2_linkTotal_8 : decode cX2_linkTotal 8 = .ok (.aload_n 0, 1) := by decide +kernel
theorem dX2_linkTotal_9 : decode cX2_linkTotal 9 = .ok (.getfield 19, 3) := by decide +kernel
theorem dX2_linkTotal_12 : decode cX2_linkTotal 12 = .ok (.iload_n 1, 1) := by decide +kernel
theorem dX2_linkTotal_13 : decode cX2_linkTotal 13 = .ok (.iaload, 1) := by decide +kernel
theorem dX2_linkTotal_14 : decode cX2_linkTotal 14 = .ok (.goto 4, 3) := by decide +kernel
theorem dX2_linkTotal_17 : decode cX2_linkTotal 17 = .ok (.iconst 0, 1) := by decide +kernel
theorem dX2_linkTotal_18 : decode cX2_linkTotal 18 = .ok (.ireturn, 1) := by decide +kernel
theorem dX2_setLinks_0 : decode cX2_setLinks 0 = .ok (.aload_n 0, 1) := by decide +kernel
theorem dX2_setLinks_1 : decode cX2_setLinks 1 = .ok (.iload_n 1, 1) := by decide +kernel
theorem dX2_setLinks_2 : decode cX2_setLinks 2 = .ok (.invokevirtual 53, 3) := by decide +kernel
theorem dX2_setLinks_5 : decode cX2_setLinks 5 = .ok (.ifCond .eq 10, 3) := by decide +kernel
theorem dX2_setLinks_8 : decode cX2_setLinks 8 = .ok (.aload_n 0, 1) := by decide +kernel
theorem dX2_setLinks_9 : decode cX2_setLinks 9 = .ok (.getfield 19, 3) := by decide +kernel
theorem dX2_setLinks_12 : decode cX2_setLinks 12 = .ok (.iload_n 1, 1) := by decide +kernel
theorem dX2_setLinks_13 : decode cX2_setLinks 13 = .ok (.iload_n 2, 1) := by decide +kernel
theorem dX2_setLinks_14 : decode cX2_setLinks 14 = .ok (.iastore, 1) := by decide +kernel
theorem dX2_setLinks_15 : decode cX2_setLinks 15 = .ok (.return_, 1) := by decide +kernel
theorem dX2_blockIn_0 : decode cX2_blockIn 0 = .ok (.aload_n 0, 1) := by decide +kernel
theorem dX2_blockIn_1 : decode cX2_blockIn 1 = .ok (.iload_n 1, 1) := by decide +kernel
theorem dX2_blockIn_2 : decode cX2_blockIn 2 = .ok (.invokevirtual 53, 3) := by decide +kernel
theorem dX2_blockIn_5 : decode cX2_blockIn 5 = .ok (.ifCond .eq 24, 3) := by decide +kernel
theorem dX2_blockIn_8 : decode cX2_blockIn 8 = .ok (.iload_n 2, 1) := by decide +kernel
theorem dX2_blockIn_9 : decode cX2_blockIn 9 = .ok (.invokestatic 61, 3) := by decide +kernel
theorem dX2_blockIn_12 : decode cX2_blockIn 12 = .ok (.ifCond .eq 17, 3) := by decide +kernel
theorem dX2_blockIn_15 : decode cX2_blockIn 15 = .ok (.aload_n 0, 1) := by decide +kernel
theorem dX2_blockIn_16 : decode cX2_blockIn 16 = .ok (.getfield 26, 3) := by decide +kernel
theorem dX2_blockIn_19 : decode cX2_blockIn 19 = .ok (.iload_n 1, 1) := by decide +kernel
theorem dX2_blockIn_20 : decode cX2_blockIn 20 = .ok (.bipush 16, 2) := by decide +kernel
theorem dX2_blockIn_22 : decode cX2_blockIn 22 = .ok (.imul, 1) := by decide +kernel
theorem dX2_blockIn_23 : decode cX2_blockIn 23 = .ok (.iload_n 2, 1) := by decide +kernel
theorem dX2_blockIn_24 : decode cX2_blockIn 24 = .ok (.iadd, 1) := by decide +kernel
theorem dX2_blockIn_25 : decode cX2_blockIn 25 = .ok (.iaload, 1) := by decide +kernel
theorem dX2_blockIn_26 : decode cX2_blockIn 26 = .ok (.goto 4, 3) := by decide +kernel
theorem dX2_blockIn_29 : decode cX2_blockIn 29 = .ok (.iconst (-1), 1) := by decide +kernel
theorem dX2_blockIn_30 : decode cX2_blockIn 30 = .ok (.ireturn, 1) := by decide +kernel
theorem dX2_setBlock_0 : decode cX2_setBlock 0 = .ok (.aload_n 0, 1) := by decide +kernel
theorem dX2_setBlock_1 : decode cX2_setBlock 1 = .ok (.iload_n 1, 1) := by decide +kernel
theorem dX2_setBlock_2 : decode cX2_setBlock 2 = .ok (.invokevirtual 53, 3) := by decide +kernel
theorem dX2_setBlock_5 : decode cX2_setBlock 5 = .ok (.ifCond .eq 42, 3) := by decide +kernel
theorem dX2_setBlock_8 : decode cX2_setBlock 8 = .ok (.iload_n 2, 1) := by decide +kernel
theorem dX2_setBlock_9 : decode cX2_setBlock 9 = .ok (.invokestatic 61, 3) := by decide +kernel
theorem dX2_setBlock_12 : decode cX2_setBlock 12 = .ok (.ifCond .eq 35, 3) := by decide +kernel
theorem dX2_setBlock_15 : decode cX2_setBlock 15 = .ok (.iload_n 1, 1) := by decide +kernel
theorem dX2_setBlock_16 : decode cX2_setBlock 16 = .ok (.bipush 16, 2) := by decide +kernel
theorem dX2_setBlock_18 : decode cX2_setBlock 18 = .ok (.imul, 1) := by decide +kernel
theorem dX2_setBlock_19 : decode cX2_setBlock 19 = .ok (.iload_n 2, 1) := by decide +kernel
theorem dX2_setBlock_20 : decode cX2_setBlock 20 = .ok (.iadd, 1) := by decide +kernel
theorem dX2_setBlock_21 : decode cX2_setBlock 21 = .ok (.istore 4, 2) := by decide +kernel
theorem dX2_setBlock_23 : decode cX2_setBlock 23 = .ok (.aload_n 0, 1) := by decide +kernel
theorem dX2_setBlock_24 : decode cX2_setBlock 24 = .ok (.aload_n 0, 1) := by decide +kernel
theorem dX2_setBlock_25 : decode cX2_setBlock 25 = .ok (.getfield 26, 3) := by decide +kernel
theorem dX2_setBlock_28 : decode cX2_setBlock 28 = .ok (.iload 4, 2) := by decide +kernel
theorem dX2_setBlock_30 : decode cX2_setBlock 30 = .ok (.iaload, 1) := by decide +kernel
theorem dX2_setBlock_31 : decode cX2_setBlock 31 = .ok (.invokevirtual 64, 3) := by decide +kernel
theorem dX2_setBlock_34 : decode cX2_setBlock 34 = .ok (.aload_n 0, 1) := by decide +kernel
theorem dX2_setBlock_35 : decode cX2_setBlock 35 = .ok (.iload_n 3, 1) := by decide +kernel
theorem dX2_setBlock_36 : decode cX2_setBlock 36 = .ok (.invokevirtual 68, 3) := by decide +kernel
theorem dX2_setBlock_39 : decode cX2_setBlock 39 = .ok (.aload_n 0, 1) := by decide +kernel
theorem dX2_setBlock_40 : decode cX2_setBlock 40 = .ok (.getfield 26, 3) := by decide +kernel
theorem dX2_setBlock_43 : decode cX2_setBlock 43 = .ok (.iload 4, 2) := by decide +kernel
theorem dX2_setBlock_45 : decode cX2_setBlock 45 = .ok (.iload_n 3, 1) := by decide +kernel
theorem dX2_setBlock_46 : decode cX2_setBlock 46 = .ok (.iastore, 1) := by decide +kernel
theorem dX2_setBlock_47 : decode cX2_setBlock 47 = .ok (.return_, 1) := by decide +kernel
theorem dX2_blocksInFile_0 : decode cX2_blocksInFile 0 = .ok (.lconst 0, 1) := by decide +kernel
theorem dX2_blocksInFile_1 : decode cX2_blocksInFile 1 = .ok (.lstore_n 3, 1) := by decide +kernel
theorem dX2_blocksInFile_2 : decode cX2_blocksInFile 2 = .ok (.iconst 0, 1) := by decide +kernel
theorem dX2_blocksInFile_3 : decode cX2_blocksInFile 3 = .ok (.istore 5, 2) := by decide +kernel
theorem dX2_blocksInFile_5 : decode cX2_blocksInFile 5 = .ok (.iload 5, 2) := by decide +kernel
theorem dX2_blocksInFile_7 : decode cX2_blocksInFile 7 = .ok (.bipush 16, 2) := by decide +kernel
theorem dX2_blocksInFile_9 : decode cX2_blocksInFile 9 = .ok (.if_icmp .ge 37, 3) := by decide +kernel
theorem dX2_blocksInFile_12 : decode cX2_blocksInFile 12 = .ok (.aload_n 0, 1) := by decide +kernel
theorem dX2_blocksInFile_13 : decode cX2_blocksInFile 13 = .ok (.iload_n 1, 1) := by decide +kernel
theorem dX2_blocksInFile_14 : decode cX2_blocksInFile 14 = .ok (.iload 5, 2) := by decide +kernel
theorem dX2_blocksInFile_16 : decode cX2_blocksInFile 16 = .ok (.invokevirtual 71, 3) := by decide +kernel
theorem dX2_blocksInFile_19 : decode cX2_blocksInFile 19 = .ok (.istore 6, 2) := by decide +kernel
theorem dX2_blocksInFile_21 : decode cX2_blocksInFile 21 = .ok (.iload 5, 2) := by decide +kernel
theorem dX2_blocksInFile_23 : decode cX2_blocksInFile 23 = .ok (.iload_n 2, 1) := by decide +kernel
theorem dX2_blocksInFile_24 : decode cX2_blocksInFile 24 = .ok (.if_icmp .eq 16, 3) := by decide +kernel
theorem dX2_blocksInFile_27 : decode cX2_blocksInFile 27 = .ok (.iload 6, 2) := by decide +kernel
theorem dX2_blocksInFile_29 : decode cX2_blocksInFile 29 = .ok (.iconst (-1), 1) := by decide +kernel
theorem dX2_blocksInFile_30 : decode cX2_blocksInFile 30 = .ok (.if_icmp .eq 10, 3) := by decide +kernel
theorem dX2_blocksInFile_33 : decode cX2_blocksInFile 33 = .ok (.lload_n 3, 1) := by decide +kernel
theorem dX2_blocksInFile_34 : decode cX2_blocksInFile 34 = .ok (.lconst 1, 1) := by decide +kernel
theorem dX2_blocksInFile_35 : decode cX2_blocksInFile 35 = .ok (.iload 6, 2) := by decide +kernel
theorem dX2_blocksInFile_37 : decode cX2_blocksInFile 37 = .ok (.lshl, 1) := by decide +kernel
theorem dX2_blocksInFile_38 : decode cX2_blocksInFile 38 = .ok (.lor, 1) := by decide +kernel
theorem dX2_blocksInFile_39 : decode cX2_blocksInFile 39 = .ok (.lstore_n 3, 1) := by decide +kernel
theorem dX2_blocksInFile_40 : decode cX2_blocksInFile 40 = .ok (.iinc 5 1, 3) := by decide +kernel
theorem dX2_blocksInFile_43 : decode cX2_blocksInFile 43 = .ok (.goto (-38), 3) := by decide +kernel
theorem dX2_blocksInFile_46 : decode cX2_blocksInFile 46 = .ok (.lload_n 3, 1) := by decide +kernel
theorem dX2_blocksInFile_47 : decode cX2_blocksInFile 47 = .ok (.lreturn, 1) := by decide +kernel
theorem dX2_blocksOfOwner_0 : decode cX2_blocksOfOwner 0 = .ok (.lconst 0, 1) := by decide +kernel
theorem dX2_blocksOfOwner_1 : decode cX2_blocksOfOwner 1 = .ok (.lstore_n 3, 1) := by decide +kernel
theorem dX2_blocksOfOwner_2 : decode cX2_blocksOfOwner 2 = .ok (.iconst 0, 1) := by decide +kernel
theorem dX2_blocksOfOwner_3 : decode cX2_blocksOfOwner 3 = .ok (.istore 5, 2) := by decide +kernel
theorem dX2_blocksOfOwner_5 : decode cX2_blocksOfOwner 5 = .ok (.iload 5, 2) := by decide +kernel
theorem dX2_blocksOfOwner_7 : decode cX2_blocksOfOwner 7 = .ok (.aload_n 0, 1) := by decide +kernel
theorem dX2_blocksOfOwner_8 : decode cX2_blocksOfOwner 8 = .ok (.getfield 9, 3) := by decide +kernel
theorem dX2_blocksOfOwner_11 : decode cX2_blocksOfOwner 11 = .ok (.if_icmp .ge 35, 3) := by decide +kernel
theorem dX2_blocksOfOwner_14 : decode cX2_blocksOfOwner 14 = .ok (.iload 5, 2) := by decide +kernel
theorem dX2_blocksOfOwner_16 : decode cX2_blocksOfOwner 16 = .ok (.iload_n 2, 1) := by decide +kernel
theorem dX2_blocksOfOwner_17 : decode cX2_blocksOfOwner 17 = .ok (.if_icmp .eq 23, 3) := by decide +kernel
theorem dX2_blocksOfOwner_20 : decode cX2_blocksOfOwner 20 = .ok (.aload_n 0, 1) := by decide +kernel
theorem dX2_blocksOfOwner_21 : decode cX2_blocksOfOwner 21 = .ok (.iload 5, 2) := by decide +kernel
theorem dX2_blocksOfOwner_23 : decode cX2_blocksOfOwner 23 = .ok (.invokevirtual 75, 3) := by decide +kernel
theorem dX2_blocksOfOwner_26 : decode cX2_blocksOfOwner 26 = .ok (.iload_n 1, 1) := by decide +kernel
theorem dX2_blocksOfOwner_27 : decode cX2_blocksOfOwner 27 = .ok (.if_icmp .ne 13, 3) := by decide +kernel
theorem dX2_blocksOfOwner_30 : decode cX2_blocksOfOwner 30 = .ok (.lload_n 3, 1) := by decide +kernel
theorem dX2_blocksOfOwner_31 : decode cX2_blocksOfOwner 31 = .ok (.aload_n 0, 1) := by decide +kernel
theorem dX2_blocksOfOwner_32 : decode cX2_blocksOfOwner 32 = .ok (.iload 5, 2) := by decide +kernel
theorem dX2_blocksOfOwner_34 : decode cX2_blocksOfOwner 34 = .ok (.iconst (-1), 1) := by decide +kernel
theorem dX2_blocksOfOwner_35 : decode cX2_blocksOfOwner 35 = .ok (.invokevirtual 79, 3) := by decide +kernel
theorem dX2_blocksOfOwner_38 : decode cX2_blocksOfOwner 38 = .ok (.lor, 1) := by decide +kernel
theorem dX2_blocksOfOwner_39 : decode cX2_blocksOfOwner 39 = .ok (.lstore_n 3, 1) := by decide +kernel
theorem dX2_blocksOfOwner_40 : decode cX2_blocksOfOwner 40 = .ok (.iinc 5 1, 3) := by decide +kernel
theorem dX2_blocksOfOwner_43 : decode cX2_blocksOfOwner 43 = .ok (.goto (-38), 3) := by decide +kernel
theorem dX2_blocksOfOwner_46 : decode cX2_blocksOfOwner 46 = .ok (.lload_n 3, 1) := by decide +kernel
theorem dX2_blocksOfOwner_47 : decode cX2_blocksOfOwner 47 = .ok (.lreturn, 1) := by decide +kernel
theorem dX2_walkFiles_0 : decode cX2_walkFiles 0 = .ok (.iconst 0, 1) := by decide +kernel
theorem dX2_walkFiles_1 : decode cX2_walkFiles 1 = .ok (.istore_n 2, 1) := by decide +kernel
theorem dX2_walkFiles_2 : decode cX2_walkFiles 2 = .ok (.iload_n 2, 1) := by decide +kernel
theorem dX2_walkFiles_3 : decode cX2_walkFiles 3 = .ok (.aload_n 0, 1) := by decide +kernel
theorem dX2_walkFiles_4 : decode cX2_walkFiles 4 = .ok (.getfield 9, 3) := by decide +kernel
theorem dX2_walkFiles_7 : decode cX2_walkFiles 7 = .ok (.if_icmp .ge 33, 3) := by decide +kernel
theorem dX2_walkFiles_10 : decode cX2_walkFiles 10 = .ok (.iconst 0, 1) := by decide +kernel
theorem dX2_walkFiles_11 : decode cX2_walkFiles 11 = .ok (.istore_n 3, 1) := by decide +kernel
theorem dX2_walkFiles_12 : decode cX2_walkFiles 12 = .ok (.iload_n 3, 1) := by decide +kernel
theorem dX2_walkFiles_13 : decode cX2_walkFiles 13 = .ok (.bipush 16, 2) := by decide +kernel
theorem dX2_walkFiles_15 : decode cX2_walkFiles 15 = .ok (.if_icmp .ge 19, 3) := by decide +kernel
theorem dX2_walkFiles_18 : decode cX2_walkFiles 18 = .ok (.aload_n 1, 1) := by decide +kernel
theorem dX2_walkFiles_19 : decode cX2_walkFiles 19 = .ok (.aload_n 0, 1) := by decide +kernel
theorem dX2_walkFiles_20 : decode cX2_walkFiles 20 = .ok (.iload_n 2, 1) := by decide +kernel
theorem dX2_walkFiles_21 : decode cX2_walkFiles 21 = .ok (.iload_n 3, 1) := by decide +kernel
theorem dX2_walkFiles_22 : decode cX2_walkFiles 22 = .ok (.invokevirtual 71, 3) := by decide +kernel
theorem dX2_walkFiles_25 : decode cX2_walkFiles 25 = .ok (.invokestatic 83, 3) := by decide +kernel
theorem dX2_walkFiles_28 : decode cX2_walkFiles 28 = .ok (.iinc 3 1, 3) := by decide +kernel
theorem dX2_walkFiles_31 : decode cX2_walkFiles 31 = .ok (.goto (-19), 3) := by decide +kernel
theorem dX2_walkFiles_34 : decode cX2_walkFiles 34 = .ok (.iinc 2 1, 3) := by decide +kernel
theorem dX2_walkFiles_37 : decode cX2_walkFiles 37 = .ok (.goto (-35), 3) := by decide +kernel
theorem dX2_walkFiles_40 : decode cX2_walkFiles 40 = .ok (.return_, 1) := by decide +kernel
theorem dX2_userTotal_0 : decode cX2_userTotal 0 = .ok (.iload_n 1, 1) := by decide +kernel
theorem dX2_userTotal_1 : decode cX2_userTotal 1 = .ok (.invokestatic 86, 3) := by decide +kernel
theorem dX2_userTotal_4 : decode cX2_userTotal 4 = .ok (.ifCond .eq 12, 3) := by decide +kernel
theorem dX2_userTotal_7 : decode cX2_userTotal 7 = .ok (.aload_n 0, 1) := by decide +kernel
theorem dX2_userTotal_8 : decode cX2_userTotal 8 = .ok (.getfield 38, 3) := by decide +kernel
theorem dX2_userTotal_11 : decode cX2_userTotal 11 = .ok (.iload_n 1, 1) := by decide +kernel
theorem dX2_userTotal_12 : decode cX2_userTotal 12 = .ok (.iaload, 1) := by decide +kernel
theorem dX2_userTotal_13 : decode cX2_userTotal 13 = .ok (.goto 4, 3) := by decide +kernel
theorem dX2_userTotal_16 : decode cX2_userTotal 16 = .ok (.iconst 0, 1) := by decide +kernel
theorem dX2_userTotal_17 : decode cX2_userTotal 17 = .ok (.ireturn, 1) := by decide +kernel
theorem dX2_addUser_0 : decode cX2_addUser 0 = .ok (.iload_n 1, 1) := by decide +kernel
theorem dX2_addUser_1 : decode cX2_addUser 1 = .ok (.invokestatic 86, 3) := by decide +kernel
theorem dX2_addUser_4 : decode cX2_addUser 4 = .ok (.ifCond .eq 13, 3) := by decide +kernel
theorem dX2_addUser_7 : decode cX2_addUser 7 = .ok (.aload_n 0, 1) := by decide +kernel
theorem dX2_addUser_8 : decode cX2_addUser 8 = .ok (.getfield 38, 3) := by decide +kernel
theorem dX2_addUser_11 : decode cX2_addUser 11 = .ok (.iload_n 1, 1) := by decide +kernel
theorem dX2_addUser_12 : decode cX2_addUser 12 = .ok (.dup2, 1) := by decide +kernel
theorem dX2_addUser_13 : decode cX2_addUser 13 = .ok (.iaload, 1) := by decide +kernel
theorem dX2_addUser_14 : decode cX2_addUser 14 = .ok (.iconst 1, 1) := by decide +kernel
theorem dX2_addUser_15 : decode cX2_addUser 15 = .ok (.iadd, 1) := by decide +kernel
theorem dX2_addUser_16 : decode cX2_addUser 16 = .ok (.iastore, 1) := by decide +kernel
theorem dX2_addUser_17 : decode cX2_addUser 17 = .ok (.return_, 1) := by decide +kernel
theorem dX2_removeUser_0 : decode cX2_removeUser 0 = .ok (.iload_n 1, 1) := by decide +kernel
theorem dX2_removeUser_1 : decode cX2_removeUser 1 = .ok (.invokestatic 86, 3) := by decide +kernel
theorem dX2_removeUser_4 : decode cX2_removeUser 4 = .ok (.ifCond .eq 13, 3) := by decide +kernel
theorem dX2_removeUser_7 : decode cX2_removeUser 7 = .ok (.aload_n 0, 1) := by decide +kernel
theorem dX2_removeUser_8 : decode cX2_removeUser 8 = .ok (.getfield 38, 3) := by decide +kernel
theorem dX2_removeUser_11 : decode cX2_removeUser 11 = .ok (.iload_n 1, 1) := by decide +kernel
theorem dX2_removeUser_12 : decode cX2_removeUser 12 = .ok (.dup2, 1) := by decide +kernel
theorem dX2_removeUser_13 : decode cX2_removeUser 13 = .ok (.iaload, 1) := by decide +kernel
theorem dX2_removeUser_14 : decode cX2_removeUser 14 = .ok (.iconst 1, 1) := by decide +kernel
theorem dX2_removeUser_15 : decode cX2_removeUser 15 = .ok (.isub, 1) := by decide +kernel
theorem dX2_removeUser_16 : decode cX2_removeUser 16 = .ok (.iastore, 1) := by decide +kernel
theorem dX2_removeUser_17 : decode cX2_removeUser 17 = .ok (.return_, 1) := by decide +kernel
theorem dX2_valueIn_0 : decode cX2_valueIn 0 = .ok (.iload_n 1, 1) := by decide +kernel
theorem dX2_valueIn_1 : decode cX2_valueIn 1 = .ok (.invokestatic 86, 3) := by decide +kernel
theorem dX2_valueIn_4 : decode cX2_valueIn 4 = .ok (.ifCond .eq 12, 3) := by decide +kernel
theorem dX2_valueIn_7 : decode cX2_valueIn 7 = .ok (.aload_n 0, 1) := by decide +kernel
theorem dX2_valueIn_8 : decode cX2_valueIn 8 = .ok (.getfield 35, 3) := by decide +kernel
theorem dX2_valueIn_11 : decode cX2_valueIn 11 = .ok (.iload_n 1, 1) := by decide +kernel
theorem dX2_valueIn_12 : decode cX2_valueIn 12 = .ok (.iaload, 1) := by decide +kernel
theorem dX2_valueIn_13 : decode cX2_valueIn 13 = .ok (.goto 4, 3) := by decide +kernel
theorem dX2_valueIn_16 : decode cX2_valueIn 16 = .ok (.iconst 0, 1) := by decide +kernel
theorem dX2_valueIn_17 : decode cX2_valueIn 17 = .ok (.ireturn, 1) := by decide +kernel
theorem dX2_setValue_0 : decode cX2_setValue 0 = .ok (.iload_n 1, 1) := by decide +kernel
theorem dX2_setValue_1 : decode cX2_setValue 1 = .ok (.invokestatic 86, 3) := by decide +kernel
theorem dX2_setValue_4 : decode cX2_setValue 4 = .ok (.ifCond .eq 10, 3) := by decide +kernel
theorem dX2_setValue_7 : decode cX2_setValue 7 = .ok (.aload_n 0, 1) := by decide +kernel
theorem dX2_setValue_8 : decode cX2_setValue 8 = .ok (.getfield 35, 3) := by decide +kernel
theorem dX2_setValue_11 : decode cX2_setValue 11 = .ok (.iload_n 1, 1) := by decide +kernel
theorem dX2_setValue_12 : decode cX2_setValue 12 = .ok (.iload_n 2, 1) := by decide +kernel
theorem dX2_setValue_13 : decode cX2_setValue 13 = .ok (.iastore, 1) := by decide +kernel
theorem dX2_setValue_14 : decode cX2_setValue 14 = .ok (.return_, 1) := by decide +kernel
theorem dX2_freeTotal_0 : decode cX2_freeTotal 0 = .ok (.iconst 0, 1) := by decide +kernel
theorem dX2_freeTotal_1 : decode cX2_freeTotal 1 = .ok (.istore_n 1, 1) := by decide +kernel
theorem dX2_freeTotal_2 : decode cX2_freeTotal 2 = .ok (.iconst 0, 1) := by decide +kernel
theorem dX2_freeTotal_3 : decode cX2_freeTotal 3 = .ok (.istore_n 2, 1) := by decide +kernel
theorem dX2_freeTotal_4 : decode cX2_freeTotal 4 = .ok (.iload_n 2, 1) := by decide +kernel
theorem dX2_freeTotal_5 : decode cX2_freeTotal 5 = .ok (.bipush 64, 2) := by decide +kernel
theorem dX2_freeTotal_7 : decode cX2_freeTotal 7 = .ok (.if_icmp .ge 21, 3) := by decide +kernel
theorem dX2_freeTotal_10 : decode cX2_freeTotal 10 = .ok (.aload_n 0, 1) := by decide +kernel
theorem dX2_freeTotal_11 : decode cX2_freeTotal 11 = .ok (.getfield 38, 3) := by decide +kernel
theorem dX2_freeTotal_14 : decode cX2_freeTotal 14 = .ok (.iload_n 2, 1) := by decide +kernel
theorem dX2_freeTotal_15 : decode cX2_freeTotal 15 = .ok (.iaload, 1) := by decide +kernel
theorem dX2_freeTotal_16 : decode cX2_freeTotal 16 = .ok (.ifCond .ne 6, 3) := by decide +kernel
theorem dX2_freeTotal_19 : decode cX2_freeTotal 19 = .ok (.iinc 1 1, 3) := by decide +kernel
theorem dX2_freeTotal_22 : decode cX2_freeTotal 22 = .ok (.iinc 2 1, 3) := by decide +kernel
theorem dX2_freeTotal_25 : decode cX2_freeTotal 25 = .ok (.goto (-21), 3) := by decide +kernel
theorem dX2_freeTotal_28 : decode cX2_freeTotal 28 = .ok (.iload_n 1, 1) := by decide +kernel
theorem dX2_freeTotal_29 : decode cX2_freeTotal 29 = .ok (.ireturn, 1) := by decide +kernel
theorem dX2_takeBlock_0 : decode cX2_takeBlock 0 = .ok (.iconst 0, 1) := by decide +kernel
theorem dX2_takeBlock_1 : decode cX2_takeBlock 1 = .ok (.istore_n 2, 1) := by decide +kernel
theorem dX2_takeBlock_2 : decode cX2_takeBlock 2 = .ok (.iload_n 2, 1) := by decide +kernel
theorem dX2_takeBlock_3 : decode cX2_takeBlock 3 = .ok (.bipush 64, 2) := by decide +kernel
theorem dX2_takeBlock_5 : decode cX2_takeBlock 5 = .ok (.if_icmp .ge 36, 3) := by decide +kernel
theorem dX2_takeBlock_8 : decode cX2_takeBlock 8 = .ok (.aload_n 0, 1) := by decide +kernel
theorem dX2_takeBlock_9 : decode cX2_takeBlock 9 = .ok (.getfield 38, 3) := by decide +kernel
theorem dX2_takeBlock_12 : decode cX2_takeBlock 12 = .ok (.iload_n 2, 1) := by decide +kernel
theorem dX2_takeBlock_13 : decode cX2_takeBlock 13 = .ok (.iaload, 1) := by decide +kernel
theorem dX2_takeBlock_14 : decode cX2_takeBlock 14 = .ok (.ifCond .ne 21, 3) := by decide +kernel
theorem dX2_takeBlock_17 : decode cX2_takeBlock 17 = .ok (.aload_n 0, 1) := by decide +kernel
theorem dX2_takeBlock_18 : decode cX2_takeBlock 18 = .ok (.iload_n 1, 1) := by decide +kernel
theorem dX2_takeBlock_19 : decode cX2_takeBlock 19 = .ok (.iconst 0, 1) := by decide +kernel
theorem dX2_takeBlock_20 : decode cX2_takeBlock 20 = .ok (.aload_n 0, 1) := by decide +kernel
theorem dX2_takeBlock_21 : decode cX2_takeBlock 21 = .ok (.iload_n 1, 1) := by decide +kernel
theorem dX2_takeBlock_22 : decode cX2_takeBlock 22 = .ok (.invokevirtual 89, 3) := by decide +kernel
theorem dX2_takeBlock_25 : decode cX2_takeBlock 25 = .ok (.iconst 1, 1) := by decide +kernel
theorem dX2_takeBlock_26 : decode cX2_takeBlock 26 = .ok (.isub, 1) := by decide +kernel
theorem dX2_takeBlock_27 : decode cX2_takeBlock 27 = .ok (.invokestatic 92, 3) := by decide +kernel
theorem dX2_takeBlock_30 : decode cX2_takeBlock 30 = .ok (.invokevirtual 97, 3) := by decide +kernel
theorem dX2_takeBlock_33 : decode cX2_takeBlock 33 = .ok (.iload_n 2, 1) := by decide +kernel
theorem dX2_takeBlock_34 : decode cX2_takeBlock 34 = .ok (.ireturn, 1) := by decide +kernel
theorem dX2_takeBlock_35 : decode cX2_takeBlock 35 = .ok (.iinc 2 1, 3) := by decide +kernel
theorem dX2_takeBlock_38 : decode cX2_takeBlock 38 = .ok (.goto (-36), 3) := by decide +kernel
theorem dX2_takeBlock_41 : decode cX2_takeBlock 41 = .ok (.iconst (-1), 1) := by decide +kernel
theorem dX2_takeBlock_42 : decode cX2_takeBlock 42 = .ok (.ireturn, 1) := by decide +kernel
theorem dX2_promisedFor_0 : decode cX2_promisedFor 0 = .ok (.iload_n 1, 1) := by decide +kernel
theorem dX2_promisedFor_1 : decode cX2_promisedFor 1 = .ok (.ifCond .lt 17, 3) := by decide +kernel
theorem dX2_promisedFor_4 : decode cX2_promisedFor 4 = .ok (.iload_n 1, 1) := by decide +kernel
theorem dX2_promisedFor_5 : decode cX2_promisedFor 5 = .ok (.iconst 4, 1) := by decide +kernel
theorem dX2_promisedFor_6 : decode cX2_promisedFor 6 = .ok (.if_icmp .ge 12, 3) := by decide +kernel
theorem dX2_promisedFor_9 : decode cX2_promisedFor 9 = .ok (.aload_n 0, 1) := by decide +kernel
theorem dX2_promisedFor_10 : decode cX2_promisedFor 10 = .ok (.getfield 41, 3) := by decide +kernel
theorem dX2_promisedFor_13 : decode cX2_promisedFor 13 = .ok (.iload_n 1, 1) := by decide +kernel
theorem dX2_promisedFor_14 : decode cX2_promisedFor 14 = .ok (.iaload, 1) := by decide +kernel
theorem dX2_promisedFor_15 : decode cX2_promisedFor 15 = .ok (.goto 4, 3) := by decide +kernel
theorem dX2_promisedFor_18 : decode cX2_promisedFor 18 = .ok (.iconst 0, 1) := by decide +kernel
theorem dX2_promisedFor_19 : decode cX2_promisedFor 19 = .ok (.ireturn, 1) := by decide +kernel
theorem dX2_setPromised_0 : decode cX2_setPromised 0 = .ok (.iload_n 1, 1) := by decide +kernel
theorem dX2_setPromised_1 : decode cX2_setPromised 1 = .ok (.ifCond .lt 15, 3) := by decide +kernel
theorem dX2_setPromised_4 : decode cX2_setPromised 4 = .ok (.iload_n 1, 1) := by decide +kernel
theorem dX2_setPromised_5 : decode cX2_setPromised 5 = .ok (.iconst 4, 1) := by decide +kernel
theorem dX2_setPromised_6 : decode cX2_setPromised 6 = .ok (.if_icmp .ge 10, 3) := by decide +kernel
theorem dX2_setPromised_9 : decode cX2_setPromised 9 = .ok (.aload_n 0, 1) := by decide +kernel
theorem dX2_setPromised_10 : decode cX2_setPromised 10 = .ok (.getfield 41, 3) := by decide +kernel
theorem dX2_setPromised_13 : decode cX2_setPromised 13 = .ok (.iload_n 1, 1) := by decide +kernel
theorem dX2_setPromised_14 : decode cX2_setPromised 14 = .ok (.iload_n 2, 1) := by decide +kernel
theorem dX2_setPromised_15 : decode cX2_setPromised 15 = .ok (.iastore, 1) := by decide +kernel
theorem dX2_setPromised_16 : decode cX2_setPromised 16 = .ok (.return_, 1) := by decide +kernel
theorem dX2_promisedInAll_0 : decode cX2_promisedInAll 0 = .ok (.iconst 0, 1) := by decide +kernel
theorem dX2_promisedInAll_1 : decode cX2_promisedInAll 1 = .ok (.istore_n 1, 1) := by decide +kernel
theorem dX2_promisedInAll_2 : decode cX2_promisedInAll 2 = .ok (.iconst 0, 1) := by decide +kernel
theorem dX2_promisedInAll_3 : decode cX2_promisedInAll 3 = .ok (.istore_n 2, 1) := by decide +kernel
theorem dX2_promisedInAll_4 : decode cX2_promisedInAll 4 = .ok (.iload_n 2, 1) := by decide +kernel
theorem dX2_promisedInAll_5 : decode cX2_promisedInAll 5 = .ok (.iconst 4, 1) := by decide +kernel
theorem dX2_promisedInAll_6 : decode cX2_promisedInAll 6 = .ok (.if_icmp .ge 18, 3) := by decide +kernel
theorem dX2_promisedInAll_9 : decode cX2_promisedInAll 9 = .ok (.iload_n 1, 1) := by decide +kernel
theorem dX2_promisedInAll_10 : decode cX2_promisedInAll 10 = .ok (.aload_n 0, 1) := by decide +kernel
theorem dX2_promisedInAll_11 : decode cX2_promisedInAll 11 = .ok (.getfield 41, 3) := by decide +kernel
theorem dX2_promisedInAll_14 : decode cX2_promisedInAll 14 = .ok (.iload_n 2, 1) := by decide +kernel
theorem dX2_promisedInAll_15 : decode cX2_promisedInAll 15 = .ok (.iaload, 1) := by decide +kernel
theorem dX2_promisedInAll_16 : decode cX2_promisedInAll 16 = .ok (.iadd, 1) := by decide +kernel
theorem dX2_promisedInAll_17 : decode cX2_promisedInAll 17 = .ok (.istore_n 1, 1) := by decide +kernel
theorem dX2_promisedInAll_18 : decode cX2_promisedInAll 18 = .ok (.iinc 2 1, 3) := by decide +kernel
theorem dX2_promisedInAll_21 : decode cX2_promisedInAll 21 = .ok (.goto (-17), 3) := by decide +kernel
theorem dX2_promisedInAll_24 : decode cX2_promisedInAll 24 = .ok (.iload_n 1, 1) := by decide +kernel
theorem dX2_promisedInAll_25 : decode cX2_promisedInAll 25 = .ok (.ireturn, 1) := by decide +kernel
theorem dX3_init_0 : decode cX3_init 0 = .ok (.aload_n 0, 1) := by decide +kernel
theorem dX3_init_1 : decode cX3_init 1 = .ok (.invokespecial 3, 3) := by decide +kernel
theorem dX3_init_4 : decode cX3_init 4 = .ok (.aload_n 0, 1) := by decide +kernel
theorem dX3_init_5 : decode cX3_init 5 = .ok (.new 9, 3) := by decide +kernel
theorem dX3_init_8 : decode cX3_init 8 = .ok (.dup, 1) := by decide +kernel
theorem dX3_init_9 : decode cX3_init 9 = .ok (.invokespecial 11, 3) := by decide +kernel
theorem dX3_init_12 : decode cX3_init 12 = .ok (.putfield 12, 3) := by decide +kernel
theorem dX3_init_15 : decode cX3_init 15 = .ok (.aload_n 0, 1) := by decide +kernel
theorem dX3_init_16 : decode cX3_init 16 = .ok (.new 9, 3) := by decide +kernel
theorem dX3_init_19 : decode cX3_init 19 = .ok (.dup, 1) := by decide +kernel
theorem dX3_init_20 : decode cX3_init 20 = .ok (.invokespecial 11, 3) := by decide +kernel
theorem dX3_init_23 : decode cX3_init 23 = .ok (.putfield 16, 3) := by decide +kernel
theorem dX3_init_26 : decode cX3_init 26 = .ok (.aload_n 0, 1) := by decide +kernel
theorem dX3_init_27 : decode cX3_init 27 = .ok (.iconst 0, 1) := by decide +kernel
theorem dX3_init_28 : decode cX3_init 28 = .ok (.putfield 19, 3) := by decide +kernel
theorem dX3_init_31 : decode cX3_init 31 = .ok (.aload_n 0, 1) := by decide +kernel
theorem dX3_init_32 : decode cX3_init 32 = .ok (.sipush 512, 3) := by decide +kernel
theorem dX3_init_35 : decode cX3_init 35 = .ok (.newarray .char, 2) := by decide +kernel
theorem dX3_init_37 : decode cX3_init 37 = .ok (.putfield 23, 3) := by decide +kernel
theorem dX3_init_40 : decode cX3_init 40 = .ok (.aload_n 0, 1) := by decide +kernel
theorem dX3_init_41 : decode cX3_init 41 = .ok (.iconst 0, 1) := by decide +kernel
theorem dX3_init_42 : decode cX3_init 42 = .ok (.putfield 27, 3) := by decide +kernel
theorem dX3_init_45 : decode cX3_init 45 = .ok (.aload_n 0, 1) := by decide +kernel
theorem dX3_init_46 : decode cX3_init 46 = .ok (.iconst 4, 1) := by decide +kernel
theorem dX3_init_47 : decode cX3_init 47 = .ok (.newarray .int, 2) := by decide +kernel
theorem dX3_init_49 : decode cX3_init 49 = .ok (.putfield 31, 3) := by decide +kernel
theorem dX3_init_52 : decode cX3_init 52 = .ok (.aload_n 0, 1) := by decide +kernel
theorem dX3_init_53 : decode cX3_init 53 = .ok (.new 35, 3) := by decide +kernel
theorem dX3_init_56 : decode cX3_init 56 = .ok (.dup, 1) := by decide +kernel
theorem dX3_init_57 : decode cX3_init 57 = .ok (.invokespecial 37, 3) := by decide +kernel
theorem dX3_init_60 : decode cX3_init 60 = .ok (.putfield 38, 3) := by decide +kernel
theorem dX3_init_63 : decode cX3_init 63 = .ok (.aload_n 0, 1) := by decide +kernel
theorem dX3_init_64 : decode cX3_init 64 = .ok (.new 42, 3) := by decide +kernel
theorem dX3_init_67 : decode cX3_init 67 = .ok (.dup, 1) := by decide +kernel
theorem dX3_init_68 : decode cX3_init 68 = .ok (.invokespecial 44, 3) := by decide +kernel
theorem dX3_init_71 : decode cX3_init 71 = .ok (.putfield 45, 3) := by decide +kernel
theorem dX3_init_74 : decode cX3_init 74 = .ok (.aload_n 0, 1) := by decide +kernel
theorem dX3_init_75 : decode cX3_init 75 = .ok (.iconst 0, 1) := by decide +kernel
theorem dX3_init_76 : decode cX3_init 76 = .ok (.putfield 49, 3) := by decide +kernel
theorem dX3_init_79 : decode cX3_init 79 = .ok (.aload_n 0, 1) := by decide +kernel
theorem dX3_init_80 : decode cX3_init 80 = .ok (.new 52, 3) := by decide +kernel
theorem dX3_init_83 : decode cX3_init 83 = .ok (.dup, 1) := by decide +kernel
theorem dX3_init_84 : decode cX3_init 84 = .ok (.invokespecial 54, 3) := by decide +kernel
theorem dX3_init_87 : decode cX3_init 87 = .ok (.putfield 55, 3) := by decide +kernel
theorem dX3_init_90 : decode cX3_init 90 = .ok (.aload_n 0, 1) := by decide +kernel
theorem dX3_init_91 : decode cX3_init 91 = .ok (.bipush 64, 2) := by decide +kernel
theorem dX3_init_93 : decode cX3_init 93 = .ok (.newarray .int, 2) := by decide +kernel
theorem dX3_init_95 : decode cX3_init 95 = .ok (.putfield 59, 3) := by decide +kernel
theorem dX3_init_98 : decode cX3_init 98 = .ok (.return_, 1) := by decide +kernel
theorem dX3_addOwner_0 : decode cX3_addOwner 0 = .ok (.aload_n 0, 1) := by decide +kernel
theorem dX3_addOwner_1 : decode cX3_addOwner 1 = .ok (.iload_n 1, 1) := by decide +kernel
theorem dX3_addOwner_2 : decode cX3_addOwner 2 = .ok (.iconst 0, 1) := by decide +kernel
theorem dX3_addOwner_3 : decode cX3_addOwner 3 = .ok (.bipush 64, 2) := by decide +kernel
theorem dX3_addOwner_5 : decode cX3_addOwner 5 = .ok (.invokevirtual 62, 3) := by decide +kernel
theorem dX3_addOwner_8 : decode cX3_addOwner 8 = .ok (.aload_n 0, 1) := by decide +kernel
theorem dX3_addOwner_9 : decode cX3_addOwner 9 = .ok (.invokevirtual 66, 3) := by decide +kernel
theorem dX3_addOwner_12 : decode cX3_addOwner 12 = .ok (.aload_n 0, 1) := by decide +kernel
theorem dX3_addOwner_13 : decode cX3_addOwner 13 = .ok (.getfield 27, 3) := by decide +kernel
theorem dX3_addOwner_16 : decode cX3_addOwner 16 = .ok (.iconst 4, 1) := by decide +kernel
theorem dX3_addOwner_17 : decode cX3_addOwner 17 = .ok (.if_icmp .lt 13, 3) := by decide +kernel
theorem dX3_addOwner_20 : decode cX3_addOwner 20 = .ok (.new 69, 3) := by decide +kernel
theorem dX3_addOwner_23 : decode cX3_addOwner 23 = .ok (.dup, 1) := by decide +kernel
theorem dX3_addOwner_24 : decode cX3_addOwner 24 = .ok (.ldc 71, 2) := by decide +kernel
theorem dX3_addOwner_26 : decode cX3_addOwner 26 = .ok (.invokespecial 73, 3) := by decide +kernel
theorem dX3_addOwner_29 : decode cX3_addOwner 29 = .ok (.athrow, 1) := by decide +kernel
theorem dX3_addOwner_30 : decode cX3_addOwner 30 = .ok (.aload_n 0, 1) := by decide +kernel
theorem dX3_addOwner_31 : decode cX3_addOwner 31 = .ok (.getfield 27, 3) := by decide +kernel
theorem dX3_addOwner_34 : decode cX3_addOwner 34 = .ok (.istore_n 2, 1) := by decide +kernel
theorem dX3_addOwner_35 : decode cX3_addOwner 35 = .ok (.aload_n 0, 1) := by decide +kernel
theorem dX3_addOwner_36 : decode cX3_addOwner 36 = .ok (.getfield 31, 3) := by decide +kernel
theorem dX3_addOwner_39 : decode cX3_addOwner 39 = .ok (.iload_n 2, 1) := by decide +kernel
theorem dX3_addOwner_40 : decode cX3_addOwner 40 = .ok (.iload_n 1, 1) := by decide +kernel
theorem dX3_addOwner_41 : decode cX3_addOwner 41 = .ok (.iastore, 1) := by decide +kernel
theorem dX3_addOwner_42 : decode cX3_addOwner 42 = .ok (.aload_n 0, 1) := by decide +kernel
theorem dX3_addOwner_43 : decode cX3_addOwner 43 = .ok (.iload_n 2, 1) := by decide +kernel
theorem dX3_addOwner_44 : decode cX3_addOwner 44 = .ok (.iconst 1, 1) := by decide +kernel
theorem dX3_addOwner_45 : decode cX3_addOwner 45 = .ok (.iadd, 1) := by decide +kernel
theorem dX3_addOwner_46 : decode cX3_addOwner 46 = .ok (.putfield 27, 3) := by decide +kernel
theorem dX3_addOwner_49 : decode cX3_addOwner 49 = .ok (.iload_n 2, 1) := by decide +kernel
theorem dX3_addOwner_50 : decode cX3_addOwner 50 = .ok (.ireturn, 1) := by decide +kernel
theorem dX3_createFile_0 : decode cX3_createFile 0 = .ok (.aload_n 0, 1) := by decide +kernel
theorem dX3_createFile_1 : decode cX3_createFile 1 = .ok (.iload_n 1, 1) := by decide +kernel
theorem dX3_createFile_2 : decode cX3_createFile 2 = .ok (.invokevirtual 76, 3) := by decide +kernel
theorem dX3_createFile_5 : decode cX3_createFile 5 = .ok (.aload_n 0, 1) := by decide +kernel
theorem dX3_createFile_6 : decode cX3_createFile 6 = .ok (.getfield 12, 3) := by decide +kernel
theorem dX3_createFile_9 : decode cX3_createFile 9 = .ok (.invokevirtual 80, 3) := by decide +kernel
theorem dX3_createFile_12 : decode cX3_createFile 12 = .ok (.bipush 40, 2) := by decide +kernel
theorem dX3_createFile_14 : decode cX3_createFile 14 = .ok (.if_icmp .lt 13, 3) := by decide +kernel
theorem dX3_createFile_17 : decode cX3_createFile 17 = .ok (.new 69, 3) := by decide +kernel
theorem dX3_createFile_20 : decode cX3_createFile 20 = .ok (.dup, 1) := by decide +kernel
theorem dX3_createFile_21 : decode cX3_createFile 21 = .ok (.ldc 84, 2) := by decide +kernel
theorem dX3_createFile_23 : decode cX3_createFile 23 = .ok (.invokespecial 73, 3) := by decide +kernel
theorem dX3_createFile_26 : decode cX3_createFile 26 = .ok (.athrow, 1) := by decide +kernel
theorem dX3_createFile_27 : decode cX3_createFile 27 = .ok (.aload_n 0, 1) := by decide +kernel
theorem dX3_createFile_28 : decode cX3_createFile 28 = .ok (.getfield 12, 3) := by decide +kernel
theorem dX3_createFile_31 : decode cX3_createFile 31 = .ok (.iload_n 1, 1) := by decide +kernel
theorem dX3_createFile_32 : decode cX3_createFile 32 = .ok (.invokevirtual 86, 3) := by decide +kernel
theorem dX3_createFile_35 : decode cX3_createFile 35 = .ok (.istore_n 2, 1) := by decide +kernel
theorem dX3_createFile_36 : decode cX3_createFile 36 = .ok (.aload_n 0, 1) := by decide +kernel
theorem dX3_createFile_37 : decode cX3_createFile 37 = .ok (.bipush 99, 2) := by decide +kernel
theorem dX3_createFile_39 : decode cX3_createFile 39 = .ok (.invokevirtual 90, 3) := by decide +kernel
theorem dX3_createFile_42 : decode cX3_createFile 42 = .ok (.iload_n 2, 1) := by decide +kernel
theorem dX3_createFile_43 : decode cX3_createFile 43 = .ok (.ireturn, 1) := by decide +kernel
theorem dX3_fileCount_0 : decode cX3_fileCount 0 = .ok (.aload_n 0, 1) := by decide +kernel
theorem dX3_fileCount_1 : decode cX3_fileCount 1 = .ok (.getfield 12, 3) := by decide +kernel
theorem dX3_fileCount_4 : decode cX3_fileCount 4 = .ok (.invokevirtual 80, 3) := by decide +kernel
theorem dX3_fileCount_7 : decode cX3_fileCount 7 = .ok (.ireturn, 1) := by decide +kernel
theorem dX3_doesExist_0 : decode cX3_doesExist 0 = .ok (.aload_n 0, 1) := by decide +kernel
theorem dX3_doesExist_1 : decode cX3_doesExist 1 = .ok (.iload_n 1, 1) := by decide +kernel
theorem dX3_doesExist_2 : decode cX3_doesExist 2 = .ok (.invokevirtual 94, 3) := by decide +kernel
theorem dX3_doesExist_5 : decode cX3_doesExist 5 = .ok (.aload_n 0, 1) := by decide +kernel
theorem dX3_doesExist_6 : decode cX3_doesExist 6 = .ok (.getfield 12, 3) := by decide +kernel
theorem dX3_doesExist_9 : decode cX3_doesExist 9 = .ok (.iload_n 1, 1) := by decide +kernel
theorem dX3_doesExist_10 : decode cX3_doesExist 10 = .ok (.invokevirtual 97, 3) := by decide +kernel
theorem dX3_doesExist_13 : decode cX3_doesExist 13 = .ok (.ireturn, 1) := by decide +kernel
theorem dX3_linksOf_0 : decode cX3_linksOf 0 = .ok (.aload_n 0, 1) := by decide +kernel
theorem dX3_linksOf_1 : decode cX3_linksOf 1 = .ok (.iload_n 1, 1) := by decide +kernel
theorem dX3_linksOf_2 : decode cX3_linksOf 2 = .ok (.invokevirtual 94, 3) := by decide +kernel
theorem dX3_linksOf_5 : decode cX3_linksOf 5 = .ok (.aload_n 0, 1) := by decide +kernel
theorem dX3_linksOf_6 : decode cX3_linksOf 6 = .ok (.getfield 12, 3) := by decide +kernel
theorem dX3_linksOf_9 : decode cX3_linksOf 9 = .ok (.iload_n 1, 1) := by decide +kernel
theorem dX3_linksOf_10 : decode cX3_linksOf 10 = .ok (.invokevirtual 101, 3) := by decide +kernel
theorem dX3_linksOf_13 : decode cX3_linksOf 13 = .ok (.ireturn, 1) := by decide +kernel
theorem dX3_link_0 : decode cX3_link 0 = .ok (.aload_n 0, 1) := by decide +kernel
theorem dX3_link_1 : decode cX3_link 1 = .ok (.iload_n 1, 1) := by decide +kernel
theorem dX3_link_2 : decode cX3_link 2 = .ok (.invokevirtual 94, 3) := by decide +kernel
theorem dX3_link_5 : decode cX3_link 5 = .ok (.aload_n 0, 1) := by decide +kernel
theorem dX3_link_6 : decode cX3_link 6 = .ok (.iload_n 1, 1) := by decide +kernel
theorem dX3_link_7 : decode cX3_link 7 = .ok (.invokevirtual 104, 3) := by decide +kernel
theorem dX3_link_10 : decode cX3_link 10 = .ok (.aload_n 0, 1) := by decide +kernel
theorem dX3_link_11 : decode cX3_link 11 = .ok (.getfield 12, 3) := by decide +kernel
theorem dX3_link_14 : decode cX3_link 14 = .ok (.iload_n 1, 1) := by decide +kernel
theorem dX3_link_15 : decode cX3_link 15 = .ok (.invokevirtual 101, 3) := by decide +kernel
theorem dX3_link_18 : decode cX3_link 18 = .ok (.istore_n 2, 1) := by decide +kernel
theorem dX3_link_19 : decode cX3_link 19 = .ok (.iload_n 2, 1) := by decide +kernel
theorem dX3_link_20 : decode cX3_link 20 = .ok (.bipush 9, 2) := by decide +kernel
theorem dX3_link_22 : decode cX3_link 22 = .ok (.if_icmp .lt 13, 3) := by decide +kernel
theorem dX3_link_25 : decode cX3_link 25 = .ok (.new 69, 3) := by decide +kernel
theorem dX3_link_28 : decode cX3_link 28 = .ok (.dup, 1) := by decide +kernel
theorem dX3_link_29 : decode cX3_link 29 = .ok (.ldc 107, 2) := by decide +kernel
theorem dX3_link_31 : decode cX3_link 31 = .ok (.invokespecial 73, 3) := by decide +kernel
theorem dX3_link_34 : decode cX3_link 34 = .ok (.athrow, 1) := by decide +kernel
theorem dX3_link_35 : decode cX3_link 35 = .ok (.aload_n 0, 1) := by decide +kernel
theorem dX3_link_36 : decode cX3_link 36 = .ok (.getfield 12, 3) := by decide +kernel
theorem dX3_link_39 : decode cX3_link 39 = .ok (.iload_n 1, 1) := by decide +kernel
theorem dX3_link_40 : decode cX3_link 40 = .ok (.iload_n 2, 1) := by decide +kernel
theorem dX3_link_41 : decode cX3_link 41 = .ok (.iconst 1, 1) := by decide +kernel
theorem dX3_link_42 : decode cX3_link 42 = .ok (.iadd, 1) := by decide +kernel
theorem dX3_link_43 : decode cX3_link 43 = .ok (.invokevirtual 109, 3) := by decide +kernel
theorem dX3_link_46 : decode cX3_link 46 = .ok (.aload_n 0, 1) := by decide +kernel
theorem dX3_link_47 : decode cX3_link 47 = .ok (.bipush 108, 2) := by decide +kernel
theorem dX3_link_49 : decode cX3_link 49 = .ok (.invokevirtual 90, 3) := by decide +kernel
theorem dX3_link_52 : decode cX3_link 52 = .ok (.iload_n 2, 1) := by decide +kernel
theorem dX3_link_53 : decode cX3_link 53 = .ok (.iconst 1, 1) := by decide +kernel
theorem dX3_link_54 : decode cX3_link 54 = .ok (.iadd, 1) := by decide +kernel
theorem dX3_link_55 : decode cX3_link 55 = .ok (.ireturn, 1) := by decide +kernel
theorem dX3_unlink_0 : decode cX3_unlink 0 = .ok (.aload_n 0, 1) := by decide +kernel
theorem dX3_unlink_1 : decode cX3_unlink 1 = .ok (.iload_n 1, 1) := by decide +kernel
theorem dX3_unlink_2 : decode cX3_unlink 2 = .ok (.invokevirtual 94, 3) := by decide +kernel
theorem dX3_unlink_5 : decode cX3_unlink 5 = .ok (.aload_n 0, 1) := by decide +kernel
theorem dX3_unlink_6 : decode cX3_unlink 6 = .ok (.iload_n 1, 1) := by decide +kernel
theorem dX3_unlink_7 : decode cX3_unlink 7 = .ok (.invokevirtual 104, 3) := by decide +kernel
theorem dX3_unlink_10 : decode cX3_unlink 10 = .ok (.aload_n 0, 1) := by decide +kernel
theorem dX3_unlink_11 : decode cX3_unlink 11 = .ok (.getfield 12, 3) := by decide +kernel
theorem dX3_unlink_14 : decode cX3_unlink 14 = .ok (.iload_n 1, 1) := by decide +kernel
theorem dX3_unlink_15 : decode cX3_unlink 15 = .ok (.invokevirtual 101, 3) := by decide +kernel
theorem dX3_unlink_18 : decode cX3_unlink 18 = .ok (.iconst 1, 1) := by decide +kernel
theorem dX3_unlink_19 : decode cX3_unlink 19 = .ok (.isub, 1) := by decide +kernel
theorem dX3_unlink_20 : decode cX3_unlink 20 = .ok (.istore_n 2, 1) := by decide +kernel
theorem dX3_unlink_21 : decode cX3_unlink 21 = .ok (.aload_n 0, 1) := by decide +kernel
theorem dX3_unlink_22 : decode cX3_unlink 22 = .ok (.getfield 12, 3) := by decide +kernel
theorem dX3_unlink_25 : decode cX3_unlink 25 = .ok (.iload_n 1, 1) := by decide +kernel
theorem dX3_unlink_26 : decode cX3_unlink 26 = .ok (.iload_n 2, 1) := by decide +kernel
theorem dX3_unlink_27 : decode cX3_unlink 27 = .ok (.invokevirtual 109, 3) := by decide +kernel
theorem dX3_unlink_30 : decode cX3_unlink 30 = .ok (.aload_n 0, 1) := by decide +kernel
theorem dX3_unlink_31 : decode cX3_unlink 31 = .ok (.iload_n 1, 1) := by decide +kernel
theorem dX3_unlink_32 : decode cX3_unlink 32 = .ok (.invokevirtual 113, 3) := by decide +kernel
theorem dX3_unlink_35 : decode cX3_unlink 35 = .ok (.pop, 1) := by decide +kernel
theorem dX3_unlink_36 : decode cX3_unlink 36 = .ok (.aload_n 0, 1) := by decide +kernel
theorem dX3_unlink_37 : decode cX3_unlink 37 = .ok (.bipush 117, 2) := by decide +kernel
theorem dX3_unlink_39 : decode cX3_unlink 39 = .ok (.invokevirtual 90, 3) := by decide +kernel
theorem dX3_unlink_42 : decode cX3_unlink 42 = .ok (.iload_n 2, 1) := by decide +kernel
theorem dX3_unlink_43 : decode cX3_unlink 43 = .ok (.ireturn, 1) := by decide +kernel
theorem dX3_write_0 : decode cX3_write 0 = .ok (.aload_n 0, 1) := by decide +kernel
theorem dX3_write_1 : decode cX3_write 1 = .ok (.iload_n 1, 1) := by decide +kernel
theorem dX3_write_2 : decode cX3_write 2 = .ok (.invokevirtual 94, 3) := by decide +kernel
theorem dX3_write_5 : decode cX3_write 5 = .ok (.aload_n 0, 1) := by decide +kernel
theorem dX3_write_6 : decode cX3_write 6 = .ok (.iload_n 2, 1) := by decide +kernel
theorem dX3_write_7 : decode cX3_write 7 = .ok (.invokevirtual 116, 3) := by decide +kernel
theorem dX3_write_10 : decode cX3_write 10 = .ok (.aload_n 0, 1) := by decide +kernel
theorem dX3_write_11 : decode cX3_write 11 = .ok (.iload_n 3, 1) := by decide +kernel
theorem dX3_write_12 : decode cX3_write 12 = .ok (.iconst 0, 1) := by decide +kernel
theorem dX3_write_13 : decode cX3_write 13 = .ok (.sipush 999, 3) := by decide +kernel
theorem dX3_write_16 : decode cX3_write 16 = .ok (.invokevirtual 62, 3) := by decide +kernel
theorem dX3_write_19 : decode cX3_write 19 = .ok (.aload_n 0, 1) := by decide +kernel
theorem dX3_write_20 : decode cX3_write 20 = .ok (.iload_n 1, 1) := by decide +kernel
theorem dX3_write_21 : decode cX3_write 21 = .ok (.invokevirtual 104, 3) := by decide +kernel
theorem dX3_write_24 : decode cX3_write 24 = .ok (.aload_n 0, 1) := by decide +kernel
theorem dX3_write_25 : decode cX3_write 25 = .ok (.getfield 12, 3) := by decide +kernel
theorem dX3_write_28 : decode cX3_write 28 = .ok (.iload_n 1, 1) := by decide +kernel
theorem dX3_write_29 : decode cX3_write 29 = .ok (.iload_n 2, 1) := by decide +kernel
theorem dX3_write_30 : decode cX3_write 30 = .ok (.invokevirtual 119, 3) := by decide +kernel
theorem dX3_write_33 : decode cX3_write 33 = .ok (.istore 4, 2) := by decide +kernel
theorem dX3_write_35 : decode cX3_write 35 = .ok (.aload_n 0, 1) := by decide +kernel
theorem dX3_write_36 : decode cX3_write 36 = .ok (.getfield 12, 3) := by decide +kernel
theorem dX3_write_39 : decode cX3_write 39 = .ok (.iload 4, 2) := by decide +kernel
theorem dX3_write_41 : decode cX3_write 41 = .ok (.invokevirtual 123, 3) := by decide +kernel
theorem dX3_write_44 : decode cX3_write 44 = .ok (.iconst 1, 1) := by decide +kernel
theorem dX3_write_45 : decode cX3_write 45 = .ok (.if_icmp .eq 43, 3) := by decide +kernel
theorem dX3_write_48 : decode cX3_write 48 = .ok (.aload_n 0, 1) := by decide +kernel
theorem dX3_write_49 : decode cX3_write 49 = .ok (.getfield 12, 3) := by decide +kernel
theorem dX3_write_52 : decode cX3_write 52 = .ok (.iload_n 1, 1) := by decide +kernel
theorem dX3_write_53 : decode cX3_write 53 = .ok (.invokevirtual 126, 3) := by decide +kernel
theorem dX3_write_56 : decode cX3_write 56 = .ok (.istore 5, 2) := by decide +kernel
theorem dX3_write_58 : decode cX3_write 58 = .ok (.aload_n 0, 1) := by decide +kernel
theorem dX3_write_59 : decode cX3_write 59 = .ok (.iload 5, 2) := by decide +kernel
theorem dX3_write_61 : decode cX3_write 61 = .ok (.iload_n 1, 1) := by decide +kernel
theorem dX3_write_62 : decode cX3_write 62 = .ok (.iload_n 2, 1) := by decide +kernel
theorem dX3_write_63 : decode cX3_write 63 = .ok (.invokevirtual 129, 3) := by decide +kernel
theorem dX3_write_66 : decode cX3_write 66 = .ok (.aload_n 0, 1) := by decide +kernel
theorem dX3_write_67 : decode cX3_write 67 = .ok (.getfield 12, 3) := by decide +kernel
theorem dX3_write_70 : decode cX3_write 70 = .ok (.iload 5, 2) := by decide +kernel
theorem dX3_write_72 : decode cX3_write 72 = .ok (.invokevirtual 132, 3) := by decide +kernel
theorem dX3_write_75 : decode cX3_write 75 = .ok (.istore 4, 2) := by decide +kernel
theorem dX3_write_77 : decode cX3_write 77 = .ok (.aload_n 0, 1) := by decide +kernel
theorem dX3_write_78 : decode cX3_write 78 = .ok (.getfield 12, 3) := by decide +kernel
theorem dX3_write_81 : decode cX3_write 81 = .ok (.iload_n 1, 1) := by decide +kernel
theorem dX3_write_82 : decode cX3_write 82 = .ok (.iload_n 2, 1) := by decide +kernel
theorem dX3_write_83 : decode cX3_write 83 = .ok (.iload 4, 2) := by decide +kernel
theorem dX3_write_85 : decode cX3_write 85 = .ok (.invokevirtual 135, 3) := by decide +kernel
theorem dX3_write_88 : decode cX3_write 88 = .ok (.aload_n 0, 1) := by decide +kernel
theorem dX3_write_89 : decode cX3_write 89 = .ok (.getfield 12, 3) := by decide +kernel
theorem dX3_write_92 : decode cX3_write 92 = .ok (.iload 4, 2) := by decide +kernel
theorem dX3_write_94 : decode cX3_write 94 = .ok (.iload_n 3, 1) := by decide +kernel
theorem dX3_write_95 : decode cX3_write 95 = .ok (.invokevirtual 138, 3) := by decide +kernel
theorem dX3_write_98 : decode cX3_write 98 = .ok (.aload_n 0, 1) := by decide +kernel
theorem dX3_write_99 : decode cX3_write 99 = .ok (.bipush 119, 2) := by decide +kernel
theorem dX3_write_101 : decode cX3_write 101 = .ok (.invokevirtual 90, 3) := by decide +kernel
theorem dX3_write_104 : decode cX3_write 104 = .ok (.iload 4, 2) := by decide +kernel
theorem dX3_write_106 : decode cX3_write 106 = .ok (.ireturn, 1) := by decide +kernel
theorem dX3_punch_0 : decode cX3_punch 0 = .ok (.aload_n 0, 1) := by decide +kernel
theorem dX3_punch_1 : decode cX3_punch 1 = .ok (.iload_n 1, 1) := by decide +kernel
theorem dX3_punch_2 : decode cX3_punch 2 = .ok (.invokevirtual 94, 3) := by decide +kernel
theorem dX3_punch_5 : decode cX3_punch 5 = .ok (.aload_n 0, 1) := by decide +kernel
theorem dX3_punch_6 : decode cX3_punch 6 = .ok (.iload_n 2, 1) := by decide +kernel
theorem dX3_punch_7 : decode cX3_punch 7 = .ok (.invokevirtual 116, 3) := by decide +kernel
theorem dX3_punch_10 : decode cX3_punch 10 = .ok (.aload_n 0, 1) := by decide +kernel
theorem dX3_punch_11 : decode cX3_punch 11 = .ok (.iload_n 1, 1) := by decide +kernel
theorem dX3_punch_12 : decode cX3_punch 12 = .ok (.invokevirtual 104, 3) := by decide +kernel
theorem dX3_punch_15 : decode cX3_punch 15 = .ok (.aload_n 0, 1) := by decide +kernel
theorem dX3_punch_16 : decode cX3_punch 16 = .ok (.getfield 12, 3) := by decide +kernel
theorem dX3_punch_19 : decode cX3_punch 19 = .ok (.iload_n 1, 1) := by decide +kernel
theorem dX3_punch_20 : decode cX3_punch 20 = .ok (.iload_n 2, 1) := by decide +kernel
theorem dX3_punch_21 : decode cX3_punch 21 = .ok (.invokevirtual 119, 3) := by decide +kernel
theorem dX3_punch_24 : decode cX3_punch 24 = .ok (.istore_n 3, 1) := by decide +kernel
theorem dX3_punch_25 : decode cX3_punch 25 = .ok (.iload_n 3, 1) := by decide +kernel
theorem dX3_punch_26 : decode cX3_punch 26 = .ok (.iconst (-1), 1) := by decide +kernel
theorem dX3_punch_27 : decode cX3_punch 27 = .ok (.if_icmp .ne 13, 3) := by decide +kernel
theorem dX3_punch_30 : decode cX3_punch 30 = .ok (.new 69, 3) := by decide +kernel
theorem dX3_punch_33 : decode cX3_punch 33 = .ok (.dup, 1) := by decide +kernel
theorem dX3_punch_34 : decode cX3_punch 34 = .ok (.ldc 141, 2) := by decide +kernel
theorem dX3_punch_36 : decode cX3_punch 36 = .ok (.invokespecial 73, 3) := by decide +kernel
theorem dX3_punch_39 : decode cX3_punch 39 = .ok (.athrow, 1) := by decide +kernel
theorem dX3_punch_40 : decode cX3_punch 40 = .ok (.aload_n 0, 1) := by decide +kernel
theorem dX3_punch_41 : decode cX3_punch 41 = .ok (.getfield 12, 3) := by decide +kernel
theorem dX3_punch_44 : decode cX3_punch 44 = .ok (.iload_n 1, 1) := by decide +kernel
theorem dX3_punch_45 : decode cX3_punch 45 = .ok (.iload_n 2, 1) := by decide +kernel
theorem dX3_punch_46 : decode cX3_punch 46 = .ok (.iconst (-1), 1) := by decide +kernel
theorem dX3_punch_47 : decode cX3_punch 47 = .ok (.invokevirtual 135, 3) := by decide +kernel
theorem dX3_punch_50 : decode cX3_punch 50 = .ok (.aload_n 0, 1) := by decide +kernel
theorem dX3_punch_51 : decode cX3_punch 51 = .ok (.bipush 104, 2) := by decide +kernel
theorem dX3_punch_53 : decode cX3_punch 53 = .ok (.invokevirtual 90, 3) := by decide +kernel
theorem dX3_punch_56 : decode cX3_punch 56 = .ok (.iload_n 3, 1) := by decide +kernel
theorem dX3_punch_57 : decode cX3_punch 57 = .ok (.ireturn, 1) := by decide +kernel
theorem dX3_read_0 : decode cX3_read 0 = .ok (.aload_n 0, 1) := by decide +kernel
theorem dX3_read_1 : decode cX3_read 1 = .ok (.getfield 12, 3) := by decide +kernel
theorem dX3_read_4 : decode cX3_read 4 = .ok (.aload_n 0, 1) := by decide +kernel
theorem dX3_read_5 : decode cX3_read 5 = .ok (.iload_n 1, 1) := by decide +kernel
theorem dX3_read_6 : decode cX3_read 6 = .ok (.iload_n 2, 1) := by decide +kernel
theorem dX3_read_7 : decode cX3_read 7 = .ok (.invokevirtual 143, 3) := by decide +kernel
theorem dX3_read_10 : decode cX3_read 10 = .ok (.invokevirtual 146, 3) := by decide +kernel
theorem dX3_read_13 : decode cX3_read 13 = .ok (.ireturn, 1) := by decide +kernel
theorem dX3_blockAt_0 : decode cX3_blockAt 0 = .ok (.aload_n 0, 1) := by decide +kernel
theorem dX3_blockAt_1 : decode cX3_blockAt 1 = .ok (.iload_n 1, 1) := by decide +kernel
theorem dX3_blockAt_2 : decode cX3_blockAt 2 = .ok (.iload_n 2, 1) := by decide +kernel
theorem dX3_blockAt_3 : decode cX3_blockAt 3 = .ok (.invokevirtual 143, 3) := by decide +kernel
theorem dX3_blockAt_6 : decode cX3_blockAt 6 = .ok (.ireturn, 1) := by decide +kernel
theorem dX3_blocksOf_0 : decode cX3_blocksOf 0 = .ok (.aload_n 0, 1) := by decide +kernel
theorem dX3_blocksOf_1 : decode cX3_blocksOf 1 = .ok (.iload_n 1, 1) := by decide +kernel
theorem dX3_blocksOf_2 : decode cX3_blocksOf 2 = .ok (.invokevirtual 94, 3) := by decide +kernel
theorem dX3_blocksOf_5 : decode cX3_blocksOf 5 = .ok (.iconst 0, 1) := by decide +kernel
theorem dX3_blocksOf_6 : decode cX3_blocksOf 6 = .ok (.istore_n 2, 1) := by decide +kernel
theorem dX3_blocksOf_7 : decode cX3_blocksOf 7 = .ok (.iconst 0, 1) := by decide +kernel
theorem dX3_blocksOf_8 : decode cX3_blocksOf 8 = .ok (.istore_n 3, 1) := by decide +kernel
theorem dX3_blocksOf_9 : decode cX3_blocksOf 9 = .ok (.iload_n 3, 1) := by decide +kernel
theorem dX3_blocksOf_10 : decode cX3_blocksOf 10 = .ok (.bipush 16, 2) := by decide +kernel
theorem dX3_blocksOf_12 : decode cX3_blocksOf 12 = .ok (.if_icmp .ge 25, 3) := by decide +kernel
theorem dX3_blocksOf_15 : decode cX3_blocksOf 15 = .ok (.aload_n 0, 1) := by decide +kernel
theorem dX3_blocksOf_16 : decode cX3_blocksOf 16 = .ok (.getfield 12, 3) := by decide +kernel
theorem dX3_blocksOf_19 : decode cX3_blocksOf 19 = .ok (.iload_n 1, 1) := by decide +kernel
theorem dX3_blocksOf_20 : decode cX3_blocksOf 20 = .ok (.iload_n 3, 1) := by decide +kernel
theorem dX3_blocksOf_21 : decode cX3_blocksOf 21 = .ok (.invokevirtual 119, 3) := by decide +kernel
theorem dX3_blocksOf_24 : decode cX3_blocksOf 24 = .ok (.iconst (-1), 1) := by decide +kernel
theorem dX3_blocksOf_25 : decode cX3_blocksOf 25 = .ok (.if_icmp .eq 6, 3) := by decide +kernel
theorem dX3_blocksOf_28 : decode cX3_blocksOf 28 = .ok (.iinc 2 1, 3) := by decide +kernel
theorem dX3_blocksOf_31 : decode cX3_blocksOf 31 = .ok (.iinc 3 1, 3) := by decide +kernel
theorem dX3_blocksOf_34 : decode cX3_blocksOf 34 = .ok (.goto (-25), 3) := by decide +kernel
theorem dX3_blocksOf_37 : decode cX3_blocksOf 37 = .ok (.iload_n 2, 1) := by decide +kernel
theorem dX3_blocksOf_38 : decode cX3_blocksOf 38 = .ok (.ireturn, 1) := by decide +kernel
theorem dX3_usedBy_0 : decode cX3_usedBy 0 = .ok (.aload_n 0, 1) := by decide +kernel
theorem dX3_usedBy_1 : decode cX3_usedBy 1 = .ok (.iload_n 1, 1) := by decide +kernel
theorem dX3_usedBy_2 : decode cX3_usedBy 2 = .ok (.invokevirtual 76, 3) := by decide +kernel
theorem dX3_usedBy_5 : decode cX3_usedBy 5 = .ok (.aload_n 0, 1) := by decide +kernel
theorem dX3_usedBy_6 : decode cX3_usedBy 6 = .ok (.getfield 12, 3) := by decide +kernel
theorem dX3_usedBy_9 : decode cX3_usedBy 9 = .ok (.iload_n 1, 1) := by decide +kernel
theorem dX3_usedBy_10 : decode cX3_usedBy 10 = .ok (.iconst (-1), 1) := by decide +kernel
theorem dX3_usedBy_11 : decode cX3_usedBy 11 = .ok (.invokevirtual 149, 3) := by decide +kernel
theorem dX3_usedBy_14 : decode cX3_usedBy 14 = .ok (.invokestatic 153, 3) := by decide +kernel
theorem dX3_usedBy_17 : decode cX3_usedBy 17 = .ok (.ireturn, 1) := by decide +kernel
theorem dX3_free_0 : decode cX3_free 0 = .ok (.aload_n 0, 1) := by decide +kernel
theorem dX3_free_1 : decode cX3_free 1 = .ok (.getfield 12, 3) := by decide +kernel
theorem dX3_free_4 : decode cX3_free 4 = .ok (.invokevirtual 159, 3) := by decide +kernel
theorem dX3_free_7 : decode cX3_free 7 = .ok (.ireturn, 1) := by decide +kernel
theorem dX3_usersOf_0 : decode cX3_usersOf 0 = .ok (.aload_n 0, 1) := by decide +kernel
theorem dX3_usersOf_1 : decode cX3_usersOf 1 = .ok (.iload_n 1, 1) := by decide +kernel
theorem dX3_usersOf_2 : decode cX3_usersOf 2 = .ok (.invokevirtual 162, 3) := by decide +kernel
theorem dX3_usersOf_5 : decode cX3_usersOf 5 = .ok (.aload_n 0, 1) := by decide +kernel
theorem dX3_usersOf_6 : decode cX3_usersOf 6 = .ok (.getfield 12, 3) := by decide +kernel
theorem dX3_usersOf_9 : decode cX3_usersOf 9 = .ok (.iload_n 1, 1) := by decide +kernel
theorem dX3_usersOf_10 : decode cX3_usersOf 10 = .ok (.invokevirtual 123, 3) := by decide +kernel
theorem dX3_usersOf_13 : decode cX3_usersOf 13 = .ok (.ireturn, 1) := by decide +kernel
theorem dX3_usersByWalk_0 : decode cX3_usersByWalk 0 = .ok (.aload_n 0, 1) := by decide +kernel
theorem dX3_usersByWalk_1 : decode cX3_usersByWalk 1 = .ok (.iload_n 1, 1) := by decide +kernel
theorem dX3_usersByWalk_2 : decode cX3_usersByWalk 2 = .ok (.invokevirtual 162, 3) := by decide +kernel
theorem dX3_usersByWalk_5 : decode cX3_usersByWalk 5 = .ok (.aload_n 0, 1) := by decide +kernel
theorem dX3_usersByWalk_6 : decode cX3_usersByWalk 6 = .ok (.invokevirtual 165, 3) := by decide +kernel
theorem dX3_usersByWalk_9 : decode cX3_usersByWalk 9 = .ok (.aload_n 0, 1) := by decide +kernel
theorem dX3_usersByWalk_10 : decode cX3_usersByWalk 10 = .ok (.getfield 59, 3) := by decide +kernel
theorem dX3_usersByWalk_13 : decode cX3_usersByWalk 13 = .ok (.iload_n 1, 1) := by decide +kernel
theorem dX3_usersByWalk_14 : decode cX3_usersByWalk 14 = .ok (.iaload, 1) := by decide +kernel
theorem dX3_usersByWalk_15 : decode cX3_usersByWalk 15 = .ok (.ireturn, 1) := by decide +kernel
theorem dX3_promise_0 : decode cX3_promise 0 = .ok (.aload_n 0, 1) := by decide +kernel
theorem dX3_promise_1 : decode cX3_promise 1 = .ok (.iload_n 1, 1) := by decide +kernel
theorem dX3_promise_2 : decode cX3_promise 2 = .ok (.invokevirtual 76, 3) := by decide +kernel
theorem dX3_promise_5 : decode cX3_promise 5 = .ok (.aload_n 0, 1) := by decide +kernel
theorem dX3_promise_6 : decode cX3_promise 6 = .ok (.iload_n 2, 1) := by decide +kernel
theorem dX3_promise_7 : decode cX3_promise 7 = .ok (.iconst 1, 1) := by decide +kernel
theorem dX3_promise_8 : decode cX3_promise 8 = .ok (.bipush 64, 2) := by decide +kernel
theorem dX3_promise_10 : decode cX3_promise 10 = .ok (.invokevirtual 62, 3) := by decide +kernel
theorem dX3_promise_13 : decode cX3_promise 13 = .ok (.iload_n 2, 1) := by decide +kernel
theorem dX3_promise_14 : decode cX3_promise 14 = .ok (.aload_n 0, 1) := by decide +kernel
theorem dX3_promise_15 : decode cX3_promise 15 = .ok (.getfield 12, 3) := by decide +kernel
theorem dX3_promise_18 : decode cX3_promise 18 = .ok (.invokevirtual 159, 3) := by decide +kernel
theorem dX3_promise_21 : decode cX3_promise 21 = .ok (.aload_n 0, 1) := by decide +kernel
theorem dX3_promise_22 : decode cX3_promise 22 = .ok (.getfield 12, 3) := by decide +kernel
theorem dX3_promise_25 : decode cX3_promise 25 = .ok (.invokevirtual 168, 3) := by decide +kernel
theorem dX3_promise_28 : decode cX3_promise 28 = .ok (.isub, 1) := by decide +kernel
theorem dX3_promise_29 : decode cX3_promise 29 = .ok (.if_icmp .le 13, 3) := by decide +kernel
theorem dX3_promise_32 : decode cX3_promise 32 = .ok (.new 171, 3) := by decide +kernel
theorem dX3_promise_35 : decode cX3_promise 35 = .ok (.dup, 1) := by decide +kernel
theorem dX3_promise_36 : decode cX3_promise 36 = .ok (.ldc 173, 2) := by decide +kernel
theorem dX3_promise_38 : decode cX3_promise 38 = .ok (.invokespecial 175, 3) := by decide +kernel
theorem dX3_promise_41 : decode cX3_promise 41 = .ok (.athrow, 1) := by decide +kernel
theorem dX3_promise_42 : decode cX3_promise 42 = .ok (.aload_n 0, 1) := by decide +kernel
theorem dX3_promise_43 : decode cX3_promise 43 = .ok (.getfield 12, 3) := by decide +kernel
theorem dX3_promise_46 : decode cX3_promise 46 = .ok (.iload_n 1, 1) := by decide +kernel
theorem dX3_promise_47 : decode cX3_promise 47 = .ok (.invokevirtual 176, 3) := by decide +kernel
theorem dX3_promise_50 : decode cX3_promise 50 = .ok (.iload_n 2, 1) := by decide +kernel
theorem dX3_promise_51 : decode cX3_promise 51 = .ok (.iadd, 1) := by decide +kernel
theorem dX3_promise_52 : decode cX3_promise 52 = .ok (.istore_n 3, 1) := by decide +kernel
theorem dX3_promise_53 : decode cX3_promise 53 = .ok (.aload_n 0, 1) := by decide +kernel
theorem dX3_promise_54 : decode cX3_promise 54 = .ok (.getfield 12, 3) := by decide +kernel
theorem dX3_promise_57 : decode cX3_promise 57 = .ok (.iload_n 1, 1) := by decide +kernel
theorem dX3_promise_58 : decode cX3_promise 58 = .ok (.iload_n 3, 1) := by decide +kernel
theorem dX3_promise_59 : decode cX3_promise 59 = .ok (.invokevirtual 179, 3) := by decide +kernel
theorem dX3_promise_62 : decode cX3_promise 62 = .ok (.aload_n 0, 1) := by decide +kernel
theorem dX3_promise_63 : decode cX3_promise 63 = .ok (.bipush 112, 2) := by decide +kernel
theorem dX3_promise_65 : decode cX3_promise 65 = .ok (.invokevirtual 90, 3) := by decide +kernel
theorem dX3_promise_68 : decode cX3_promise 68 = .ok (.iload_n 3, 1) := by decide +kernel
theorem dX3_promise_69 : decode cX3_promise 69 = .ok (.ireturn, 1) := by decide +kernel
theorem dX3_promisedTo_0 : decode cX3_promisedTo 0 = .ok (.aload_n 0, 1) := by decide +kernel
theorem dX3_promisedTo_1 : decode cX3_promisedTo 1 = .ok (.iload_n 1, 1) := by decide +kernel
theorem dX3_promisedTo_2 : decode cX3_promisedTo 2 = .ok (.invokevirtual 76, 3) := by decide +kernel
theorem dX3_promisedTo_5 : decode cX3_promisedTo 5 = .ok (.aload_n 0, 1) := by decide +kernel
theorem dX3_promisedTo_6 : decode cX3_promisedTo 6 = .ok (.getfield 12, 3) := by decide +kernel
theorem dX3_promisedTo_9 : decode cX3_promisedTo 9 = .ok (.iload_n 1, 1) := by decide +kernel
theorem dX3_promisedTo_10 : decode cX3_promisedTo 10 = .ok (.invokevirtual 176, 3) := by decide +kernel
theorem dX3_promisedTo_13 : decode cX3_promisedTo 13 = .ok (.ireturn, 1) := by decide +kernel
theorem dX3_giveBack_0 : decode cX3_giveBack 0 = .ok (.aload_n 0, 1) := by decide +kernel
theorem dX3_giveBack_1 : decode cX3_giveBack 1 = .ok (.iload_n 1, 1) := by decide +kernel
theorem dX3_giveBack_2 : decode cX3_giveBack 2 = .ok (.invokevirtual 76, 3) := by decide +kernel
theorem dX3_giveBack_5 : decode cX3_giveBack 5 = .ok (.aload_n 0, 1) := by decide +kernel
theorem dX3_giveBack_6 : decode cX3_giveBack 6 = .ok (.getfield 12, 3) := by decide +kernel
theorem dX3_giveBack_9 : decode cX3_giveBack 9 = .ok (.iload_n 1, 1) := by decide +kernel
theorem dX3_giveBack_10 : decode cX3_giveBack 10 = .ok (.invokevirtual 176, 3) := by decide +kernel
theorem dX3_giveBack_13 : decode cX3_giveBack 13 = .ok (.istore_n 2, 1) := by decide +kernel
theorem dX3_giveBack_14 : decode cX3_giveBack 14 = .ok (.iload_n 2, 1) := by decide +kernel
theorem dX3_giveBack_15 : decode cX3_giveBack 15 = .ok (.ifCond .ne 13, 3) := by decide +kernel
theorem dX3_giveBack_18 : decode cX3_giveBack 18 = .ok (.new 69, 3) := by decide +kernel
theorem dX3_giveBack_21 : decode cX3_giveBack 21 = .ok (.dup, 1) := by decide +kernel
theorem dX3_giveBack_22 : decode cX3_giveBack 22 = .ok (.ldc 182, 2) := by decide +kernel
theorem dX3_giveBack_24 : decode cX3_giveBack 24 = .ok (.invokespecial 73, 3) := by decide +kernel
theorem dX3_giveBack_27 : decode cX3_giveBack 27 = .ok (.athrow, 1) := by decide +kernel
theorem dX3_giveBack_28 : decode cX3_giveBack 28 = .ok (.aload_n 0, 1) := by decide +kernel
theorem dX3_giveBack_29 : decode cX3_giveBack 29 = .ok (.getfield 12, 3) := by decide +kernel
theorem dX3_giveBack_32 : decode cX3_giveBack 32 = .ok (.iload_n 1, 1) := by decide +kernel
theorem dX3_giveBack_33 : decode cX3_giveBack 33 = .ok (.iconst 0, 1) := by decide +kernel
theorem dX3_giveBack_34 : decode cX3_giveBack 34 = .ok (.invokevirtual 179, 3) := by decide +kernel
theorem dX3_giveBack_37 : decode cX3_giveBack 37 = .ok (.aload_n 0, 1) := by decide +kernel
theorem dX3_giveBack_38 : decode cX3_giveBack 38 = .ok (.bipush 103, 2) := by decide +kernel
theorem dX3_giveBack_40 : decode cX3_giveBack 40 = .ok (.invokevirtual 90, 3) := by decide +kernel
theorem dX3_giveBack_43 : decode cX3_giveBack 43 = .ok (.iload_n 2, 1) := by decide +kernel
theorem dX3_giveBack_44 : decode cX3_giveBack 44 = .ok (.ireturn, 1) := by decide +kernel
theorem dX3_takeSnapshot_0 : decode cX3_takeSnapshot 0 = .ok (.aload_n 0, 1) := by decide +kernel
theorem dX3_takeSnapshot_1 : decode cX3_takeSnapshot 1 = .ok (.iload_n 1, 1) := by decide +kernel
theorem dX3_takeSnapshot_2 : decode cX3_takeSnapshot 2 = .ok (.iconst 0, 1) := by decide +kernel
theorem dX3_takeSnapshot_3 : decode cX3_takeSnapshot 3 = .ok (.bipush 9, 2) := by decide +kernel
theorem dX3_takeSnapshot_5 : decode cX3_takeSnapshot 5 = .ok (.invokevirtual 62, 3) := by decide +kernel
theorem dX3_takeSnapshot_8 : decode cX3_takeSnapshot 8 = .ok (.aload_n 0, 1) := by decide +kernel
theorem dX3_takeSnapshot_9 : decode cX3_takeSnapshot 9 = .ok (.invokevirtual 66, 3) := by decide +kernel
theorem dX3_takeSnapshot_12 : decode cX3_takeSnapshot 12 = .ok (.aload_n 0, 1) := by decide +kernel
theorem dX3_takeSnapshot_13 : decode cX3_takeSnapshot 13 = .ok (.getfield 38, 3) := by decide +kernel
theorem dX3_takeSnapshot_16 : decode cX3_takeSnapshot 16 = .ok (.invokevirtual 184, 3) := by decide +kernel
theorem dX3_takeSnapshot_19 : decode cX3_takeSnapshot 19 = .ok (.bipush 8, 2) := by decide +kernel
theorem dX3_takeSnapshot_21 : decode cX3_takeSnapshot 21 = .ok (.if_icmp .lt 13, 3) := by decide +kernel
theorem dX3_takeSnapshot_24 : decode cX3_takeSnapshot 24 = .ok (.new 69, 3) := by decide +kernel
theorem dX3_takeSnapshot_27 : decode cX3_takeSnapshot 27 = .ok (.dup, 1) := by decide +kernel
theorem dX3_takeSnapshot_28 : decode cX3_takeSnapshot 28 = .ok (.ldc 187, 2) := by decide +kernel
theorem dX3_takeSnapshot_30 : decode cX3_takeSnapshot 30 = .ok (.invokespecial 73, 3) := by decide +kernel
theorem dX3_takeSnapshot_33 : decode cX3_takeSnapshot 33 = .ok (.athrow, 1) := by decide +kernel
theorem dX3_takeSnapshot_34 : decode cX3_takeSnapshot 34 = .ok (.aload_n 0, 1) := by decide +kernel
theorem dX3_takeSnapshot_35 : decode cX3_takeSnapshot 35 = .ok (.getfield 38, 3) := by decide +kernel
theorem dX3_takeSnapshot_38 : decode cX3_takeSnapshot 38 = .ok (.invokevirtual 189, 3) := by decide +kernel
theorem dX3_takeSnapshot_41 : decode cX3_takeSnapshot 41 = .ok (.bipush 30, 2) := by decide +kernel
theorem dX3_takeSnapshot_43 : decode cX3_takeSnapshot 43 = .ok (.if_icmp .lt 13, 3) := by decide +kernel
theorem dX3_takeSnapshot_46 : decode cX3_takeSnapshot 46 = .ok (.new 69, 3) := by decide +kernel
theorem dX3_takeSnapshot_49 : decode cX3_takeSnapshot 49 = .ok (.dup, 1) := by decide +kernel
theorem dX3_takeSnapshot_50 : decode cX3_takeSnapshot 50 = .ok (.ldc 192, 2) := by decide +kernel
theorem dX3_takeSnapshot_52 : decode cX3_takeSnapshot 52 = .ok (.invokespecial 73, 3) := by decide +kernel
theorem dX3_takeSnapshot_55 : decode cX3_takeSnapshot 55 = .ok (.athrow, 1) := by decide +kernel
theorem dX3_takeSnapshot_56 : decode cX3_takeSnapshot 56 = .ok (.aload_n 0, 1) := by decide +kernel
theorem dX3_takeSnapshot_57 : decode cX3_takeSnapshot 57 = .ok (.getfield 38, 3) := by decide +kernel
theorem dX3_takeSnapshot_60 : decode cX3_takeSnapshot 60 = .ok (.iload_n 1, 1) := by decide +kernel
theorem dX3_takeSnapshot_61 : decode cX3_takeSnapshot 61 = .ok (.aload_n 0, 1) := by decide +kernel
theorem dX3_takeSnapshot_62 : decode cX3_takeSnapshot 62 = .ok (.getfield 12, 3) := by decide +kernel
theorem dX3_takeSnapshot_65 : decode cX3_takeSnapshot 65 = .ok (.invokevirtual 194, 3) := by decide +kernel
theorem dX3_takeSnapshot_68 : decode cX3_takeSnapshot 68 = .ok (.ireturn, 1) := by decide +kernel
theorem dX3_isKept_0 : decode cX3_isKept 0 = .ok (.aload_n 0, 1) := by decide +kernel
theorem dX3_isKept_1 : decode cX3_isKept 1 = .ok (.iload_n 1, 1) := by decide +kernel
theorem dX3_isKept_2 : decode cX3_isKept 2 = .ok (.invokevirtual 198, 3) := by decide +kernel
theorem dX3_isKept_5 : decode cX3_isKept 5 = .ok (.aload_n 0, 1) := by decide +kernel
theorem dX3_isKept_6 : decode cX3_isKept 6 = .ok (.getfield 38, 3) := by decide +kernel
theorem dX3_isKept_9 : decode cX3_isKept 9 = .ok (.iload_n 1, 1) := by decide +kernel
theorem dX3_isKept_10 : decode cX3_isKept 10 = .ok (.invokevirtual 201, 3) := by decide +kernel
theorem dX3_isKept_13 : decode cX3_isKept 13 = .ok (.iconst (-1), 1) := by decide +kernel
theorem dX3_isKept_14 : decode cX3_isKept 14 = .ok (.if_icmp .eq 7, 3) := by decide +kernel
theorem dX3_isKept_17 : decode cX3_isKept 17 = .ok (.iconst 1, 1) := by decide +kernel
theorem dX3_isKept_18 : decode cX3_isKept 18 = .ok (.goto 4, 3) := by decide +kernel
theorem dX3_isKept_21 : decode cX3_isKept 21 = .ok (.iconst 0, 1) := by decide +kernel
theorem dX3_isKept_22 : decode cX3_isKept 22 = .ok (.ireturn, 1) := by decide +kernel
theorem dX3_readFrom_0 : decode cX3_readFrom 0 = .ok (.aload_n 0, 1) := by decide +kernel
theorem dX3_readFrom_1 : decode cX3_readFrom 1 = .ok (.iload_n 1, 1) := by decide +kernel
theorem dX3_readFrom_2 : decode cX3_readFrom 2 = .ok (.invokevirtual 198, 3) := by decide +kernel
theorem dX3_readFrom_5 : decode cX3_readFrom 5 = .ok (.aload_n 0, 1) := by decide +kernel
theorem dX3_readFrom_6 : decode cX3_readFrom 6 = .ok (.iload_n 2, 1) := by decide +kernel
theorem dX3_readFrom_7 : decode cX3_readFrom 7 = .ok (.invokevirtual 94, 3) := by decide +kernel
theorem dX3_readFrom_10 : decode cX3_readFrom 10 = .ok (.aload_n 0, 1) := by decide +kernel
theorem dX3_readFrom_11 : decode cX3_readFrom 11 = .ok (.iload_n 3, 1) := by decide +kernel
theorem dX3_readFrom_12 : decode cX3_readFrom 12 = .ok (.invokevirtual 116, 3) := by decide +kernel
theorem dX3_readFrom_15 : decode cX3_readFrom 15 = .ok (.aload_n 0, 1) := by decide +kernel
theorem dX3_readFrom_16 : decode cX3_readFrom 16 = .ok (.iload_n 1, 1) := by decide +kernel
theorem dX3_readFrom_17 : decode cX3_readFrom 17 = .ok (.iload_n 2, 1) := by decide +kernel
theorem dX3_readFrom_18 : decode cX3_readFrom 18 = .ok (.invokevirtual 204, 3) := by decide +kernel
theorem dX3_readFrom_21 : decode cX3_readFrom 21 = .ok (.aload_n 0, 1) := by decide +kernel
theorem dX3_readFrom_22 : decode cX3_readFrom 22 = .ok (.getfield 38, 3) := by decide +kernel
theorem dX3_readFrom_25 : decode cX3_readFrom 25 = .ok (.iload_n 1, 1) := by decide +kernel
theorem dX3_readFrom_26 : decode cX3_readFrom 26 = .ok (.iload_n 2, 1) := by decide +kernel
theorem dX3_readFrom_27 : decode cX3_readFrom 27 = .ok (.iload_n 3, 1) := by decide +kernel
theorem dX3_readFrom_28 : decode cX3_readFrom 28 = .ok (.invokevirtual 207, 3) := by decide +kernel
theorem dX3_readFrom_31 : decode cX3_readFrom 31 = .ok (.istore 4, 2) := by decide +kernel
theorem dX3_readFrom_33 : decode cX3_readFrom 33 = .ok (.iload 4, 2) := by decide +kernel
theorem dX3_readFrom_35 : decode cX3_readFrom 35 = .ok (.iconst (-1), 1) := by decide +kernel
theorem dX3_readFrom_36 : decode cX3_readFrom 36 = .ok (.if_icmp .ne 13, 3) := by decide +kernel
theorem dX3_readFrom_39 : decode cX3_readFrom 39 = .ok (.new 210, 3) := by decide +kernel
theorem dX3_readFrom_42 : decode cX3_readFrom 42 = .ok (.dup, 1) := by decide +kernel
theorem dX3_readFrom_43 : decode cX3_readFrom 43 = .ok (.ldc 212, 2) := by decide +kernel
theorem dX3_readFrom_45 : decode cX3_readFrom 45 = .ok (.invokespecial 214, 3) := by decide +kernel
theorem dX3_readFrom_48 : decode cX3_readFrom 48 = .ok (.athrow, 1) := by decide +kernel
theorem dX3_readFrom_49 : decode cX3_readFrom 49 = .ok (.aload_n 0, 1) := by decide +kernel
theorem dX3_readFrom_50 : decode cX3_readFrom 50 = .ok (.getfield 12, 3) := by decide +kernel
theorem dX3_readFrom_53 : decode cX3_readFrom 53 = .ok (.iload 4, 2) := by decide +kernel
theorem dX3_readFrom_55 : decode cX3_readFrom 55 = .ok (.invokevirtual 146, 3) := by decide +kernel
theorem dX3_readFrom_58 : decode cX3_readFrom 58 = .ok (.ireturn, 1) := by decide +kernel
theorem dX3_thin_0 : decode cX3_thin 0 = .ok (.aload_n 0, 1) := by decide +kernel
theorem dX3_thin_1 : decode cX3_thin 1 = .ok (.iload_n 1, 1) := by decide +kernel
theorem dX3_thin_2 : decode cX3_thin 2 = .ok (.iconst 0, 1) := by decide +kernel
theorem dX3_thin_3 : decode cX3_thin 3 = .ok (.bipush 8, 2) := by decide +kernel
theorem dX3_thin_5 : decode cX3_thin 5 = .ok (.invokevirtual 62, 3) := by decide +kernel
theorem dX3_thin_8 : decode cX3_thin 8 = .ok (.aload_n 0, 1) := by decide +kernel
theorem dX3_thin_9 : decode cX3_thin 9 = .ok (.invokevirtual 66, 3) := by decide +kernel
theorem dX3_thin_12 : decode cX3_thin 12 = .ok (.iconst 0, 1) := by decide +kernel
theorem dX3_thin_13 : decode cX3_thin 13 = .ok (.aload_n 0, 1) := by decide +kernel
theorem dX3_thin_14 : decode cX3_thin 14 = .ok (.getfield 38, 3) := by decide +kernel
theorem dX3_thin_17 : decode cX3_thin 17 = .ok (.invokevirtual 184, 3) := by decide +kernel
theorem dX3_thin_20 : decode cX3_thin 20 = .ok (.iload_n 1, 1) := by decide +kernel
theorem dX3_thin_21 : decode cX3_thin 21 = .ok (.isub, 1) := by decide +kernel
theorem dX3_thin_22 : decode cX3_thin 22 = .ok (.invokestatic 215, 3) := by decide +kernel
theorem dX3_thin_25 : decode cX3_thin 25 = .ok (.istore_n 2, 1) := by decide +kernel
theorem dX3_thin_26 : decode cX3_thin 26 = .ok (.iconst 0, 1) := by decide +kernel
theorem dX3_thin_27 : decode cX3_thin 27 = .ok (.istore_n 3, 1) := by decide +kernel
theorem dX3_thin_28 : decode cX3_thin 28 = .ok (.iload_n 3, 1) := by decide +kernel
theorem dX3_thin_29 : decode cX3_thin 29 = .ok (.iload_n 2, 1) := by decide +kernel
theorem dX3_thin_30 : decode cX3_thin 30 = .ok (.if_icmp .ge 27, 3) := by decide +kernel
theorem dX3_thin_33 : decode cX3_thin 33 = .ok (.aload_n 0, 1) := by decide +kernel
theorem dX3_thin_34 : decode cX3_thin 34 = .ok (.getfield 38, 3) := by decide +kernel
theorem dX3_thin_37 : decode cX3_thin 37 = .ok (.aload_n 0, 1) := by decide +kernel
theorem dX3_thin_38 : decode cX3_thin 38 = .ok (.getfield 38, 3) := by decide +kernel
theorem dX3_thin_41 : decode cX3_thin 41 = .ok (.invokevirtual 220, 3) := by decide +kernel
theorem dX3_thin_44 : decode cX3_thin 44 = .ok (.aload_n 0, 1) := by decide +kernel
theorem dX3_thin_45 : decode cX3_thin 45 = .ok (.getfield 12, 3) := by decide +kernel
theorem dX3_thin_48 : decode cX3_thin 48 = .ok (.invokevirtual 223, 3) := by decide +kernel
theorem dX3_thin_51 : decode cX3_thin 51 = .ok (.iinc 3 1, 3) := by decide +kernel
theorem dX3_thin_54 : decode cX3_thin 54 = .ok (.goto (-26), 3) := by decide +kernel
theorem dX3_thin_57 : decode cX3_thin 57 = .ok (.iload_n 2, 1) := by decide +kernel
theorem dX3_thin_58 : decode cX3_thin 58 = .ok (.ireturn, 1) := by decide +kernel
theorem dX3_nextToDrop_0 : decode cX3_nextToDrop 0 = .ok (.aload_n 0, 1) := by decide +kernel
theorem dX3_nextToDrop_1 : decode cX3_nextToDrop 1 = .ok (.getfield 38, 3) := by decide +kernel
theorem dX3_nextToDrop_4 : decode cX3_nextToDrop 4 = .ok (.invokevirtual 220, 3) := by decide +kernel
theorem dX3_nextToDrop_7 : decode cX3_nextToDrop 7 = .ok (.istore_n 1, 1) := by decide +kernel
theorem dX3_nextToDrop_8 : decode cX3_nextToDrop 8 = .ok (.iload_n 1, 1) := by decide +kernel
theorem dX3_nextToDrop_9 : decode cX3_nextToDrop 9 = .ok (.iconst (-1), 1) := by decide +kernel
theorem dX3_nextToDrop_10 : decode cX3_nextToDrop 10 = .ok (.if_icmp .ne 13, 3) := by decide +kernel
theorem dX3_nextToDrop_13 : decode cX3_nextToDrop 13 = .ok (.new 210, 3) := by decide +kernel
theorem dX3_nextToDrop_16 : decode cX3_nextToDrop 16 = .ok (.dup, 1) := by decide +kernel
theorem dX3_nextToDrop_17 : decode cX3_nextToDrop 17 = .ok (.ldc 227, 2) := by decide +kernel
theorem dX3_nextToDrop_19 : decode cX3_nextToDrop 19 = .ok (.invokespecial 214, 3) := by decide +kernel
theorem dX3_nextToDrop_22 : decode cX3_nextToDrop 22 = .ok (.athrow, 1) := by decide +kernel
theorem dX3_nextToDrop_23 : decode cX3_nextToDrop 23 = .ok (.iload_n 1, 1) := by decide +kernel
theorem dX3_nextToDrop_24 : decode cX3_nextToDrop 24 = .ok (.ireturn, 1) := by decide +kernel
theorem dX3_restore_0 : decode cX3_restore 0 = .ok (.aload_n 0, 1) := by decide +kernel
theorem dX3_restore_1 : decode cX3_restore 1 = .ok (.iload_n 1, 1) := by decide +kernel
theorem dX3_restore_2 : decode cX3_restore 2 = .ok (.invokevirtual 198, 3) := by decide +kernel
theorem dX3_restore_5 : decode cX3_restore 5 = .ok (.aload_n 0, 1) := by decide +kernel
theorem dX3_restore_6 : decode cX3_restore 6 = .ok (.iload_n 2, 1) := by decide +kernel
theorem dX3_restore_7 : decode cX3_restore 7 = .ok (.invokevirtual 94, 3) := by decide +kernel
theorem dX3_restore_10 : decode cX3_restore 10 = .ok (.aload_n 0, 1) := by decide +kernel
theorem dX3_restore_11 : decode cX3_restore 11 = .ok (.iload_n 1, 1) := by decide +kernel
theorem dX3_restore_12 : decode cX3_restore 12 = .ok (.iload_n 2, 1) := by decide +kernel
theorem dX3_restore_13 : decode cX3_restore 13 = .ok (.invokevirtual 204, 3) := by decide +kernel
theorem dX3_restore_16 : decode cX3_restore 16 = .ok (.aload_n 0, 1) := by decide +kernel
theorem dX3_restore_17 : decode cX3_restore 17 = .ok (.invokevirtual 66, 3) := by decide +kernel
theorem dX3_restore_20 : decode cX3_restore 20 = .ok (.aload_n 0, 1) := by decide +kernel
theorem dX3_restore_21 : decode cX3_restore 21 = .ok (.iload_n 2, 1) := by decide +kernel
theorem dX3_restore_22 : decode cX3_restore 22 = .ok (.invokevirtual 104, 3) := by decide +kernel
theorem dX3_restore_25 : decode cX3_restore 25 = .ok (.aload_n 0, 1) := by decide +kernel
theorem dX3_restore_26 : decode cX3_restore 26 = .ok (.getfield 12, 3) := by decide +kernel
theorem dX3_restore_29 : decode cX3_restore 29 = .ok (.iload_n 2, 1) := by decide +kernel
theorem dX3_restore_30 : decode cX3_restore 30 = .ok (.invokevirtual 126, 3) := by decide +kernel
theorem dX3_restore_33 : decode cX3_restore 33 = .ok (.istore_n 3, 1) := by decide +kernel
theorem dX3_restore_34 : decode cX3_restore 34 = .ok (.aload_n 0, 1) := by decide +kernel
theorem dX3_restore_35 : decode cX3_restore 35 = .ok (.getfield 12, 3) := by decide +kernel
theorem dX3_restore_38 : decode cX3_restore 38 = .ok (.iload_n 3, 1) := by decide +kernel
theorem dX3_restore_39 : decode cX3_restore 39 = .ok (.iload_n 2, 1) := by decide +kernel
theorem dX3_restore_40 : decode cX3_restore 40 = .ok (.invokevirtual 149, 3) := by decide +kernel
theorem dX3_restore_43 : decode cX3_restore 43 = .ok (.aload_n 0, 1) := by decide +kernel
theorem dX3_restore_44 : decode cX3_restore 44 = .ok (.getfield 38, 3) := by decide +kernel
theorem dX3_restore_47 : decode cX3_restore 47 = .ok (.iload_n 1, 1) := by decide +kernel
theorem dX3_restore_48 : decode cX3_restore 48 = .ok (.iload_n 2, 1) := by decide +kernel
theorem dX3_restore_49 : decode cX3_restore 49 = .ok (.invokevirtual 229, 3) := by decide +kernel
theorem dX3_restore_52 : decode cX3_restore 52 = .ok (.lor, 1) := by decide +kernel
theorem dX3_restore_53 : decode cX3_restore 53 = .ok (.lstore 4, 2) := by decide +kernel
theorem dX3_restore_55 : decode cX3_restore 55 = .ok (.lload 4, 2) := by decide +kernel
theorem dX3_restore_57 : decode cX3_restore 57 = .ok (.invokestatic 153, 3) := by decide +kernel
theorem dX3_restore_60 : decode cX3_restore 60 = .ok (.aload_n 0, 1) := by decide +kernel
theorem dX3_restore_61 : decode cX3_restore 61 = .ok (.iload_n 3, 1) := by decide +kernel
theorem dX3_restore_62 : decode cX3_restore 62 = .ok (.invokevirtual 232, 3) := by decide +kernel
theorem dX3_restore_65 : decode cX3_restore 65 = .ok (.if_icmp .le 13, 3) := by decide +kernel
theorem dX3_restore_68 : decode cX3_restore 68 = .ok (.new 171, 3) := by decide +kernel
theorem dX3_restore_71 : decode cX3_restore 71 = .ok (.dup, 1) := by decide +kernel
theorem dX3_restore_72 : decode cX3_restore 72 = .ok (.ldc 235, 2) := by decide +kernel
theorem dX3_restore_74 : decode cX3_restore 74 = .ok (.invokespecial 175, 3) := by decide +kernel
theorem dX3_restore_77 : decode cX3_restore 77 = .ok (.athrow, 1) := by decide +kernel
theorem dX3_restore_78 : decode cX3_restore 78 = .ok (.iconst 0, 1) := by decide +kernel
theorem dX3_restore_79 : decode cX3_restore 79 = .ok (.istore 6, 2) := by decide +kernel
theorem dX3_restore_81 : decode cX3_restore 81 = .ok (.iconst 0, 1) := by decide +kernel
theorem dX3_restore_82 : decode cX3_restore 82 = .ok (.istore 7, 2) := by decide +kernel
theorem dX3_restore_84 : decode cX3_restore 84 = .ok (.iload 7, 2) := by decide +kernel
theorem dX3_restore_86 : decode cX3_restore 86 = .ok (.bipush 16, 2) := by decide +kernel
theorem dX3_restore_88 : decode cX3_restore 88 = .ok (.if_icmp .ge 52, 3) := by decide +kernel
theorem dX3_restore_91 : decode cX3_restore 91 = .ok (.aload_n 0, 1) := by decide +kernel
theorem dX3_restore_92 : decode cX3_restore 92 = .ok (.getfield 38, 3) := by decide +kernel
theorem dX3_restore_95 : decode cX3_restore 95 = .ok (.iload_n 1, 1) := by decide +kernel
theorem dX3_restore_96 : decode cX3_restore 96 = .ok (.iload_n 2, 1) := by decide +kernel
theorem dX3_restore_97 : decode cX3_restore 97 = .ok (.iload 7, 2) := by decide +kernel
theorem dX3_restore_99 : decode cX3_restore 99 = .ok (.invokevirtual 207, 3) := by decide +kernel
theorem dX3_restore_102 : decode cX3_restore 102 = .ok (.istore 8, 2) := by decide +kernel
theorem dX3_restore_104 : decode cX3_restore 104 = .ok (.iload 8, 2) := by decide +kernel
theorem dX3_restore_106 : decode cX3_restore 106 = .ok (.aload_n 0, 1) := by decide +kernel
theorem dX3_restore_107 : decode cX3_restore 107 = .ok (.getfield 12, 3) := by decide +kernel
theorem dX3_restore_110 : decode cX3_restore 110 = .ok (.iload_n 2, 1) := by decide +kernel
theorem dX3_restore_111 : decode cX3_restore 111 = .ok (.iload 7, 2) := by decide +kernel
theorem dX3_restore_113 : decode cX3_restore 113 = .ok (.invokevirtual 119, 3) := by decide +kernel
theorem dX3_restore_116 : decode cX3_restore 116 = .ok (.if_icmp .eq 18, 3) := by decide +kernel
theorem dX3_restore_119 : decode cX3_restore 119 = .ok (.aload_n 0, 1) := by decide +kernel
theorem dX3_restore_120 : decode cX3_restore 120 = .ok (.getfield 12, 3) := by decide +kernel
theorem dX3_restore_123 : decode cX3_restore 123 = .ok (.iload_n 2, 1) := by decide +kernel
theorem dX3_restore_124 : decode cX3_restore 124 = .ok (.iload 7, 2) := by decide +kernel
theorem dX3_restore_126 : decode cX3_restore 126 = .ok (.iload 8, 2) := by decide +kernel
theorem dX3_restore_128 : decode cX3_restore 128 = .ok (.invokevirtual 135, 3) := by decide +kernel
theorem dX3_restore_131 : decode cX3_restore 131 = .ok (.iinc 6 1, 3) := by decide +kernel
theorem dX3_restore_134 : decode cX3_restore 134 = .ok (.iinc 7 1, 3) := by decide +kernel
theorem dX3_restore_137 : decode cX3_restore 137 = .ok (.goto (-53), 3) := by decide +kernel
theorem dX3_restore_140 : decode cX3_restore 140 = .ok (.iload 6, 2) := by decide +kernel
theorem dX3_restore_142 : decode cX3_restore 142 = .ok (.ireturn, 1) := by decide +kernel
theorem dX3_openHold_0 : decode cX3_openHold 0 = .ok (.aload_n 0, 1) := by decide +kernel
theorem dX3_openHold_1 : decode cX3_openHold 1 = .ok (.iload_n 1, 1) := by decide +kernel
theorem dX3_openHold_2 : decode cX3_openHold 2 = .ok (.invokevirtual 94, 3) := by decide +kernel
theorem dX3_openHold_5 : decode cX3_openHold 5 = .ok (.aload_n 0, 1) := by decide +kernel
theorem dX3_openHold_6 : decode cX3_openHold 6 = .ok (.iload_n 2, 1) := by decide +kernel
theorem dX3_openHold_7 : decode cX3_openHold 7 = .ok (.iconst 1, 1) := by decide +kernel
theorem dX3_openHold_8 : decode cX3_openHold 8 = .ok (.bipush 99, 2) := by decide +kernel
theorem dX3_openHold_10 : decode cX3_openHold 10 = .ok (.invokevirtual 62, 3) := by decide +kernel
theorem dX3_openHold_13 : decode cX3_openHold 13 = .ok (.aload_n 0, 1) := by decide +kernel
theorem dX3_openHold_14 : decode cX3_openHold 14 = .ok (.invokevirtual 66, 3) := by decide +kernel
theorem dX3_openHold_17 : decode cX3_openHold 17 = .ok (.aload_n 0, 1) := by decide +kernel
theorem dX3_openHold_18 : decode cX3_openHold 18 = .ok (.getfield 12, 3) := by decide +kernel
theorem dX3_openHold_21 : decode cX3_openHold 21 = .ok (.iload_n 1, 1) := by decide +kernel
theorem dX3_openHold_22 : decode cX3_openHold 22 = .ok (.invokevirtual 97, 3) := by decide +kernel
theorem dX3_openHold_25 : decode cX3_openHold 25 = .ok (.ifCond .ne 13, 3) := by decide +kernel
theorem dX3_openHold_28 : decode cX3_openHold 28 = .ok (.new 69, 3) := by decide +kernel
theorem dX3_openHold_31 : decode cX3_openHold 31 = .ok (.dup, 1) := by decide +kernel
theorem dX3_openHold_32 : decode cX3_openHold 32 = .ok (.ldc 237, 2) := by decide +kernel
theorem dX3_openHold_34 : decode cX3_openHold 34 = .ok (.invokespecial 73, 3) := by decide +kernel
theorem dX3_openHold_37 : decode cX3_openHold 37 = .ok (.athrow, 1) := by decide +kernel
theorem dX3_openHold_38 : decode cX3_openHold 38 = .ok (.aload_n 0, 1) := by decide +kernel
theorem dX3_openHold_39 : decode cX3_openHold 39 = .ok (.getfield 45, 3) := by decide +kernel
theorem dX3_openHold_42 : decode cX3_openHold 42 = .ok (.invokevirtual 239, 3) := by decide +kernel
theorem dX3_openHold_45 : decode cX3_openHold 45 = .ok (.bipush 30, 2) := by decide +kernel
theorem dX3_openHold_47 : decode cX3_openHold 47 = .ok (.if_icmp .lt 13, 3) := by decide +kernel
theorem dX3_openHold_50 : decode cX3_openHold 50 = .ok (.new 69, 3) := by decide +kernel
theorem dX3_openHold_53 : decode cX3_openHold 53 = .ok (.dup, 1) := by decide +kernel
theorem dX3_openHold_54 : decode cX3_openHold 54 = .ok (.ldc 242, 2) := by decide +kernel
theorem dX3_openHold_56 : decode cX3_openHold 56 = .ok (.invokespecial 73, 3) := by decide +kernel
theorem dX3_openHold_59 : decode cX3_openHold 59 = .ok (.athrow, 1) := by decide +kernel
theorem dX3_openHold_60 : decode cX3_openHold 60 = .ok (.aload_n 0, 1) := by decide +kernel
theorem dX3_openHold_61 : decode cX3_openHold 61 = .ok (.getfield 45, 3) := by decide +kernel
theorem dX3_openHold_64 : decode cX3_openHold 64 = .ok (.iload_n 1, 1) := by decide +kernel
theorem dX3_openHold_65 : decode cX3_openHold 65 = .ok (.aload_n 0, 1) := by decide +kernel
theorem dX3_openHold_66 : decode cX3_openHold 66 = .ok (.getfield 49, 3) := by decide +kernel
theorem dX3_openHold_69 : decode cX3_openHold 69 = .ok (.iload_n 2, 1) := by decide +kernel
theorem dX3_openHold_70 : decode cX3_openHold 70 = .ok (.iadd, 1) := by decide +kernel
theorem dX3_openHold_71 : decode cX3_openHold 71 = .ok (.invokevirtual 244, 3) := by decide +kernel
theorem dX3_openHold_74 : decode cX3_openHold 74 = .ok (.ireturn, 1) := by decide +kernel
theorem dX3_release_0 : decode cX3_release 0 = .ok (.aload_n 0, 1) := by decide +kernel
theorem dX3_release_1 : decode cX3_release 1 = .ok (.iload_n 1, 1) := by decide +kernel
theorem dX3_release_2 : decode cX3_release 2 = .ok (.invokevirtual 246, 3) := by decide +kernel
theorem dX3_release_5 : decode cX3_release 5 = .ok (.aload_n 0, 1) := by decide +kernel
theorem dX3_release_6 : decode cX3_release 6 = .ok (.invokevirtual 66, 3) := by decide +kernel
theorem dX3_release_9 : decode cX3_release 9 = .ok (.aload_n 0, 1) := by decide +kernel
theorem dX3_release_10 : decode cX3_release 10 = .ok (.getfield 45, 3) := by decide +kernel
theorem dX3_release_13 : decode cX3_release 13 = .ok (.iload_n 1, 1) := by decide +kernel
theorem dX3_release_14 : decode cX3_release 14 = .ok (.invokevirtual 249, 3) := by decide +kernel
theorem dX3_release_17 : decode cX3_release 17 = .ok (.ifCond .ne 13, 3) := by decide +kernel
theorem dX3_release_20 : decode cX3_release 20 = .ok (.new 69, 3) := by decide +kernel
theorem dX3_release_23 : decode cX3_release 23 = .ok (.dup, 1) := by decide +kernel
theorem dX3_release_24 : decode cX3_release 24 = .ok (.ldc 252, 2) := by decide +kernel
theorem dX3_release_26 : decode cX3_release 26 = .ok (.invokespecial 73, 3) := by decide +kernel
theorem dX3_release_29 : decode cX3_release 29 = .ok (.athrow, 1) := by decide +kernel
theorem dX3_release_30 : decode cX3_release 30 = .ok (.aload_n 0, 1) := by decide +kernel
theorem dX3_release_31 : decode cX3_release 31 = .ok (.iload_n 1, 1) := by decide +kernel
theorem dX3_release_32 : decode cX3_release 32 = .ok (.invokevirtual 254, 3) := by decide +kernel
theorem dX3_release_35 : decode cX3_release 35 = .ok (.ireturn, 1) := by decide +kernel
theorem dX3_isOpen_0 : decode cX3_isOpen 0 = .ok (.aload_n 0, 1) := by decide +kernel
theorem dX3_isOpen_1 : decode cX3_isOpen 1 = .ok (.iload_n 1, 1) := by decide +kernel
theorem dX3_isOpen_2 : decode cX3_isOpen 2 = .ok (.invokevirtual 246, 3) := by decide +kernel
theorem dX3_isOpen_5 : decode cX3_isOpen 5 = .ok (.aload_n 0, 1) := by decide +kernel
theorem dX3_isOpen_6 : decode cX3_isOpen 6 = .ok (.getfield 45, 3) := by decide +kernel
theorem dX3_isOpen_9 : decode cX3_isOpen 9 = .ok (.iload_n 1, 1) := by decide +kernel
theorem dX3_isOpen_10 : decode cX3_isOpen 10 = .ok (.invokevirtual 249, 3) := by decide +kernel
theorem dX3_isOpen_13 : decode cX3_isOpen 13 = .ok (.ireturn, 1) := by decide +kernel
theorem dX3_holdsOn_0 : decode cX3_holdsOn 0 = .ok (.aload_n 0, 1) := by decide +kernel
theorem dX3_holdsOn_1 : decode cX3_holdsOn 1 = .ok (.iload_n 1, 1) := by decide +kernel
theorem dX3_holdsOn_2 : decode cX3_holdsOn 2 = .ok (.invokevirtual 94, 3) := by decide +kernel
theorem dX3_holdsOn_5 : decode cX3_holdsOn 5 = .ok (.aload_n 0, 1) := by decide +kernel
theorem dX3_holdsOn_6 : decode cX3_holdsOn 6 = .ok (.getfield 45, 3) := by decide +kernel
theorem dX3_holdsOn_9 : decode cX3_holdsOn 9 = .ok (.iload_n 1, 1) := by decide +kernel
theorem dX3_holdsOn_10 : decode cX3_holdsOn 10 = .ok (.invokevirtual 257, 3) := by decide +kernel
theorem dX3_holdsOn_13 : decode cX3_holdsOn 13 = .ok (.ireturn, 1) := by decide +kernel
theorem dX3_nextEnd_0 : decode cX3_nextEnd 0 = .ok (.aload_n 0, 1) := by decide +kernel
theorem dX3_nextEnd_1 : decode cX3_nextEnd 1 = .ok (.getfield 45, 3) := by decide +kernel
theorem dX3_nextEnd_4 : decode cX3_nextEnd 4 = .ok (.invokevirtual 260, 3) := by decide +kernel
theorem dX3_nextEnd_7 : decode cX3_nextEnd 7 = .ok (.istore_n 1, 1) := by decide +kernel
theorem dX3_nextEnd_8 : decode cX3_nextEnd 8 = .ok (.iload_n 1, 1) := by decide +kernel
theorem dX3_nextEnd_9 : decode cX3_nextEnd 9 = .ok (.iconst (-1), 1) := by decide +kernel
theorem dX3_nextEnd_10 : decode cX3_nextEnd 10 = .ok (.if_icmp .ne 14, 3) := by decide +kernel
theorem dX3_nextEnd_13 : decode cX3_nextEnd 13 = .ok (.new 210, 3) := by decide +kernel
theorem dX3_nextEnd_16 : decode cX3_nextEnd 16 = .ok (.dup, 1) := by decide +kernel
theorem dX3_nextEnd_17 : decode cX3_nextEnd 17 = .ok (.ldc_w 263, 3) := by decide +kernel
theorem dX3_nextEnd_20 : decode cX3_nextEnd 20 = .ok (.invokespecial 214, 3) := by decide +kernel
theorem dX3_nextEnd_23 : decode cX3_nextEnd 23 = .ok (.athrow, 1) := by decide +kernel
theorem dX3_nextEnd_24 : decode cX3_nextEnd 24 = .ok (.iload_n 1, 1) := by decide +kernel
theorem dX3_nextEnd_25 : decode cX3_nextEnd 25 = .ok (.ireturn, 1) := by decide +kernel
theorem dX3_pass_0 : decode cX3_pass 0 = .ok (.aload_n 0, 1) := by decide +kernel
theorem dX3_pass_1 : decode cX3_pass 1 = .ok (.iload_n 1, 1) := by decide +kernel
theorem dX3_pass_2 : decode cX3_pass 2 = .ok (.iconst 1, 1) := by decide +kernel
theorem dX3_pass_3 : decode cX3_pass 3 = .ok (.bipush 99, 2) := by decide +kernel
theorem dX3_pass_5 : decode cX3_pass 5 = .ok (.invokevirtual 62, 3) := by decide +kernel
theorem dX3_pass_8 : decode cX3_pass 8 = .ok (.aload_n 0, 1) := by decide +kernel
theorem dX3_pass_9 : decode cX3_pass 9 = .ok (.invokevirtual 66, 3) := by decide +kernel
theorem dX3_pass_12 : decode cX3_pass 12 = .ok (.aload_n 0, 1) := by decide +kernel
theorem dX3_pass_13 : decode cX3_pass 13 = .ok (.getfield 49, 3) := by decide +kernel
theorem dX3_pass_16 : decode cX3_pass 16 = .ok (.iload_n 1, 1) := by decide +kernel
theorem dX3_pass_17 : decode cX3_pass 17 = .ok (.iadd, 1) := by decide +kernel
theorem dX3_pass_18 : decode cX3_pass 18 = .ok (.sipush 9999, 3) := by decide +kernel
theorem dX3_pass_21 : decode cX3_pass 21 = .ok (.if_icmp .le 14, 3) := by decide +kernel
theorem dX3_pass_24 : decode cX3_pass 24 = .ok (.new 69, 3) := by decide +kernel
theorem dX3_pass_27 : decode cX3_pass 27 = .ok (.dup, 1) := by decide +kernel
theorem dX3_pass_28 : decode cX3_pass 28 = .ok (.ldc_w 265, 3) := by decide +kernel
theorem dX3_pass_31 : decode cX3_pass 31 = .ok (.invokespecial 73, 3) := by decide +kernel
theorem dX3_pass_34 : decode cX3_pass 34 = .ok (.athrow, 1) := by decide +kernel
theorem dX3_pass_35 : decode cX3_pass 35 = .ok (.aload_n 0, 1) := by decide +kernel
theorem dX3_pass_36 : decode cX3_pass 36 = .ok (.dup, 1) := by decide +kernel
theorem dX3_pass_37 : decode cX3_pass 37 = .ok (.getfield 49, 3) := by decide +kernel
theorem dX3_pass_40 : decode cX3_pass 40 = .ok (.iload_n 1, 1) := by decide +kernel
theorem dX3_pass_41 : decode cX3_pass 41 = .ok (.iadd, 1) := by decide +kernel
theorem dX3_pass_42 : decode cX3_pass 42 = .ok (.putfield 49, 3) := by decide +kernel
theorem dX3_pass_45 : decode cX3_pass 45 = .ok (.iconst 0, 1) := by decide +kernel
theorem dX3_pass_46 : decode cX3_pass 46 = .ok (.istore_n 2, 1) := by decide +kernel
theorem dX3_pass_47 : decode cX3_pass 47 = .ok (.iconst 0, 1) := by decide +kernel
theorem dX3_pass_48 : decode cX3_pass 48 = .ok (.istore_n 3, 1) := by decide +kernel
theorem dX3_pass_49 : decode cX3_pass 49 = .ok (.iload_n 3, 1) := by decide +kernel
theorem dX3_pass_50 : decode cX3_pass 50 = .ok (.bipush 30, 2) := by decide +kernel
theorem dX3_pass_52 : decode cX3_pass 52 = .ok (.if_icmp .ge 44, 3) := by decide +kernel
theorem dX3_pass_55 : decode cX3_pass 55 = .ok (.aload_n 0, 1) := by decide +kernel
theorem dX3_pass_56 : decode cX3_pass 56 = .ok (.getfield 45, 3) := by decide +kernel
theorem dX3_pass_59 : decode cX3_pass 59 = .ok (.iload_n 3, 1) := by decide +kernel
theorem dX3_pass_60 : decode cX3_pass 60 = .ok (.invokevirtual 249, 3) := by decide +kernel
theorem dX3_pass_63 : decode cX3_pass 63 = .ok (.ifCond .eq 27, 3) := by decide +kernel
theorem dX3_pass_66 : decode cX3_pass 66 = .ok (.aload_n 0, 1) := by decide +kernel
theorem dX3_pass_67 : decode cX3_pass 67 = .ok (.getfield 45, 3) := by decide +kernel
theorem dX3_pass_70 : decode cX3_pass 70 = .ok (.iload_n 3, 1) := by decide +kernel
theorem dX3_pass_71 : decode cX3_pass 71 = .ok (.invokevirtual 267, 3) := by decide +kernel
theorem dX3_pass_74 : decode cX3_pass 74 = .ok (.aload_n 0, 1) := by decide +kernel
theorem dX3_pass_75 : decode cX3_pass 75 = .ok (.getfield 49, 3) := by decide +kernel
theorem dX3_pass_78 : decode cX3_pass 78 = .ok (.if_icmp .gt 12, 3) := by decide +kernel
theorem dX3_pass_81 : decode cX3_pass 81 = .ok (.aload_n 0, 1) := by decide +kernel
theorem dX3_pass_82 : decode cX3_pass 82 = .ok (.iload_n 3, 1) := by decide +kernel
theorem dX3_pass_83 : decode cX3_pass 83 = .ok (.invokevirtual 254, 3) := by decide +kernel
theorem dX3_pass_86 : decode cX3_pass 86 = .ok (.pop, 1) := by decide +kernel
theorem dX3_pass_87 : decode cX3_pass 87 = .ok (.iinc 2 1, 3) := by decide +kernel
theorem dX3_pass_90 : decode cX3_pass 90 = .ok (.iinc 3 1, 3) := by decide +kernel
theorem dX3_pass_93 : decode cX3_pass 93 = .ok (.goto (-44), 3) := by decide +kernel
theorem dX3_pass_96 : decode cX3_pass 96 = .ok (.iload_n 2, 1) := by decide +kernel
theorem dX3_pass_97 : decode cX3_pass 97 = .ok (.ireturn, 1) := by decide +kernel
theorem dX3_day_0 : decode cX3_day 0 = .ok (.aload_n 0, 1) := by decide +kernel
theorem dX3_day_1 : decode cX3_day 1 = .ok (.getfield 49, 3) := by decide +kernel
theorem dX3_day_4 : decode cX3_day 4 = .ok (.ireturn, 1) := by decide +kernel
theorem dX3_begin_0 : decode cX3_begin 0 = .ok (.aload_n 0, 1) := by decide +kernel
theorem dX3_begin_1 : decode cX3_begin 1 = .ok (.invokevirtual 66, 3) := by decide +kernel
theorem dX3_begin_4 : decode cX3_begin 4 = .ok (.aload_n 0, 1) := by decide +kernel
theorem dX3_begin_5 : decode cX3_begin 5 = .ok (.getfield 16, 3) := by decide +kernel
theorem dX3_begin_8 : decode cX3_begin 8 = .ok (.aload_n 0, 1) := by decide +kernel
theorem dX3_begin_9 : decode cX3_begin 9 = .ok (.getfield 12, 3) := by decide +kernel
theorem dX3_begin_12 : decode cX3_begin 12 = .ok (.invokevirtual 270, 3) := by decide +kernel
theorem dX3_begin_15 : decode cX3_begin 15 = .ok (.aload_n 0, 1) := by decide +kernel
theorem dX3_begin_16 : decode cX3_begin 16 = .ok (.iconst 1, 1) := by decide +kernel
theorem dX3_begin_17 : decode cX3_begin 17 = .ok (.putfield 19, 3) := by decide +kernel
theorem dX3_begin_20 : decode cX3_begin 20 = .ok (.aload_n 0, 1) := by decide +kernel
theorem dX3_begin_21 : decode cX3_begin 21 = .ok (.getfield 12, 3) := by decide +kernel
theorem dX3_begin_24 : decode cX3_begin 24 = .ok (.invokevirtual 274, 3) := by decide +kernel
theorem dX3_begin_27 : decode cX3_begin 27 = .ok (.ireturn, 1) := by decide +kernel
theorem dX3_commit_0 : decode cX3_commit 0 = .ok (.aload_n 0, 1) := by decide +kernel
theorem dX3_commit_1 : decode cX3_commit 1 = .ok (.getfield 19, 3) := by decide +kernel
theorem dX3_commit_4 : decode cX3_commit 4 = .ok (.ifCond .ne 14, 3) := by decide +kernel
theorem dX3_commit_7 : decode cX3_commit 7 = .ok (.new 69, 3) := by decide +kernel
theorem dX3_commit_10 : decode cX3_commit 10 = .ok (.dup, 1) := by decide +kernel
theorem dX3_commit_11 : decode cX3_commit 11 = .ok (.ldc_w 277, 3) := by decide +kernel
theorem dX3_commit_14 : decode cX3_commit 14 = .ok (.invokespecial 73, 3) := by decide +kernel
theorem dX3_commit_17 : decode cX3_commit 17 = .ok (.athrow, 1) := by decide +kernel
theorem dX3_commit_18 : decode cX3_commit 18 = .ok (.aload_n 0, 1) := by decide +kernel
theorem dX3_commit_19 : decode cX3_commit 19 = .ok (.iconst 0, 1) := by decide +kernel
theorem dX3_commit_20 : decode cX3_commit 20 = .ok (.putfield 19, 3) := by decide +kernel
theorem dX3_commit_23 : decode cX3_commit 23 = .ok (.aload_n 0, 1) := by decide +kernel
theorem dX3_commit_24 : decode cX3_commit 24 = .ok (.getfield 12, 3) := by decide +kernel
theorem dX3_commit_27 : decode cX3_commit 27 = .ok (.invokevirtual 274, 3) := by decide +kernel
theorem dX3_commit_30 : decode cX3_commit 30 = .ok (.aload_n 0, 1) := by decide +kernel
theorem dX3_commit_31 : decode cX3_commit 31 = .ok (.getfield 16, 3) := by decide +kernel
theorem dX3_commit_34 : decode cX3_commit 34 = .ok (.invokevirtual 274, 3) := by decide +kernel
theorem dX3_commit_37 : decode cX3_commit 37 = .ok (.isub, 1) := by decide +kernel
theorem dX3_commit_38 : decode cX3_commit 38 = .ok (.ireturn, 1) := by decide +kernel
theorem dX3_crash_0 : decode cX3_crash 0 = .ok (.aload_n 0, 1) := by decide +kernel
theorem dX3_crash_1 : decode cX3_crash 1 = .ok (.getfield 19, 3) := by decide +kernel
theorem dX3_crash_4 : decode cX3_crash 4 = .ok (.ifCond .ne 5, 3) := by decide +kernel
theorem dX3_crash_7 : decode cX3_crash 7 = .ok (.iconst 0, 1) := by decide +kernel
theorem dX3_crash_8 : decode cX3_crash 8 = .ok (.ireturn, 1) := by decide +kernel
theorem dX3_crash_9 : decode cX3_crash 9 = .ok (.aload_n 0, 1) := by decide +kernel
theorem dX3_crash_10 : decode cX3_crash 10 = .ok (.getfield 12, 3) := by decide +kernel
theorem dX3_crash_13 : decode cX3_crash 13 = .ok (.invokevirtual 274, 3) := by decide +kernel
theorem dX3_crash_16 : decode cX3_crash 16 = .ok (.aload_n 0, 1) := by decide +kernel
theorem dX3_crash_17 : decode cX3_crash 17 = .ok (.getfield 16, 3) := by decide +kernel
theorem dX3_crash_20 : decode cX3_crash 20 = .ok (.invokevirtual 274, 3) := by decide +kernel
theorem dX3_crash_23 : decode cX3_crash 23 = .ok (.isub, 1) := by decide +kernel
theorem dX3_crash_24 : decode cX3_crash 24 = .ok (.istore_n 1, 1) := by decide +kernel
theorem dX3_crash_25 : decode cX3_crash 25 = .ok (.aload_n 0, 1) := by decide +kernel
theorem dX3_crash_26 : decode cX3_crash 26 = .ok (.getfield 12, 3) := by decide +kernel
theorem dX3_crash_29 : decode cX3_crash 29 = .ok (.aload_n 0, 1) := by decide +kernel
theorem dX3_crash_30 : decode cX3_crash 30 = .ok (.getfield 16, 3) := by decide +kernel
theorem dX3_crash_33 : decode cX3_crash 33 = .ok (.invokevirtual 270, 3) := by decide +kernel
theorem dX3_crash_36 : decode cX3_crash 36 = .ok (.aload_n 0, 1) := by decide +kernel
theorem dX3_crash_37 : decode cX3_crash 37 = .ok (.iconst 0, 1) := by decide +kernel
theorem dX3_crash_38 : decode cX3_crash 38 = .ok (.putfield 19, 3) := by decide +kernel
theorem dX3_crash_41 : decode cX3_crash 41 = .ok (.iload_n 1, 1) := by decide +kernel
theorem dX3_crash_42 : decode cX3_crash 42 = .ok (.ireturn, 1) := by decide +kernel
theorem dX3_journalSize_0 : decode cX3_journalSize 0 = .ok (.aload_n 0, 1) := by decide +kernel
theorem dX3_journalSize_1 : decode cX3_journalSize 1 = .ok (.getfield 12, 3) := by decide +kernel
theorem dX3_journalSize_4 : decode cX3_journalSize 4 = .ok (.invokevirtual 274, 3) := by decide +kernel
theorem dX3_journalSize_7 : decode cX3_journalSize 7 = .ok (.ireturn, 1) := by decide +kernel
theorem dX3_entryKind_0 : decode cX3_entryKind 0 = .ok (.iload_n 1, 1) := by decide +kernel
theorem dX3_entryKind_1 : decode cX3_entryKind 1 = .ok (.ifCond .lt 21, 3) := by decide +kernel
theorem dX3_entryKind_4 : decode cX3_entryKind 4 = .ok (.iload_n 1, 1) := by decide +kernel
theorem dX3_entryKind_5 : decode cX3_entryKind 5 = .ok (.aload_n 0, 1) := by decide +kernel
theorem dX3_entryKind_6 : decode cX3_entryKind 6 = .ok (.getfield 12, 3) := by decide +kernel
theorem dX3_entryKind_9 : decode cX3_entryKind 9 = .ok (.invokevirtual 274, 3) := by decide +kernel
theorem dX3_entryKind_12 : decode cX3_entryKind 12 = .ok (.if_icmp .ge 10, 3) := by decide +kernel
theorem dX3_entryKind_15 : decode cX3_entryKind 15 = .ok (.iload_n 1, 1) := by decide +kernel
theorem dX3_entryKind_16 : decode cX3_entryKind 16 = .ok (.sipush 512, 3) := by decide +kernel
theorem dX3_entryKind_19 : decode cX3_entryKind 19 = .ok (.if_icmp .lt 14, 3) := by decide +kernel
theorem dX3_entryKind_22 : decode cX3_entryKind 22 = .ok (.new 279, 3) := by decide +kernel
theorem dX3_entryKind_25 : decode cX3_entryKind 25 = .ok (.dup, 1) := by decide +kernel
theorem dX3_entryKind_26 : decode cX3_entryKind 26 = .ok (.ldc_w 281, 3) := by decide +kernel
theorem dX3_entryKind_29 : decode cX3_entryKind 29 = .ok (.invokespecial 283, 3) := by decide +kernel
theorem dX3_entryKind_32 : decode cX3_entryKind 32 = .ok (.athrow, 1) := by decide +kernel
theorem dX3_entryKind_33 : decode cX3_entryKind 33 = .ok (.aload_n 0, 1) := by decide +kernel
theorem dX3_entryKind_34 : decode cX3_entryKind 34 = .ok (.getfield 23, 3) := by decide +kernel
theorem dX3_entryKind_37 : decode cX3_entryKind 37 = .ok (.iload_n 1, 1) := by decide +kernel
theorem dX3_entryKind_38 : decode cX3_entryKind 38 = .ok (.caload, 1) := by decide +kernel
theorem dX3_entryKind_39 : decode cX3_entryKind 39 = .ok (.ireturn, 1) := by decide +kernel
theorem dX3_isConsistent_0 : decode cX3_isConsistent 0 = .ok (.aload_n 0, 1) := by decide +kernel
theorem dX3_isConsistent_1 : decode cX3_isConsistent 1 = .ok (.invokevirtual 291, 3) := by decide +kernel
theorem dX3_isConsistent_4 : decode cX3_isConsistent 4 = .ok (.ifCond .eq 31, 3) := by decide +kernel
theorem dX3_isConsistent_7 : decode cX3_isConsistent 7 = .ok (.aload_n 0, 1) := by decide +kernel
theorem dX3_isConsistent_8 : decode cX3_isConsistent 8 = .ok (.invokevirtual 295, 3) := by decide +kernel
theorem dX3_isConsistent_11 : decode cX3_isConsistent 11 = .ok (.ifCond .eq 24, 3) := by decide +kernel
theorem dX3_isConsistent_14 : decode cX3_isConsistent 14 = .ok (.aload_n 0, 1) := by decide +kernel
theorem dX3_isConsistent_15 : decode cX3_isConsistent 15 = .ok (.getfield 12, 3) := by decide +kernel
theorem dX3_isConsistent_18 : decode cX3_isConsistent 18 = .ok (.invokevirtual 168, 3) := by decide +kernel
theorem dX3_isConsistent_21 : decode cX3_isConsistent 21 = .ok (.aload_n 0, 1) := by decide +kernel
theorem dX3_isConsistent_22 : decode cX3_isConsistent 22 = .ok (.getfield 12, 3) := by decide +kernel
theorem dX3_isConsistent_25 : decode cX3_isConsistent 25 = .ok (.invokevirtual 159, 3) := by decide +kernel
theorem dX3_isConsistent_28 : decode cX3_isConsistent 28 = .ok (.if_icmp .gt 7, 3) := by decide +kernel
theorem dX3_isConsistent_31 : decode cX3_isConsistent 31 = .ok (.iconst 1, 1) := by decide +kernel
theorem dX3_isConsistent_32 : decode cX3_isConsistent 32 = .ok (.goto 4, 3) := by decide +kernel
theorem dX3_isConsistent_35 : decode cX3_isConsistent 35 = .ok (.iconst 0, 1) := by decide +kernel
theorem dX3_isConsistent_36 : decode cX3_isConsistent 36 = .ok (.ireturn, 1) := by decide +kernel
theorem dX3_writeFile_0 : decode cX3_writeFile 0 = .ok (.aload_n 0, 1) := by decide +kernel
theorem dX3_writeFile_1 : decode cX3_writeFile 1 = .ok (.iload_n 1, 1) := by decide +kernel
theorem dX3_writeFile_2 : decode cX3_writeFile 2 = .ok (.invokevirtual 94, 3) := by decide +kernel
theorem dX3_writeFile_5 : decode cX3_writeFile 5 = .ok (.aload_n 0, 1) := by decide +kernel
theorem dX3_writeFile_6 : decode cX3_writeFile 6 = .ok (.getfield 55, 3) := by decide +kernel
theorem dX3_writeFile_9 : decode cX3_writeFile 9 = .ok (.iconst 0, 1) := by decide +kernel
theorem dX3_writeFile_10 : decode cX3_writeFile 10 = .ok (.invokevirtual 298, 3) := by decide +kernel
theorem dX3_writeFile_13 : decode cX3_writeFile 13 = .ok (.aload_n 0, 1) := by decide +kernel
theorem dX3_writeFile_14 : decode cX3_writeFile 14 = .ok (.getfield 55, 3) := by decide +kernel
theorem dX3_writeFile_17 : decode cX3_writeFile 17 = .ok (.iload_n 1, 1) := by decide +kernel
theorem dX3_writeFile_18 : decode cX3_writeFile 18 = .ok (.invokevirtual 301, 3) := by decide +kernel
theorem dX3_writeFile_21 : decode cX3_writeFile 21 = .ok (.bipush 120, 2) := by decide +kernel
theorem dX3_writeFile_23 : decode cX3_writeFile 23 = .ok (.invokevirtual 305, 3) := by decide +kernel
theorem dX3_writeFile_26 : decode cX3_writeFile 26 = .ok (.aload_n 0, 1) := by decide +kernel
theorem dX3_writeFile_27 : decode cX3_writeFile 27 = .ok (.getfield 12, 3) := by decide +kernel
theorem dX3_writeFile_30 : decode cX3_writeFile 30 = .ok (.iload_n 1, 1) := by decide +kernel
theorem dX3_writeFile_31 : decode cX3_writeFile 31 = .ok (.invokevirtual 101, 3) := by decide +kernel
theorem dX3_writeFile_34 : decode cX3_writeFile 34 = .ok (.invokevirtual 301, 3) := by decide +kernel
theorem dX3_writeFile_37 : decode cX3_writeFile 37 = .ok (.pop, 1) := by decide +kernel
theorem dX3_writeFile_38 : decode cX3_writeFile 38 = .ok (.iconst 0, 1) := by decide +kernel
theorem dX3_writeFile_39 : decode cX3_writeFile 39 = .ok (.istore_n 2, 1) := by decide +kernel
theorem dX3_writeFile_40 : decode cX3_writeFile 40 = .ok (.iload_n 2, 1) := by decide +kernel
theorem dX3_writeFile_41 : decode cX3_writeFile 41 = .ok (.bipush 16, 2) := by decide +kernel
theorem dX3_writeFile_43 : decode cX3_writeFile 43 = .ok (.if_icmp .ge 47, 3) := by decide +kernel
theorem dX3_writeFile_46 : decode cX3_writeFile 46 = .ok (.aload_n 0, 1) := by decide +kernel
theorem dX3_writeFile_47 : decode cX3_writeFile 47 = .ok (.getfield 12, 3) := by decide +kernel
theorem dX3_writeFile_50 : decode cX3_writeFile 50 = .ok (.iload_n 1, 1) := by decide +kernel
theorem dX3_writeFile_51 : decode cX3_writeFile 51 = .ok (.iload_n 2, 1) := by decide +kernel
theorem dX3_writeFile_52 : decode cX3_writeFile 52 = .ok (.invokevirtual 119, 3) := by decide +kernel
theorem dX3_writeFile_55 : decode cX3_writeFile 55 = .ok (.istore_n 3, 1) := by decide +kernel
theorem dX3_writeFile_56 : decode cX3_writeFile 56 = .ok (.iload_n 3, 1) := by decide +kernel
theorem dX3_writeFile_57 : decode cX3_writeFile 57 = .ok (.iconst (-1), 1) := by decide +kernel
theorem dX3_writeFile_58 : decode cX3_writeFile 58 = .ok (.if_icmp .eq 26, 3) := by decide +kernel
theorem dX3_writeFile_61 : decode cX3_writeFile 61 = .ok (.aload_n 0, 1) := by decide +kernel
theorem dX3_writeFile_62 : decode cX3_writeFile 62 = .ok (.getfield 55, 3) := by decide +kernel
theorem dX3_writeFile_65 : decode cX3_writeFile 65 = .ok (.bipush 32, 2) := by decide +kernel
theorem dX3_writeFile_67 : decode cX3_writeFile 67 = .ok (.invokevirtual 305, 3) := by decide +kernel
theorem dX3_writeFile_70 : decode cX3_writeFile 70 = .ok (.iload_n 2, 1) := by decide +kernel
theorem dX3_writeFile_71 : decode cX3_writeFile 71 = .ok (.invokevirtual 301, 3) := by decide +kernel
theorem dX3_writeFile_74 : decode cX3_writeFile 74 = .ok (.bipush 58, 2) := by decide +kernel
theorem dX3_writeFile_76 : decode cX3_writeFile 76 = .ok (.invokevirtual 305, 3) := by decide +kernel
theorem dX3_writeFile_79 : decode cX3_writeFile 79 = .ok (.iload_n 3, 1) := by decide +kernel
theorem dX3_writeFile_80 : decode cX3_writeFile 80 = .ok (.invokevirtual 301, 3) := by decide +kernel
theorem dX3_writeFile_83 : decode cX3_writeFile 83 = .ok (.pop, 1) := by decide +kernel
theorem dX3_writeFile_84 : decode cX3_writeFile 84 = .ok (.iinc 2 1, 3) := by decide +kernel
theorem dX3_writeFile_87 : decode cX3_writeFile 87 = .ok (.goto (-47), 3) := by decide +kernel
theorem dX3_writeFile_90 : decode cX3_writeFile 90 = .ok (.aload_n 0, 1) := by decide +kernel
theorem dX3_writeFile_91 : decode cX3_writeFile 91 = .ok (.getfield 55, 3) := by decide +kernel
theorem dX3_writeFile_94 : decode cX3_writeFile 94 = .ok (.invokevirtual 308, 3) := by decide +kernel
theorem dX3_writeFile_97 : decode cX3_writeFile 97 = .ok (.ireturn, 1) := by decide +kernel
theorem dX3_lineAt_0 : decode cX3_lineAt 0 = .ok (.iload_n 1, 1) := by decide +kernel
theorem dX3_lineAt_1 : decode cX3_lineAt 1 = .ok (.ifCond .lt 14, 3) := by decide +kernel
theorem dX3_lineAt_4 : decode cX3_lineAt 4 = .ok (.iload_n 1, 1) := by decide +kernel
theorem dX3_lineAt_5 : decode cX3_lineAt 5 = .ok (.aload_n 0, 1) := by decide +kernel
theorem dX3_lineAt_6 : decode cX3_lineAt 6 = .ok (.getfield 55, 3) := by decide +kernel
theorem dX3_lineAt_9 : decode cX3_lineAt 9 = .ok (.invokevirtual 308, 3) := by decide +kernel
theorem dX3_lineAt_12 : decode cX3_lineAt 12 = .ok (.if_icmp .lt 14, 3) := by decide +kernel
theorem dX3_lineAt_15 : decode cX3_lineAt 15 = .ok (.new 279, 3) := by decide +kernel
theorem dX3_lineAt_18 : decode cX3_lineAt 18 = .ok (.dup, 1) := by decide +kernel
theorem dX3_lineAt_19 : decode cX3_lineAt 19 = .ok (.ldc_w 311, 3) := by decide +kernel
theorem dX3_lineAt_22 : decode cX3_lineAt 22 = .ok (.invokespecial 283, 3) := by decide +kernel
theorem dX3_lineAt_25 : decode cX3_lineAt 25 = .ok (.athrow, 1) := by decide +kernel
theorem dX3_lineAt_26 : decode cX3_lineAt 26 = .ok (.aload_n 0, 1) := by decide +kernel
theorem dX3_lineAt_27 : decode cX3_lineAt 27 = .ok (.getfield 55, 3) := by decide +kernel
theorem dX3_lineAt_30 : decode cX3_lineAt 30 = .ok (.iload_n 1, 1) := by decide +kernel
theorem dX3_lineAt_31 : decode cX3_lineAt 31 = .ok (.invokevirtual 313, 3) := by decide +kernel
theorem dX3_lineAt_34 : decode cX3_lineAt 34 = .ok (.ireturn, 1) := by decide +kernel
theorem dX3_requireWithin_0 : decode cX3_requireWithin 0 = .ok (.iload_n 1, 1) := by decide +kernel
theorem dX3_requireWithin_1 : decode cX3_requireWithin 1 = .ok (.iload_n 2, 1) := by decide +kernel
theorem dX3_requireWithin_2 : decode cX3_requireWithin 2 = .ok (.if_icmp .lt 8, 3) := by decide +kernel
theorem dX3_requireWithin_5 : decode cX3_requireWithin 5 = .ok (.iload_n 1, 1) := by decide +kernel
theorem dX3_requireWithin_6 : decode cX3_requireWithin 6 = .ok (.iload_n 3, 1) := by decide +kernel
theorem dX3_requireWithin_7 : decode cX3_requireWithin 7 = .ok (.if_icmp .le 14, 3) := by decide +kernel
theorem dX3_requireWithin_10 : decode cX3_requireWithin 10 = .ok (.new 317, 3) := by decide +kernel
theorem dX3_requireWithin_13 : decode cX3_requireWithin 13 = .ok (.dup, 1) := by decide +kernel
theorem dX3_requireWithin_14 : decode cX3_requireWithin 14 = .ok (.ldc_w 319, 3) := by decide +kernel
theorem dX3_requireWithin_17 : decode cX3_requireWithin 17 = .ok (.invokespecial 321, 3) := by decide +kernel
theorem dX3_requireWithin_20 : decode cX3_requireWithin 20 = .ok (.athrow, 1) := by decide +kernel
theorem dX3_requireWithin_21 : decode cX3_requireWithin 21 = .ok (.return_, 1) := by decide +kernel
theorem dX3_requireOwner_0 : decode cX3_requireOwner 0 = .ok (.iload_n 1, 1) := by decide +kernel
theorem dX3_requireOwner_1 : decode cX3_requireOwner 1 = .ok (.ifCond .lt 11, 3) := by decide +kernel
theorem dX3_requireOwner_4 : decode cX3_requireOwner 4 = .ok (.iload_n 1, 1) := by decide +kernel
theorem dX3_requireOwner_5 : decode cX3_requireOwner 5 = .ok (.aload_n 0, 1) := by decide +kernel
theorem dX3_requireOwner_6 : decode cX3_requireOwner 6 = .ok (.getfield 27, 3) := by decide +kernel
