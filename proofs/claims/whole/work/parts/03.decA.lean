theorem dX0_init_0 : decode cX0_init 0 = .ok (.aload_n 0, 1) := by decide +kernel
theorem dX0_init_1 : decode cX0_init 1 = .ok (.invokespecial 3, 3) := by decide +kernel
theorem dX0_init_4 : decode cX0_init 4 = .ok (.aload_n 0, 1) := by decide +kernel
theorem dX0_init_5 : decode cX0_init 5 = .ok (.bipush 100, 2) := by decide +kernel
theorem dX0_init_7 : decode cX0_init 7 = .ok (.newarray .int, 2) := by decide +kernel
theorem dX0_init_9 : decode cX0_init 9 = .ok (.putfield 9, 3) := by decide +kernel
theorem dX0_init_12 : decode cX0_init 12 = .ok (.aload_n 0, 1) := by decide +kernel
theorem dX0_init_13 : decode cX0_init 13 = .ok (.bipush 100, 2) := by decide +kernel
theorem dX0_init_15 : decode cX0_init 15 = .ok (.newarray .int, 2) := by decide +kernel
theorem dX0_init_17 : decode cX0_init 17 = .ok (.putfield 15, 3) := by decide +kernel
theorem dX0_init_20 : decode cX0_init 20 = .ok (.return_, 1) := by decide +kernel
theorem dX0_addCall_0 : decode cX0_addCall 0 = .ok (.aload_n 0, 1) := by decide +kernel
theorem dX0_addCall_1 : decode cX0_addCall 1 = .ok (.getfield 18, 3) := by decide +kernel
theorem dX0_addCall_4 : decode cX0_addCall 4 = .ok (.istore_n 3, 1) := by decide +kernel
theorem dX0_addCall_5 : decode cX0_addCall 5 = .ok (.aload_n 0, 1) := by decide +kernel
theorem dX0_addCall_6 : decode cX0_addCall 6 = .ok (.getfield 9, 3) := by decide +kernel
theorem dX0_addCall_9 : decode cX0_addCall 9 = .ok (.iload_n 3, 1) := by decide +kernel
theorem dX0_addCall_10 : decode cX0_addCall 10 = .ok (.iload_n 1, 1) := by decide +kernel
theorem dX0_addCall_11 : decode cX0_addCall 11 = .ok (.iastore, 1) := by decide +kernel
theorem dX0_addCall_12 : decode cX0_addCall 12 = .ok (.aload_n 0, 1) := by decide +kernel
theorem dX0_addCall_13 : decode cX0_addCall 13 = .ok (.getfield 15, 3) := by decide +kernel
theorem dX0_addCall_16 : decode cX0_addCall 16 = .ok (.iload_n 3, 1) := by decide +kernel
theorem dX0_addCall_17 : decode cX0_addCall 17 = .ok (.iload_n 2, 1) := by decide +kernel
theorem dX0_addCall_18 : decode cX0_addCall 18 = .ok (.iastore, 1) := by decide +kernel
theorem dX0_addCall_19 : decode cX0_addCall 19 = .ok (.aload_n 0, 1) := by decide +kernel
theorem dX0_addCall_20 : decode cX0_addCall 20 = .ok (.dup, 1) := by decide +kernel
theorem dX0_addCall_21 : decode cX0_addCall 21 = .ok (.getfield 18, 3) := by decide +kernel
theorem dX0_addCall_24 : decode cX0_addCall 24 = .ok (.iconst 1, 1) := by decide +kernel
theorem dX0_addCall_25 : decode cX0_addCall 25 = .ok (.iadd, 1) := by decide +kernel
theorem dX0_addCall_26 : decode cX0_addCall 26 = .ok (.putfield 18, 3) := by decide +kernel
theorem dX0_addCall_29 : decode cX0_addCall 29 = .ok (.iload_n 3, 1) := by decide +kernel
theorem dX0_addCall_30 : decode cX0_addCall 30 = .ok (.ireturn, 1) := by decide +kernel
theorem dX1_init_0 : decode cX1_init 0 = .ok (.aload_n 0, 1) := by decide +kernel
theorem dX1_init_1 : decode cX1_init 1 = .ok (.invokespecial 3, 3) := by decide +kernel
theorem dX1_init_4 : decode cX1_init 4 = .ok (.aload_n 0, 1) := by decide +kernel
theorem dX1_init_5 : decode cX1_init 5 = .ok (.sipush 205, 3) := by decide +kernel
theorem dX1_init_8 : decode cX1_init 8 = .ok (.newarray .int, 2) := by decide +kernel
theorem dX1_init_10 : decode cX1_init 10 = .ok (.putfield 9, 3) := by decide +kernel
theorem dX1_init_13 : decode cX1_init 13 = .ok (.aload_n 0, 1) := by decide +kernel
theorem dX1_init_14 : decode cX1_init 14 = .ok (.bipush 41, 2) := by decide +kernel
theorem dX1_init_16 : decode cX1_init 16 = .ok (.newarray .int, 2) := by decide +kernel
theorem dX1_init_18 : decode cX1_init 18 = .ok (.putfield 15, 3) := by decide +kernel
theorem dX1_init_21 : decode cX1_init 21 = .ok (.aload_n 0, 1) := by decide +kernel
theorem dX1_init_22 : decode cX1_init 22 = .ok (.bipush 24, 2) := by decide +kernel
theorem dX1_init_24 : decode cX1_init 24 = .ok (.newarray .int, 2) := by decide +kernel
theorem dX1_init_26 : decode cX1_init 26 = .ok (.putfield 18, 3) := by decide +kernel
theorem dX1_init_29 : decode cX1_init 29 = .ok (.aload_n 0, 1) := by decide +kernel
theorem dX1_init_30 : decode cX1_init 30 = .ok (.getstatic 21, 3) := by decide +kernel
theorem dX1_init_33 : decode cX1_init 33 = .ok (.invokevirtual 24, 3) := by decide +kernel
theorem dX1_init_36 : decode cX1_init 36 = .ok (.checkcast 25, 3) := by decide +kernel
theorem dX1_init_39 : decode cX1_init 39 = .ok (.putfield 29, 3) := by decide +kernel
theorem dX1_init_42 : decode cX1_init 42 = .ok (.aload_n 0, 1) := by decide +kernel
theorem dX1_init_43 : decode cX1_init 43 = .ok (.getfield 18, 3) := by decide +kernel
theorem dX1_init_46 : decode cX1_init 46 = .ok (.iconst (-1), 1) := by decide +kernel
theorem dX1_init_47 : decode cX1_init 47 = .ok (.invokestatic 32, 3) := by decide +kernel
theorem dX1_init_50 : decode cX1_init 50 = .ok (.return_, 1) := by decide +kernel
theorem dX1_copyOf_0 : decode cX1_copyOf 0 = .ok (.aload_n 1, 1) := by decide +kernel
theorem dX1_copyOf_1 : decode cX1_copyOf 1 = .ok (.getfield 9, 3) := by decide +kernel
theorem dX1_copyOf_4 : decode cX1_copyOf 4 = .ok (.iconst 0, 1) := by decide +kernel
theorem dX1_copyOf_5 : decode cX1_copyOf 5 = .ok (.aload_n 0, 1) := by decide +kernel
theorem dX1_copyOf_6 : decode cX1_copyOf 6 = .ok (.getfield 9, 3) := by decide +kernel
theorem dX1_copyOf_9 : decode cX1_copyOf 9 = .ok (.iconst 0, 1) := by decide +kernel
theorem dX1_copyOf_10 : decode cX1_copyOf 10 = .ok (.aload_n 0, 1) := by decide +kernel
theorem dX1_copyOf_11 : decode cX1_copyOf 11 = .ok (.getfield 9, 3) := by decide +kernel
theorem dX1_copyOf_14 : decode cX1_copyOf 14 = .ok (.arraylength, 1) := by decide +kernel
theorem dX1_copyOf_15 : decode cX1_copyOf 15 = .ok (.invokestatic 38, 3) := by decide +kernel
theorem dX1_copyOf_18 : decode cX1_copyOf 18 = .ok (.aload_n 1, 1) := by decide +kernel
theorem dX1_copyOf_19 : decode cX1_copyOf 19 = .ok (.getfield 15, 3) := by decide +kernel
theorem dX1_copyOf_22 : decode cX1_copyOf 22 = .ok (.iconst 0, 1) := by decide +kernel
theorem dX1_copyOf_23 : decode cX1_copyOf 23 = .ok (.aload_n 0, 1) := by decide +kernel
theorem dX1_copyOf_24 : decode cX1_copyOf 24 = .ok (.getfield 15, 3) := by decide +kernel
theorem dX1_copyOf_27 : decode cX1_copyOf 27 = .ok (.iconst 0, 1) := by decide +kernel
theorem dX1_copyOf_28 : decode cX1_copyOf 28 = .ok (.aload_n 0, 1) := by decide +kernel
theorem dX1_copyOf_29 : decode cX1_copyOf 29 = .ok (.getfield 15, 3) := by decide +kernel
theorem dX1_copyOf_32 : decode cX1_copyOf 32 = .ok (.arraylength, 1) := by decide +kernel
theorem dX1_copyOf_33 : decode cX1_copyOf 33 = .ok (.invokestatic 38, 3) := by decide +kernel
theorem dX1_copyOf_36 : decode cX1_copyOf 36 = .ok (.aload_n 1, 1) := by decide +kernel
theorem dX1_copyOf_37 : decode cX1_copyOf 37 = .ok (.getfield 18, 3) := by decide +kernel
theorem dX1_copyOf_40 : decode cX1_copyOf 40 = .ok (.iconst 0, 1) := by decide +kernel
theorem dX1_copyOf_41 : decode cX1_copyOf 41 = .ok (.aload_n 0, 1) := by decide +kernel
theorem dX1_copyOf_42 : decode cX1_copyOf 42 = .ok (.getfield 18, 3) := by decide +kernel
theorem dX1_copyOf_45 : decode cX1_copyOf 45 = .ok (.iconst 0, 1) := by decide +kernel
theorem dX1_copyOf_46 : decode cX1_copyOf 46 = .ok (.aload_n 0, 1) := by decide +kernel
theorem dX1_copyOf_47 : decode cX1_copyOf 47 = .ok (.getfield 18, 3) := by decide +kernel
theorem dX1_copyOf_50 : decode cX1_copyOf 50 = .ok (.arraylength, 1) := by decide +kernel
theorem dX1_copyOf_51 : decode cX1_copyOf 51 = .ok (.invokestatic 38, 3) := by decide +kernel
theorem dX1_copyOf_54 : decode cX1_copyOf 54 = .ok (.aload_n 1, 1) := by decide +kernel
theorem dX1_copyOf_55 : decode cX1_copyOf 55 = .ok (.getfield 29, 3) := by decide +kernel
theorem dX1_copyOf_58 : decode cX1_copyOf 58 = .ok (.iconst 0, 1) := by decide +kernel
theorem dX1_copyOf_59 : decode cX1_copyOf 59 = .ok (.aload_n 0, 1) := by decide +kernel
theorem dX1_copyOf_60 : decode cX1_copyOf 60 = .ok (.getfield 29, 3) := by decide +kernel
theorem dX1_copyOf_63 : decode cX1_copyOf 63 = .ok (.iconst 0, 1) := by decide +kernel
theorem dX1_copyOf_64 : decode cX1_copyOf 64 = .ok (.aload_n 0, 1) := by decide +kernel
theorem dX1_copyOf_65 : decode cX1_copyOf 65 = .ok (.getfield 29, 3) := by decide +kernel
theorem dX1_copyOf_68 : decode cX1_copyOf 68 = .ok (.arraylength, 1) := by decide +kernel
theorem dX1_copyOf_69 : decode cX1_copyOf 69 = .ok (.invokestatic 38, 3) := by decide +kernel
theorem dX1_copyOf_72 : decode cX1_copyOf 72 = .ok (.aload_n 0, 1) := by decide +kernel
theorem dX1_copyOf_73 : decode cX1_copyOf 73 = .ok (.aload_n 1, 1) := by decide +kernel
theorem dX1_copyOf_74 : decode cX1_copyOf 74 = .ok (.getfield 44, 3) := by decide +kernel
theorem dX1_copyOf_77 : decode cX1_copyOf 77 = .ok (.putfield 44, 3) := by decide +kernel
theorem dX1_copyOf_80 : decode cX1_copyOf 80 = .ok (.return_, 1) := by decide +kernel
theorem dX1_has_0 : decode cX1_has 0 = .ok (.iload_n 1, 1) := by decide +kernel
theorem dX1_has_1 : decode cX1_has 1 = .ok (.ifCond .lt 15, 3) := by decide +kernel
theorem dX1_has_4 : decode cX1_has 4 = .ok (.iload_n 1, 1) := by decide +kernel
theorem dX1_has_5 : decode cX1_has 5 = .ok (.aload_n 0, 1) := by decide +kernel
theorem dX1_has_6 : decode cX1_has 6 = .ok (.getfield 44, 3) := by decide +kernel
theorem dX1_has_9 : decode cX1_has 9 = .ok (.if_icmp .ge 7, 3) := by decide +kernel
theorem dX1_has_12 : decode cX1_has 12 = .ok (.iconst 1, 1) := by decide +kernel
theorem dX1_has_13 : decode cX1_has 13 = .ok (.goto 4, 3) := by decide +kernel
theorem dX1_has_16 : decode cX1_has 16 = .ok (.iconst 0, 1) := by decide +kernel
theorem dX1_has_17 : decode cX1_has 17 = .ok (.ireturn, 1) := by decide +kernel
theorem dX1_callAt_0 : decode cX1_callAt 0 = .ok (.aload_n 0, 1) := by decide +kernel
theorem dX1_callAt_1 : decode cX1_callAt 1 = .ok (.getfield 9, 3) := by decide +kernel
theorem dX1_callAt_4 : decode cX1_callAt 4 = .ok (.iload_n 1, 1) := by decide +kernel
theorem dX1_callAt_5 : decode cX1_callAt 5 = .ok (.iconst 5, 1) := by decide +kernel
theorem dX1_callAt_6 : decode cX1_callAt 6 = .ok (.imul, 1) := by decide +kernel
theorem dX1_callAt_7 : decode cX1_callAt 7 = .ok (.iload_n 2, 1) := by decide +kernel
theorem dX1_callAt_8 : decode cX1_callAt 8 = .ok (.iadd, 1) := by decide +kernel
theorem dX1_callAt_9 : decode cX1_callAt 9 = .ok (.iaload, 1) := by decide +kernel
theorem dX1_callAt_10 : decode cX1_callAt 10 = .ok (.ireturn, 1) := by decide +kernel
theorem dX1_insertNote_0 : decode cX1_insertNote 0 = .ok (.aload_n 0, 1) := by decide +kernel
theorem dX1_insertNote_1 : decode cX1_insertNote 1 = .ok (.getfield 44, 3) := by decide +kernel
theorem dX1_insertNote_4 : decode cX1_insertNote 4 = .ok (.istore_n 2, 1) := by decide +kernel
theorem dX1_insertNote_5 : decode cX1_insertNote 5 = .ok (.iload_n 2, 1) := by decide +kernel
theorem dX1_insertNote_6 : decode cX1_insertNote 6 = .ok (.iload_n 1, 1) := by decide +kernel
theorem dX1_insertNote_7 : decode cX1_insertNote 7 = .ok (.if_icmp .le 17, 3) := by decide +kernel
theorem dX1_insertNote_10 : decode cX1_insertNote 10 = .ok (.aload_n 0, 1) := by decide +kernel
theorem dX1_insertNote_11 : decode cX1_insertNote 11 = .ok (.iload_n 2, 1) := by decide +kernel
theorem dX1_insertNote_12 : decode cX1_insertNote 12 = .ok (.iconst 1, 1) := by decide +kernel
theorem dX1_insertNote_13 : decode cX1_insertNote 13 = .ok (.isub, 1) := by decide +kernel
theorem dX1_insertNote_14 : decode cX1_insertNote 14 = .ok (.iload_n 2, 1) := by decide +kernel
theorem dX1_insertNote_15 : decode cX1_insertNote 15 = .ok (.invokevirtual 48, 3) := by decide +kernel
theorem dX1_insertNote_18 : decode cX1_insertNote 18 = .ok (.iinc 2 (-1), 3) := by decide +kernel
theorem dX1_insertNote_21 : decode cX1_insertNote 21 = .ok (.goto (-16), 3) := by decide +kernel
theorem dX1_insertNote_24 : decode cX1_insertNote 24 = .ok (.aload_n 0, 1) := by decide +kernel
theorem dX1_insertNote_25 : decode cX1_insertNote 25 = .ok (.getfield 15, 3) := by decide +kernel
theorem dX1_insertNote_28 : decode cX1_insertNote 28 = .ok (.iload_n 1, 1) := by decide +kernel
theorem dX1_insertNote_29 : decode cX1_insertNote 29 = .ok (.iconst 0, 1) := by decide +kernel
theorem dX1_insertNote_30 : decode cX1_insertNote 30 = .ok (.iastore, 1) := by decide +kernel
theorem dX1_insertNote_31 : decode cX1_insertNote 31 = .ok (.aload_n 0, 1) := by decide +kernel
theorem dX1_insertNote_32 : decode cX1_insertNote 32 = .ok (.dup, 1) := by decide +kernel
theorem dX1_insertNote_33 : decode cX1_insertNote 33 = .ok (.getfield 44, 3) := by decide +kernel
theorem dX1_insertNote_36 : decode cX1_insertNote 36 = .ok (.iconst 1, 1) := by decide +kernel
theorem dX1_insertNote_37 : decode cX1_insertNote 37 = .ok (.iadd, 1) := by decide +kernel
theorem dX1_insertNote_38 : decode cX1_insertNote 38 = .ok (.putfield 44, 3) := by decide +kernel
theorem dX1_insertNote_41 : decode cX1_insertNote 41 = .ok (.return_, 1) := by decide +kernel
theorem dX1_removeNote_0 : decode cX1_removeNote 0 = .ok (.iload_n 1, 1) := by decide +kernel
theorem dX1_removeNote_1 : decode cX1_removeNote 1 = .ok (.istore_n 2, 1) := by decide +kernel
theorem dX1_removeNote_2 : decode cX1_removeNote 2 = .ok (.iload_n 2, 1) := by decide +kernel
theorem dX1_removeNote_3 : decode cX1_removeNote 3 = .ok (.aload_n 0, 1) := by decide +kernel
theorem dX1_removeNote_4 : decode cX1_removeNote 4 = .ok (.getfield 44, 3) := by decide +kernel
theorem dX1_removeNote_7 : decode cX1_removeNote 7 = .ok (.iconst 1, 1) := by decide +kernel
theorem dX1_removeNote_8 : decode cX1_removeNote 8 = .ok (.isub, 1) := by decide +kernel
theorem dX1_removeNote_9 : decode cX1_removeNote 9 = .ok (.if_icmp .ge 17, 3) := by decide +kernel
theorem dX1_removeNote_12 : decode cX1_removeNote 12 = .ok (.aload_n 0, 1) := by decide +kernel
theorem dX1_removeNote_13 : decode cX1_removeNote 13 = .ok (.iload_n 2, 1) := by decide +kernel
theorem dX1_removeNote_14 : decode cX1_removeNote 14 = .ok (.iconst 1, 1) := by decide +kernel
theorem dX1_removeNote_15 : decode cX1_removeNote 15 = .ok (.iadd, 1) := by decide +kernel
theorem dX1_removeNote_16 : decode cX1_removeNote 16 = .ok (.iload_n 2, 1) := by decide +kernel
theorem dX1_removeNote_17 : decode cX1_removeNote 17 = .ok (.invokevirtual 48, 3) := by decide +kernel
theorem dX1_removeNote_20 : decode cX1_removeNote 20 = .ok (.iinc 2 1, 3) := by decide +kernel
theorem dX1_removeNote_23 : decode cX1_removeNote 23 = .ok (.goto (-21), 3) := by decide +kernel
theorem dX1_removeNote_26 : decode cX1_removeNote 26 = .ok (.aload_n 0, 1) := by decide +kernel
theorem dX1_removeNote_27 : decode cX1_removeNote 27 = .ok (.dup, 1) := by decide +kernel
theorem dX1_removeNote_28 : decode cX1_removeNote 28 = .ok (.getfield 44, 3) := by decide +kernel
theorem dX1_removeNote_31 : decode cX1_removeNote 31 = .ok (.iconst 1, 1) := by decide +kernel
theorem dX1_removeNote_32 : decode cX1_removeNote 32 = .ok (.isub, 1) := by decide +kernel
theorem dX1_removeNote_33 : decode cX1_removeNote 33 = .ok (.putfield 44, 3) := by decide +kernel
theorem dX1_removeNote_36 : decode cX1_removeNote 36 = .ok (.return_, 1) := by decide +kernel
theorem dX1_shiftNote_0 : decode cX1_shiftNote 0 = .ok (.aload_n 0, 1) := by decide +kernel
theorem dX1_shiftNote_1 : decode cX1_shiftNote 1 = .ok (.iload_n 1, 1) := by decide +kernel
theorem dX1_shiftNote_2 : decode cX1_shiftNote 2 = .ok (.bipush 40, 2) := by decide +kernel
theorem dX1_shiftNote_4 : decode cX1_shiftNote 4 = .ok (.invokevirtual 48, 3) := by decide +kernel
theorem dX1_shiftNote_7 : decode cX1_shiftNote 7 = .ok (.aload_n 0, 1) := by decide +kernel
theorem dX1_shiftNote_8 : decode cX1_shiftNote 8 = .ok (.iload_n 1, 1) := by decide +kernel
theorem dX1_shiftNote_9 : decode cX1_shiftNote 9 = .ok (.invokevirtual 52, 3) := by decide +kernel
theorem dX1_shiftNote_12 : decode cX1_shiftNote 12 = .ok (.aload_n 0, 1) := by decide +kernel
theorem dX1_shiftNote_13 : decode cX1_shiftNote 13 = .ok (.iload_n 2, 1) := by decide +kernel
theorem dX1_shiftNote_14 : decode cX1_shiftNote 14 = .ok (.invokevirtual 56, 3) := by decide +kernel
theorem dX1_shiftNote_17 : decode cX1_shiftNote 17 = .ok (.aload_n 0, 1) := by decide +kernel
theorem dX1_shiftNote_18 : decode cX1_shiftNote 18 = .ok (.bipush 40, 2) := by decide +kernel
theorem dX1_shiftNote_20 : decode cX1_shiftNote 20 = .ok (.iload_n 2, 1) := by decide +kernel
theorem dX1_shiftNote_21 : decode cX1_shiftNote 21 = .ok (.invokevirtual 48, 3) := by decide +kernel
theorem dX1_shiftNote_24 : decode cX1_shiftNote 24 = .ok (.return_, 1) := by decide +kernel
theorem dX1_addCall_0 : decode cX1_addCall 0 = .ok (.aload_n 0, 1) := by decide +kernel
theorem dX1_addCall_1 : decode cX1_addCall 1 = .ok (.getfield 9, 3) := by decide +kernel
theorem dX1_addCall_4 : decode cX1_addCall 4 = .ok (.iload_n 1, 1) := by decide +kernel
theorem dX1_addCall_5 : decode cX1_addCall 5 = .ok (.iconst 5, 1) := by decide +kernel
theorem dX1_addCall_6 : decode cX1_addCall 6 = .ok (.imul, 1) := by decide +kernel
theorem dX1_addCall_7 : decode cX1_addCall 7 = .ok (.aload_n 0, 1) := by decide +kernel
theorem dX1_addCall_8 : decode cX1_addCall 8 = .ok (.getfield 15, 3) := by decide +kernel
theorem dX1_addCall_11 : decode cX1_addCall 11 = .ok (.iload_n 1, 1) := by decide +kernel
theorem dX1_addCall_12 : decode cX1_addCall 12 = .ok (.iaload, 1) := by decide +kernel
theorem dX1_addCall_13 : decode cX1_addCall 13 = .ok (.iadd, 1) := by decide +kernel
theorem dX1_addCall_14 : decode cX1_addCall 14 = .ok (.iload_n 2, 1) := by decide +kernel
theorem dX1_addCall_15 : decode cX1_addCall 15 = .ok (.iastore, 1) := by decide +kernel
theorem dX1_addCall_16 : decode cX1_addCall 16 = .ok (.aload_n 0, 1) := by decide +kernel
theorem dX1_addCall_17 : decode cX1_addCall 17 = .ok (.getfield 15, 3) := by decide +kernel
theorem dX1_addCall_20 : decode cX1_addCall 20 = .ok (.iload_n 1, 1) := by decide +kernel
theorem dX1_addCall_21 : decode cX1_addCall 21 = .ok (.dup2, 1) := by decide +kernel
theorem dX1_addCall_22 : decode cX1_addCall 22 = .ok (.iaload, 1) := by decide +kernel
theorem dX1_addCall_23 : decode cX1_addCall 23 = .ok (.iconst 1, 1) := by decide +kernel
theorem dX1_addCall_24 : decode cX1_addCall 24 = .ok (.iadd, 1) := by decide +kernel
theorem dX1_addCall_25 : decode cX1_addCall 25 = .ok (.iastore, 1) := by decide +kernel
theorem dX1_addCall_26 : decode cX1_addCall 26 = .ok (.return_, 1) := by decide +kernel
theorem dX1_removeCall_0 : decode cX1_removeCall 0 = .ok (.iload_n 1, 1) := by decide +kernel
theorem dX1_removeCall_1 : decode cX1_removeCall 1 = .ok (.iconst 5, 1) := by decide +kernel
theorem dX1_removeCall_2 : decode cX1_removeCall 2 = .ok (.imul, 1) := by decide +kernel
theorem dX1_removeCall_3 : decode cX1_removeCall 3 = .ok (.iload_n 2, 1) := by decide +kernel
theorem dX1_removeCall_4 : decode cX1_removeCall 4 = .ok (.iadd, 1) := by decide +kernel
theorem dX1_removeCall_5 : decode cX1_removeCall 5 = .ok (.istore_n 3, 1) := by decide +kernel
theorem dX1_removeCall_6 : decode cX1_removeCall 6 = .ok (.iload_n 3, 1) := by decide +kernel
theorem dX1_removeCall_7 : decode cX1_removeCall 7 = .ok (.iload_n 1, 1) := by decide +kernel
theorem dX1_removeCall_8 : decode cX1_removeCall 8 = .ok (.iconst 5, 1) := by decide +kernel
theorem dX1_removeCall_9 : decode cX1_removeCall 9 = .ok (.imul, 1) := by decide +kernel
theorem dX1_removeCall_10 : decode cX1_removeCall 10 = .ok (.aload_n 0, 1) := by decide +kernel
theorem dX1_removeCall_11 : decode cX1_removeCall 11 = .ok (.getfield 15, 3) := by decide +kernel
theorem dX1_removeCall_14 : decode cX1_removeCall 14 = .ok (.iload_n 1, 1) := by decide +kernel
theorem dX1_removeCall_15 : decode cX1_removeCall 15 = .ok (.iaload, 1) := by decide +kernel
theorem dX1_removeCall_16 : decode cX1_removeCall 16 = .ok (.iadd, 1) := by decide +kernel
theorem dX1_removeCall_17 : decode cX1_removeCall 17 = .ok (.iconst 1, 1) := by decide +kernel
theorem dX1_removeCall_18 : decode cX1_removeCall 18 = .ok (.isub, 1) := by decide +kernel
theorem dX1_removeCall_19 : decode cX1_removeCall 19 = .ok (.if_icmp .ge 23, 3) := by decide +kernel
theorem dX1_removeCall_22 : decode cX1_removeCall 22 = .ok (.aload_n 0, 1) := by decide +kernel
theorem dX1_removeCall_23 : decode cX1_removeCall 23 = .ok (.getfield 9, 3) := by decide +kernel
theorem dX1_removeCall_26 : decode cX1_removeCall 26 = .ok (.iload_n 3, 1) := by decide +kernel
theorem dX1_removeCall_27 : decode cX1_removeCall 27 = .ok (.aload_n 0, 1) := by decide +kernel
theorem dX1_removeCall_28 : decode cX1_removeCall 28 = .ok (.getfield 9, 3) := by decide +kernel
theorem dX1_removeCall_31 : decode cX1_removeCall 31 = .ok (.iload_n 3, 1) := by decide +kernel
theorem dX1_removeCall_32 : decode cX1_removeCall 32 = .ok (.iconst 1, 1) := by decide +kernel
theorem dX1_removeCall_33 : decode cX1_removeCall 33 = .ok (.iadd, 1) := by decide +kernel
theorem dX1_removeCall_34 : decode cX1_removeCall 34 = .ok (.iaload, 1) := by decide +kernel
theorem dX1_removeCall_35 : decode cX1_removeCall 35 = .ok (.iastore, 1) := by decide +kernel
theorem dX1_removeCall_36 : decode cX1_removeCall 36 = .ok (.iinc 3 1, 3) := by decide +kernel
theorem dX1_removeCall_39 : decode cX1_removeCall 39 = .ok (.goto (-33), 3) := by decide +kernel
theorem dX1_removeCall_42 : decode cX1_removeCall 42 = .ok (.aload_n 0, 1) := by decide +kernel
theorem dX1_removeCall_43 : decode cX1_removeCall 43 = .ok (.getfield 15, 3) := by decide +kernel
theorem dX1_removeCall_46 : decode cX1_removeCall 46 = .ok (.iload_n 1, 1) := by decide +kernel
theorem dX1_removeCall_47 : decode cX1_removeCall 47 = .ok (.dup2, 1) := by decide +kernel
theorem dX1_removeCall_48 : decode cX1_removeCall 48 = .ok (.iaload, 1) := by decide +kernel
theorem dX1_removeCall_49 : decode cX1_removeCall 49 = .ok (.iconst 1, 1) := by decide +kernel
theorem dX1_removeCall_50 : decode cX1_removeCall 50 = .ok (.isub, 1) := by decide +kernel
theorem dX1_removeCall_51 : decode cX1_removeCall 51 = .ok (.iastore, 1) := by decide +kernel
theorem dX1_removeCall_52 : decode cX1_removeCall 52 = .ok (.return_, 1) := by decide +kernel
theorem dX1_joinedWorks_0 : decode cX1_joinedWorks 0 = .ok (.iconst 0, 1) := by decide +kernel
theorem dX1_joinedWorks_1 : decode cX1_joinedWorks 1 = .ok (.istore_n 1, 1) := by decide +kernel
theorem dX1_joinedWorks_2 : decode cX1_joinedWorks 2 = .ok (.iconst 0, 1) := by decide +kernel
theorem dX1_joinedWorks_3 : decode cX1_joinedWorks 3 = .ok (.istore_n 2, 1) := by decide +kernel
theorem dX1_joinedWorks_4 : decode cX1_joinedWorks 4 = .ok (.iload_n 2, 1) := by decide +kernel
theorem dX1_joinedWorks_5 : decode cX1_joinedWorks 5 = .ok (.bipush 24, 2) := by decide +kernel
theorem dX1_joinedWorks_7 : decode cX1_joinedWorks 7 = .ok (.if_icmp .ge 27, 3) := by decide +kernel
theorem dX1_joinedWorks_10 : decode cX1_joinedWorks 10 = .ok (.iload_n 1, 1) := by decide +kernel
theorem dX1_joinedWorks_11 : decode cX1_joinedWorks 11 = .ok (.aload_n 0, 1) := by decide +kernel
theorem dX1_joinedWorks_12 : decode cX1_joinedWorks 12 = .ok (.getfield 18, 3) := by decide +kernel
theorem dX1_joinedWorks_15 : decode cX1_joinedWorks 15 = .ok (.iload_n 2, 1) := by decide +kernel
theorem dX1_joinedWorks_16 : decode cX1_joinedWorks 16 = .ok (.iaload, 1) := by decide +kernel
theorem dX1_joinedWorks_17 : decode cX1_joinedWorks 17 = .ok (.iconst (-1), 1) := by decide +kernel
theorem dX1_joinedWorks_18 : decode cX1_joinedWorks 18 = .ok (.if_icmp .eq 7, 3) := by decide +kernel
theorem dX1_joinedWorks_21 : decode cX1_joinedWorks 21 = .ok (.iconst 1, 1) := by decide +kernel
theorem dX1_joinedWorks_22 : decode cX1_joinedWorks 22 = .ok (.goto 4, 3) := by decide +kernel
theorem dX1_joinedWorks_25 : decode cX1_joinedWorks 25 = .ok (.iconst 0, 1) := by decide +kernel
theorem dX1_joinedWorks_26 : decode cX1_joinedWorks 26 = .ok (.iadd, 1) := by decide +kernel
theorem dX1_joinedWorks_27 : decode cX1_joinedWorks 27 = .ok (.istore_n 1, 1) := by decide +kernel
theorem dX1_joinedWorks_28 : decode cX1_joinedWorks 28 = .ok (.iinc 2 1, 3) := by decide +kernel
theorem dX1_joinedWorks_31 : decode cX1_joinedWorks 31 = .ok (.goto (-27), 3) := by decide +kernel
theorem dX1_joinedWorks_34 : decode cX1_joinedWorks 34 = .ok (.iload_n 1, 1) := by decide +kernel
theorem dX1_joinedWorks_35 : decode cX1_joinedWorks 35 = .ok (.ireturn, 1) := by decide +kernel
theorem dX1_meantAs_0 : decode cX1_meantAs 0 = .ok (.iload_n 1, 1) := by decide +kernel
theorem dX1_meantAs_1 : decode cX1_meantAs 1 = .ok (.istore_n 2, 1) := by decide +kernel
theorem dX1_meantAs_2 : decode cX1_meantAs 2 = .ok (.iconst 0, 1) := by decide +kernel
theorem dX1_meantAs_3 : decode cX1_meantAs 3 = .ok (.istore_n 3, 1) := by decide +kernel
theorem dX1_meantAs_4 : decode cX1_meantAs 4 = .ok (.iload_n 3, 1) := by decide +kernel
theorem dX1_meantAs_5 : decode cX1_meantAs 5 = .ok (.bipush 24, 2) := by decide +kernel
theorem dX1_meantAs_7 : decode cX1_meantAs 7 = .ok (.if_icmp .ge 26, 3) := by decide +kernel
theorem dX1_meantAs_10 : decode cX1_meantAs 10 = .ok (.aload_n 0, 1) := by decide +kernel
theorem dX1_meantAs_11 : decode cX1_meantAs 11 = .ok (.getfield 18, 3) := by decide +kernel
theorem dX1_meantAs_14 : decode cX1_meantAs 14 = .ok (.iload_n 2, 1) := by decide +kernel
theorem dX1_meantAs_15 : decode cX1_meantAs 15 = .ok (.iaload, 1) := by decide +kernel
theorem dX1_meantAs_16 : decode cX1_meantAs 16 = .ok (.iconst (-1), 1) := by decide +kernel
theorem dX1_meantAs_17 : decode cX1_meantAs 17 = .ok (.if_icmp .eq 16, 3) := by decide +kernel
theorem dX1_meantAs_20 : decode cX1_meantAs 20 = .ok (.aload_n 0, 1) := by decide +kernel
theorem dX1_meantAs_21 : decode cX1_meantAs 21 = .ok (.getfield 18, 3) := by decide +kernel
theorem dX1_meantAs_24 : decode cX1_meantAs 24 = .ok (.iload_n 2, 1) := by decide +kernel
theorem dX1_meantAs_25 : decode cX1_meantAs 25 = .ok (.iaload, 1) := by decide +kernel
theorem dX1_meantAs_26 : decode cX1_meantAs 26 = .ok (.istore_n 2, 1) := by decide +kernel
theorem dX1_meantAs_27 : decode cX1_meantAs 27 = .ok (.iinc 3 1, 3) := by decide +kernel
theorem dX1_meantAs_30 : decode cX1_meantAs 30 = .ok (.goto (-26), 3) := by decide +kernel
theorem dX1_meantAs_33 : decode cX1_meantAs 33 = .ok (.iload_n 2, 1) := by decide +kernel
theorem dX1_meantAs_34 : decode cX1_meantAs 34 = .ok (.ireturn, 1) := by decide +kernel
theorem dX1_copyNote_0 : decode cX1_copyNote 0 = .ok (.aload_n 0, 1) := by decide +kernel
theorem dX1_copyNote_1 : decode cX1_copyNote 1 = .ok (.getfield 9, 3) := by decide +kernel
theorem dX1_copyNote_4 : decode cX1_copyNote 4 = .ok (.iload_n 1, 1) := by decide +kernel
theorem dX1_copyNote_5 : decode cX1_copyNote 5 = .ok (.iconst 5, 1) := by decide +kernel
theorem dX1_copyNote_6 : decode cX1_copyNote 6 = .ok (.imul, 1) := by decide +kernel
theorem dX1_copyNote_7 : decode cX1_copyNote 7 = .ok (.aload_n 0, 1) := by decide +kernel
theorem dX1_copyNote_8 : decode cX1_copyNote 8 = .ok (.getfield 9, 3) := by decide +kernel
theorem dX1_copyNote_11 : decode cX1_copyNote 11 = .ok (.iload_n 2, 1) := by decide +kernel
theorem dX1_copyNote_12 : decode cX1_copyNote 12 = .ok (.iconst 5, 1) := by decide +kernel
theorem dX1_copyNote_13 : decode cX1_copyNote 13 = .ok (.imul, 1) := by decide +kernel
theorem dX1_copyNote_14 : decode cX1_copyNote 14 = .ok (.iconst 5, 1) := by decide +kernel
theorem dX1_copyNote_15 : decode cX1_copyNote 15 = .ok (.invokestatic 38, 3) := by decide +kernel
theorem dX1_copyNote_18 : decode cX1_copyNote 18 = .ok (.aload_n 0, 1) := by decide +kernel
theorem dX1_copyNote_19 : decode cX1_copyNote 19 = .ok (.getfield 15, 3) := by decide +kernel
theorem dX1_copyNote_22 : decode cX1_copyNote 22 = .ok (.iload_n 2, 1) := by decide +kernel
theorem dX1_copyNote_23 : decode cX1_copyNote 23 = .ok (.aload_n 0, 1) := by decide +kernel
theorem dX1_copyNote_24 : decode cX1_copyNote 24 = .ok (.getfield 15, 3) := by decide +kernel
theorem dX1_copyNote_27 : decode cX1_copyNote 27 = .ok (.iload_n 1, 1) := by decide +kernel
theorem dX1_copyNote_28 : decode cX1_copyNote 28 = .ok (.iaload, 1) := by decide +kernel
theorem dX1_copyNote_29 : decode cX1_copyNote 29 = .ok (.iastore, 1) := by decide +kernel
theorem dX1_copyNote_30 : decode cX1_copyNote 30 = .ok (.return_, 1) := by decide +kernel
theorem dX2_init_0 : decode cX2_init 0 = .ok (.aload_n 0, 1) := by decide +kernel
theorem dX2_init_1 : decode cX2_init 1 = .ok (.invokespecial 3, 3) := by decide +kernel
theorem dX2_init_4 : decode cX2_init 4 = .ok (.aload_n 0, 1) := by decide +kernel
theorem dX2_init_5 : decode cX2_init 5 = .ok (.iconst 5, 1) := by decide +kernel
theorem dX2_init_6 : decode cX2_init 6 = .ok (.newarray .int, 2) := by decide +kernel
theorem dX2_init_8 : decode cX2_init 8 = .ok (.putfield 9, 3) := by decide +kernel
theorem dX2_init_11 : decode cX2_init 11 = .ok (.aload_n 0, 1) := by decide +kernel
theorem dX2_init_12 : decode cX2_init 12 = .ok (.iconst 5, 1) := by decide +kernel
theorem dX2_init_13 : decode cX2_init 13 = .ok (.newarray .int, 2) := by decide +kernel
theorem dX2_init_15 : decode cX2_init 15 = .ok (.putfield 15, 3) := by decide +kernel
theorem dX2_init_18 : decode cX2_init 18 = .ok (.aload_n 0, 1) := by decide +kernel
theorem dX2_init_19 : decode cX2_init 19 = .ok (.iconst 5, 1) := by decide +kernel
theorem dX2_init_20 : decode cX2_init 20 = .ok (.newarray .int, 2) := by decide +kernel
theorem dX2_init_22 : decode cX2_init 22 = .ok (.putfield 18, 3) := by decide +kernel
theorem dX2_init_25 : decode cX2_init 25 = .ok (.return_, 1) := by decide +kernel
theorem dX2_cutUp_0 : decode cX2_cutUp 0 = .ok (.aload_n 0, 1) := by decide +kernel
theorem dX2_cutUp_1 : decode cX2_cutUp 1 = .ok (.iconst 0, 1) := by decide +kernel
theorem dX2_cutUp_2 : decode cX2_cutUp 2 = .ok (.putfield 21, 3) := by decide +kernel
theorem dX2_cutUp_5 : decode cX2_cutUp 5 = .ok (.iconst 0, 1) := by decide +kernel
theorem dX2_cutUp_6 : decode cX2_cutUp 6 = .ok (.istore_n 3, 1) := by decide +kernel
theorem dX2_cutUp_7 : decode cX2_cutUp 7 = .ok (.iload_n 3, 1) := by decide +kernel
theorem dX2_cutUp_8 : decode cX2_cutUp 8 = .ok (.aload_n 1, 1) := by decide +kernel
theorem dX2_cutUp_9 : decode cX2_cutUp 9 = .ok (.getfield 25, 3) := by decide +kernel
theorem dX2_cutUp_12 : decode cX2_cutUp 12 = .ok (.getfield 31, 3) := by decide +kernel
theorem dX2_cutUp_15 : decode cX2_cutUp 15 = .ok (.iload_n 2, 1) := by decide +kernel
theorem dX2_cutUp_16 : decode cX2_cutUp 16 = .ok (.iaload, 1) := by decide +kernel
theorem dX2_cutUp_17 : decode cX2_cutUp 17 = .ok (.if_icmp .ge 24, 3) := by decide +kernel
theorem dX2_cutUp_20 : decode cX2_cutUp 20 = .ok (.aload_n 0, 1) := by decide +kernel
theorem dX2_cutUp_21 : decode cX2_cutUp 21 = .ok (.aload_n 1, 1) := by decide +kernel
theorem dX2_cutUp_22 : decode cX2_cutUp 22 = .ok (.getfield 35, 3) := by decide +kernel
theorem dX2_cutUp_25 : decode cX2_cutUp 25 = .ok (.aload_n 1, 1) := by decide +kernel
theorem dX2_cutUp_26 : decode cX2_cutUp 26 = .ok (.iload_n 2, 1) := by decide +kernel
theorem dX2_cutUp_27 : decode cX2_cutUp 27 = .ok (.iload_n 3, 1) := by decide +kernel
theorem dX2_cutUp_28 : decode cX2_cutUp 28 = .ok (.invokevirtual 38, 3) := by decide +kernel
theorem dX2_cutUp_31 : decode cX2_cutUp 31 = .ok (.iaload, 1) := by decide +kernel
theorem dX2_cutUp_32 : decode cX2_cutUp 32 = .ok (.invokevirtual 42, 3) := by decide +kernel
theorem dX2_cutUp_35 : decode cX2_cutUp 35 = .ok (.iinc 3 1, 3) := by decide +kernel
theorem dX2_cutUp_38 : decode cX2_cutUp 38 = .ok (.goto (-31), 3) := by decide +kernel
theorem dX2_cutUp_41 : decode cX2_cutUp 41 = .ok (.aload_n 0, 1) := by decide +kernel
theorem dX2_cutUp_42 : decode cX2_cutUp 42 = .ok (.iconst 0, 1) := by decide +kernel
theorem dX2_cutUp_43 : decode cX2_cutUp 43 = .ok (.putfield 46, 3) := by decide +kernel
theorem dX2_cutUp_46 : decode cX2_cutUp 46 = .ok (.iconst 0, 1) := by decide +kernel
theorem dX2_cutUp_47 : decode cX2_cutUp 47 = .ok (.istore_n 3, 1) := by decide +kernel
theorem dX2_cutUp_48 : decode cX2_cutUp 48 = .ok (.iconst 1, 1) := by decide +kernel
theorem dX2_cutUp_49 : decode cX2_cutUp 49 = .ok (.istore 4, 2) := by decide +kernel
theorem dX2_cutUp_51 : decode cX2_cutUp 51 = .ok (.iload 4, 2) := by decide +kernel
theorem dX2_cutUp_53 : decode cX2_cutUp 53 = .ok (.aload_n 0, 1) := by decide +kernel
theorem dX2_cutUp_54 : decode cX2_cutUp 54 = .ok (.getfield 21, 3) := by decide +kernel
theorem dX2_cutUp_57 : decode cX2_cutUp 57 = .ok (.if_icmp .gt 59, 3) := by decide +kernel
theorem dX2_cutUp_60 : decode cX2_cutUp 60 = .ok (.iload 4, 2) := by decide +kernel
theorem dX2_cutUp_62 : decode cX2_cutUp 62 = .ok (.aload_n 0, 1) := by decide +kernel
theorem dX2_cutUp_63 : decode cX2_cutUp 63 = .ok (.getfield 21, 3) := by decide +kernel
theorem dX2_cutUp_66 : decode cX2_cutUp 66 = .ok (.if_icmp .eq 24, 3) := by decide +kernel
theorem dX2_cutUp_69 : decode cX2_cutUp 69 = .ok (.aload_n 0, 1) := by decide +kernel
theorem dX2_cutUp_70 : decode cX2_cutUp 70 = .ok (.getfield 18, 3) := by decide +kernel
theorem dX2_cutUp_73 : decode cX2_cutUp 73 = .ok (.iload 4, 2) := by decide +kernel
theorem dX2_cutUp_75 : decode cX2_cutUp 75 = .ok (.iaload, 1) := by decide +kernel
theorem dX2_cutUp_76 : decode cX2_cutUp 76 = .ok (.aload_n 0, 1) := by decide +kernel
theorem dX2_cutUp_77 : decode cX2_cutUp 77 = .ok (.getfield 18, 3) := by decide +kernel
theorem dX2_cutUp_80 : decode cX2_cutUp 80 = .ok (.iload 4, 2) := by decide +kernel
theorem dX2_cutUp_82 : decode cX2_cutUp 82 = .ok (.iconst 1, 1) := by decide +kernel
theorem dX2_cutUp_83 : decode cX2_cutUp 83 = .ok (.isub, 1) := by decide +kernel
theorem dX2_cutUp_84 : decode cX2_cutUp 84 = .ok (.iaload, 1) := by decide +kernel
theorem dX2_cutUp_85 : decode cX2_cutUp 85 = .ok (.iconst 1, 1) := by decide +kernel
theorem dX2_cutUp_86 : decode cX2_cutUp 86 = .ok (.iadd, 1) := by decide +kernel
theorem dX2_cutUp_87 : decode cX2_cutUp 87 = .ok (.if_icmp .eq 23, 3) := by decide +kernel
theorem dX2_cutUp_90 : decode cX2_cutUp 90 = .ok (.aload_n 0, 1) := by decide +kernel
theorem dX2_cutUp_91 : decode cX2_cutUp 91 = .ok (.iload_n 3, 1) := by decide +kernel
theorem dX2_cutUp_92 : decode cX2_cutUp 92 = .ok (.iload 4, 2) := by decide +kernel
theorem dX2_cutUp_94 : decode cX2_cutUp 94 = .ok (.aload_n 1, 1) := by decide +kernel
theorem dX2_cutUp_95 : decode cX2_cutUp 95 = .ok (.getfield 25, 3) := by decide +kernel
theorem dX2_cutUp_98 : decode cX2_cutUp 98 = .ok (.getfield 49, 3) := by decide +kernel
theorem dX2_cutUp_101 : decode cX2_cutUp 101 = .ok (.bipush 8, 2) := by decide +kernel
theorem dX2_cutUp_103 : decode cX2_cutUp 103 = .ok (.iaload, 1) := by decide +kernel
theorem dX2_cutUp_104 : decode cX2_cutUp 104 = .ok (.invokevirtual 52, 3) := by decide +kernel
theorem dX2_cutUp_107 : decode cX2_cutUp 107 = .ok (.iload 4, 2) := by decide +kernel
theorem dX2_cutUp_109 : decode cX2_cutUp 109 = .ok (.istore_n 3, 1) := by decide +kernel
theorem dX2_cutUp_110 : decode cX2_cutUp 110 = .ok (.iinc 4 1, 3) := by decide +kernel
theorem dX2_cutUp_113 : decode cX2_cutUp 113 = .ok (.goto (-62), 3) := by decide +kernel
theorem dX2_cutUp_116 : decode cX2_cutUp 116 = .ok (.return_, 1) := by decide +kernel
theorem dX2_sortIn_0 : decode cX2_sortIn 0 = .ok (.iconst 0, 1) := by decide +kernel
theorem dX2_sortIn_1 : decode cX2_sortIn 1 = .ok (.istore_n 2, 1) := by decide +kernel
theorem dX2_sortIn_2 : decode cX2_sortIn 2 = .ok (.iload_n 2, 1) := by decide +kernel
theorem dX2_sortIn_3 : decode cX2_sortIn 3 = .ok (.aload_n 0, 1) := by decide +kernel
theorem dX2_sortIn_4 : decode cX2_sortIn 4 = .ok (.getfield 21, 3) := by decide +kernel
theorem dX2_sortIn_7 : decode cX2_sortIn 7 = .ok (.if_icmp .ge 20, 3) := by decide +kernel
theorem dX2_sortIn_10 : decode cX2_sortIn 10 = .ok (.aload_n 0, 1) := by decide +kernel
theorem dX2_sortIn_11 : decode cX2_sortIn 11 = .ok (.getfield 18, 3) := by decide +kernel
theorem dX2_sortIn_14 : decode cX2_sortIn 14 = .ok (.iload_n 2, 1) := by decide +kernel
theorem dX2_sortIn_15 : decode cX2_sortIn 15 = .ok (.iaload, 1) := by decide +kernel
theorem dX2_sortIn_16 : decode cX2_sortIn 16 = .ok (.iload_n 1, 1) := by decide +kernel
theorem dX2_sortIn_17 : decode cX2_sortIn 17 = .ok (.if_icmp .ne 4, 3) := by decide +kernel
theorem dX2_sortIn_20 : decode cX2_sortIn 20 = .ok (.return_, 1) := by decide +kernel
theorem dX2_sortIn_21 : decode cX2_sortIn 21 = .ok (.iinc 2 1, 3) := by decide +kernel
theorem dX2_sortIn_24 : decode cX2_sortIn 24 = .ok (.goto (-22), 3) := by decide +kernel
theorem dX2_sortIn_27 : decode cX2_sortIn 27 = .ok (.aload_n 0, 1) := by decide +kernel
theorem dX2_sortIn_28 : decode cX2_sortIn 28 = .ok (.getfield 21, 3) := by decide +kernel
theorem dX2_sortIn_31 : decode cX2_sortIn 31 = .ok (.istore_n 2, 1) := by decide +kernel
theorem dX2_sortIn_32 : decode cX2_sortIn 32 = .ok (.iload_n 2, 1) := by decide +kernel
theorem dX2_sortIn_33 : decode cX2_sortIn 33 = .ok (.ifCond .le 35, 3) := by decide +kernel
theorem dX2_sortIn_36 : decode cX2_sortIn 36 = .ok (.aload_n 0, 1) := by decide +kernel
theorem dX2_sortIn_37 : decode cX2_sortIn 37 = .ok (.getfield 18, 3) := by decide +kernel
theorem dX2_sortIn_40 : decode cX2_sortIn 40 = .ok (.iload_n 2, 1) := by decide +kernel
theorem dX2_sortIn_41 : decode cX2_sortIn 41 = .ok (.iconst 1, 1) := by decide +kernel
theorem dX2_sortIn_42 : decode cX2_sortIn 42 = .ok (.isub, 1) := by decide +kernel
theorem dX2_sortIn_43 : decode cX2_sortIn 43 = .ok (.iaload, 1) := by decide +kernel
theorem dX2_sortIn_44 : decode cX2_sortIn 44 = .ok (.iload_n 1, 1) := by decide +kernel
theorem dX2_sortIn_45 : decode cX2_sortIn 45 = .ok (.if_icmp .le 23, 3) := by decide +kernel
theorem dX2_sortIn_48 : decode cX2_sortIn 48 = .ok (.aload_n 0, 1) := by decide +kernel
theorem dX2_sortIn_49 : decode cX2_sortIn 49 = .ok (.getfield 18, 3) := by decide +kernel
theorem dX2_sortIn_52 : decode cX2_sortIn 52 = .ok (.iload_n 2, 1) := by decide +kernel
theorem dX2_sortIn_53 : decode cX2_sortIn 53 = .ok (.aload_n 0, 1) := by decide +kernel
theorem dX2_sortIn_54 : decode cX2_sortIn 54 = .ok (.getfield 18, 3) := by decide +kernel
theorem dX2_sortIn_57 : decode cX2_sortIn 57 = .ok (.iload_n 2, 1) := by decide +kernel
theorem dX2_sortIn_58 : decode cX2_sortIn 58 = .ok (.iconst 1, 1) := by decide +kernel
theorem dX2_sortIn_59 : decode cX2_sortIn 59 = .ok (.isub, 1) := by decide +kernel
theorem dX2_sortIn_60 : decode cX2_sortIn 60 = .ok (.iaload, 1) := by decide +kernel
theorem dX2_sortIn_61 : decode cX2_sortIn 61 = .ok (.iastore, 1) := by decide +kernel
theorem dX2_sortIn_62 : decode cX2_sortIn 62 = .ok (.iinc 2 (-1), 3) := by decide +kernel
theorem dX2_sortIn_65 : decode cX2_sortIn 65 = .ok (.goto (-33), 3) := by decide +kernel
theorem dX2_sortIn_68 : decode cX2_sortIn 68 = .ok (.aload_n 0, 1) := by decide +kernel
theorem dX2_sortIn_69 : decode cX2_sortIn 69 = .ok (.getfield 18, 3) := by decide +kernel
theorem dX2_sortIn_72 : decode cX2_sortIn 72 = .ok (.iload_n 2, 1) := by decide +kernel
theorem dX2_sortIn_73 : decode cX2_sortIn 73 = .ok (.iload_n 1, 1) := by decide +kernel
theorem dX2_sortIn_74 : decode cX2_sortIn 74 = .ok (.iastore, 1) := by decide +kernel
theorem dX2_sortIn_75 : decode cX2_sortIn 75 = .ok (.aload_n 0, 1) := by decide +kernel
theorem dX2_sortIn_76 : decode cX2_sortIn 76 = .ok (.dup, 1) := by decide +kernel
theorem dX2_sortIn_77 : decode cX2_sortIn 77 = .ok (.getfield 21, 3) := by decide +kernel
theorem dX2_sortIn_80 : decode cX2_sortIn 80 = .ok (.iconst 1, 1) := by decide +kernel
theorem dX2_sortIn_81 : decode cX2_sortIn 81 = .ok (.iadd, 1) := by decide +kernel
theorem dX2_sortIn_82 : decode cX2_sortIn 82 = .ok (.putfield 21, 3) := by decide +kernel
theorem dX2_sortIn_85 : decode cX2_sortIn 85 = .ok (.return_, 1) := by decide +kernel
theorem dX2_addRow_0 : decode cX2_addRow 0 = .ok (.iload_n 3, 1) := by decide +kernel
theorem dX2_addRow_1 : decode cX2_addRow 1 = .ok (.ifCond .le 29, 3) := by decide +kernel
theorem dX2_addRow_4 : decode cX2_addRow 4 = .ok (.iload_n 2, 1) := by decide +kernel
theorem dX2_addRow_5 : decode cX2_addRow 5 = .ok (.iload_n 1, 1) := by decide +kernel
theorem dX2_addRow_6 : decode cX2_addRow 6 = .ok (.isub, 1) := by decide +kernel
theorem dX2_addRow_7 : decode cX2_addRow 7 = .ok (.iload_n 3, 1) := by decide +kernel
theorem dX2_addRow_8 : decode cX2_addRow 8 = .ok (.if_icmp .lt 22, 3) := by decide +kernel
theorem dX2_addRow_11 : decode cX2_addRow 11 = .ok (.aload_n 0, 1) := by decide +kernel
theorem dX2_addRow_12 : decode cX2_addRow 12 = .ok (.aload_n 0, 1) := by decide +kernel
theorem dX2_addRow_13 : decode cX2_addRow 13 = .ok (.getfield 18, 3) := by decide +kernel
theorem dX2_addRow_16 : decode cX2_addRow 16 = .ok (.iload_n 1, 1) := by decide +kernel
theorem dX2_addRow_17 : decode cX2_addRow 17 = .ok (.iaload, 1) := by decide +kernel
theorem dX2_addRow_18 : decode cX2_addRow 18 = .ok (.aload_n 0, 1) := by decide +kernel
theorem dX2_addRow_19 : decode cX2_addRow 19 = .ok (.getfield 18, 3) := by decide +kernel
theorem dX2_addRow_22 : decode cX2_addRow 22 = .ok (.iload_n 2, 1) := by decide +kernel
theorem dX2_addRow_23 : decode cX2_addRow 23 = .ok (.iconst 1, 1) := by decide +kernel
theorem dX2_addRow_24 : decode cX2_addRow 24 = .ok (.isub, 1) := by decide +kernel
theorem dX2_addRow_25 : decode cX2_addRow 25 = .ok (.iaload, 1) := by decide +kernel
theorem dX2_addRow_26 : decode cX2_addRow 26 = .ok (.invokevirtual 56, 3) := by decide +kernel
theorem dX2_addRow_29 : decode cX2_addRow 29 = .ok (.return_, 1) := by decide +kernel
theorem dX2_addRow_30 : decode cX2_addRow 30 = .ok (.iload_n 1, 1) := by decide +kernel
theorem dX2_addRow_31 : decode cX2_addRow 31 = .ok (.istore 4, 2) := by decide +kernel
theorem dX2_addRow_33 : decode cX2_addRow 33 = .ok (.iload 4, 2) := by decide +kernel
theorem dX2_addRow_35 : decode cX2_addRow 35 = .ok (.iload_n 2, 1) := by decide +kernel
theorem dX2_addRow_36 : decode cX2_addRow 36 = .ok (.if_icmp .ge 27, 3) := by decide +kernel
theorem dX2_addRow_39 : decode cX2_addRow 39 = .ok (.aload_n 0, 1) := by decide +kernel
theorem dX2_addRow_40 : decode cX2_addRow 40 = .ok (.aload_n 0, 1) := by decide +kernel
theorem dX2_addRow_41 : decode cX2_addRow 41 = .ok (.getfield 18, 3) := by decide +kernel
theorem dX2_addRow_44 : decode cX2_addRow 44 = .ok (.iload 4, 2) := by decide +kernel
theorem dX2_addRow_46 : decode cX2_addRow 46 = .ok (.iaload, 1) := by decide +kernel
theorem dX2_addRow_47 : decode cX2_addRow 47 = .ok (.aload_n 0, 1) := by decide +kernel
theorem dX2_addRow_48 : decode cX2_addRow 48 = .ok (.getfield 18, 3) := by decide +kernel
theorem dX2_addRow_51 : decode cX2_addRow 51 = .ok (.iload 4, 2) := by decide +kernel
theorem dX2_addRow_53 : decode cX2_addRow 53 = .ok (.iaload, 1) := by decide +kernel
theorem dX2_addRow_54 : decode cX2_addRow 54 = .ok (.invokevirtual 56, 3) := by decide +kernel
theorem dX2_addRow_57 : decode cX2_addRow 57 = .ok (.iinc 4 1, 3) := by decide +kernel
theorem dX2_addRow_60 : decode cX2_addRow 60 = .ok (.goto (-27), 3) := by decide +kernel
theorem dX2_addRow_63 : decode cX2_addRow 63 = .ok (.return_, 1) := by decide +kernel
theorem dX2_addPiece_0 : decode cX2_addPiece 0 = .ok (.aload_n 0, 1) := by decide +kernel
theorem dX2_addPiece_1 : decode cX2_addPiece 1 = .ok (.getfield 9, 3) := by decide +kernel
theorem dX2_addPiece_4 : decode cX2_addPiece 4 = .ok (.aload_n 0, 1) := by decide +kernel
theorem dX2_addPiece_5 : decode cX2_addPiece 5 = .ok (.getfield 46, 3) := by decide +kernel
theorem dX2_addPiece_8 : decode cX2_addPiece 8 = .ok (.iload_n 1, 1) := by decide +kernel
theorem dX2_addPiece_9 : decode cX2_addPiece 9 = .ok (.iastore, 1) := by decide +kernel
theorem dX2_addPiece_10 : decode cX2_addPiece 10 = .ok (.aload_n 0, 1) := by decide +kernel
theorem dX2_addPiece_11 : decode cX2_addPiece 11 = .ok (.getfield 15, 3) := by decide +kernel
theorem dX2_addPiece_14 : decode cX2_addPiece 14 = .ok (.aload_n 0, 1) := by decide +kernel
theorem dX2_addPiece_15 : decode cX2_addPiece 15 = .ok (.getfield 46, 3) := by decide +kernel
theorem dX2_addPiece_18 : decode cX2_addPiece 18 = .ok (.iload_n 2, 1) := by decide +kernel
theorem dX2_addPiece_19 : decode cX2_addPiece 19 = .ok (.iastore, 1) := by decide +kernel
theorem dX2_addPiece_20 : decode cX2_addPiece 20 = .ok (.aload_n 0, 1) := by decide +kernel
theorem dX2_addPiece_21 : decode cX2_addPiece 21 = .ok (.dup, 1) := by decide +kernel
theorem dX2_addPiece_22 : decode cX2_addPiece 22 = .ok (.getfield 46, 3) := by decide +kernel
theorem dX2_addPiece_25 : decode cX2_addPiece 25 = .ok (.iconst 1, 1) := by decide +kernel
theorem dX2_addPiece_26 : decode cX2_addPiece 26 = .ok (.iadd, 1) := by decide +kernel
theorem dX2_addPiece_27 : decode cX2_addPiece 27 = .ok (.putfield 46, 3) := by decide +kernel
theorem dX2_addPiece_30 : decode cX2_addPiece 30 = .ok (.return_, 1) := by decide +kernel
theorem dX3_init_0 : decode cX3_init 0 = .ok (.aload_n 0, 1) := by decide +kernel
theorem dX3_init_1 : decode cX3_init 1 = .ok (.invokespecial 3, 3) := by decide +kernel
theorem dX3_init_4 : decode cX3_init 4 = .ok (.aload_n 0, 1) := by decide +kernel
theorem dX3_init_5 : decode cX3_init 5 = .ok (.bipush 10, 2) := by decide +kernel
theorem dX3_init_7 : decode cX3_init 7 = .ok (.newarray .int, 2) := by decide +kernel
theorem dX3_init_9 : decode cX3_init 9 = .ok (.putfield 9, 3) := by decide +kernel
theorem dX3_init_12 : decode cX3_init 12 = .ok (.aload_n 0, 1) := by decide +kernel
theorem dX3_init_13 : decode cX3_init 13 = .ok (.iconst (-1), 1) := by decide +kernel
theorem dX3_init_14 : decode cX3_init 14 = .ok (.putfield 15, 3) := by decide +kernel
theorem dX3_init_17 : decode cX3_init 17 = .ok (.aload_n 0, 1) := by decide +kernel
theorem dX3_init_18 : decode cX3_init 18 = .ok (.sipush 200, 3) := by decide +kernel
theorem dX3_init_21 : decode cX3_init 21 = .ok (.newarray .int, 2) := by decide +kernel
theorem dX3_init_23 : decode cX3_init 23 = .ok (.putfield 19, 3) := by decide +kernel
theorem dX3_init_26 : decode cX3_init 26 = .ok (.aload_n 0, 1) := by decide +kernel
theorem dX3_init_27 : decode cX3_init 27 = .ok (.bipush 10, 2) := by decide +kernel
theorem dX3_init_29 : decode cX3_init 29 = .ok (.newarray .boolean, 2) := by decide +kernel
theorem dX3_init_31 : decode cX3_init 31 = .ok (.putfield 22, 3) := by decide +kernel
theorem dX3_init_34 : decode cX3_init 34 = .ok (.return_, 1) := by decide +kernel
theorem dX3_addByte_0 : decode cX3_addByte 0 = .ok (.aload_n 0, 1) := by decide +kernel
theorem dX3_addByte_1 : decode cX3_addByte 1 = .ok (.getfield 19, 3) := by decide +kernel
theorem dX3_addByte_4 : decode cX3_addByte 4 = .ok (.aload_n 0, 1) := by decide +kernel
theorem dX3_addByte_5 : decode cX3_addByte 5 = .ok (.getfield 26, 3) := by decide +kernel
theorem dX3_addByte_8 : decode cX3_addByte 8 = .ok (.iload_n 1, 1) := by decide +kernel
theorem dX3_addByte_9 : decode cX3_addByte 9 = .ok (.iastore, 1) := by decide +kernel
theorem dX3_addByte_10 : decode cX3_addByte 10 = .ok (.aload_n 0, 1) := by decide +kernel
theorem dX3_addByte_11 : decode cX3_addByte 11 = .ok (.dup, 1) := by decide +kernel
theorem dX3_addByte_12 : decode cX3_addByte 12 = .ok (.getfield 26, 3) := by decide +kernel
theorem dX3_addByte_15 : decode cX3_addByte 15 = .ok (.iconst 1, 1) := by decide +kernel
theorem dX3_addByte_16 : decode cX3_addByte 16 = .ok (.iadd, 1) := by decide +kernel
theorem dX3_addByte_17 : decode cX3_addByte 17 = .ok (.putfield 26, 3) := by decide +kernel
theorem dX3_addByte_20 : decode cX3_addByte 20 = .ok (.return_, 1) := by decide +kernel
theorem dX3_readText_0 : decode cX3_readText 0 = .ok (.getstatic 29, 3) := by decide +kernel
theorem dX3_readText_3 : decode cX3_readText 3 = .ok (.iconst 0, 1) := by decide +kernel
theorem dX3_readText_4 : decode cX3_readText 4 = .ok (.aload_n 0, 1) := by decide +kernel
theorem dX3_readText_5 : decode cX3_readText 5 = .ok (.getfield 9, 3) := by decide +kernel
theorem dX3_readText_8 : decode cX3_readText 8 = .ok (.iconst 0, 1) := by decide +kernel
theorem dX3_readText_9 : decode cX3_readText 9 = .ok (.bipush 10, 2) := by decide +kernel
theorem dX3_readText_11 : decode cX3_readText 11 = .ok (.invokestatic 32, 3) := by decide +kernel
theorem dX3_readText_14 : decode cX3_readText 14 = .ok (.iconst 0, 1) := by decide +kernel
theorem dX3_readText_15 : decode cX3_readText 15 = .ok (.istore_n 1, 1) := by decide +kernel
theorem dX3_readText_16 : decode cX3_readText 16 = .ok (.iload_n 1, 1) := by decide +kernel
theorem dX3_readText_17 : decode cX3_readText 17 = .ok (.bipush 10, 2) := by decide +kernel
theorem dX3_readText_19 : decode cX3_readText 19 = .ok (.if_icmp .ge 16, 3) := by decide +kernel
theorem dX3_readText_22 : decode cX3_readText 22 = .ok (.aload_n 0, 1) := by decide +kernel
theorem dX3_readText_23 : decode cX3_readText 23 = .ok (.getfield 22, 3) := by decide +kernel
theorem dX3_readText_26 : decode cX3_readText 26 = .ok (.iload_n 1, 1) := by decide +kernel
theorem dX3_readText_27 : decode cX3_readText 27 = .ok (.iconst 0, 1) := by decide +kernel
theorem dX3_readText_28 : decode cX3_readText 28 = .ok (.bastore, 1) := by decide +kernel
theorem dX3_readText_29 : decode cX3_readText 29 = .ok (.iinc 1 1, 3) := by decide +kernel
theorem dX3_readText_32 : decode cX3_readText 32 = .ok (.goto (-16), 3) := by decide +kernel
theorem dX3_readText_35 : decode cX3_readText 35 = .ok (.aload_n 0, 1) := by decide +kernel
theorem dX3_readText_36 : decode cX3_readText 36 = .ok (.iconst 0, 1) := by decide +kernel
theorem dX3_readText_37 : decode cX3_readText 37 = .ok (.putfield 38, 3) := by decide +kernel
theorem dX3_readText_40 : decode cX3_readText 40 = .ok (.aload_n 0, 1) := by decide +kernel
theorem dX3_readText_41 : decode cX3_readText 41 = .ok (.iconst (-1), 1) := by decide +kernel
theorem dX3_readText_42 : decode cX3_readText 42 = .ok (.putfield 15, 3) := by decide +kernel
theorem dX3_readText_45 : decode cX3_readText 45 = .ok (.aload_n 0, 1) := by decide +kernel
theorem dX3_readText_46 : decode cX3_readText 46 = .ok (.iconst 0, 1) := by decide +kernel
theorem dX3_readText_47 : decode cX3_readText 47 = .ok (.putfield 41, 3) := by decide +kernel
theorem dX3_readText_50 : decode cX3_readText 50 = .ok (.iconst 0, 1) := by decide +kernel
theorem dX3_readText_51 : decode cX3_readText 51 = .ok (.istore_n 1, 1) := by decide +kernel
theorem dX3_readText_52 : decode cX3_readText 52 = .ok (.aload_n 0, 1) := by decide +kernel
theorem dX3_readText_53 : decode cX3_readText 53 = .ok (.invokevirtual 44, 3) := by decide +kernel
theorem dX3_readText_56 : decode cX3_readText 56 = .ok (.iload_n 1, 1) := by decide +kernel
theorem dX3_readText_57 : decode cX3_readText 57 = .ok (.bipush 10, 2) := by decide +kernel
theorem dX3_readText_59 : decode cX3_readText 59 = .ok (.if_icmp .ge 31, 3) := by decide +kernel
theorem dX3_readText_62 : decode cX3_readText 62 = .ok (.aload_n 0, 1) := by decide +kernel
theorem dX3_readText_63 : decode cX3_readText 63 = .ok (.getfield 41, 3) := by decide +kernel
theorem dX3_readText_66 : decode cX3_readText 66 = .ok (.aload_n 0, 1) := by decide +kernel
theorem dX3_readText_67 : decode cX3_readText 67 = .ok (.getfield 26, 3) := by decide +kernel
theorem dX3_readText_70 : decode cX3_readText 70 = .ok (.if_icmp .ge 20, 3) := by decide +kernel
theorem dX3_readText_73 : decode cX3_readText 73 = .ok (.aload_n 0, 1) := by decide +kernel
theorem dX3_readText_74 : decode cX3_readText 74 = .ok (.invokevirtual 47, 3) := by decide +kernel
theorem dX3_readText_77 : decode cX3_readText 77 = .ok (.ifCond .eq 13, 3) := by decide +kernel
theorem dX3_readText_80 : decode cX3_readText 80 = .ok (.iinc 1 1, 3) := by decide +kernel
theorem dX3_readText_83 : decode cX3_readText 83 = .ok (.aload_n 0, 1) := by decide +kernel
theorem dX3_readText_84 : decode cX3_readText 84 = .ok (.invokevirtual 44, 3) := by decide +kernel
theorem dX3_readText_87 : decode cX3_readText 87 = .ok (.goto (-31), 3) := by decide +kernel
theorem dX3_readText_90 : decode cX3_readText 90 = .ok (.aload_n 0, 1) := by decide +kernel
theorem dX3_readText_91 : decode cX3_readText 91 = .ok (.iconst 0, 1) := by decide +kernel
theorem dX3_readText_92 : decode cX3_readText 92 = .ok (.putfield 26, 3) := by decide +kernel
theorem dX3_readText_95 : decode cX3_readText 95 = .ok (.iload_n 1, 1) := by decide +kernel
theorem dX3_readText_96 : decode cX3_readText 96 = .ok (.ireturn, 1) := by decide +kernel
theorem dX3_readClause_0 : decode cX3_readClause 0 = .ok (.aload_n 0, 1) := by decide +kernel
theorem dX3_readClause_1 : decode cX3_readClause 1 = .ok (.getfield 41, 3) := by decide +kernel
theorem dX3_readClause_4 : decode cX3_readClause 4 = .ok (.istore_n 1, 1) := by decide +kernel
theorem dX3_readClause_5 : decode cX3_readClause 5 = .ok (.aload_n 0, 1) := by decide +kernel
theorem dX3_readClause_6 : decode cX3_readClause 6 = .ok (.invokevirtual 51, 3) := by decide +kernel
theorem dX3_readClause_9 : decode cX3_readClause 9 = .ok (.istore_n 2, 1) := by decide +kernel
theorem dX3_readClause_10 : decode cX3_readClause 10 = .ok (.iload_n 2, 1) := by decide +kernel
theorem dX3_readClause_11 : decode cX3_readClause 11 = .ok (.iconst (-1), 1) := by decide +kernel
theorem dX3_readClause_12 : decode cX3_readClause 12 = .ok (.if_icmp .ne 10, 3) := by decide +kernel
theorem dX3_readClause_15 : decode cX3_readClause 15 = .ok (.aload_n 0, 1) := by decide +kernel
theorem dX3_readClause_16 : decode cX3_readClause 16 = .ok (.iconst 1, 1) := by decide +kernel
theorem dX3_readClause_17 : decode cX3_readClause 17 = .ok (.iload_n 1, 1) := by decide +kernel
theorem dX3_readClause_18 : decode cX3_readClause 18 = .ok (.invokevirtual 55, 3) := by decide +kernel
theorem dX3_readClause_21 : decode cX3_readClause 21 = .ok (.ireturn, 1) := by decide +kernel
theorem dX3_readClause_22 : decode cX3_readClause 22 = .ok (.aload_n 0, 1) := by decide +kernel
theorem dX3_readClause_23 : decode cX3_readClause 23 = .ok (.getfield 22, 3) := by decide +kernel
theorem dX3_readClause_26 : decode cX3_readClause 26 = .ok (.iload_n 2, 1) := by decide +kernel
theorem dX3_readClause_27 : decode cX3_readClause 27 = .ok (.baload, 1) := by decide +kernel
theorem dX3_readClause_28 : decode cX3_readClause 28 = .ok (.ifCond .eq 10, 3) := by decide +kernel
theorem dX3_readClause_31 : decode cX3_readClause 31 = .ok (.aload_n 0, 1) := by decide +kernel
theorem dX3_readClause_32 : decode cX3_readClause 32 = .ok (.iconst 3, 1) := by decide +kernel
theorem dX3_readClause_33 : decode cX3_readClause 33 = .ok (.iload_n 1, 1) := by decide +kernel
theorem dX3_readClause_34 : decode cX3_readClause 34 = .ok (.invokevirtual 55, 3) := by decide +kernel
theorem dX3_readClause_37 : decode cX3_readClause 37 = .ok (.ireturn, 1) := by decide +kernel
theorem dX3_readClause_38 : decode cX3_readClause 38 = .ok (.aload_n 0, 1) := by decide +kernel
theorem dX3_readClause_39 : decode cX3_readClause 39 = .ok (.getfield 22, 3) := by decide +kernel
theorem dX3_readClause_42 : decode cX3_readClause 42 = .ok (.iload_n 2, 1) := by decide +kernel
theorem dX3_readClause_43 : decode cX3_readClause 43 = .ok (.iconst 1, 1) := by decide +kernel
theorem dX3_readClause_44 : decode cX3_readClause 44 = .ok (.bastore, 1) := by decide +kernel
theorem dX3_readClause_45 : decode cX3_readClause 45 = .ok (.iload_n 2, 1) := by decide +kernel
theorem dX3_readClause_46 : decode cX3_readClause 46 = .ok (.iconst 2, 1) := by decide +kernel
theorem dX3_readClause_47 : decode cX3_readClause 47 = .ok (.if_icmp .ne 39, 3) := by decide +kernel
theorem dX3_readClause_50 : decode cX3_readClause 50 = .ok (.aload_n 0, 1) := by decide +kernel
theorem dX3_readClause_51 : decode cX3_readClause 51 = .ok (.iconst 2, 1) := by decide +kernel
theorem dX3_readClause_52 : decode cX3_readClause 52 = .ok (.invokevirtual 59, 3) := by decide +kernel
theorem dX3_readClause_55 : decode cX3_readClause 55 = .ok (.ifCond .eq 29, 3) := by decide +kernel
theorem dX3_readClause_58 : decode cX3_readClause 58 = .ok (.aload_n 0, 1) := by decide +kernel
theorem dX3_readClause_59 : decode cX3_readClause 59 = .ok (.invokevirtual 63, 3) := by decide +kernel
theorem dX3_readClause_62 : decode cX3_readClause 62 = .ok (.ifCond .eq 22, 3) := by decide +kernel
theorem dX3_readClause_65 : decode cX3_readClause 65 = .ok (.aload_n 0, 1) := by decide +kernel
theorem dX3_readClause_66 : decode cX3_readClause 66 = .ok (.iconst 3, 1) := by decide +kernel
theorem dX3_readClause_67 : decode cX3_readClause 67 = .ok (.invokevirtual 59, 3) := by decide +kernel
theorem dX3_readClause_70 : decode cX3_readClause 70 = .ok (.ifCond .eq 14, 3) := by decide +kernel
theorem dX3_readClause_73 : decode cX3_readClause 73 = .ok (.aload_n 0, 1) := by decide +kernel
theorem dX3_readClause_74 : decode cX3_readClause 74 = .ok (.invokevirtual 66, 3) := by decide +kernel
theorem dX3_readClause_77 : decode cX3_readClause 77 = .ok (.ifCond .eq 7, 3) := by decide +kernel
theorem dX3_readClause_80 : decode cX3_readClause 80 = .ok (.iconst 1, 1) := by decide +kernel
theorem dX3_readClause_81 : decode cX3_readClause 81 = .ok (.goto 4, 3) := by decide +kernel
theorem dX3_readClause_84 : decode cX3_readClause 84 = .ok (.iconst 0, 1) := by decide +kernel
theorem dX3_readClause_85 : decode cX3_readClause 85 = .ok (.ireturn, 1) := by decide +kernel
theorem dX3_readClause_86 : decode cX3_readClause 86 = .ok (.iload_n 2, 1) := by decide +kernel
theorem dX3_readClause_87 : decode cX3_readClause 87 = .ok (.iconst 4, 1) := by decide +kernel
theorem dX3_readClause_88 : decode cX3_readClause 88 = .ok (.if_icmp .eq 9, 3) := by decide +kernel
theorem dX3_readClause_91 : decode cX3_readClause 91 = .ok (.iload_n 2, 1) := by decide +kernel
theorem dX3_readClause_92 : decode cX3_readClause 92 = .ok (.bipush 8, 2) := by decide +kernel
theorem dX3_readClause_94 : decode cX3_readClause 94 = .ok (.if_icmp .ne 7, 3) := by decide +kernel
theorem dX3_readClause_97 : decode cX3_readClause 97 = .ok (.iconst 1, 1) := by decide +kernel
theorem dX3_readClause_98 : decode cX3_readClause 98 = .ok (.goto 4, 3) := by decide +kernel
theorem dX3_readClause_101 : decode cX3_readClause 101 = .ok (.iconst 0, 1) := by decide +kernel
theorem dX3_readClause_102 : decode cX3_readClause 102 = .ok (.istore_n 3, 1) := by decide +kernel
theorem dX3_readClause_103 : decode cX3_readClause 103 = .ok (.iload_n 3, 1) := by decide +kernel
theorem dX3_readClause_104 : decode cX3_readClause 104 = .ok (.ifCond .eq 14, 3) := by decide +kernel
theorem dX3_readClause_107 : decode cX3_readClause 107 = .ok (.aload_n 0, 1) := by decide +kernel
theorem dX3_readClause_108 : decode cX3_readClause 108 = .ok (.iload_n 2, 1) := by decide +kernel
theorem dX3_readClause_109 : decode cX3_readClause 109 = .ok (.invokevirtual 59, 3) := by decide +kernel
theorem dX3_readClause_112 : decode cX3_readClause 112 = .ok (.ifCond .eq 25, 3) := by decide +kernel
theorem dX3_readClause_115 : decode cX3_readClause 115 = .ok (.goto 11, 3) := by decide +kernel
theorem dX3_readClause_118 : decode cX3_readClause 118 = .ok (.aload_n 0, 1) := by decide +kernel
theorem dX3_readClause_119 : decode cX3_readClause 119 = .ok (.iload_n 2, 1) := by decide +kernel
theorem dX3_readClause_120 : decode cX3_readClause 120 = .ok (.invokevirtual 69, 3) := by decide +kernel
theorem dX3_readClause_123 : decode cX3_readClause 123 = .ok (.ifCond .eq 14, 3) := by decide +kernel
theorem dX3_readClause_126 : decode cX3_readClause 126 = .ok (.aload_n 0, 1) := by decide +kernel
theorem dX3_readClause_127 : decode cX3_readClause 127 = .ok (.invokevirtual 66, 3) := by decide +kernel
theorem dX3_readClause_130 : decode cX3_readClause 130 = .ok (.ifCond .eq 7, 3) := by decide +kernel
theorem dX3_readClause_133 : decode cX3_readClause 133 = .ok (.iconst 1, 1) := by decide +kernel
theorem dX3_readClause_134 : decode cX3_readClause 134 = .ok (.goto 4, 3) := by decide +kernel
theorem dX3_readClause_137 : decode cX3_readClause 137 = .ok (.iconst 0, 1) := by decide +kernel
theorem dX3_readClause_138 : decode cX3_readClause 138 = .ok (.ireturn, 1) := by decide +kernel
theorem dX3_readHead_0 : decode cX3_readHead 0 = .ok (.aload_n 0, 1) := by decide +kernel
theorem dX3_readHead_1 : decode cX3_readHead 1 = .ok (.invokevirtual 72, 3) := by decide +kernel
theorem dX3_readHead_4 : decode cX3_readHead 4 = .ok (.istore_n 1, 1) := by decide +kernel
theorem dX3_readHead_5 : decode cX3_readHead 5 = .ok (.iconst 0, 1) := by decide +kernel
theorem dX3_readHead_6 : decode cX3_readHead 6 = .ok (.istore_n 2, 1) := by decide +kernel
theorem dX3_readHead_7 : decode cX3_readHead 7 = .ok (.iload_n 2, 1) := by decide +kernel
theorem dX3_readHead_8 : decode cX3_readHead 8 = .ok (.bipush 10, 2) := by decide +kernel
theorem dX3_readHead_10 : decode cX3_readHead 10 = .ok (.if_icmp .ge 33, 3) := by decide +kernel
theorem dX3_readHead_13 : decode cX3_readHead 13 = .ok (.iload_n 2, 1) := by decide +kernel
theorem dX3_readHead_14 : decode cX3_readHead 14 = .ok (.iconst 3, 1) := by decide +kernel
theorem dX3_readHead_15 : decode cX3_readHead 15 = .ok (.if_icmp .eq 22, 3) := by decide +kernel
theorem dX3_readHead_18 : decode cX3_readHead 18 = .ok (.aload_n 0, 1) := by decide +kernel
theorem dX3_readHead_19 : decode cX3_readHead 19 = .ok (.iload_n 1, 1) := by decide +kernel
theorem dX3_readHead_20 : decode cX3_readHead 20 = .ok (.iload_n 2, 1) := by decide +kernel
theorem dX3_readHead_21 : decode cX3_readHead 21 = .ok (.invokestatic 75, 3) := by decide +kernel
theorem dX3_readHead_24 : decode cX3_readHead 24 = .ok (.invokevirtual 79, 3) := by decide +kernel
theorem dX3_readHead_27 : decode cX3_readHead 27 = .ok (.ifCond .eq 10, 3) := by decide +kernel
theorem dX3_readHead_30 : decode cX3_readHead 30 = .ok (.aload_n 0, 1) := by decide +kernel
theorem dX3_readHead_31 : decode cX3_readHead 31 = .ok (.iload_n 1, 1) := by decide +kernel
theorem dX3_readHead_32 : decode cX3_readHead 32 = .ok (.putfield 41, 3) := by decide +kernel
theorem dX3_readHead_35 : decode cX3_readHead 35 = .ok (.iload_n 2, 1) := by decide +kernel
theorem dX3_readHead_36 : decode cX3_readHead 36 = .ok (.ireturn, 1) := by decide +kernel
theorem dX3_readHead_37 : decode cX3_readHead 37 = .ok (.iinc 2 1, 3) := by decide +kernel
theorem dX3_readHead_40 : decode cX3_readHead 40 = .ok (.goto (-33), 3) := by decide +kernel
theorem dX3_readHead_43 : decode cX3_readHead 43 = .ok (.iconst (-1), 1) := by decide +kernel
theorem dX3_readHead_44 : decode cX3_readHead 44 = .ok (.ireturn, 1) := by decide +kernel
theorem dX3_readShow_0 : decode cX3_readShow 0 = .ok (.aload_n 0, 1) := by decide +kernel
theorem dX3_readShow_1 : decode cX3_readShow 1 = .ok (.invokevirtual 44, 3) := by decide +kernel
theorem dX3_readShow_4 : decode cX3_readShow 4 = .ok (.aload_n 0, 1) := by decide +kernel
theorem dX3_readShow_5 : decode cX3_readShow 5 = .ok (.invokevirtual 72, 3) := by decide +kernel
theorem dX3_readShow_8 : decode cX3_readShow 8 = .ok (.istore_n 1, 1) := by decide +kernel
theorem dX3_readShow_9 : decode cX3_readShow 9 = .ok (.aload_n 0, 1) := by decide +kernel
theorem dX3_readShow_10 : decode cX3_readShow 10 = .ok (.iload_n 1, 1) := by decide +kernel
theorem dX3_readShow_11 : decode cX3_readShow 11 = .ok (.iconst 3, 1) := by decide +kernel
theorem dX3_readShow_12 : decode cX3_readShow 12 = .ok (.invokestatic 75, 3) := by decide +kernel
theorem dX3_readShow_15 : decode cX3_readShow 15 = .ok (.invokevirtual 79, 3) := by decide +kernel
theorem dX3_readShow_18 : decode cX3_readShow 18 = .ok (.ifCond .ne 13, 3) := by decide +kernel
theorem dX3_readShow_21 : decode cX3_readShow 21 = .ok (.aload_n 0, 1) := by decide +kernel
theorem dX3_readShow_22 : decode cX3_readShow 22 = .ok (.iconst 1, 1) := by decide +kernel
theorem dX3_readShow_23 : decode cX3_readShow 23 = .ok (.aload_n 0, 1) := by decide +kernel
theorem dX3_readShow_24 : decode cX3_readShow 24 = .ok (.getfield 41, 3) := by decide +kernel
theorem dX3_readShow_27 : decode cX3_readShow 27 = .ok (.invokevirtual 55, 3) := by decide +kernel
theorem dX3_readShow_30 : decode cX3_readShow 30 = .ok (.ireturn, 1) := by decide +kernel
theorem dX3_readShow_31 : decode cX3_readShow 31 = .ok (.aload_n 0, 1) := by decide +kernel
theorem dX3_readShow_32 : decode cX3_readShow 32 = .ok (.iload_n 1, 1) := by decide +kernel
theorem dX3_readShow_33 : decode cX3_readShow 33 = .ok (.putfield 41, 3) := by decide +kernel
theorem dX3_readShow_36 : decode cX3_readShow 36 = .ok (.iconst 1, 1) := by decide +kernel
theorem dX3_readShow_37 : decode cX3_readShow 37 = .ok (.ireturn, 1) := by decide +kernel
theorem dX3_readChoice_0 : decode cX3_readChoice 0 = .ok (.aload_n 0, 1) := by decide +kernel
theorem dX3_readChoice_1 : decode cX3_readChoice 1 = .ok (.invokevirtual 44, 3) := by decide +kernel
theorem dX3_readChoice_4 : decode cX3_readChoice 4 = .ok (.aload_n 0, 1) := by decide +kernel
theorem dX3_readChoice_5 : decode cX3_readChoice 5 = .ok (.invokevirtual 72, 3) := by decide +kernel
theorem dX3_readChoice_8 : decode cX3_readChoice 8 = .ok (.istore_n 2, 1) := by decide +kernel
theorem dX3_readChoice_9 : decode cX3_readChoice 9 = .ok (.iconst 0, 1) := by decide +kernel
theorem dX3_readChoice_10 : decode cX3_readChoice 10 = .ok (.istore_n 3, 1) := by decide +kernel
theorem dX3_readChoice_11 : decode cX3_readChoice 11 = .ok (.iload_n 3, 1) := by decide +kernel
theorem dX3_readChoice_12 : decode cX3_readChoice 12 = .ok (.iconst 3, 1) := by decide +kernel
theorem dX3_readChoice_13 : decode cX3_readChoice 13 = .ok (.if_icmp .ge 36, 3) := by decide +kernel
theorem dX3_readChoice_16 : decode cX3_readChoice 16 = .ok (.aload_n 0, 1) := by decide +kernel
theorem dX3_readChoice_17 : decode cX3_readChoice 17 = .ok (.iload_n 2, 1) := by decide +kernel
theorem dX3_readChoice_18 : decode cX3_readChoice 18 = .ok (.iload_n 1, 1) := by decide +kernel
theorem dX3_readChoice_19 : decode cX3_readChoice 19 = .ok (.iload_n 3, 1) := by decide +kernel
theorem dX3_readChoice_20 : decode cX3_readChoice 20 = .ok (.invokestatic 83, 3) := by decide +kernel
theorem dX3_readChoice_23 : decode cX3_readChoice 23 = .ok (.invokevirtual 79, 3) := by decide +kernel
theorem dX3_readChoice_26 : decode cX3_readChoice 26 = .ok (.ifCond .eq 17, 3) := by decide +kernel
theorem dX3_readChoice_29 : decode cX3_readChoice 29 = .ok (.aload_n 0, 1) := by decide +kernel
theorem dX3_readChoice_30 : decode cX3_readChoice 30 = .ok (.getfield 9, 3) := by decide +kernel
theorem dX3_readChoice_33 : decode cX3_readChoice 33 = .ok (.iload_n 1, 1) := by decide +kernel
theorem dX3_readChoice_34 : decode cX3_readChoice 34 = .ok (.iload_n 3, 1) := by decide +kernel
theorem dX3_readChoice_35 : decode cX3_readChoice 35 = .ok (.iastore, 1) := by decide +kernel
theorem dX3_readChoice_36 : decode cX3_readChoice 36 = .ok (.aload_n 0, 1) := by decide +kernel
theorem dX3_readChoice_37 : decode cX3_readChoice 37 = .ok (.iload_n 2, 1) := by decide +kernel
theorem dX3_readChoice_38 : decode cX3_readChoice 38 = .ok (.putfield 41, 3) := by decide +kernel
theorem dX3_readChoice_41 : decode cX3_readChoice 41 = .ok (.iconst 1, 1) := by decide +kernel
theorem dX3_readChoice_42 : decode cX3_readChoice 42 = .ok (.ireturn, 1) := by decide +kernel
theorem dX3_readChoice_43 : decode cX3_readChoice 43 = .ok (.iinc 3 1, 3) := by decide +kernel
theorem dX3_readChoice_46 : decode cX3_readChoice 46 = .ok (.goto (-35), 3) := by decide +kernel
theorem dX3_readChoice_49 : decode cX3_readChoice 49 = .ok (.aload_n 0, 1) := by decide +kernel
theorem dX3_readChoice_50 : decode cX3_readChoice 50 = .ok (.iconst 1, 1) := by decide +kernel
theorem dX3_readChoice_51 : decode cX3_readChoice 51 = .ok (.aload_n 0, 1) := by decide +kernel
theorem dX3_readChoice_52 : decode cX3_readChoice 52 = .ok (.getfield 41, 3) := by decide +kernel
theorem dX3_readChoice_55 : decode cX3_readChoice 55 = .ok (.invokevirtual 55, 3) := by decide +kernel
theorem dX3_readChoice_58 : decode cX3_readChoice 58 = .ok (.ireturn, 1) := by decide +kernel
theorem dX3_readNumber_0 : decode cX3_readNumber 0 = .ok (.aload_n 0, 1) := by decide +kernel
theorem dX3_readNumber_1 : decode cX3_readNumber 1 = .ok (.invokevirtual 44, 3) := by decide +kernel
theorem dX3_readNumber_4 : decode cX3_readNumber 4 = .ok (.aload_n 0, 1) := by decide +kernel
theorem dX3_readNumber_5 : decode cX3_readNumber 5 = .ok (.getfield 41, 3) := by decide +kernel
theorem dX3_readNumber_8 : decode cX3_readNumber 8 = .ok (.istore_n 2, 1) := by decide +kernel
theorem dX3_readNumber_9 : decode cX3_readNumber 9 = .ok (.iconst 0, 1) := by decide +kernel
theorem dX3_readNumber_10 : decode cX3_readNumber 10 = .ok (.istore_n 3, 1) := by decide +kernel
theorem dX3_readNumber_11 : decode cX3_readNumber 11 = .ok (.iload_n 2, 1) := by decide +kernel
theorem dX3_readNumber_12 : decode cX3_readNumber 12 = .ok (.aload_n 0, 1) := by decide +kernel
theorem dX3_readNumber_13 : decode cX3_readNumber 13 = .ok (.getfield 26, 3) := by decide +kernel
theorem dX3_readNumber_16 : decode cX3_readNumber 16 = .ok (.if_icmp .ge 60, 3) := by decide +kernel
theorem dX3_readNumber_19 : decode cX3_readNumber 19 = .ok (.aload_n 0, 1) := by decide +kernel
theorem dX3_readNumber_20 : decode cX3_readNumber 20 = .ok (.getfield 19, 3) := by decide +kernel
theorem dX3_readNumber_23 : decode cX3_readNumber 23 = .ok (.iload_n 2, 1) := by decide +kernel
theorem dX3_readNumber_24 : decode cX3_readNumber 24 = .ok (.iaload, 1) := by decide +kernel
theorem dX3_readNumber_25 : decode cX3_readNumber 25 = .ok (.bipush 48, 2) := by decide +kernel
theorem dX3_readNumber_27 : decode cX3_readNumber 27 = .ok (.if_icmp .lt 49, 3) := by decide +kernel
theorem dX3_readNumber_30 : decode cX3_readNumber 30 = .ok (.aload_n 0, 1) := by decide +kernel
theorem dX3_readNumber_31 : decode cX3_readNumber 31 = .ok (.getfield 19, 3) := by decide +kernel
theorem dX3_readNumber_34 : decode cX3_readNumber 34 = .ok (.iload_n 2, 1) := by decide +kernel
theorem dX3_readNumber_35 : decode cX3_readNumber 35 = .ok (.iaload, 1) := by decide +kernel
theorem dX3_readNumber_36 : decode cX3_readNumber 36 = .ok (.bipush 57, 2) := by decide +kernel
theorem dX3_readNumber_38 : decode cX3_readNumber 38 = .ok (.if_icmp .gt 38, 3) := by decide +kernel
theorem dX3_readNumber_41 : decode cX3_readNumber 41 = .ok (.iload_n 2, 1) := by decide +kernel
theorem dX3_readNumber_42 : decode cX3_readNumber 42 = .ok (.aload_n 0, 1) := by decide +kernel
theorem dX3_readNumber_43 : decode cX3_readNumber 43 = .ok (.getfield 41, 3) := by decide +kernel
theorem dX3_readNumber_46 : decode cX3_readNumber 46 = .ok (.isub, 1) := by decide +kernel
theorem dX3_readNumber_47 : decode cX3_readNumber 47 = .ok (.iconst 2, 1) := by decide +kernel
theorem dX3_readNumber_48 : decode cX3_readNumber 48 = .ok (.if_icmp .ge 20, 3) := by decide +kernel
theorem dX3_readNumber_51 : decode cX3_readNumber 51 = .ok (.iload_n 3, 1) := by decide +kernel
theorem dX3_readNumber_52 : decode cX3_readNumber 52 = .ok (.bipush 10, 2) := by decide +kernel
theorem dX3_readNumber_54 : decode cX3_readNumber 54 = .ok (.imul, 1) := by decide +kernel
theorem dX3_readNumber_55 : decode cX3_readNumber 55 = .ok (.aload_n 0, 1) := by decide +kernel
theorem dX3_readNumber_56 : decode cX3_readNumber 56 = .ok (.getfield 19, 3) := by decide +kernel
theorem dX3_readNumber_59 : decode cX3_readNumber 59 = .ok (.iload_n 2, 1) := by decide +kernel
theorem dX3_readNumber_60 : decode cX3_readNumber 60 = .ok (.iaload, 1) := by decide +kernel
theorem dX3_readNumber_61 : decode cX3_readNumber 61 = .ok (.iadd, 1) := by decide +kernel
theorem dX3_readNumber_62 : decode cX3_readNumber 62 = .ok (.bipush 48, 2) := by decide +kernel
theorem dX3_readNumber_64 : decode cX3_readNumber 64 = .ok (.isub, 1) := by decide +kernel
theorem dX3_readNumber_65 : decode cX3_readNumber 65 = .ok (.goto 4, 3) := by decide +kernel
theorem dX3_readNumber_68 : decode cX3_readNumber 68 = .ok (.iload_n 3, 1) := by decide +kernel
theorem dX3_readNumber_69 : decode cX3_readNumber 69 = .ok (.istore_n 3, 1) := by decide +kernel
theorem dX3_readNumber_70 : decode cX3_readNumber 70 = .ok (.iinc 2 1, 3) := by decide +kernel
theorem dX3_readNumber_73 : decode cX3_readNumber 73 = .ok (.goto (-62), 3) := by decide +kernel
theorem dX3_readNumber_76 : decode cX3_readNumber 76 = .ok (.iload_n 2, 1) := by decide +kernel
theorem dX3_readNumber_77 : decode cX3_readNumber 77 = .ok (.aload_n 0, 1) := by decide +kernel
theorem dX3_readNumber_78 : decode cX3_readNumber 78 = .ok (.getfield 41, 3) := by decide +kernel
theorem dX3_readNumber_81 : decode cX3_readNumber 81 = .ok (.if_icmp .ne 13, 3) := by decide +kernel
theorem dX3_readNumber_84 : decode cX3_readNumber 84 = .ok (.aload_n 0, 1) := by decide +kernel
theorem dX3_readNumber_85 : decode cX3_readNumber 85 = .ok (.iconst 1, 1) := by decide +kernel
theorem dX3_readNumber_86 : decode cX3_readNumber 86 = .ok (.aload_n 0, 1) := by decide +kernel
theorem dX3_readNumber_87 : decode cX3_readNumber 87 = .ok (.getfield 41, 3) := by decide +kernel
theorem dX3_readNumber_90 : decode cX3_readNumber 90 = .ok (.invokevirtual 55, 3) := by decide +kernel
theorem dX3_readNumber_93 : decode cX3_readNumber 93 = .ok (.ireturn, 1) := by decide +kernel
theorem dX3_readNumber_94 : decode cX3_readNumber 94 = .ok (.iload_n 2, 1) := by decide +kernel
theorem dX3_readNumber_95 : decode cX3_readNumber 95 = .ok (.aload_n 0, 1) := by decide +kernel
theorem dX3_readNumber_96 : decode cX3_readNumber 96 = .ok (.getfield 41, 3) := by decide +kernel
theorem dX3_readNumber_99 : decode cX3_readNumber 99 = .ok (.isub, 1) := by decide +kernel
theorem dX3_readNumber_100 : decode cX3_readNumber 100 = .ok (.iconst 2, 1) := by decide +kernel
theorem dX3_readNumber_101 : decode cX3_readNumber 101 = .ok (.if_icmp .gt 12, 3) := by decide +kernel
theorem dX3_readNumber_104 : decode cX3_readNumber 104 = .ok (.aload_n 0, 1) := by decide +kernel
theorem dX3_readNumber_105 : decode cX3_readNumber 105 = .ok (.iload_n 1, 1) := by decide +kernel
theorem dX3_readNumber_106 : decode cX3_readNumber 106 = .ok (.iload_n 3, 1) := by decide +kernel
theorem dX3_readNumber_107 : decode cX3_readNumber 107 = .ok (.invokevirtual 87, 3) := by decide +kernel
theorem dX3_readNumber_110 : decode cX3_readNumber 110 = .ok (.ifCond .ne 13, 3) := by decide +kernel
theorem dX3_readNumber_113 : decode cX3_readNumber 113 = .ok (.aload_n 0, 1) := by decide +kernel
theorem dX3_readNumber_114 : decode cX3_readNumber 114 = .ok (.iconst 2, 1) := by decide +kernel
theorem dX3_readNumber_115 : decode cX3_readNumber 115 = .ok (.aload_n 0, 1) := by decide +kernel
theorem dX3_readNumber_116 : decode cX3_readNumber 116 = .ok (.getfield 41, 3) := by decide +kernel
theorem dX3_readNumber_119 : decode cX3_readNumber 119 = .ok (.invokevirtual 55, 3) := by decide +kernel
theorem dX3_readNumber_122 : decode cX3_readNumber 122 = .ok (.ireturn, 1) := by decide +kernel
theorem dX3_readNumber_123 : decode cX3_readNumber 123 = .ok (.aload_n 0, 1) := by decide +kernel
theorem dX3_readNumber_124 : decode cX3_readNumber 124 = .ok (.getfield 9, 3) := by decide +kernel
theorem dX3_readNumber_127 : decode cX3_readNumber 127 = .ok (.iload_n 1, 1) := by decide +kernel
theorem dX3_readNumber_128 : decode cX3_readNumber 128 = .ok (.iload_n 3, 1) := by decide +kernel
theorem dX3_readNumber_129 : decode cX3_readNumber 129 = .ok (.iastore, 1) := by decide +kernel
theorem dX3_readNumber_130 : decode cX3_readNumber 130 = .ok (.aload_n 0, 1) := by decide +kernel
theorem dX3_readNumber_131 : decode cX3_readNumber 131 = .ok (.iload_n 2, 1) := by decide +kernel
theorem dX3_readNumber_132 : decode cX3_readNumber 132 = .ok (.putfield 41, 3) := by decide +kernel
theorem dX3_readNumber_135 : decode cX3_readNumber 135 = .ok (.iconst 1, 1) := by decide +kernel
theorem dX3_readNumber_136 : decode cX3_readNumber 136 = .ok (.ireturn, 1) := by decide +kernel
theorem dX3_readEnd_0 : decode cX3_readEnd 0 = .ok (.aload_n 0, 1) := by decide +kernel
theorem dX3_readEnd_1 : decode cX3_readEnd 1 = .ok (.invokevirtual 44, 3) := by decide +kernel
theorem dX3_readEnd_4 : decode cX3_readEnd 4 = .ok (.aload_n 0, 1) := by decide +kernel
theorem dX3_readEnd_5 : decode cX3_readEnd 5 = .ok (.getfield 41, 3) := by decide +kernel
theorem dX3_readEnd_8 : decode cX3_readEnd 8 = .ok (.aload_n 0, 1) := by decide +kernel
theorem dX3_readEnd_9 : decode cX3_readEnd 9 = .ok (.getfield 26, 3) := by decide +kernel
theorem dX3_readEnd_12 : decode cX3_readEnd 12 = .ok (.if_icmp .ge 17, 3) := by decide +kernel
theorem dX3_readEnd_15 : decode cX3_readEnd 15 = .ok (.aload_n 0, 1) := by decide +kernel
theorem dX3_readEnd_16 : decode cX3_readEnd 16 = .ok (.getfield 19, 3) := by decide +kernel
theorem dX3_readEnd_19 : decode cX3_readEnd 19 = .ok (.aload_n 0, 1) := by decide +kernel
theorem dX3_readEnd_20 : decode cX3_readEnd 20 = .ok (.getfield 41, 3) := by decide +kernel
theorem dX3_readEnd_23 : decode cX3_readEnd 23 = .ok (.iaload, 1) := by decide +kernel
theorem dX3_readEnd_24 : decode cX3_readEnd 24 = .ok (.bipush 59, 2) := by decide +kernel
theorem dX3_readEnd_26 : decode cX3_readEnd 26 = .ok (.if_icmp .eq 13, 3) := by decide +kernel
theorem dX3_readEnd_29 : decode cX3_readEnd 29 = .ok (.aload_n 0, 1) := by decide +kernel
theorem dX3_readEnd_30 : decode cX3_readEnd 30 = .ok (.iconst 1, 1) := by decide +kernel
theorem dX3_readEnd_31 : decode cX3_readEnd 31 = .ok (.aload_n 0, 1) := by decide +kernel
theorem dX3_readEnd_32 : decode cX3_readEnd 32 = .ok (.getfield 41, 3) := by decide +kernel
theorem dX3_readEnd_35 : decode cX3_readEnd 35 = .ok (.invokevirtual 55, 3) := by decide +kernel
theorem dX3_readEnd_38 : decode cX3_readEnd 38 = .ok (.ireturn, 1) := by decide +kernel
theorem dX3_readEnd_39 : decode cX3_readEnd 39 = .ok (.aload_n 0, 1) := by decide +kernel
theorem dX3_readEnd_40 : decode cX3_readEnd 40 = .ok (.dup, 1) := by decide +kernel
theorem dX3_readEnd_41 : decode cX3_readEnd 41 = .ok (.getfield 41, 3) := by decide +kernel
theorem dX3_readEnd_44 : decode cX3_readEnd 44 = .ok (.iconst 1, 1) := by decide +kernel
theorem dX3_readEnd_45 : decode cX3_readEnd 45 = .ok (.iadd, 1) := by decide +kernel
theorem dX3_readEnd_46 : decode cX3_readEnd 46 = .ok (.putfield 41, 3) := by decide +kernel
theorem dX3_readEnd_49 : decode cX3_readEnd 49 = .ok (.iconst 1, 1) := by decide +kernel
theorem dX3_readEnd_50 : decode cX3_readEnd 50 = .ok (.ireturn, 1) := by decide +kernel
theorem dX3_isInBounds_0 : decode cX3_isInBounds 0 = .ok (.iload_n 1, 1) := by decide +kernel
theorem dX3_isInBounds_1 : decode cX3_isInBounds 1 = .ok (.lookupswitch 74 #[(2, 35), (3, 42), (8, 54)], 35) := by decide +kernel
theorem dX3_isInBounds_36 : decode cX3_isInBounds 36 = .ok (.iload_n 2, 1) := by decide +kernel
theorem dX3_isInBounds_37 : decode cX3_isInBounds 37 = .ok (.iconst 1, 1) := by decide +kernel
theorem dX3_isInBounds_38 : decode cX3_isInBounds 38 = .ok (.iconst 4, 1) := by decide +kernel
theorem dX3_isInBounds_39 : decode cX3_isInBounds 39 = .ok (.invokestatic 90, 3) := by decide +kernel
theorem dX3_isInBounds_42 : decode cX3_isInBounds 42 = .ok (.ireturn, 1) := by decide +kernel
theorem dX3_isInBounds_43 : decode cX3_isInBounds 43 = .ok (.iload_n 2, 1) := by decide +kernel
theorem dX3_isInBounds_44 : decode cX3_isInBounds 44 = .ok (.iconst 1, 1) := by decide +kernel
theorem dX3_isInBounds_45 : decode cX3_isInBounds 45 = .ok (.aload_n 0, 1) := by decide +kernel
theorem dX3_isInBounds_46 : decode cX3_isInBounds 46 = .ok (.getfield 9, 3) := by decide +kernel
theorem dX3_isInBounds_49 : decode cX3_isInBounds 49 = .ok (.iconst 2, 1) := by decide +kernel
theorem dX3_isInBounds_50 : decode cX3_isInBounds 50 = .ok (.iaload, 1) := by decide +kernel
theorem dX3_isInBounds_51 : decode cX3_isInBounds 51 = .ok (.invokestatic 90, 3) := by decide +kernel
theorem dX3_isInBounds_54 : decode cX3_isInBounds 54 = .ok (.ireturn, 1) := by decide +kernel
theorem dX3_isInBounds_55 : decode cX3_isInBounds 55 = .ok (.iload_n 2, 1) := by decide +kernel
theorem dX3_isInBounds_56 : decode cX3_isInBounds 56 = .ok (.ifCond .eq 13, 3) := by decide +kernel
theorem dX3_isInBounds_59 : decode cX3_isInBounds 59 = .ok (.iload_n 2, 1) := by decide +kernel
theorem dX3_isInBounds_60 : decode cX3_isInBounds 60 = .ok (.iconst 2, 1) := by decide +kernel
theorem dX3_isInBounds_61 : decode cX3_isInBounds 61 = .ok (.bipush 9, 2) := by decide +kernel
theorem dX3_isInBounds_63 : decode cX3_isInBounds 63 = .ok (.invokestatic 90, 3) := by decide +kernel
theorem dX3_isInBounds_66 : decode cX3_isInBounds 66 = .ok (.ifCond .eq 7, 3) := by decide +kernel
theorem dX3_isInBounds_69 : decode cX3_isInBounds 69 = .ok (.iconst 1, 1) := by decide +kernel
theorem dX3_isInBounds_70 : decode cX3_isInBounds 70 = .ok (.goto 4, 3) := by decide +kernel
theorem dX3_isInBounds_73 : decode cX3_isInBounds 73 = .ok (.iconst 0, 1) := by decide +kernel
theorem dX3_isInBounds_74 : decode cX3_isInBounds 74 = .ok (.ireturn, 1) := by decide +kernel
theorem dX3_isInBounds_75 : decode cX3_isInBounds 75 = .ok (.iload_n 2, 1) := by decide +kernel
theorem dX3_isInBounds_76 : decode cX3_isInBounds 76 = .ok (.iconst 0, 1) := by decide +kernel
theorem dX3_isInBounds_77 : decode cX3_isInBounds 77 = .ok (.bipush 9, 2) := by decide +kernel
theorem dX3_isInBounds_79 : decode cX3_isInBounds 79 = .ok (.invokestatic 90, 3) := by decide +kernel
theorem dX3_isInBounds_82 : decode cX3_isInBounds 82 = .ok (.ireturn, 1) := by decide +kernel
theorem dX3_blame_0 : decode cX3_blame 0 = .ok (.aload_n 0, 1) := by decide +kernel
theorem dX3_blame_1 : decode cX3_blame 1 = .ok (.iload_n 1, 1) := by decide +kernel
theorem dX3_blame_2 : decode cX3_blame 2 = .ok (.putfield 38, 3) := by decide +kernel
theorem dX3_blame_5 : decode cX3_blame 5 = .ok (.aload_n 0, 1) := by decide +kernel
theorem dX3_blame_6 : decode cX3_blame 6 = .ok (.iload_n 2, 1) := by decide +kernel
theorem dX3_blame_7 : decode cX3_blame 7 = .ok (.putfield 15, 3) := by decide +kernel
theorem dX3_blame_10 : decode cX3_blame 10 = .ok (.iconst 0, 1) := by decide +kernel
theorem dX3_blame_11 : decode cX3_blame 11 = .ok (.ireturn, 1) := by decide +kernel
theorem dX3_skipBlanks_0 : decode cX3_skipBlanks 0 = .ok (.aload_n 0, 1) := by decide +kernel
theorem dX3_skipBlanks_1 : decode cX3_skipBlanks 1 = .ok (.getfield 41, 3) := by decide +kernel
theorem dX3_skipBlanks_4 : decode cX3_skipBlanks 4 = .ok (.aload_n 0, 1) := by decide +kernel
theorem dX3_skipBlanks_5 : decode cX3_skipBlanks 5 = .ok (.getfield 26, 3) := by decide +kernel
theorem dX3_skipBlanks_8 : decode cX3_skipBlanks 8 = .ok (.if_icmp .ge 30, 3) := by decide +kernel
theorem dX3_skipBlanks_11 : decode cX3_skipBlanks 11 = .ok (.aload_n 0, 1) := by decide +kernel
theorem dX3_skipBlanks_12 : decode cX3_skipBlanks 12 = .ok (.getfield 19, 3) := by decide +kernel
theorem dX3_skipBlanks_15 : decode cX3_skipBlanks 15 = .ok (.aload_n 0, 1) := by decide +kernel
theorem dX3_skipBlanks_16 : decode cX3_skipBlanks 16 = .ok (.getfield 41, 3) := by decide +kernel
theorem dX3_skipBlanks_19 : decode cX3_skipBlanks 19 = .ok (.iaload, 1) := by decide +kernel
theorem dX3_skipBlanks_20 : decode cX3_skipBlanks 20 = .ok (.bipush 32, 2) := by decide +kernel
theorem dX3_skipBlanks_22 : decode cX3_skipBlanks 22 = .ok (.if_icmp .ne 16, 3) := by decide +kernel
theorem dX3_skipBlanks_25 : decode cX3_skipBlanks 25 = .ok (.aload_n 0, 1) := by decide +kernel
theorem dX3_skipBlanks_26 : decode cX3_skipBlanks 26 = .ok (.dup, 1) := by decide +kernel
theorem dX3_skipBlanks_27 : decode cX3_skipBlanks 27 = .ok (.getfield 41, 3) := by decide +kernel
theorem dX3_skipBlanks_30 : decode cX3_skipBlanks 30 = .ok (.iconst 1, 1) := by decide +kernel
theorem dX3_skipBlanks_31 : decode cX3_skipBlanks 31 = .ok (.iadd, 1) := by decide +kernel
theorem dX3_skipBlanks_32 : decode cX3_skipBlanks 32 = .ok (.putfield 41, 3) := by decide +kernel
theorem dX3_skipBlanks_35 : decode cX3_skipBlanks 35 = .ok (.goto (-35), 3) := by decide +kernel
theorem dX3_skipBlanks_38 : decode cX3_skipBlanks 38 = .ok (.return_, 1) := by decide +kernel
theorem dX3_wordEnd_0 : decode cX3_wordEnd 0 = .ok (.aload_n 0, 1) := by decide +kernel
theorem dX3_wordEnd_1 : decode cX3_wordEnd 1 = .ok (.getfield 41, 3) := by decide +kernel
theorem dX3_wordEnd_4 : decode cX3_wordEnd 4 = .ok (.istore_n 1, 1) := by decide +kernel
theorem dX3_wordEnd_5 : decode cX3_wordEnd 5 = .ok (.iload_n 1, 1) := by decide +kernel
theorem dX3_wordEnd_6 : decode cX3_wordEnd 6 = .ok (.aload_n 0, 1) := by decide +kernel
theorem dX3_wordEnd_7 : decode cX3_wordEnd 7 = .ok (.getfield 26, 3) := by decide +kernel
theorem dX3_wordEnd_10 : decode cX3_wordEnd 10 = .ok (.if_icmp .ge 31, 3) := by decide +kernel
theorem dX3_wordEnd_13 : decode cX3_wordEnd 13 = .ok (.aload_n 0, 1) := by decide +kernel
theorem dX3_wordEnd_14 : decode cX3_wordEnd 14 = .ok (.getfield 19, 3) := by decide +kernel
theorem dX3_wordEnd_17 : decode cX3_wordEnd 17 = .ok (.iload_n 1, 1) := by decide +kernel
theorem dX3_wordEnd_18 : decode cX3_wordEnd 18 = .ok (.iaload, 1) := by decide +kernel
theorem dX3_wordEnd_19 : decode cX3_wordEnd 19 = .ok (.bipush 97, 2) := by decide +kernel
theorem dX3_wordEnd_21 : decode cX3_wordEnd 21 = .ok (.if_icmp .lt 20, 3) := by decide +kernel
theorem dX3_wordEnd_24 : decode cX3_wordEnd 24 = .ok (.aload_n 0, 1) := by decide +kernel
theorem dX3_wordEnd_25 : decode cX3_wordEnd 25 = .ok (.getfield 19, 3) := by decide +kernel
theorem dX3_wordEnd_28 : decode cX3_wordEnd 28 = .ok (.iload_n 1, 1) := by decide +kernel
theorem dX3_wordEnd_29 : decode cX3_wordEnd 29 = .ok (.iaload, 1) := by decide +kernel
theorem dX3_wordEnd_30 : decode cX3_wordEnd 30 = .ok (.bipush 122, 2) := by decide +kernel
theorem dX3_wordEnd_32 : decode cX3_wordEnd 32 = .ok (.if_icmp .gt 9, 3) := by decide +kernel
theorem dX3_wordEnd_35 : decode cX3_wordEnd 35 = .ok (.iinc 1 1, 3) := by decide +kernel
theorem dX3_wordEnd_38 : decode cX3_wordEnd 38 = .ok (.goto (-33), 3) := by decide +kernel
theorem dX3_wordEnd_41 : decode cX3_wordEnd 41 = .ok (.iload_n 1, 1) := by decide +kernel
theorem dX3_wordEnd_42 : decode cX3_wordEnd 42 = .ok (.ireturn, 1) := by decide +kernel
theorem dX3_spells_0 : decode cX3_spells 0 = .ok (.aload_n 2, 1) := by decide +kernel
theorem dX3_spells_1 : decode cX3_spells 1 = .ok (.invokevirtual 94, 3) := by decide +kernel
theorem dX3_spells_4 : decode cX3_spells 4 = .ok (.ifCond .ne 16, 3) := by decide +kernel
theorem dX3_spells_7 : decode cX3_spells 7 = .ok (.iload_n 1, 1) := by decide +kernel
theorem dX3_spells_8 : decode cX3_spells 8 = .ok (.aload_n 0, 1) := by decide +kernel
theorem dX3_spells_9 : decode cX3_spells 9 = .ok (.getfield 41, 3) := by decide +kernel
theorem dX3_spells_12 : decode cX3_spells 12 = .ok (.isub, 1) := by decide +kernel
theorem dX3_spells_13 : decode cX3_spells 13 = .ok (.aload_n 2, 1) := by decide +kernel
theorem dX3_spells_14 : decode cX3_spells 14 = .ok (.invokevirtual 99, 3) := by decide +kernel
theorem dX3_spells_17 : decode cX3_spells 17 = .ok (.if_icmp .eq 5, 3) := by decide +kernel
theorem dX3_spells_20 : decode cX3_spells 20 = .ok (.iconst 0, 1) := by decide +kernel
theorem dX3_spells_21 : decode cX3_spells 21 = .ok (.ireturn, 1) := by decide +kernel
theorem dX3_spells_22 : decode cX3_spells 22 = .ok (.iconst 0, 1) := by decide +kernel
theorem dX3_spells_23 : decode cX3_spells 23 = .ok (.istore_n 3, 1) := by decide +kernel
theorem dX3_spells_24 : decode cX3_spells 24 = .ok (.iload_n 3, 1) := by decide +kernel
theorem dX3_spells_25 : decode cX3_spells 25 = .ok (.aload_n 2, 1) := by decide +kernel
theorem dX3_spells_26 : decode cX3_spells 26 = .ok (.invokevirtual 99, 3) := by decide +kernel
theorem dX3_spells_29 : decode cX3_spells 29 = .ok (.if_icmp .ge 30, 3) := by decide +kernel
theorem dX3_spells_32 : decode cX3_spells 32 = .ok (.aload_n 0, 1) := by decide +kernel
theorem dX3_spells_33 : decode cX3_spells 33 = .ok (.getfield 19, 3) := by decide +kernel
theorem dX3_spells_36 : decode cX3_spells 36 = .ok (.aload_n 0, 1) := by decide +kernel
theorem dX3_spells_37 : decode cX3_spells 37 = .ok (.getfield 41, 3) := by decide +kernel
theorem dX3_spells_40 : decode cX3_spells 40 = .ok (.iload_n 3, 1) := by decide +kernel
theorem dX3_spells_41 : decode cX3_spells 41 = .ok (.iadd, 1) := by decide +kernel
theorem dX3_spells_42 : decode cX3_spells 42 = .ok (.iaload, 1) := by decide +kernel
theorem dX3_spells_43 : decode cX3_spells 43 = .ok (.aload_n 2, 1) := by decide +kernel
theorem dX3_spells_44 : decode cX3_spells 44 = .ok (.iload_n 3, 1) := by decide +kernel
theorem dX3_spells_45 : decode cX3_spells 45 = .ok (.invokevirtual 101, 3) := by decide +kernel
theorem dX3_spells_48 : decode cX3_spells 48 = .ok (.if_icmp .eq 5, 3) := by decide +kernel
theorem dX3_spells_51 : decode cX3_spells 51 = .ok (.iconst 0, 1) := by decide +kernel
theorem dX3_spells_52 : decode cX3_spells 52 = .ok (.ireturn, 1) := by decide +kernel
theorem dX3_spells_53 : decode cX3_spells 53 = .ok (.iinc 3 1, 3) := by decide +kernel
theorem dX3_spells_56 : decode cX3_spells 56 = .ok (.goto (-32), 3) := by decide +kernel
theorem dX3_spells_59 : decode cX3_spells 59 = .ok (.iconst 1, 1) := by decide +kernel
theorem dX3_spells_60 : decode cX3_spells 60 = .ok (.ireturn, 1) := by decide +kernel
theorem dX3_headOf_0 : decode cX3_headOf 0 = .ok (.iload_n 0, 1) := by decide +kernel
theorem dX3_headOf_1 : decode cX3_headOf 1 = .ok (.tableswitch 78 0 8 #[51, 54, 57, 60, 63, 66, 69, 72, 75], 51) := by decide +kernel
theorem dX3_headOf_52 : decode cX3_headOf 52 = .ok (.ldc 105, 2) := by decide +kernel
theorem dX3_headOf_54 : decode cX3_headOf 54 = .ok (.areturn, 1) := by decide +kernel
theorem dX3_headOf_55 : decode cX3_headOf 55 = .ok (.ldc 107, 2) := by decide +kernel
theorem dX3_headOf_57 : decode cX3_headOf 57 = .ok (.areturn, 1) := by decide +kernel
theorem dX3_headOf_58 : decode cX3_headOf 58 = .ok (.ldc 109, 2) := by decide +kernel
theorem dX3_headOf_60 : decode cX3_headOf 60 = .ok (.areturn, 1) := by decide +kernel
theorem dX3_headOf_61 : decode cX3_headOf 61 = .ok (.ldc 111, 2) := by decide +kernel
theorem dX3_headOf_63 : decode cX3_headOf 63 = .ok (.areturn, 1) := by decide +kernel
theorem dX3_headOf_64 : decode cX3_headOf 64 = .ok (.ldc 113, 2) := by decide +kernel
theorem dX3_headOf_66 : decode cX3_headOf 66 = .ok (.areturn, 1) := by decide +kernel
theorem dX3_headOf_67 : decode cX3_headOf 67 = .ok (.ldc 115, 2) := by decide +kernel
theorem dX3_headOf_69 : decode cX3_headOf 69 = .ok (.areturn, 1) := by decide +kernel
theorem dX3_headOf_70 : decode cX3_headOf 70 = .ok (.ldc 117, 2) := by decide +kernel
theorem dX3_headOf_72 : decode cX3_headOf 72 = .ok (.areturn, 1) := by decide +kernel
theorem dX3_headOf_73 : decode cX3_headOf 73 = .ok (.ldc 119, 2) := by decide +kernel
theorem dX3_headOf_75 : decode cX3_headOf 75 = .ok (.areturn, 1) := by decide +kernel
theorem dX3_headOf_76 : decode cX3_headOf 76 = .ok (.ldc 121, 2) := by decide +kernel
theorem dX3_headOf_78 : decode cX3_headOf 78 = .ok (.areturn, 1) := by decide +kernel
theorem dX3_headOf_79 : decode cX3_headOf 79 = .ok (.ldc 123, 2) := by decide +kernel
theorem dX3_headOf_81 : decode cX3_headOf 81 = .ok (.areturn, 1) := by decide +kernel
theorem dX3_choiceOf_0 : decode cX3_choiceOf 0 = .ok (.iload_n 0, 1) := by decide +kernel
theorem dX3_choiceOf_1 : decode cX3_choiceOf 1 = .ok (.lookupswitch 101 #[(0, 35), (1, 57), (9, 79)], 35) := by decide +kernel
theorem dX3_choiceOf_36 : decode cX3_choiceOf 36 = .ok (.iload_n 1, 1) := by decide +kernel
theorem dX3_choiceOf_37 : decode cX3_choiceOf 37 = .ok (.ifCond .ne 8, 3) := by decide +kernel
theorem dX3_choiceOf_40 : decode cX3_choiceOf 40 = .ok (.ldc 125, 2) := by decide +kernel
theorem dX3_choiceOf_42 : decode cX3_choiceOf 42 = .ok (.goto 15, 3) := by decide +kernel
theorem dX3_choiceOf_45 : decode cX3_choiceOf 45 = .ok (.iload_n 1, 1) := by decide +kernel
theorem dX3_choiceOf_46 : decode cX3_choiceOf 46 = .ok (.iconst 1, 1) := by decide +kernel
theorem dX3_choiceOf_47 : decode cX3_choiceOf 47 = .ok (.if_icmp .ne 8, 3) := by decide +kernel
theorem dX3_choiceOf_50 : decode cX3_choiceOf 50 = .ok (.ldc 127, 2) := by decide +kernel
theorem dX3_choiceOf_52 : decode cX3_choiceOf 52 = .ok (.goto 5, 3) := by decide +kernel
theorem dX3_choiceOf_55 : decode cX3_choiceOf 55 = .ok (.ldc 129, 2) := by decide +kernel
theorem dX3_choiceOf_57 : decode cX3_choiceOf 57 = .ok (.areturn, 1) := by decide +kernel
theorem dX3_choiceOf_58 : decode cX3_choiceOf 58 = .ok (.iload_n 1, 1) := by decide +kernel
theorem dX3_choiceOf_59 : decode cX3_choiceOf 59 = .ok (.ifCond .ne 8, 3) := by decide +kernel
theorem dX3_choiceOf_62 : decode cX3_choiceOf 62 = .ok (.ldc 131, 2) := by decide +kernel
theorem dX3_choiceOf_64 : decode cX3_choiceOf 64 = .ok (.goto 15, 3) := by decide +kernel
theorem dX3_choiceOf_67 : decode cX3_choiceOf 67 = .ok (.iload_n 1, 1) := by decide +kernel
theorem dX3_choiceOf_68 : decode cX3_choiceOf 68 = .ok (.iconst 1, 1) := by decide +kernel
theorem dX3_choiceOf_69 : decode cX3_choiceOf 69 = .ok (.if_icmp .ne 8, 3) := by decide +kernel
theorem dX3_choiceOf_72 : decode cX3_choiceOf 72 = .ok (.ldc 127, 2) := by decide +kernel
theorem dX3_choiceOf_74 : decode cX3_choiceOf 74 = .ok (.goto 5, 3) := by decide +kernel
theorem dX3_choiceOf_77 : decode cX3_choiceOf 77 = .ok (.ldc 133, 2) := by decide +kernel
theorem dX3_choiceOf_79 : decode cX3_choiceOf 79 = .ok (.areturn, 1) := by decide +kernel
theorem dX3_choiceOf_80 : decode cX3_choiceOf 80 = .ok (.iload_n 1, 1) := by decide +kernel
theorem dX3_choiceOf_81 : decode cX3_choiceOf 81 = .ok (.ifCond .ne 8, 3) := by decide +kernel
theorem dX3_choiceOf_84 : decode cX3_choiceOf 84 = .ok (.ldc 135, 2) := by decide +kernel
theorem dX3_choiceOf_86 : decode cX3_choiceOf 86 = .ok (.goto 15, 3) := by decide +kernel
theorem dX3_choiceOf_89 : decode cX3_choiceOf 89 = .ok (.iload_n 1, 1) := by decide +kernel
theorem dX3_choiceOf_90 : decode cX3_choiceOf 90 = .ok (.iconst 1, 1) := by decide +kernel
theorem dX3_choiceOf_91 : decode cX3_choiceOf 91 = .ok (.if_icmp .ne 8, 3) := by decide +kernel
theorem dX3_choiceOf_94 : decode cX3_choiceOf 94 = .ok (.ldc 137, 2) := by decide +kernel
theorem dX3_choiceOf_96 : decode cX3_choiceOf 96 = .ok (.goto 5, 3) := by decide +kernel
theorem dX3_choiceOf_99 : decode cX3_choiceOf 99 = .ok (.ldc 139, 2) := by decide +kernel
theorem dX3_choiceOf_101 : decode cX3_choiceOf 101 = .ok (.areturn, 1) := by decide +kernel
theorem dX3_choiceOf_102 : decode cX3_choiceOf 102 = .ok (.iload_n 1, 1) := by decide +kernel
theorem dX3_choiceOf_103 : decode cX3_choiceOf 103 = .ok (.ifCond .ne 8, 3) := by decide +kernel
theorem dX3_choiceOf_106 : decode cX3_choiceOf 106 = .ok (.ldc 141, 2) := by decide +kernel
theorem dX3_choiceOf_108 : decode cX3_choiceOf 108 = .ok (.goto 15, 3) := by decide +kernel
theorem dX3_choiceOf_111 : decode cX3_choiceOf 111 = .ok (.iload_n 1, 1) := by decide +kernel
theorem dX3_choiceOf_112 : decode cX3_choiceOf 112 = .ok (.iconst 1, 1) := by decide +kernel
theorem dX3_choiceOf_113 : decode cX3_choiceOf 113 = .ok (.if_icmp .ne 8, 3) := by decide +kernel
theorem dX3_choiceOf_116 : decode cX3_choiceOf 116 = .ok (.ldc 143, 2) := by decide +kernel
theorem dX3_choiceOf_118 : decode cX3_choiceOf 118 = .ok (.goto 5, 3) := by decide +kernel
theorem dX3_choiceOf_121 : decode cX3_choiceOf 121 = .ok (.ldc 139, 2) := by decide +kernel
theorem dX3_choiceOf_123 : decode cX3_choiceOf 123 = .ok (.areturn, 1) := by decide +kernel
theorem dX4_init_0 : decode cX4_init 0 = .ok (.aload_n 0, 1) := by decide +kernel
theorem dX4_init_1 : decode cX4_init 1 = .ok (.invokespecial 3, 3) := by decide +kernel
theorem dX4_init_4 : decode cX4_init 4 = .ok (.aload_n 0, 1) := by decide +kernel
theorem dX4_init_5 : decode cX4_init 5 = .ok (.bipush 24, 2) := by decide +kernel
theorem dX4_init_7 : decode cX4_init 7 = .ok (.newarray .int, 2) := by decide +kernel
theorem dX4_init_9 : decode cX4_init 9 = .ok (.putfield 9, 3) := by decide +kernel
theorem dX4_init_12 : decode cX4_init 12 = .ok (.aload_n 0, 1) := by decide +kernel
theorem dX4_init_13 : decode cX4_init 13 = .ok (.bipush 24, 2) := by decide +kernel
theorem dX4_init_15 : decode cX4_init 15 = .ok (.newarray .int, 2) := by decide +kernel
theorem dX4_init_17 : decode cX4_init 17 = .ok (.putfield 15, 3) := by decide +kernel
theorem dX4_init_20 : decode cX4_init 20 = .ok (.aload_n 0, 1) := by decide +kernel
theorem dX4_init_21 : decode cX4_init 21 = .ok (.bipush 24, 2) := by decide +kernel
theorem dX4_init_23 : decode cX4_init 23 = .ok (.newarray .int, 2) := by decide +kernel
theorem dX4_init_25 : decode cX4_init 25 = .ok (.putfield 18, 3) := by decide +kernel
theorem dX4_init_28 : decode cX4_init 28 = .ok (.aload_n 0, 1) := by decide +kernel
theorem dX4_init_29 : decode cX4_init 29 = .ok (.bipush 24, 2) := by decide +kernel
theorem dX4_init_31 : decode cX4_init 31 = .ok (.newarray .int, 2) := by decide +kernel
theorem dX4_init_33 : decode cX4_init 33 = .ok (.putfield 21, 3) := by decide +kernel
theorem dX4_init_36 : decode cX4_init 36 = .ok (.aload_n 0, 1) := by decide +kernel
theorem dX4_init_37 : decode cX4_init 37 = .ok (.bipush 24, 2) := by decide +kernel
theorem dX4_init_39 : decode cX4_init 39 = .ok (.newarray .int, 2) := by decide +kernel
theorem dX4_init_41 : decode cX4_init 41 = .ok (.putfield 24, 3) := by decide +kernel
theorem dX4_init_44 : decode cX4_init 44 = .ok (.aload_n 0, 1) := by decide +kernel
theorem dX4_init_45 : decode cX4_init 45 = .ok (.bipush 96, 2) := by decide +kernel
theorem dX4_init_47 : decode cX4_init 47 = .ok (.newarray .int, 2) := by decide +kernel
theorem dX4_init_49 : decode cX4_init 49 = .ok (.putfield 27, 3) := by decide +kernel
theorem dX4_init_52 : decode cX4_init 52 = .ok (.aload_n 0, 1) := by decide +kernel
theorem dX4_init_53 : decode cX4_init 53 = .ok (.bipush 96, 2) := by decide +kernel
theorem dX4_init_55 : decode cX4_init 55 = .ok (.newarray .int, 2) := by decide +kernel
theorem dX4_init_57 : decode cX4_init 57 = .ok (.putfield 30, 3) := by decide +kernel
theorem dX4_init_60 : decode cX4_init 60 = .ok (.aload_n 0, 1) := by decide +kernel
theorem dX4_init_61 : decode cX4_init 61 = .ok (.bipush 96, 2) := by decide +kernel
theorem dX4_init_63 : decode cX4_init 63 = .ok (.newarray .int, 2) := by decide +kernel
theorem dX4_init_65 : decode cX4_init 65 = .ok (.putfield 33, 3) := by decide +kernel
theorem dX4_init_68 : decode cX4_init 68 = .ok (.return_, 1) := by decide +kernel
theorem dX4_has_0 : decode cX4_has 0 = .ok (.iload_n 1, 1) := by decide +kernel
theorem dX4_has_1 : decode cX4_has 1 = .ok (.ifCond .lt 15, 3) := by decide +kernel
theorem dX4_has_4 : decode cX4_has 4 = .ok (.iload_n 1, 1) := by decide +kernel
theorem dX4_has_5 : decode cX4_has 5 = .ok (.aload_n 0, 1) := by decide +kernel
theorem dX4_has_6 : decode cX4_has 6 = .ok (.getfield 36, 3) := by decide +kernel
theorem dX4_has_9 : decode cX4_has 9 = .ok (.if_icmp .ge 7, 3) := by decide +kernel
theorem dX4_has_12 : decode cX4_has 12 = .ok (.iconst 1, 1) := by decide +kernel
theorem dX4_has_13 : decode cX4_has 13 = .ok (.goto 4, 3) := by decide +kernel
theorem dX4_has_16 : decode cX4_has 16 = .ok (.iconst 0, 1) := by decide +kernel
theorem dX4_has_17 : decode cX4_has 17 = .ok (.ireturn, 1) := by decide +kernel
theorem dX4_addWork_0 : decode cX4_addWork 0 = .ok (.aload_n 0, 1) := by decide +kernel
theorem dX4_addWork_1 : decode cX4_addWork 1 = .ok (.getfield 36, 3) := by decide +kernel
theorem dX4_addWork_4 : decode cX4_addWork 4 = .ok (.istore_n 3, 1) := by decide +kernel
theorem dX4_addWork_5 : decode cX4_addWork 5 = .ok (.aload_n 0, 1) := by decide +kernel
theorem dX4_addWork_6 : decode cX4_addWork 6 = .ok (.getfield 15, 3) := by decide +kernel
theorem dX4_addWork_9 : decode cX4_addWork 9 = .ok (.iload_n 3, 1) := by decide +kernel
theorem dX4_addWork_10 : decode cX4_addWork 10 = .ok (.iload_n 1, 1) := by decide +kernel
theorem dX4_addWork_11 : decode cX4_addWork 11 = .ok (.iastore, 1) := by decide +kernel
theorem dX4_addWork_12 : decode cX4_addWork 12 = .ok (.aload_n 0, 1) := by decide +kernel
theorem dX4_addWork_13 : decode cX4_addWork 13 = .ok (.getfield 18, 3) := by decide +kernel
theorem dX4_addWork_16 : decode cX4_addWork 16 = .ok (.iload_n 3, 1) := by decide +kernel
theorem dX4_addWork_17 : decode cX4_addWork 17 = .ok (.iload_n 2, 1) := by decide +kernel
theorem dX4_addWork_18 : decode cX4_addWork 18 = .ok (.iastore, 1) := by decide +kernel
theorem dX4_addWork_19 : decode cX4_addWork 19 = .ok (.aload_n 0, 1) := by decide +kernel
theorem dX4_addWork_20 : decode cX4_addWork 20 = .ok (.getfield 21, 3) := by decide +kernel
theorem dX4_addWork_23 : decode cX4_addWork 23 = .ok (.iload_n 3, 1) := by decide +kernel
theorem dX4_addWork_24 : decode cX4_addWork 24 = .ok (.iconst (-1), 1) := by decide +kernel
theorem dX4_addWork_25 : decode cX4_addWork 25 = .ok (.iastore, 1) := by decide +kernel
theorem dX4_addWork_26 : decode cX4_addWork 26 = .ok (.aload_n 0, 1) := by decide +kernel
theorem dX4_addWork_27 : decode cX4_addWork 27 = .ok (.getfield 24, 3) := by decide +kernel
theorem dX4_addWork_30 : decode cX4_addWork 30 = .ok (.iload_n 3, 1) := by decide +kernel
theorem dX4_addWork_31 : decode cX4_addWork 31 = .ok (.iconst (-1), 1) := by decide +kernel
theorem dX4_addWork_32 : decode cX4_addWork 32 = .ok (.iastore, 1) := by decide +kernel
theorem dX4_addWork_33 : decode cX4_addWork 33 = .ok (.aload_n 0, 1) := by decide +kernel
theorem dX4_addWork_34 : decode cX4_addWork 34 = .ok (.dup, 1) := by decide +kernel
theorem dX4_addWork_35 : decode cX4_addWork 35 = .ok (.getfield 36, 3) := by decide +kernel
theorem dX4_addWork_38 : decode cX4_addWork 38 = .ok (.iconst 1, 1) := by decide +kernel
theorem dX4_addWork_39 : decode cX4_addWork 39 = .ok (.iadd, 1) := by decide +kernel
theorem dX4_addWork_40 : decode cX4_addWork 40 = .ok (.putfield 36, 3) := by decide +kernel
theorem dX4_addWork_43 : decode cX4_addWork 43 = .ok (.iload_n 3, 1) := by decide +kernel
theorem dX4_addWork_44 : decode cX4_addWork 44 = .ok (.ireturn, 1) := by decide +kernel
theorem dX4_addAuthor_0 : decode cX4_addAuthor 0 = .ok (.iload_n 1, 1) := by decide +kernel
theorem dX4_addAuthor_1 : decode cX4_addAuthor 1 = .ok (.iconst 4, 1) := by decide +kernel
theorem dX4_addAuthor_2 : decode cX4_addAuthor 2 = .ok (.imul, 1) := by decide +kernel
theorem dX4_addAuthor_3 : decode cX4_addAuthor 3 = .ok (.aload_n 0, 1) := by decide +kernel
theorem dX4_addAuthor_4 : decode cX4_addAuthor 4 = .ok (.getfield 9, 3) := by decide +kernel
theorem dX4_addAuthor_7 : decode cX4_addAuthor 7 = .ok (.iload_n 1, 1) := by decide +kernel
theorem dX4_addAuthor_8 : decode cX4_addAuthor 8 = .ok (.iaload, 1) := by decide +kernel
theorem dX4_addAuthor_9 : decode cX4_addAuthor 9 = .ok (.iadd, 1) := by decide +kernel
theorem dX4_addAuthor_10 : decode cX4_addAuthor 10 = .ok (.istore 5, 2) := by decide +kernel
theorem dX4_addAuthor_12 : decode cX4_addAuthor 12 = .ok (.aload_n 0, 1) := by decide +kernel
theorem dX4_addAuthor_13 : decode cX4_addAuthor 13 = .ok (.getfield 27, 3) := by decide +kernel
theorem dX4_addAuthor_16 : decode cX4_addAuthor 16 = .ok (.iload 5, 2) := by decide +kernel
theorem dX4_addAuthor_18 : decode cX4_addAuthor 18 = .ok (.iload_n 2, 1) := by decide +kernel
theorem dX4_addAuthor_19 : decode cX4_addAuthor 19 = .ok (.iastore, 1) := by decide +kernel
theorem dX4_addAuthor_20 : decode cX4_addAuthor 20 = .ok (.aload_n 0, 1) := by decide +kernel
theorem dX4_addAuthor_21 : decode cX4_addAuthor 21 = .ok (.getfield 30, 3) := by decide +kernel
theorem dX4_addAuthor_24 : decode cX4_addAuthor 24 = .ok (.iload 5, 2) := by decide +kernel
theorem dX4_addAuthor_26 : decode cX4_addAuthor 26 = .ok (.iload_n 3, 1) := by decide +kernel
theorem dX4_addAuthor_27 : decode cX4_addAuthor 27 = .ok (.iastore, 1) := by decide +kernel
theorem dX4_addAuthor_28 : decode cX4_addAuthor 28 = .ok (.aload_n 0, 1) := by decide +kernel
theorem dX4_addAuthor_29 : decode cX4_addAuthor 29 = .ok (.getfield 33, 3) := by decide +kernel
theorem dX4_addAuthor_32 : decode cX4_addAuthor 32 = .ok (.iload 5, 2) := by decide +kernel
theorem dX4_addAuthor_34 : decode cX4_addAuthor 34 = .ok (.iload 4, 2) := by decide +kernel
theorem dX4_addAuthor_36 : decode cX4_addAuthor 36 = .ok (.iastore, 1) := by decide +kernel
theorem dX4_addAuthor_37 : decode cX4_addAuthor 37 = .ok (.aload_n 0, 1) := by decide +kernel
theorem dX4_addAuthor_38 : decode cX4_addAuthor 38 = .ok (.getfield 9, 3) := by decide +kernel
theorem dX4_addAuthor_41 : decode cX4_addAuthor 41 = .ok (.iload_n 1, 1) := by decide +kernel
theorem dX4_addAuthor_42 : decode cX4_addAuthor 42 = .ok (.dup2, 1) := by decide +kernel
theorem dX4_addAuthor_43 : decode cX4_addAuthor 43 = .ok (.iaload, 1) := by decide +kernel
theorem dX4_addAuthor_44 : decode cX4_addAuthor 44 = .ok (.iconst 1, 1) := by decide +kernel
theorem dX4_addAuthor_45 : decode cX4_addAuthor 45 = .ok (.iadd, 1) := by decide +kernel
theorem dX4_addAuthor_46 : decode cX4_addAuthor 46 = .ok (.iastore, 1) := by decide +kernel
theorem dX4_addAuthor_47 : decode cX4_addAuthor 47 = .ok (.return_, 1) := by decide +kernel
theorem dX4_firstFamily_0 : decode cX4_firstFamily 0 = .ok (.aload_n 0, 1) := by decide +kernel
theorem dX4_firstFamily_1 : decode cX4_firstFamily 1 = .ok (.getfield 27, 3) := by decide +kernel
theorem dX4_firstFamily_4 : decode cX4_firstFamily 4 = .ok (.iload_n 1, 1) := by decide +kernel
theorem dX4_firstFamily_5 : decode cX4_firstFamily 5 = .ok (.iconst 4, 1) := by decide +kernel
theorem dX4_firstFamily_6 : decode cX4_firstFamily 6 = .ok (.imul, 1) := by decide +kernel
theorem dX4_firstFamily_7 : decode cX4_firstFamily 7 = .ok (.iaload, 1) := by decide +kernel
theorem dX4_firstFamily_8 : decode cX4_firstFamily 8 = .ok (.ireturn, 1) := by decide +kernel
theorem dX4_initialsOf_0 : decode cX4_initialsOf 0 = .ok (.iload_n 1, 1) := by decide +kernel
theorem dX4_initialsOf_1 : decode cX4_initialsOf 1 = .ok (.iconst 4, 1) := by decide +kernel
theorem dX4_initialsOf_2 : decode cX4_initialsOf 2 = .ok (.imul, 1) := by decide +kernel
theorem dX4_initialsOf_3 : decode cX4_initialsOf 3 = .ok (.istore_n 2, 1) := by decide +kernel
theorem dX4_initialsOf_4 : decode cX4_initialsOf 4 = .ok (.aload_n 0, 1) := by decide +kernel
theorem dX4_initialsOf_5 : decode cX4_initialsOf 5 = .ok (.getfield 30, 3) := by decide +kernel
theorem dX4_initialsOf_8 : decode cX4_initialsOf 8 = .ok (.iload_n 2, 1) := by decide +kernel
theorem dX4_initialsOf_9 : decode cX4_initialsOf 9 = .ok (.iaload, 1) := by decide +kernel
theorem dX4_initialsOf_10 : decode cX4_initialsOf 10 = .ok (.ifCond .eq 7, 3) := by decide +kernel
theorem dX4_initialsOf_13 : decode cX4_initialsOf 13 = .ok (.iconst 1, 1) := by decide +kernel
theorem dX4_initialsOf_14 : decode cX4_initialsOf 14 = .ok (.goto 4, 3) := by decide +kernel
theorem dX4_initialsOf_17 : decode cX4_initialsOf 17 = .ok (.iconst 0, 1) := by decide +kernel
theorem dX4_initialsOf_18 : decode cX4_initialsOf 18 = .ok (.aload_n 0, 1) := by decide +kernel
theorem dX4_initialsOf_19 : decode cX4_initialsOf 19 = .ok (.getfield 33, 3) := by decide +kernel
theorem dX4_initialsOf_22 : decode cX4_initialsOf 22 = .ok (.iload_n 2, 1) := by decide +kernel
theorem dX4_initialsOf_23 : decode cX4_initialsOf 23 = .ok (.iaload, 1) := by decide +kernel
theorem dX4_initialsOf_24 : decode cX4_initialsOf 24 = .ok (.ifCond .eq 7, 3) := by decide +kernel
theorem dX4_initialsOf_27 : decode cX4_initialsOf 27 = .ok (.iconst 1, 1) := by decide +kernel
theorem dX4_initialsOf_28 : decode cX4_initialsOf 28 = .ok (.goto 4, 3) := by decide +kernel
theorem dX4_initialsOf_31 : decode cX4_initialsOf 31 = .ok (.iconst 0, 1) := by decide +kernel
theorem dX4_initialsOf_32 : decode cX4_initialsOf 32 = .ok (.iadd, 1) := by decide +kernel
theorem dX4_initialsOf_33 : decode cX4_initialsOf 33 = .ok (.ireturn, 1) := by decide +kernel
theorem dX4_sameInitials_0 : decode cX4_sameInitials 0 = .ok (.aload_n 0, 1) := by decide +kernel
theorem dX4_sameInitials_1 : decode cX4_sameInitials 1 = .ok (.getfield 30, 3) := by decide +kernel
theorem dX4_sameInitials_4 : decode cX4_sameInitials 4 = .ok (.iload_n 1, 1) := by decide +kernel
theorem dX4_sameInitials_5 : decode cX4_sameInitials 5 = .ok (.iconst 4, 1) := by decide +kernel
theorem dX4_sameInitials_6 : decode cX4_sameInitials 6 = .ok (.imul, 1) := by decide +kernel
theorem dX4_sameInitials_7 : decode cX4_sameInitials 7 = .ok (.iaload, 1) := by decide +kernel
theorem dX4_sameInitials_8 : decode cX4_sameInitials 8 = .ok (.aload_n 0, 1) := by decide +kernel
theorem dX4_sameInitials_9 : decode cX4_sameInitials 9 = .ok (.getfield 30, 3) := by decide +kernel
theorem dX4_sameInitials_12 : decode cX4_sameInitials 12 = .ok (.iload_n 2, 1) := by decide +kernel
theorem dX4_sameInitials_13 : decode cX4_sameInitials 13 = .ok (.iconst 4, 1) := by decide +kernel
theorem dX4_sameInitials_14 : decode cX4_sameInitials 14 = .ok (.imul, 1) := by decide +kernel
theorem dX4_sameInitials_15 : decode cX4_sameInitials 15 = .ok (.iaload, 1) := by decide +kernel
theorem dX4_sameInitials_16 : decode cX4_sameInitials 16 = .ok (.if_icmp .ne 26, 3) := by decide +kernel
theorem dX4_sameInitials_19 : decode cX4_sameInitials 19 = .ok (.aload_n 0, 1) := by decide +kernel
theorem dX4_sameInitials_20 : decode cX4_sameInitials 20 = .ok (.getfield 33, 3) := by decide +kernel
theorem dX4_sameInitials_23 : decode cX4_sameInitials 23 = .ok (.iload_n 1, 1) := by decide +kernel
theorem dX4_sameInitials_24 : decode cX4_sameInitials 24 = .ok (.iconst 4, 1) := by decide +kernel
theorem dX4_sameInitials_25 : decode cX4_sameInitials 25 = .ok (.imul, 1) := by decide +kernel
theorem dX4_sameInitials_26 : decode cX4_sameInitials 26 = .ok (.iaload, 1) := by decide +kernel
theorem dX4_sameInitials_27 : decode cX4_sameInitials 27 = .ok (.aload_n 0, 1) := by decide +kernel
theorem dX4_sameInitials_28 : decode cX4_sameInitials 28 = .ok (.getfield 33, 3) := by decide +kernel
theorem dX4_sameInitials_31 : decode cX4_sameInitials 31 = .ok (.iload_n 2, 1) := by decide +kernel
theorem dX4_sameInitials_32 : decode cX4_sameInitials 32 = .ok (.iconst 4, 1) := by decide +kernel
theorem dX4_sameInitials_33 : decode cX4_sameInitials 33 = .ok (.imul, 1) := by decide +kernel
theorem dX4_sameInitials_34 : decode cX4_sameInitials 34 = .ok (.iaload, 1) := by decide +kernel
theorem dX4_sameInitials_35 : decode cX4_sameInitials 35 = .ok (.if_icmp .ne 7, 3) := by decide +kernel
theorem dX4_sameInitials_38 : decode cX4_sameInitials 38 = .ok (.iconst 1, 1) := by decide +kernel
theorem dX4_sameInitials_39 : decode cX4_sameInitials 39 = .ok (.goto 4, 3) := by decide +kernel
theorem dX4_sameInitials_42 : decode cX4_sameInitials 42 = .ok (.iconst 0, 1) := by decide +kernel
theorem dX4_sameInitials_43 : decode cX4_sameInitials 43 = .ok (.ireturn, 1) := by decide +kernel
theorem dX4_isBeyond_0 : decode cX4_isBeyond 0 = .ok (.aload_n 0, 1) := by decide +kernel
theorem dX4_isBeyond_1 : decode cX4_isBeyond 1 = .ok (.getfield 9, 3) := by decide +kernel
theorem dX4_isBeyond_4 : decode cX4_isBeyond 4 = .ok (.iload_n 1, 1) := by decide +kernel
theorem dX4_isBeyond_5 : decode cX4_isBeyond 5 = .ok (.iaload, 1) := by decide +kernel
theorem dX4_isBeyond_6 : decode cX4_isBeyond 6 = .ok (.iload_n 2, 1) := by decide +kernel
theorem dX4_isBeyond_7 : decode cX4_isBeyond 7 = .ok (.if_icmp .le 7, 3) := by decide +kernel
theorem dX4_isBeyond_10 : decode cX4_isBeyond 10 = .ok (.iconst 1, 1) := by decide +kernel
theorem dX4_isBeyond_11 : decode cX4_isBeyond 11 = .ok (.goto 4, 3) := by decide +kernel
theorem dX4_isBeyond_14 : decode cX4_isBeyond 14 = .ok (.iconst 0, 1) := by decide +kernel
theorem dX4_isBeyond_15 : decode cX4_isBeyond 15 = .ok (.ireturn, 1) := by decide +kernel
theorem dX4_isLike_0 : decode cX4_isLike 0 = .ok (.aload_n 0, 1) := by decide +kernel
theorem dX4_isLike_1 : decode cX4_isLike 1 = .ok (.getfield 9, 3) := by decide +kernel
theorem dX4_isLike_4 : decode cX4_isLike 4 = .ok (.iload_n 1, 1) := by decide +kernel
theorem dX4_isLike_5 : decode cX4_isLike 5 = .ok (.iaload, 1) := by decide +kernel
theorem dX4_isLike_6 : decode cX4_isLike 6 = .ok (.iload_n 3, 1) := by decide +kernel
theorem dX4_isLike_7 : decode cX4_isLike 7 = .ok (.if_icmp .le 7, 3) := by decide +kernel
theorem dX4_isLike_10 : decode cX4_isLike 10 = .ok (.iconst 1, 1) := by decide +kernel
theorem dX4_isLike_11 : decode cX4_isLike 11 = .ok (.goto 4, 3) := by decide +kernel
theorem dX4_isLike_14 : decode cX4_isLike 14 = .ok (.iconst 0, 1) := by decide +kernel
theorem dX4_isLike_15 : decode cX4_isLike 15 = .ok (.istore 4, 2) := by decide +kernel
theorem dX4_isLike_17 : decode cX4_isLike 17 = .ok (.aload_n 0, 1) := by decide +kernel
theorem dX4_isLike_18 : decode cX4_isLike 18 = .ok (.getfield 15, 3) := by decide +kernel
theorem dX4_isLike_21 : decode cX4_isLike 21 = .ok (.iload_n 1, 1) := by decide +kernel
theorem dX4_isLike_22 : decode cX4_isLike 22 = .ok (.iaload, 1) := by decide +kernel
theorem dX4_isLike_23 : decode cX4_isLike 23 = .ok (.aload_n 0, 1) := by decide +kernel
theorem dX4_isLike_24 : decode cX4_isLike 24 = .ok (.getfield 15, 3) := by decide +kernel
theorem dX4_isLike_27 : decode cX4_isLike 27 = .ok (.iload_n 2, 1) := by decide +kernel
theorem dX4_isLike_28 : decode cX4_isLike 28 = .ok (.iaload, 1) := by decide +kernel
theorem dX4_isLike_29 : decode cX4_isLike 29 = .ok (.if_icmp .ne 23, 3) := by decide +kernel
theorem dX4_isLike_32 : decode cX4_isLike 32 = .ok (.iload 4, 2) := by decide +kernel
theorem dX4_isLike_34 : decode cX4_isLike 34 = .ok (.aload_n 0, 1) := by decide +kernel
theorem dX4_isLike_35 : decode cX4_isLike 35 = .ok (.getfield 9, 3) := by decide +kernel
theorem dX4_isLike_38 : decode cX4_isLike 38 = .ok (.iload_n 2, 1) := by decide +kernel
theorem dX4_isLike_39 : decode cX4_isLike 39 = .ok (.iaload, 1) := by decide +kernel
theorem dX4_isLike_40 : decode cX4_isLike 40 = .ok (.iload_n 3, 1) := by decide +kernel
theorem dX4_isLike_41 : decode cX4_isLike 41 = .ok (.if_icmp .le 7, 3) := by decide +kernel
theorem dX4_isLike_44 : decode cX4_isLike 44 = .ok (.iconst 1, 1) := by decide +kernel
theorem dX4_isLike_45 : decode cX4_isLike 45 = .ok (.goto 4, 3) := by decide +kernel
theorem dX4_isLike_48 : decode cX4_isLike 48 = .ok (.iconst 0, 1) := by decide +kernel
theorem dX4_isLike_49 : decode cX4_isLike 49 = .ok (.if_icmp .eq 5, 3) := by decide +kernel
theorem dX4_isLike_52 : decode cX4_isLike 52 = .ok (.iconst 0, 1) := by decide +kernel
theorem dX4_isLike_53 : decode cX4_isLike 53 = .ok (.ireturn, 1) := by decide +kernel
theorem dX4_isLike_54 : decode cX4_isLike 54 = .ok (.iload 4, 2) := by decide +kernel
theorem dX4_isLike_56 : decode cX4_isLike 56 = .ok (.ifCond .ne 20, 3) := by decide +kernel
theorem dX4_isLike_59 : decode cX4_isLike 59 = .ok (.aload_n 0, 1) := by decide +kernel
theorem dX4_isLike_60 : decode cX4_isLike 60 = .ok (.getfield 9, 3) := by decide +kernel
theorem dX4_isLike_63 : decode cX4_isLike 63 = .ok (.iload_n 1, 1) := by decide +kernel
theorem dX4_isLike_64 : decode cX4_isLike 64 = .ok (.iaload, 1) := by decide +kernel
theorem dX4_isLike_65 : decode cX4_isLike 65 = .ok (.aload_n 0, 1) := by decide +kernel
theorem dX4_isLike_66 : decode cX4_isLike 66 = .ok (.getfield 9, 3) := by decide +kernel
theorem dX4_isLike_69 : decode cX4_isLike 69 = .ok (.iload_n 2, 1) := by decide +kernel
theorem dX4_isLike_70 : decode cX4_isLike 70 = .ok (.iaload, 1) := by decide +kernel
theorem dX4_isLike_71 : decode cX4_isLike 71 = .ok (.if_icmp .eq 5, 3) := by decide +kernel
theorem dX4_isLike_74 : decode cX4_isLike 74 = .ok (.iconst 0, 1) := by decide +kernel
theorem dX4_isLike_75 : decode cX4_isLike 75 = .ok (.ireturn, 1) := by decide +kernel
theorem dX4_isLike_76 : decode cX4_isLike 76 = .ok (.iload 4, 2) := by decide +kernel
theorem dX4_isLike_78 : decode cX4_isLike 78 = .ok (.ifCond .eq 7, 3) := by decide +kernel
theorem dX4_isLike_81 : decode cX4_isLike 81 = .ok (.iload_n 3, 1) := by decide +kernel
theorem dX4_isLike_82 : decode cX4_isLike 82 = .ok (.goto 9, 3) := by decide +kernel
theorem dX4_isLike_85 : decode cX4_isLike 85 = .ok (.aload_n 0, 1) := by decide +kernel
theorem dX4_isLike_86 : decode cX4_isLike 86 = .ok (.getfield 9, 3) := by decide +kernel
theorem dX4_isLike_89 : decode cX4_isLike 89 = .ok (.iload_n 1, 1) := by decide +kernel
theorem dX4_isLike_90 : decode cX4_isLike 90 = .ok (.iaload, 1) := by decide +kernel
theorem dX4_isLike_91 : decode cX4_isLike 91 = .ok (.istore 5, 2) := by decide +kernel
theorem dX4_isLike_93 : decode cX4_isLike 93 = .ok (.iconst 0, 1) := by decide +kernel
theorem dX4_isLike_94 : decode cX4_isLike 94 = .ok (.istore 6, 2) := by decide +kernel
theorem dX4_isLike_96 : decode cX4_isLike 96 = .ok (.iload 6, 2) := by decide +kernel
theorem dX4_isLike_98 : decode cX4_isLike 98 = .ok (.iload 5, 2) := by decide +kernel
theorem dX4_isLike_100 : decode cX4_isLike 100 = .ok (.if_icmp .ge 36, 3) := by decide +kernel
theorem dX4_isLike_103 : decode cX4_isLike 103 = .ok (.aload_n 0, 1) := by decide +kernel
theorem dX4_isLike_104 : decode cX4_isLike 104 = .ok (.getfield 27, 3) := by decide +kernel
theorem dX4_isLike_107 : decode cX4_isLike 107 = .ok (.iload_n 1, 1) := by decide +kernel
theorem dX4_isLike_108 : decode cX4_isLike 108 = .ok (.iconst 4, 1) := by decide +kernel
theorem dX4_isLike_109 : decode cX4_isLike 109 = .ok (.imul, 1) := by decide +kernel
theorem dX4_isLike_110 : decode cX4_isLike 110 = .ok (.iload 6, 2) := by decide +kernel
theorem dX4_isLike_112 : decode cX4_isLike 112 = .ok (.iadd, 1) := by decide +kernel
theorem dX4_isLike_113 : decode cX4_isLike 113 = .ok (.iaload, 1) := by decide +kernel
theorem dX4_isLike_114 : decode cX4_isLike 114 = .ok (.aload_n 0, 1) := by decide +kernel
theorem dX4_isLike_115 : decode cX4_isLike 115 = .ok (.getfield 27, 3) := by decide +kernel
theorem dX4_isLike_118 : decode cX4_isLike 118 = .ok (.iload_n 2, 1) := by decide +kernel
theorem dX4_isLike_119 : decode cX4_isLike 119 = .ok (.iconst 4, 1) := by decide +kernel
theorem dX4_isLike_120 : decode cX4_isLike 120 = .ok (.imul, 1) := by decide +kernel
theorem dX4_isLike_121 : decode cX4_isLike 121 = .ok (.iload 6, 2) := by decide +kernel
theorem dX4_isLike_123 : decode cX4_isLike 123 = .ok (.iadd, 1) := by decide +kernel
theorem dX4_isLike_124 : decode cX4_isLike 124 = .ok (.iaload, 1) := by decide +kernel
theorem dX4_isLike_125 : decode cX4_isLike 125 = .ok (.if_icmp .eq 5, 3) := by decide +kernel
theorem dX4_isLike_128 : decode cX4_isLike 128 = .ok (.iconst 0, 1) := by decide +kernel
theorem dX4_isLike_129 : decode cX4_isLike 129 = .ok (.ireturn, 1) := by decide +kernel
theorem dX4_isLike_130 : decode cX4_isLike 130 = .ok (.iinc 6 1, 3) := by decide +kernel
theorem dX4_isLike_133 : decode cX4_isLike 133 = .ok (.goto (-37), 3) := by decide +kernel
theorem dX4_isLike_136 : decode cX4_isLike 136 = .ok (.iconst 1, 1) := by decide +kernel
theorem dX4_isLike_137 : decode cX4_isLike 137 = .ok (.ireturn, 1) := by decide +kernel
theorem dX4_isAhead_0 : decode cX4_isAhead 0 = .ok (.iload_n 3, 1) := by decide +kernel
theorem dX4_isAhead_1 : decode cX4_isAhead 1 = .ok (.ifCond .eq 39, 3) := by decide +kernel
theorem dX4_isAhead_4 : decode cX4_isAhead 4 = .ok (.aload_n 0, 1) := by decide +kernel
theorem dX4_isAhead_5 : decode cX4_isAhead 5 = .ok (.getfield 15, 3) := by decide +kernel
theorem dX4_isAhead_8 : decode cX4_isAhead 8 = .ok (.iload_n 1, 1) := by decide +kernel
theorem dX4_isAhead_9 : decode cX4_isAhead 9 = .ok (.iaload, 1) := by decide +kernel
theorem dX4_isAhead_10 : decode cX4_isAhead 10 = .ok (.aload_n 0, 1) := by decide +kernel
theorem dX4_isAhead_11 : decode cX4_isAhead 11 = .ok (.getfield 15, 3) := by decide +kernel
theorem dX4_isAhead_14 : decode cX4_isAhead 14 = .ok (.iload_n 2, 1) := by decide +kernel
theorem dX4_isAhead_15 : decode cX4_isAhead 15 = .ok (.iaload, 1) := by decide +kernel
theorem dX4_isAhead_16 : decode cX4_isAhead 16 = .ok (.if_icmp .eq 24, 3) := by decide +kernel
theorem dX4_isAhead_19 : decode cX4_isAhead 19 = .ok (.aload_n 0, 1) := by decide +kernel
theorem dX4_isAhead_20 : decode cX4_isAhead 20 = .ok (.getfield 15, 3) := by decide +kernel
theorem dX4_isAhead_23 : decode cX4_isAhead 23 = .ok (.iload_n 1, 1) := by decide +kernel
theorem dX4_isAhead_24 : decode cX4_isAhead 24 = .ok (.iaload, 1) := by decide +kernel
theorem dX4_isAhead_25 : decode cX4_isAhead 25 = .ok (.aload_n 0, 1) := by decide +kernel
theorem dX4_isAhead_26 : decode cX4_isAhead 26 = .ok (.getfield 15, 3) := by decide +kernel
theorem dX4_isAhead_29 : decode cX4_isAhead 29 = .ok (.iload_n 2, 1) := by decide +kernel
theorem dX4_isAhead_30 : decode cX4_isAhead 30 = .ok (.iaload, 1) := by decide +kernel
theorem dX4_isAhead_31 : decode cX4_isAhead 31 = .ok (.if_icmp .ge 7, 3) := by decide +kernel
theorem dX4_isAhead_34 : decode cX4_isAhead 34 = .ok (.iconst 1, 1) := by decide +kernel
theorem dX4_isAhead_35 : decode cX4_isAhead 35 = .ok (.goto 4, 3) := by decide +kernel
theorem dX4_isAhead_38 : decode cX4_isAhead 38 = .ok (.iconst 0, 1) := by decide +kernel
theorem dX4_isAhead_39 : decode cX4_isAhead 39 = .ok (.ireturn, 1) := by decide +kernel
theorem dX4_isAhead_40 : decode cX4_isAhead 40 = .ok (.aload_n 0, 1) := by decide +kernel
theorem dX4_isAhead_41 : decode cX4_isAhead 41 = .ok (.getfield 9, 3) := by decide +kernel
theorem dX4_isAhead_44 : decode cX4_isAhead 44 = .ok (.iload_n 1, 1) := by decide +kernel
theorem dX4_isAhead_45 : decode cX4_isAhead 45 = .ok (.iaload, 1) := by decide +kernel
theorem dX4_isAhead_46 : decode cX4_isAhead 46 = .ok (.aload_n 0, 1) := by decide +kernel
theorem dX4_isAhead_47 : decode cX4_isAhead 47 = .ok (.getfield 9, 3) := by decide +kernel
theorem dX4_isAhead_50 : decode cX4_isAhead 50 = .ok (.iload_n 2, 1) := by decide +kernel
theorem dX4_isAhead_51 : decode cX4_isAhead 51 = .ok (.iaload, 1) := by decide +kernel
theorem dX4_isAhead_52 : decode cX4_isAhead 52 = .ok (.invokestatic 40, 3) := by decide +kernel
theorem dX4_isAhead_55 : decode cX4_isAhead 55 = .ok (.istore 4, 2) := by decide +kernel
theorem dX4_isAhead_57 : decode cX4_isAhead 57 = .ok (.iconst 0, 1) := by decide +kernel
theorem dX4_isAhead_58 : decode cX4_isAhead 58 = .ok (.istore 5, 2) := by decide +kernel
theorem dX4_isAhead_60 : decode cX4_isAhead 60 = .ok (.iload 5, 2) := by decide +kernel
theorem dX4_isAhead_62 : decode cX4_isAhead 62 = .ok (.iload 4, 2) := by decide +kernel
theorem dX4_isAhead_64 : decode cX4_isAhead 64 = .ok (.if_icmp .ge 43, 3) := by decide +kernel
theorem dX4_isAhead_67 : decode cX4_isAhead 67 = .ok (.aload_n 0, 1) := by decide +kernel
theorem dX4_isAhead_68 : decode cX4_isAhead 68 = .ok (.iload_n 1, 1) := by decide +kernel
theorem dX4_isAhead_69 : decode cX4_isAhead 69 = .ok (.iconst 4, 1) := by decide +kernel
theorem dX4_isAhead_70 : decode cX4_isAhead 70 = .ok (.imul, 1) := by decide +kernel
theorem dX4_isAhead_71 : decode cX4_isAhead 71 = .ok (.iload 5, 2) := by decide +kernel
theorem dX4_isAhead_73 : decode cX4_isAhead 73 = .ok (.iadd, 1) := by decide +kernel
theorem dX4_isAhead_74 : decode cX4_isAhead 74 = .ok (.iload_n 2, 1) := by decide +kernel
theorem dX4_isAhead_75 : decode cX4_isAhead 75 = .ok (.iconst 4, 1) := by decide +kernel
theorem dX4_isAhead_76 : decode cX4_isAhead 76 = .ok (.imul, 1) := by decide +kernel
theorem dX4_isAhead_77 : decode cX4_isAhead 77 = .ok (.iload 5, 2) := by decide +kernel
theorem dX4_isAhead_79 : decode cX4_isAhead 79 = .ok (.iadd, 1) := by decide +kernel
theorem dX4_isAhead_80 : decode cX4_isAhead 80 = .ok (.invokevirtual 46, 3) := by decide +kernel
theorem dX4_isAhead_83 : decode cX4_isAhead 83 = .ok (.istore 6, 2) := by decide +kernel
theorem dX4_isAhead_85 : decode cX4_isAhead 85 = .ok (.iload 6, 2) := by decide +kernel
theorem dX4_isAhead_87 : decode cX4_isAhead 87 = .ok (.ifCond .eq 14, 3) := by decide +kernel
theorem dX4_isAhead_90 : decode cX4_isAhead 90 = .ok (.iload 6, 2) := by decide +kernel
theorem dX4_isAhead_92 : decode cX4_isAhead 92 = .ok (.ifCond .ge 7, 3) := by decide +kernel
theorem dX4_isAhead_95 : decode cX4_isAhead 95 = .ok (.iconst 1, 1) := by decide +kernel
theorem dX4_isAhead_96 : decode cX4_isAhead 96 = .ok (.goto 4, 3) := by decide +kernel
theorem dX4_isAhead_99 : decode cX4_isAhead 99 = .ok (.iconst 0, 1) := by decide +kernel
theorem dX4_isAhead_100 : decode cX4_isAhead 100 = .ok (.ireturn, 1) := by decide +kernel
theorem dX4_isAhead_101 : decode cX4_isAhead 101 = .ok (.iinc 5 1, 3) := by decide +kernel
theorem dX4_isAhead_104 : decode cX4_isAhead 104 = .ok (.goto (-44), 3) := by decide +kernel
theorem dX4_isAhead_107 : decode cX4_isAhead 107 = .ok (.aload_n 0, 1) := by decide +kernel
theorem dX4_isAhead_108 : decode cX4_isAhead 108 = .ok (.getfield 9, 3) := by decide +kernel
theorem dX4_isAhead_111 : decode cX4_isAhead 111 = .ok (.iload_n 1, 1) := by decide +kernel
theorem dX4_isAhead_112 : decode cX4_isAhead 112 = .ok (.iaload, 1) := by decide +kernel
theorem dX4_isAhead_113 : decode cX4_isAhead 113 = .ok (.aload_n 0, 1) := by decide +kernel
theorem dX4_isAhead_114 : decode cX4_isAhead 114 = .ok (.getfield 9, 3) := by decide +kernel
theorem dX4_isAhead_117 : decode cX4_isAhead 117 = .ok (.iload_n 2, 1) := by decide +kernel
theorem dX4_isAhead_118 : decode cX4_isAhead 118 = .ok (.iaload, 1) := by decide +kernel
theorem dX4_isAhead_119 : decode cX4_isAhead 119 = .ok (.if_icmp .eq 24, 3) := by decide +kernel
theorem dX4_isAhead_122 : decode cX4_isAhead 122 = .ok (.aload_n 0, 1) := by decide +kernel
theorem dX4_isAhead_123 : decode cX4_isAhead 123 = .ok (.getfield 9, 3) := by decide +kernel
theorem dX4_isAhead_126 : decode cX4_isAhead 126 = .ok (.iload_n 1, 1) := by decide +kernel
theorem dX4_isAhead_127 : decode cX4_isAhead 127 = .ok (.iaload, 1) := by decide +kernel
theorem dX4_isAhead_128 : decode cX4_isAhead 128 = .ok (.aload_n 0, 1) := by decide +kernel
theorem dX4_isAhead_129 : decode cX4_isAhead 129 = .ok (.getfield 9, 3) := by decide +kernel
theorem dX4_isAhead_132 : decode cX4_isAhead 132 = .ok (.iload_n 2, 1) := by decide +kernel
theorem dX4_isAhead_133 : decode cX4_isAhead 133 = .ok (.iaload, 1) := by decide +kernel
theorem dX4_isAhead_134 : decode cX4_isAhead 134 = .ok (.if_icmp .ge 7, 3) := by decide +kernel
theorem dX4_isAhead_137 : decode cX4_isAhead 137 = .ok (.iconst 1, 1) := by decide +kernel
theorem dX4_isAhead_138 : decode cX4_isAhead 138 = .ok (.goto 4, 3) := by decide +kernel
theorem dX4_isAhead_141 : decode cX4_isAhead 141 = .ok (.iconst 0, 1) := by decide +kernel
theorem dX4_isAhead_142 : decode cX4_isAhead 142 = .ok (.ireturn, 1) := by decide +kernel
theorem dX4_isAhead_143 : decode cX4_isAhead 143 = .ok (.aload_n 0, 1) := by decide +kernel
theorem dX4_isAhead_144 : decode cX4_isAhead 144 = .ok (.getfield 15, 3) := by decide +kernel
theorem dX4_isAhead_147 : decode cX4_isAhead 147 = .ok (.iload_n 1, 1) := by decide +kernel
theorem dX4_isAhead_148 : decode cX4_isAhead 148 = .ok (.iaload, 1) := by decide +kernel
theorem dX4_isAhead_149 : decode cX4_isAhead 149 = .ok (.aload_n 0, 1) := by decide +kernel
theorem dX4_isAhead_150 : decode cX4_isAhead 150 = .ok (.getfield 15, 3) := by decide +kernel
theorem dX4_isAhead_153 : decode cX4_isAhead 153 = .ok (.iload_n 2, 1) := by decide +kernel
theorem dX4_isAhead_154 : decode cX4_isAhead 154 = .ok (.iaload, 1) := by decide +kernel
theorem dX4_isAhead_155 : decode cX4_isAhead 155 = .ok (.if_icmp .eq 24, 3) := by decide +kernel
theorem dX4_isAhead_158 : decode cX4_isAhead 158 = .ok (.aload_n 0, 1) := by decide +kernel
theorem dX4_isAhead_159 : decode cX4_isAhead 159 = .ok (.getfield 15, 3) := by decide +kernel
theorem dX4_isAhead_162 : decode cX4_isAhead 162 = .ok (.iload_n 1, 1) := by decide +kernel
theorem dX4_isAhead_163 : decode cX4_isAhead 163 = .ok (.iaload, 1) := by decide +kernel
theorem dX4_isAhead_164 : decode cX4_isAhead 164 = .ok (.aload_n 0, 1) := by decide +kernel
theorem dX4_isAhead_165 : decode cX4_isAhead 165 = .ok (.getfield 15, 3) := by decide +kernel
theorem dX4_isAhead_168 : decode cX4_isAhead 168 = .ok (.iload_n 2, 1) := by decide +kernel
theorem dX4_isAhead_169 : decode cX4_isAhead 169 = .ok (.iaload, 1) := by decide +kernel
theorem dX4_isAhead_170 : decode cX4_isAhead 170 = .ok (.if_icmp .ge 7, 3) := by decide +kernel
theorem dX4_isAhead_173 : decode cX4_isAhead 173 = .ok (.iconst 1, 1) := by decide +kernel
theorem dX4_isAhead_174 : decode cX4_isAhead 174 = .ok (.goto 4, 3) := by decide +kernel
theorem dX4_isAhead_177 : decode cX4_isAhead 177 = .ok (.iconst 0, 1) := by decide +kernel
theorem dX4_isAhead_178 : decode cX4_isAhead 178 = .ok (.ireturn, 1) := by decide +kernel
theorem dX4_isAhead_179 : decode cX4_isAhead 179 = .ok (.aload_n 0, 1) := by decide +kernel
theorem dX4_isAhead_180 : decode cX4_isAhead 180 = .ok (.getfield 18, 3) := by decide +kernel
theorem dX4_isAhead_183 : decode cX4_isAhead 183 = .ok (.iload_n 1, 1) := by decide +kernel
theorem dX4_isAhead_184 : decode cX4_isAhead 184 = .ok (.iaload, 1) := by decide +kernel
theorem dX4_isAhead_185 : decode cX4_isAhead 185 = .ok (.aload_n 0, 1) := by decide +kernel
theorem dX4_isAhead_186 : decode cX4_isAhead 186 = .ok (.getfield 18, 3) := by decide +kernel
theorem dX4_isAhead_189 : decode cX4_isAhead 189 = .ok (.iload_n 2, 1) := by decide +kernel
theorem dX4_isAhead_190 : decode cX4_isAhead 190 = .ok (.iaload, 1) := by decide +kernel
theorem dX4_isAhead_191 : decode cX4_isAhead 191 = .ok (.if_icmp .eq 26, 3) := by decide +kernel
theorem dX4_isAhead_194 : decode cX4_isAhead 194 = .ok (.aload_n 0, 1) := by decide +kernel
theorem dX4_isAhead_195 : decode cX4_isAhead 195 = .ok (.getfield 18, 3) := by decide +kernel
theorem dX4_isAhead_198 : decode cX4_isAhead 198 = .ok (.iload_n 1, 1) := by decide +kernel
theorem dX4_isAhead_199 : decode cX4_isAhead 199 = .ok (.iaload, 1) := by decide +kernel
theorem dX4_isAhead_200 : decode cX4_isAhead 200 = .ok (.aload_n 0, 1) := by decide +kernel
theorem dX4_isAhead_201 : decode cX4_isAhead 201 = .ok (.getfield 18, 3) := by decide +kernel
theorem dX4_isAhead_204 : decode cX4_isAhead 204 = .ok (.iload_n 2, 1) := by decide +kernel
theorem dX4_isAhead_205 : decode cX4_isAhead 205 = .ok (.iaload, 1) := by decide +kernel
theorem dX4_isAhead_206 : decode cX4_isAhead 206 = .ok (.if_icmp .ge 7, 3) := by decide +kernel
theorem dX4_isAhead_209 : decode cX4_isAhead 209 = .ok (.iconst 1, 1) := by decide +kernel
theorem dX4_isAhead_210 : decode cX4_isAhead 210 = .ok (.goto 17, 3) := by decide +kernel
theorem dX4_isAhead_213 : decode cX4_isAhead 213 = .ok (.iconst 0, 1) := by decide +kernel
theorem dX4_isAhead_214 : decode cX4_isAhead 214 = .ok (.goto 13, 3) := by decide +kernel
theorem dX4_isAhead_217 : decode cX4_isAhead 217 = .ok (.iload_n 1, 1) := by decide +kernel
theorem dX4_isAhead_218 : decode cX4_isAhead 218 = .ok (.iload_n 2, 1) := by decide +kernel
theorem dX4_isAhead_219 : decode cX4_isAhead 219 = .ok (.if_icmp .ge 7, 3) := by decide +kernel
theorem dX4_isAhead_222 : decode cX4_isAhead 222 = .ok (.iconst 1, 1) := by decide +kernel
theorem dX4_isAhead_223 : decode cX4_isAhead 223 = .ok (.goto 4, 3) := by decide +kernel
theorem dX4_isAhead_226 : decode cX4_isAhead 226 = .ok (.iconst 0, 1) := by decide +kernel
theorem dX4_isAhead_227 : decode cX4_isAhead 227 = .ok (.ireturn, 1) := by decide +kernel
theorem dX4_compareAuthors_0 : decode cX4_compareAuthors 0 = .ok (.aload_n 0, 1) := by decide +kernel
theorem dX4_compareAuthors_1 : decode cX4_compareAuthors 1 = .ok (.getfield 27, 3) := by decide +kernel
theorem dX4_compareAuthors_4 : decode cX4_compareAuthors 4 = .ok (.iload_n 1, 1) := by decide +kernel
theorem dX4_compareAuthors_5 : decode cX4_compareAuthors 5 = .ok (.iaload, 1) := by decide +kernel
theorem dX4_compareAuthors_6 : decode cX4_compareAuthors 6 = .ok (.aload_n 0, 1) := by decide +kernel
theorem dX4_compareAuthors_7 : decode cX4_compareAuthors 7 = .ok (.getfield 27, 3) := by decide +kernel
theorem dX4_compareAuthors_10 : decode cX4_compareAuthors 10 = .ok (.iload_n 2, 1) := by decide +kernel
theorem dX4_compareAuthors_11 : decode cX4_compareAuthors 11 = .ok (.iaload, 1) := by decide +kernel
theorem dX4_compareAuthors_12 : decode cX4_compareAuthors 12 = .ok (.if_icmp .eq 17, 3) := by decide +kernel
theorem dX4_compareAuthors_15 : decode cX4_compareAuthors 15 = .ok (.aload_n 0, 1) := by decide +kernel
theorem dX4_compareAuthors_16 : decode cX4_compareAuthors 16 = .ok (.getfield 27, 3) := by decide +kernel
theorem dX4_compareAuthors_19 : decode cX4_compareAuthors 19 = .ok (.iload_n 1, 1) := by decide +kernel
theorem dX4_compareAuthors_20 : decode cX4_compareAuthors 20 = .ok (.iaload, 1) := by decide +kernel
theorem dX4_compareAuthors_21 : decode cX4_compareAuthors 21 = .ok (.aload_n 0, 1) := by decide +kernel
theorem dX4_compareAuthors_22 : decode cX4_compareAuthors 22 = .ok (.getfield 27, 3) := by decide +kernel
theorem dX4_compareAuthors_25 : decode cX4_compareAuthors 25 = .ok (.iload_n 2, 1) := by decide +kernel
theorem dX4_compareAuthors_26 : decode cX4_compareAuthors 26 = .ok (.iaload, 1) := by decide +kernel
theorem dX4_compareAuthors_27 : decode cX4_compareAuthors 27 = .ok (.isub, 1) := by decide +kernel
theorem dX4_compareAuthors_28 : decode cX4_compareAuthors 28 = .ok (.ireturn, 1) := by decide +kernel
theorem dX4_compareAuthors_29 : decode cX4_compareAuthors 29 = .ok (.aload_n 0, 1) := by decide +kernel
theorem dX4_compareAuthors_30 : decode cX4_compareAuthors 30 = .ok (.getfield 30, 3) := by decide +kernel
theorem dX4_compareAuthors_33 : decode cX4_compareAuthors 33 = .ok (.iload_n 1, 1) := by decide +kernel
theorem dX4_compareAuthors_34 : decode cX4_compareAuthors 34 = .ok (.iaload, 1) := by decide +kernel
theorem dX4_compareAuthors_35 : decode cX4_compareAuthors 35 = .ok (.aload_n 0, 1) := by decide +kernel
theorem dX4_compareAuthors_36 : decode cX4_compareAuthors 36 = .ok (.getfield 30, 3) := by decide +kernel
theorem dX4_compareAuthors_39 : decode cX4_compareAuthors 39 = .ok (.iload_n 2, 1) := by decide +kernel
theorem dX4_compareAuthors_40 : decode cX4_compareAuthors 40 = .ok (.iaload, 1) := by decide +kernel
theorem dX4_compareAuthors_41 : decode cX4_compareAuthors 41 = .ok (.if_icmp .eq 19, 3) := by decide +kernel
theorem dX4_compareAuthors_44 : decode cX4_compareAuthors 44 = .ok (.aload_n 0, 1) := by decide +kernel
theorem dX4_compareAuthors_45 : decode cX4_compareAuthors 45 = .ok (.getfield 30, 3) := by decide +kernel
theorem dX4_compareAuthors_48 : decode cX4_compareAuthors 48 = .ok (.iload_n 1, 1) := by decide +kernel
theorem dX4_compareAuthors_49 : decode cX4_compareAuthors 49 = .ok (.iaload, 1) := by decide +kernel
theorem dX4_compareAuthors_50 : decode cX4_compareAuthors 50 = .ok (.aload_n 0, 1) := by decide +kernel
theorem dX4_compareAuthors_51 : decode cX4_compareAuthors 51 = .ok (.getfield 30, 3) := by decide +kernel
theorem dX4_compareAuthors_54 : decode cX4_compareAuthors 54 = .ok (.iload_n 2, 1) := by decide +kernel
theorem dX4_compareAuthors_55 : decode cX4_compareAuthors 55 = .ok (.iaload, 1) := by decide +kernel
theorem dX4_compareAuthors_56 : decode cX4_compareAuthors 56 = .ok (.isub, 1) := by decide +kernel
theorem dX4_compareAuthors_57 : decode cX4_compareAuthors 57 = .ok (.goto 16, 3) := by decide +kernel
theorem dX4_compareAuthors_60 : decode cX4_compareAuthors 60 = .ok (.aload_n 0, 1) := by decide +kernel
theorem dX4_compareAuthors_61 : decode cX4_compareAuthors 61 = .ok (.getfield 33, 3) := by decide +kernel
theorem dX4_compareAuthors_64 : decode cX4_compareAuthors 64 = .ok (.iload_n 1, 1) := by decide +kernel
theorem dX4_compareAuthors_65 : decode cX4_compareAuthors 65 = .ok (.iaload, 1) := by decide +kernel
theorem dX4_compareAuthors_66 : decode cX4_compareAuthors 66 = .ok (.aload_n 0, 1) := by decide +kernel
theorem dX4_compareAuthors_67 : decode cX4_compareAuthors 67 = .ok (.getfield 33, 3) := by decide +kernel
theorem dX4_compareAuthors_70 : decode cX4_compareAuthors 70 = .ok (.iload_n 2, 1) := by decide +kernel
theorem dX4_compareAuthors_71 : decode cX4_compareAuthors 71 = .ok (.iaload, 1) := by decide +kernel
theorem dX4_compareAuthors_72 : decode cX4_compareAuthors 72 = .ok (.isub, 1) := by decide +kernel
theorem dX4_compareAuthors_73 : decode cX4_compareAuthors 73 = .ok (.ireturn, 1) := by decide +kernel
theorem dX5_init_0 : decode cX5_init 0 = .ok (.aload_n 0, 1) := by decide +kernel
theorem dX5_init_1 : decode cX5_init 1 = .ok (.invokespecial 3, 3) := by decide +kernel
theorem dX5_init_4 : decode cX5_init 4 = .ok (.aload_n 0, 1) := by decide +kernel
theorem dX5_init_5 : decode cX5_init 5 = .ok (.bipush 10, 2) := by decide +kernel
theorem dX5_init_7 : decode cX5_init 7 = .ok (.newarray .int, 2) := by decide +kernel
theorem dX5_init_9 : decode cX5_init 9 = .ok (.putfield 9, 3) := by decide +kernel
theorem dX5_init_12 : decode cX5_init 12 = .ok (.aload_n 0, 1) := by decide +kernel
theorem dX5_init_13 : decode cX5_init 13 = .ok (.bipush 10, 2) := by decide +kernel
theorem dX5_init_15 : decode cX5_init 15 = .ok (.newarray .int, 2) := by decide +kernel
theorem dX5_init_17 : decode cX5_init 17 = .ok (.putfield 15, 3) := by decide +kernel
theorem dX5_init_20 : decode cX5_init 20 = .ok (.return_, 1) := by decide +kernel
theorem dX5_search_0 : decode cX5_search 0 = .ok (.aload_n 1, 1) := by decide +kernel
theorem dX5_search_1 : decode cX5_search 1 = .ok (.getfield 18, 3) := by decide +kernel
theorem dX5_search_4 : decode cX5_search 4 = .ok (.getfield 24, 3) := by decide +kernel
theorem dX5_search_7 : decode cX5_search 7 = .ok (.iconst 0, 1) := by decide +kernel
theorem dX5_search_8 : decode cX5_search 8 = .ok (.aload_n 0, 1) := by decide +kernel
theorem dX5_search_9 : decode cX5_search 9 = .ok (.getfield 15, 3) := by decide +kernel
theorem dX5_search_12 : decode cX5_search 12 = .ok (.iconst 0, 1) := by decide +kernel
theorem dX5_search_13 : decode cX5_search 13 = .ok (.bipush 10, 2) := by decide +kernel
theorem dX5_search_15 : decode cX5_search 15 = .ok (.invokestatic 29, 3) := by decide +kernel
theorem dX5_search_18 : decode cX5_search 18 = .ok (.aload_n 0, 1) := by decide +kernel
theorem dX5_search_19 : decode cX5_search 19 = .ok (.iconst 0, 1) := by decide +kernel
theorem dX5_search_20 : decode cX5_search 20 = .ok (.putfield 35, 3) := by decide +kernel
theorem dX5_search_23 : decode cX5_search 23 = .ok (.iconst 1, 1) := by decide +kernel
theorem dX5_search_24 : decode cX5_search 24 = .ok (.istore_n 2, 1) := by decide +kernel
theorem dX5_search_25 : decode cX5_search 25 = .ok (.iload_n 2, 1) := by decide +kernel
theorem dX5_search_26 : decode cX5_search 26 = .ok (.iconst 4, 1) := by decide +kernel
theorem dX5_search_27 : decode cX5_search 27 = .ok (.if_icmp .gt 59, 3) := by decide +kernel
theorem dX5_search_30 : decode cX5_search 30 = .ok (.iconst 1, 1) := by decide +kernel
theorem dX5_search_31 : decode cX5_search 31 = .ok (.istore_n 3, 1) := by decide +kernel
theorem dX5_search_32 : decode cX5_search 32 = .ok (.iload_n 3, 1) := by decide +kernel
theorem dX5_search_33 : decode cX5_search 33 = .ok (.iload_n 2, 1) := by decide +kernel
theorem dX5_search_34 : decode cX5_search 34 = .ok (.if_icmp .gt 46, 3) := by decide +kernel
theorem dX5_search_37 : decode cX5_search 37 = .ok (.iconst 0, 1) := by decide +kernel
theorem dX5_search_38 : decode cX5_search 38 = .ok (.istore 4, 2) := by decide +kernel
theorem dX5_search_40 : decode cX5_search 40 = .ok (.iload 4, 2) := by decide +kernel
theorem dX5_search_42 : decode cX5_search 42 = .ok (.bipush 8, 2) := by decide +kernel
theorem dX5_search_44 : decode cX5_search 44 = .ok (.if_icmp .ge 30, 3) := by decide +kernel
theorem dX5_search_47 : decode cX5_search 47 = .ok (.aload_n 0, 1) := by decide +kernel
theorem dX5_search_48 : decode cX5_search 48 = .ok (.iload_n 2, 1) := by decide +kernel
theorem dX5_search_49 : decode cX5_search 49 = .ok (.iload_n 3, 1) := by decide +kernel
theorem dX5_search_50 : decode cX5_search 50 = .ok (.iload 4, 2) := by decide +kernel
theorem dX5_search_52 : decode cX5_search 52 = .ok (.invokevirtual 39, 3) := by decide +kernel
theorem dX5_search_55 : decode cX5_search 55 = .ok (.aload_n 1, 1) := by decide +kernel
theorem dX5_search_56 : decode cX5_search 56 = .ok (.aload_n 0, 1) := by decide +kernel
theorem dX5_search_57 : decode cX5_search 57 = .ok (.getfield 15, 3) := by decide +kernel
theorem dX5_search_60 : decode cX5_search 60 = .ok (.invokevirtual 43, 3) := by decide +kernel
theorem dX5_search_63 : decode cX5_search 63 = .ok (.aload_n 0, 1) := by decide +kernel
theorem dX5_search_64 : decode cX5_search 64 = .ok (.aload_n 1, 1) := by decide +kernel
theorem dX5_search_65 : decode cX5_search 65 = .ok (.invokevirtual 47, 3) := by decide +kernel
theorem dX5_search_68 : decode cX5_search 68 = .ok (.iinc 4 1, 3) := by decide +kernel
theorem dX5_search_71 : decode cX5_search 71 = .ok (.goto (-31), 3) := by decide +kernel
theorem dX5_search_74 : decode cX5_search 74 = .ok (.iinc 3 1, 3) := by decide +kernel
theorem dX5_search_77 : decode cX5_search 77 = .ok (.goto (-45), 3) := by decide +kernel
theorem dX5_search_80 : decode cX5_search 80 = .ok (.iinc 2 1, 3) := by decide +kernel
theorem dX5_search_83 : decode cX5_search 83 = .ok (.goto (-58), 3) := by decide +kernel
theorem dX5_search_86 : decode cX5_search 86 = .ok (.aload_n 1, 1) := by decide +kernel
theorem dX5_search_87 : decode cX5_search 87 = .ok (.aload_n 1, 1) := by decide +kernel
theorem dX5_search_88 : decode cX5_search 88 = .ok (.getfield 18, 3) := by decide +kernel
theorem dX5_search_91 : decode cX5_search 91 = .ok (.getfield 24, 3) := by decide +kernel
theorem dX5_search_94 : decode cX5_search 94 = .ok (.invokevirtual 43, 3) := by decide +kernel
theorem dX5_search_97 : decode cX5_search 97 = .ok (.return_, 1) := by decide +kernel
theorem dX5_setTrial_0 : decode cX5_setTrial 0 = .ok (.aload_n 0, 1) := by decide +kernel
theorem dX5_setTrial_1 : decode cX5_setTrial 1 = .ok (.getfield 15, 3) := by decide +kernel
theorem dX5_setTrial_4 : decode cX5_setTrial 4 = .ok (.iconst 2, 1) := by decide +kernel
theorem dX5_setTrial_5 : decode cX5_setTrial 5 = .ok (.iload_n 1, 1) := by decide +kernel
theorem dX5_setTrial_6 : decode cX5_setTrial 6 = .ok (.iastore, 1) := by decide +kernel
theorem dX5_setTrial_7 : decode cX5_setTrial 7 = .ok (.aload_n 0, 1) := by decide +kernel
theorem dX5_setTrial_8 : decode cX5_setTrial 8 = .ok (.getfield 15, 3) := by decide +kernel
theorem dX5_setTrial_11 : decode cX5_setTrial 11 = .ok (.iconst 3, 1) := by decide +kernel
theorem dX5_setTrial_12 : decode cX5_setTrial 12 = .ok (.iload_n 2, 1) := by decide +kernel
theorem dX5_setTrial_13 : decode cX5_setTrial 13 = .ok (.iastore, 1) := by decide +kernel
theorem dX5_setTrial_14 : decode cX5_setTrial 14 = .ok (.aload_n 0, 1) := by decide +kernel
theorem dX5_setTrial_15 : decode cX5_setTrial 15 = .ok (.getfield 15, 3) := by decide +kernel
theorem dX5_setTrial_18 : decode cX5_setTrial 18 = .ok (.iconst 5, 1) := by decide +kernel
theorem dX5_setTrial_19 : decode cX5_setTrial 19 = .ok (.iload_n 3, 1) := by decide +kernel
theorem dX5_setTrial_20 : decode cX5_setTrial 20 = .ok (.iconst 2, 1) := by decide +kernel
theorem dX5_setTrial_21 : decode cX5_setTrial 21 = .ok (.ishr, 1) := by decide +kernel
theorem dX5_setTrial_22 : decode cX5_setTrial 22 = .ok (.iconst 1, 1) := by decide +kernel
theorem dX5_setTrial_23 : decode cX5_setTrial 23 = .ok (.iand, 1) := by decide +kernel
theorem dX5_setTrial_24 : decode cX5_setTrial 24 = .ok (.iastore, 1) := by decide +kernel
theorem dX5_setTrial_25 : decode cX5_setTrial 25 = .ok (.aload_n 0, 1) := by decide +kernel
theorem dX5_setTrial_26 : decode cX5_setTrial 26 = .ok (.getfield 15, 3) := by decide +kernel
theorem dX5_setTrial_29 : decode cX5_setTrial 29 = .ok (.bipush 6, 2) := by decide +kernel
theorem dX5_setTrial_31 : decode cX5_setTrial 31 = .ok (.iload_n 3, 1) := by decide +kernel
theorem dX5_setTrial_32 : decode cX5_setTrial 32 = .ok (.iconst 1, 1) := by decide +kernel
theorem dX5_setTrial_33 : decode cX5_setTrial 33 = .ok (.ishr, 1) := by decide +kernel
theorem dX5_setTrial_34 : decode cX5_setTrial 34 = .ok (.iconst 1, 1) := by decide +kernel
theorem dX5_setTrial_35 : decode cX5_setTrial 35 = .ok (.iand, 1) := by decide +kernel
theorem dX5_setTrial_36 : decode cX5_setTrial 36 = .ok (.iastore, 1) := by decide +kernel
theorem dX5_setTrial_37 : decode cX5_setTrial 37 = .ok (.aload_n 0, 1) := by decide +kernel
theorem dX5_setTrial_38 : decode cX5_setTrial 38 = .ok (.getfield 15, 3) := by decide +kernel
theorem dX5_setTrial_41 : decode cX5_setTrial 41 = .ok (.bipush 7, 2) := by decide +kernel
theorem dX5_setTrial_43 : decode cX5_setTrial 43 = .ok (.iload_n 3, 1) := by decide +kernel
theorem dX5_setTrial_44 : decode cX5_setTrial 44 = .ok (.iconst 1, 1) := by decide +kernel
theorem dX5_setTrial_45 : decode cX5_setTrial 45 = .ok (.iand, 1) := by decide +kernel
theorem dX5_setTrial_46 : decode cX5_setTrial 46 = .ok (.iastore, 1) := by decide +kernel
theorem dX5_setTrial_47 : decode cX5_setTrial 47 = .ok (.return_, 1) := by decide +kernel
theorem dX5_weigh_0 : decode cX5_weigh 0 = .ok (.aload_n 1, 1) := by decide +kernel
theorem dX5_weigh_1 : decode cX5_weigh 1 = .ok (.invokevirtual 51, 3) := by decide +kernel
theorem dX5_weigh_4 : decode cX5_weigh 4 = .ok (.ifCond .le 4, 3) := by decide +kernel
theorem dX5_weigh_7 : decode cX5_weigh 7 = .ok (.return_, 1) := by decide +kernel
theorem dX5_weigh_8 : decode cX5_weigh 8 = .ok (.aload_n 1, 1) := by decide +kernel
theorem dX5_weigh_9 : decode cX5_weigh 9 = .ok (.invokevirtual 55, 3) := by decide +kernel
theorem dX5_weigh_12 : decode cX5_weigh 12 = .ok (.istore_n 2, 1) := by decide +kernel
theorem dX5_weigh_13 : decode cX5_weigh 13 = .ok (.aload_n 0, 1) := by decide +kernel
theorem dX5_weigh_14 : decode cX5_weigh 14 = .ok (.getfield 35, 3) := by decide +kernel
theorem dX5_weigh_17 : decode cX5_weigh 17 = .ok (.ifCond .eq 11, 3) := by decide +kernel
theorem dX5_weigh_20 : decode cX5_weigh 20 = .ok (.iload_n 2, 1) := by decide +kernel
theorem dX5_weigh_21 : decode cX5_weigh 21 = .ok (.aload_n 0, 1) := by decide +kernel
theorem dX5_weigh_22 : decode cX5_weigh 22 = .ok (.getfield 58, 3) := by decide +kernel
theorem dX5_weigh_25 : decode cX5_weigh 25 = .ok (.if_icmp .ge 28, 3) := by decide +kernel
theorem dX5_weigh_28 : decode cX5_weigh 28 = .ok (.aload_n 0, 1) := by decide +kernel
theorem dX5_weigh_29 : decode cX5_weigh 29 = .ok (.iconst 1, 1) := by decide +kernel
theorem dX5_weigh_30 : decode cX5_weigh 30 = .ok (.putfield 35, 3) := by decide +kernel
theorem dX5_weigh_33 : decode cX5_weigh 33 = .ok (.aload_n 0, 1) := by decide +kernel
theorem dX5_weigh_34 : decode cX5_weigh 34 = .ok (.iload_n 2, 1) := by decide +kernel
theorem dX5_weigh_35 : decode cX5_weigh 35 = .ok (.putfield 58, 3) := by decide +kernel
theorem dX5_weigh_38 : decode cX5_weigh 38 = .ok (.aload_n 0, 1) := by decide +kernel
theorem dX5_weigh_39 : decode cX5_weigh 39 = .ok (.getfield 15, 3) := by decide +kernel
theorem dX5_weigh_42 : decode cX5_weigh 42 = .ok (.iconst 0, 1) := by decide +kernel
theorem dX5_weigh_43 : decode cX5_weigh 43 = .ok (.aload_n 0, 1) := by decide +kernel
theorem dX5_weigh_44 : decode cX5_weigh 44 = .ok (.getfield 9, 3) := by decide +kernel
theorem dX5_weigh_47 : decode cX5_weigh 47 = .ok (.iconst 0, 1) := by decide +kernel
theorem dX5_weigh_48 : decode cX5_weigh 48 = .ok (.bipush 10, 2) := by decide +kernel
theorem dX5_weigh_50 : decode cX5_weigh 50 = .ok (.invokestatic 29, 3) := by decide +kernel
theorem dX5_weigh_53 : decode cX5_weigh 53 = .ok (.return_, 1) := by decide +kernel
theorem dX6_init_0 : decode cX6_init 0 = .ok (.aload_n 0, 1) := by decide +kernel
theorem dX6_init_1 : decode cX6_init 1 = .ok (.invokespecial 3, 3) := by decide +kernel
theorem dX6_init_4 : decode cX6_init 4 = .ok (.aload_n 0, 1) := by decide +kernel
theorem dX6_init_5 : decode cX6_init 5 = .ok (.bipush 24, 2) := by decide +kernel
theorem dX6_init_7 : decode cX6_init 7 = .ok (.newarray .int, 2) := by decide +kernel
theorem dX6_init_9 : decode cX6_init 9 = .ok (.putfield 9, 3) := by decide +kernel
theorem dX6_init_12 : decode cX6_init 12 = .ok (.aload_n 0, 1) := by decide +kernel
theorem dX6_init_13 : decode cX6_init 13 = .ok (.bipush 24, 2) := by decide +kernel
theorem dX6_init_15 : decode cX6_init 15 = .ok (.newarray .int, 2) := by decide +kernel
theorem dX6_init_17 : decode cX6_init 17 = .ok (.putfield 15, 3) := by decide +kernel
theorem dX6_init_20 : decode cX6_init 20 = .ok (.aload_n 0, 1) := by decide +kernel
theorem dX6_init_21 : decode cX6_init 21 = .ok (.bipush 100, 2) := by decide +kernel
theorem dX6_init_23 : decode cX6_init 23 = .ok (.newarray .int, 2) := by decide +kernel
theorem dX6_init_25 : decode cX6_init 25 = .ok (.putfield 18, 3) := by decide +kernel
theorem dX6_init_28 : decode cX6_init 28 = .ok (.aload_n 0, 1) := by decide +kernel
theorem dX6_init_29 : decode cX6_init 29 = .ok (.bipush 100, 2) := by decide +kernel
theorem dX6_init_31 : decode cX6_init 31 = .ok (.newarray .int, 2) := by decide +kernel
theorem dX6_init_33 : decode cX6_init 33 = .ok (.putfield 21, 3) := by decide +kernel
theorem dX6_init_36 : decode cX6_init 36 = .ok (.aload_n 0, 1) := by decide +kernel
theorem dX6_init_37 : decode cX6_init 37 = .ok (.bipush 100, 2) := by decide +kernel
theorem dX6_init_39 : decode cX6_init 39 = .ok (.newarray .int, 2) := by decide +kernel
theorem dX6_init_41 : decode cX6_init 41 = .ok (.putfield 24, 3) := by decide +kernel
theorem dX6_init_44 : decode cX6_init 44 = .ok (.aload_n 0, 1) := by decide +kernel
theorem dX6_init_45 : decode cX6_init 45 = .ok (.bipush 100, 2) := by decide +kernel
theorem dX6_init_47 : decode cX6_init 47 = .ok (.newarray .int, 2) := by decide +kernel
theorem dX6_init_49 : decode cX6_init 49 = .ok (.putfield 27, 3) := by decide +kernel
theorem dX6_init_52 : decode cX6_init 52 = .ok (.aload_n 0, 1) := by decide +kernel
theorem dX6_init_53 : decode cX6_init 53 = .ok (.bipush 24, 2) := by decide +kernel
theorem dX6_init_55 : decode cX6_init 55 = .ok (.newarray .int, 2) := by decide +kernel
theorem dX6_init_57 : decode cX6_init 57 = .ok (.putfield 30, 3) := by decide +kernel
theorem dX6_init_60 : decode cX6_init 60 = .ok (.aload_n 0, 1) := by decide +kernel
theorem dX6_init_61 : decode cX6_init 61 = .ok (.bipush 24, 2) := by decide +kernel
theorem dX6_init_63 : decode cX6_init 63 = .ok (.newarray .int, 2) := by decide +kernel
theorem dX6_init_65 : decode cX6_init 65 = .ok (.putfield 33, 3) := by decide +kernel
theorem dX6_init_68 : decode cX6_init 68 = .ok (.aload_n 0, 1) := by decide +kernel
theorem dX6_init_69 : decode cX6_init 69 = .ok (.bipush 24, 2) := by decide +kernel
theorem dX6_init_71 : decode cX6_init 71 = .ok (.newarray .int, 2) := by decide +kernel
theorem dX6_init_73 : decode cX6_init 73 = .ok (.putfield 36, 3) := by decide +kernel
theorem dX6_init_76 : decode cX6_init 76 = .ok (.aload_n 0, 1) := by decide +kernel
theorem dX6_init_77 : decode cX6_init 77 = .ok (.bipush 24, 2) := by decide +kernel
theorem dX6_init_79 : decode cX6_init 79 = .ok (.newarray .boolean, 2) := by decide +kernel
theorem dX6_init_81 : decode cX6_init 81 = .ok (.putfield 39, 3) := by decide +kernel
theorem dX6_init_84 : decode cX6_init 84 = .ok (.aload_n 0, 1) := by decide +kernel
theorem dX6_init_85 : decode cX6_init 85 = .ok (.bipush 24, 2) := by decide +kernel
theorem dX6_init_87 : decode cX6_init 87 = .ok (.newarray .boolean, 2) := by decide +kernel
theorem dX6_init_89 : decode cX6_init 89 = .ok (.putfield 43, 3) := by decide +kernel
theorem dX6_init_92 : decode cX6_init 92 = .ok (.aload_n 0, 1) := by decide +kernel
theorem dX6_init_93 : decode cX6_init 93 = .ok (.bipush 24, 2) := by decide +kernel
theorem dX6_init_95 : decode cX6_init 95 = .ok (.newarray .int, 2) := by decide +kernel
theorem dX6_init_97 : decode cX6_init 97 = .ok (.putfield 46, 3) := by decide +kernel
theorem dX6_init_100 : decode cX6_init 100 = .ok (.aload_n 0, 1) := by decide +kernel
theorem dX6_init_101 : decode cX6_init 101 = .ok (.aload_n 1, 1) := by decide +kernel
theorem dX6_init_102 : decode cX6_init 102 = .ok (.putfield 49, 3) := by decide +kernel
theorem dX6_init_105 : decode cX6_init 105 = .ok (.aload_n 0, 1) := by decide +kernel
theorem dX6_init_106 : decode cX6_init 106 = .ok (.aload_n 2, 1) := by decide +kernel
theorem dX6_init_107 : decode cX6_init 107 = .ok (.putfield 53, 3) := by decide +kernel
theorem dX6_init_110 : decode cX6_init 110 = .ok (.aload_n 0, 1) := by decide +kernel
theorem dX6_init_111 : decode cX6_init 111 = .ok (.aload_n 3, 1) := by decide +kernel
theorem dX6_init_112 : decode cX6_init 112 = .ok (.putfield 57, 3) := by decide +kernel
theorem dX6_init_115 : decode cX6_init 115 = .ok (.return_, 1) := by decide +kernel
theorem dX6_settle_0 : decode cX6_settle 0 = .ok (.iconst 0, 1) := by decide +kernel
theorem dX6_settle_1 : decode cX6_settle 1 = .ok (.istore_n 1, 1) := by decide +kernel
theorem dX6_settle_2 : decode cX6_settle 2 = .ok (.iload_n 1, 1) := by decide +kernel
theorem dX6_settle_3 : decode cX6_settle 3 = .ok (.aload_n 0, 1) := by decide +kernel
theorem dX6_settle_4 : decode cX6_settle 4 = .ok (.getfield 49, 3) := by decide +kernel
theorem dX6_settle_7 : decode cX6_settle 7 = .ok (.getfield 61, 3) := by decide +kernel
theorem dX6_settle_10 : decode cX6_settle 10 = .ok (.if_icmp .ge 30, 3) := by decide +kernel
theorem dX6_settle_13 : decode cX6_settle 13 = .ok (.aload_n 0, 1) := by decide +kernel
theorem dX6_settle_14 : decode cX6_settle 14 = .ok (.getfield 9, 3) := by decide +kernel
theorem dX6_settle_17 : decode cX6_settle 17 = .ok (.iload_n 1, 1) := by decide +kernel
theorem dX6_settle_18 : decode cX6_settle 18 = .ok (.aload_n 0, 1) := by decide +kernel
theorem dX6_settle_19 : decode cX6_settle 19 = .ok (.getfield 57, 3) := by decide +kernel
theorem dX6_settle_22 : decode cX6_settle 22 = .ok (.iload_n 1, 1) := by decide +kernel
theorem dX6_settle_23 : decode cX6_settle 23 = .ok (.invokevirtual 67, 3) := by decide +kernel
theorem dX6_settle_26 : decode cX6_settle 26 = .ok (.iastore, 1) := by decide +kernel
theorem dX6_settle_27 : decode cX6_settle 27 = .ok (.aload_n 0, 1) := by decide +kernel
theorem dX6_settle_28 : decode cX6_settle 28 = .ok (.getfield 15, 3) := by decide +kernel
theorem dX6_settle_31 : decode cX6_settle 31 = .ok (.iload_n 1, 1) := by decide +kernel
theorem dX6_settle_32 : decode cX6_settle 32 = .ok (.iconst 0, 1) := by decide +kernel
theorem dX6_settle_33 : decode cX6_settle 33 = .ok (.iastore, 1) := by decide +kernel
theorem dX6_settle_34 : decode cX6_settle 34 = .ok (.iinc 1 1, 3) := by decide +kernel
theorem dX6_settle_37 : decode cX6_settle 37 = .ok (.goto (-35), 3) := by decide +kernel
theorem dX6_settle_40 : decode cX6_settle 40 = .ok (.aload_n 0, 1) := by decide +kernel
theorem dX6_settle_41 : decode cX6_settle 41 = .ok (.invokevirtual 73, 3) := by decide +kernel
theorem dX6_settle_44 : decode cX6_settle 44 = .ok (.aload_n 0, 1) := by decide +kernel
theorem dX6_settle_45 : decode cX6_settle 45 = .ok (.invokevirtual 76, 3) := by decide +kernel
theorem dX6_settle_48 : decode cX6_settle 48 = .ok (.aload_n 0, 1) := by decide +kernel
theorem dX6_settle_49 : decode cX6_settle 49 = .ok (.invokevirtual 79, 3) := by decide +kernel
theorem dX6_settle_52 : decode cX6_settle 52 = .ok (.aload_n 0, 1) := by decide +kernel
theorem dX6_settle_53 : decode cX6_settle 53 = .ok (.aload_n 0, 1) := by decide +kernel
theorem dX6_settle_54 : decode cX6_settle 54 = .ok (.getfield 57, 3) := by decide +kernel
theorem dX6_settle_57 : decode cX6_settle 57 = .ok (.getfield 82, 3) := by decide +kernel
theorem dX6_settle_60 : decode cX6_settle 60 = .ok (.invokevirtual 85, 3) := by decide +kernel
theorem dX6_settle_63 : decode cX6_settle 63 = .ok (.return_, 1) := by decide +kernel
theorem dX6_stands_0 : decode cX6_stands 0 = .ok (.iload_n 1, 1) := by decide +kernel
theorem dX6_stands_1 : decode cX6_stands 1 = .ok (.ifCond .lt 28, 3) := by decide +kernel
theorem dX6_stands_4 : decode cX6_stands 4 = .ok (.iload_n 1, 1) := by decide +kernel
theorem dX6_stands_5 : decode cX6_stands 5 = .ok (.aload_n 0, 1) := by decide +kernel
theorem dX6_stands_6 : decode cX6_stands 6 = .ok (.getfield 53, 3) := by decide +kernel
theorem dX6_stands_9 : decode cX6_stands 9 = .ok (.getfield 89, 3) := by decide +kernel
theorem dX6_stands_12 : decode cX6_stands 12 = .ok (.if_icmp .ge 17, 3) := by decide +kernel
theorem dX6_stands_15 : decode cX6_stands 15 = .ok (.aload_n 0, 1) := by decide +kernel
theorem dX6_stands_16 : decode cX6_stands 16 = .ok (.getfield 27, 3) := by decide +kernel
theorem dX6_stands_19 : decode cX6_stands 19 = .ok (.iload_n 1, 1) := by decide +kernel
theorem dX6_stands_20 : decode cX6_stands 20 = .ok (.iaload, 1) := by decide +kernel
theorem dX6_stands_21 : decode cX6_stands 21 = .ok (.iconst (-1), 1) := by decide +kernel
theorem dX6_stands_22 : decode cX6_stands 22 = .ok (.if_icmp .eq 7, 3) := by decide +kernel
theorem dX6_stands_25 : decode cX6_stands 25 = .ok (.iconst 1, 1) := by decide +kernel
theorem dX6_stands_26 : decode cX6_stands 26 = .ok (.goto 4, 3) := by decide +kernel
theorem dX6_stands_29 : decode cX6_stands 29 = .ok (.iconst 0, 1) := by decide +kernel
theorem dX6_stands_30 : decode cX6_stands 30 = .ok (.ireturn, 1) := by decide +kernel
theorem dX6_isCited_0 : decode cX6_isCited 0 = .ok (.aload_n 0, 1) := by decide +kernel
theorem dX6_isCited_1 : decode cX6_isCited 1 = .ok (.getfield 15, 3) := by decide +kernel
theorem dX6_isCited_4 : decode cX6_isCited 4 = .ok (.iload_n 1, 1) := by decide +kernel
theorem dX6_isCited_5 : decode cX6_isCited 5 = .ok (.iaload, 1) := by decide +kernel
theorem dX6_isCited_6 : decode cX6_isCited 6 = .ok (.ifCond .le 7, 3) := by decide +kernel
theorem dX6_isCited_9 : decode cX6_isCited 9 = .ok (.iconst 1, 1) := by decide +kernel
theorem dX6_isCited_10 : decode cX6_isCited 10 = .ok (.goto 4, 3) := by decide +kernel
theorem dX6_isCited_13 : decode cX6_isCited 13 = .ok (.iconst 0, 1) := by decide +kernel
theorem dX6_isCited_14 : decode cX6_isCited 14 = .ok (.ireturn, 1) := by decide +kernel
theorem dX6_meantAt_0 : decode cX6_meantAt 0 = .ok (.aload_n 0, 1) := by decide +kernel
theorem dX6_meantAt_1 : decode cX6_meantAt 1 = .ok (.getfield 9, 3) := by decide +kernel
theorem dX6_meantAt_4 : decode cX6_meantAt 4 = .ok (.aload_n 0, 1) := by decide +kernel
theorem dX6_meantAt_5 : decode cX6_meantAt 5 = .ok (.getfield 53, 3) := by decide +kernel
theorem dX6_meantAt_8 : decode cX6_meantAt 8 = .ok (.getfield 92, 3) := by decide +kernel
theorem dX6_meantAt_11 : decode cX6_meantAt 11 = .ok (.aload_n 0, 1) := by decide +kernel
theorem dX6_meantAt_12 : decode cX6_meantAt 12 = .ok (.getfield 18, 3) := by decide +kernel
theorem dX6_meantAt_15 : decode cX6_meantAt 15 = .ok (.iload_n 1, 1) := by decide +kernel
theorem dX6_meantAt_16 : decode cX6_meantAt 16 = .ok (.iaload, 1) := by decide +kernel
theorem dX6_meantAt_17 : decode cX6_meantAt 17 = .ok (.iaload, 1) := by decide +kernel
theorem dX6_meantAt_18 : decode cX6_meantAt 18 = .ok (.iaload, 1) := by decide +kernel
theorem dX6_meantAt_19 : decode cX6_meantAt 19 = .ok (.ireturn, 1) := by decide +kernel
theorem dX6_meantIn_0 : decode cX6_meantIn 0 = .ok (.aload_n 0, 1) := by decide +kernel
theorem dX6_meantIn_1 : decode cX6_meantIn 1 = .ok (.getfield 9, 3) := by decide +kernel
theorem dX6_meantIn_4 : decode cX6_meantIn 4 = .ok (.aload_n 0, 1) := by decide +kernel
theorem dX6_meantIn_5 : decode cX6_meantIn 5 = .ok (.getfield 53, 3) := by decide +kernel
theorem dX6_meantIn_8 : decode cX6_meantIn 8 = .ok (.getfield 92, 3) := by decide +kernel
theorem dX6_meantIn_11 : decode cX6_meantIn 11 = .ok (.aload_n 0, 1) := by decide +kernel
theorem dX6_meantIn_12 : decode cX6_meantIn 12 = .ok (.getfield 57, 3) := by decide +kernel
theorem dX6_meantIn_15 : decode cX6_meantIn 15 = .ok (.iload_n 1, 1) := by decide +kernel
theorem dX6_meantIn_16 : decode cX6_meantIn 16 = .ok (.iload_n 2, 1) := by decide +kernel
theorem dX6_meantIn_17 : decode cX6_meantIn 17 = .ok (.invokevirtual 95, 3) := by decide +kernel
theorem dX6_meantIn_20 : decode cX6_meantIn 20 = .ok (.iaload, 1) := by decide +kernel
theorem dX6_meantIn_21 : decode cX6_meantIn 21 = .ok (.iaload, 1) := by decide +kernel
theorem dX6_meantIn_22 : decode cX6_meantIn 22 = .ok (.ireturn, 1) := by decide +kernel
theorem dX6_formAt_0 : decode cX6_formAt 0 = .ok (.aload_n 0, 1) := by decide +kernel
theorem dX6_formAt_1 : decode cX6_formAt 1 = .ok (.getfield 57, 3) := by decide +kernel
theorem dX6_formAt_4 : decode cX6_formAt 4 = .ok (.getfield 82, 3) := by decide +kernel
theorem dX6_formAt_7 : decode cX6_formAt 7 = .ok (.iconst 0, 1) := by decide +kernel
theorem dX6_formAt_8 : decode cX6_formAt 8 = .ok (.iaload, 1) := by decide +kernel
theorem dX6_formAt_9 : decode cX6_formAt 9 = .ok (.istore_n 2, 1) := by decide +kernel
theorem dX6_formAt_10 : decode cX6_formAt 10 = .ok (.iload_n 2, 1) := by decide +kernel
theorem dX6_formAt_11 : decode cX6_formAt 11 = .ok (.ifCond .eq 14, 3) := by decide +kernel
theorem dX6_formAt_14 : decode cX6_formAt 14 = .ok (.iload_n 2, 1) := by decide +kernel
theorem dX6_formAt_15 : decode cX6_formAt 15 = .ok (.iconst 1, 1) := by decide +kernel
theorem dX6_formAt_16 : decode cX6_formAt 16 = .ok (.if_icmp .ne 7, 3) := by decide +kernel
theorem dX6_formAt_19 : decode cX6_formAt 19 = .ok (.iconst 4, 1) := by decide +kernel
theorem dX6_formAt_20 : decode cX6_formAt 20 = .ok (.goto 4, 3) := by decide +kernel
theorem dX6_formAt_23 : decode cX6_formAt 23 = .ok (.iconst 5, 1) := by decide +kernel
theorem dX6_formAt_24 : decode cX6_formAt 24 = .ok (.ireturn, 1) := by decide +kernel
theorem dX6_formAt_25 : decode cX6_formAt 25 = .ok (.aload_n 0, 1) := by decide +kernel
theorem dX6_formAt_26 : decode cX6_formAt 26 = .ok (.iload_n 1, 1) := by decide +kernel
theorem dX6_formAt_27 : decode cX6_formAt 27 = .ok (.invokevirtual 99, 3) := by decide +kernel
theorem dX6_formAt_30 : decode cX6_formAt 30 = .ok (.istore_n 3, 1) := by decide +kernel
theorem dX6_formAt_31 : decode cX6_formAt 31 = .ok (.iload_n 1, 1) := by decide +kernel
theorem dX6_formAt_32 : decode cX6_formAt 32 = .ok (.ifCond .eq 12, 3) := by decide +kernel
theorem dX6_formAt_35 : decode cX6_formAt 35 = .ok (.aload_n 0, 1) := by decide +kernel
theorem dX6_formAt_36 : decode cX6_formAt 36 = .ok (.iload_n 1, 1) := by decide +kernel
theorem dX6_formAt_37 : decode cX6_formAt 37 = .ok (.iload_n 3, 1) := by decide +kernel
theorem dX6_formAt_38 : decode cX6_formAt 38 = .ok (.invokevirtual 102, 3) := by decide +kernel
theorem dX6_formAt_41 : decode cX6_formAt 41 = .ok (.ifCond .ne 5, 3) := by decide +kernel
theorem dX6_formAt_44 : decode cX6_formAt 44 = .ok (.iconst 0, 1) := by decide +kernel
theorem dX6_formAt_45 : decode cX6_formAt 45 = .ok (.ireturn, 1) := by decide +kernel
theorem dX6_formAt_46 : decode cX6_formAt 46 = .ok (.aload_n 0, 1) := by decide +kernel
theorem dX6_formAt_47 : decode cX6_formAt 47 = .ok (.iload_n 1, 1) := by decide +kernel
theorem dX6_formAt_48 : decode cX6_formAt 48 = .ok (.iconst 1, 1) := by decide +kernel
theorem dX6_formAt_49 : decode cX6_formAt 49 = .ok (.isub, 1) := by decide +kernel
theorem dX6_formAt_50 : decode cX6_formAt 50 = .ok (.invokevirtual 99, 3) := by decide +kernel
theorem dX6_formAt_53 : decode cX6_formAt 53 = .ok (.iload_n 3, 1) := by decide +kernel
theorem dX6_formAt_54 : decode cX6_formAt 54 = .ok (.if_icmp .ne 14, 3) := by decide +kernel
theorem dX6_formAt_57 : decode cX6_formAt 57 = .ok (.aload_n 0, 1) := by decide +kernel
theorem dX6_formAt_58 : decode cX6_formAt 58 = .ok (.iload_n 1, 1) := by decide +kernel
theorem dX6_formAt_59 : decode cX6_formAt 59 = .ok (.iconst 1, 1) := by decide +kernel
theorem dX6_formAt_60 : decode cX6_formAt 60 = .ok (.isub, 1) := by decide +kernel
theorem dX6_formAt_61 : decode cX6_formAt 61 = .ok (.iload_n 1, 1) := by decide +kernel
theorem dX6_formAt_62 : decode cX6_formAt 62 = .ok (.invokevirtual 106, 3) := by decide +kernel
theorem dX6_formAt_65 : decode cX6_formAt 65 = .ok (.ifCond .ne 5, 3) := by decide +kernel
theorem dX6_formAt_68 : decode cX6_formAt 68 = .ok (.iconst 1, 1) := by decide +kernel
theorem dX6_formAt_69 : decode cX6_formAt 69 = .ok (.ireturn, 1) := by decide +kernel
theorem dX6_formAt_70 : decode cX6_formAt 70 = .ok (.aload_n 0, 1) := by decide +kernel
theorem dX6_formAt_71 : decode cX6_formAt 71 = .ok (.getfield 53, 3) := by decide +kernel
theorem dX6_formAt_74 : decode cX6_formAt 74 = .ok (.getfield 109, 3) := by decide +kernel
theorem dX6_formAt_77 : decode cX6_formAt 77 = .ok (.aload_n 0, 1) := by decide +kernel
theorem dX6_formAt_78 : decode cX6_formAt 78 = .ok (.getfield 18, 3) := by decide +kernel
theorem dX6_formAt_81 : decode cX6_formAt 81 = .ok (.iload_n 1, 1) := by decide +kernel
theorem dX6_formAt_82 : decode cX6_formAt 82 = .ok (.iconst 1, 1) := by decide +kernel
theorem dX6_formAt_83 : decode cX6_formAt 83 = .ok (.isub, 1) := by decide +kernel
theorem dX6_formAt_84 : decode cX6_formAt 84 = .ok (.iaload, 1) := by decide +kernel
theorem dX6_formAt_85 : decode cX6_formAt 85 = .ok (.iaload, 1) := by decide +kernel
theorem dX6_formAt_86 : decode cX6_formAt 86 = .ok (.aload_n 0, 1) := by decide +kernel
theorem dX6_formAt_87 : decode cX6_formAt 87 = .ok (.getfield 53, 3) := by decide +kernel
theorem dX6_formAt_90 : decode cX6_formAt 90 = .ok (.getfield 109, 3) := by decide +kernel
theorem dX6_formAt_93 : decode cX6_formAt 93 = .ok (.aload_n 0, 1) := by decide +kernel
theorem dX6_formAt_94 : decode cX6_formAt 94 = .ok (.getfield 18, 3) := by decide +kernel
theorem dX6_formAt_97 : decode cX6_formAt 97 = .ok (.iload_n 1, 1) := by decide +kernel
theorem dX6_formAt_98 : decode cX6_formAt 98 = .ok (.iaload, 1) := by decide +kernel
theorem dX6_formAt_99 : decode cX6_formAt 99 = .ok (.iaload, 1) := by decide +kernel
theorem dX6_formAt_100 : decode cX6_formAt 100 = .ok (.if_icmp .ne 7, 3) := by decide +kernel
theorem dX6_formAt_103 : decode cX6_formAt 103 = .ok (.iconst 2, 1) := by decide +kernel
theorem dX6_formAt_104 : decode cX6_formAt 104 = .ok (.goto 4, 3) := by decide +kernel
theorem dX6_formAt_107 : decode cX6_formAt 107 = .ok (.iconst 3, 1) := by decide +kernel
theorem dX6_formAt_108 : decode cX6_formAt 108 = .ok (.ireturn, 1) := by decide +kernel
theorem dX6_noteMeans_0 : decode cX6_noteMeans 0 = .ok (.iconst 0, 1) := by decide +kernel
theorem dX6_noteMeans_1 : decode cX6_noteMeans 1 = .ok (.istore_n 3, 1) := by decide +kernel
theorem dX6_noteMeans_2 : decode cX6_noteMeans 2 = .ok (.iload_n 3, 1) := by decide +kernel
theorem dX6_noteMeans_3 : decode cX6_noteMeans 3 = .ok (.aload_n 0, 1) := by decide +kernel
theorem dX6_noteMeans_4 : decode cX6_noteMeans 4 = .ok (.getfield 57, 3) := by decide +kernel
theorem dX6_noteMeans_7 : decode cX6_noteMeans 7 = .ok (.getfield 112, 3) := by decide +kernel
theorem dX6_noteMeans_10 : decode cX6_noteMeans 10 = .ok (.iload_n 1, 1) := by decide +kernel
theorem dX6_noteMeans_11 : decode cX6_noteMeans 11 = .ok (.iaload, 1) := by decide +kernel
theorem dX6_noteMeans_12 : decode cX6_noteMeans 12 = .ok (.if_icmp .ge 21, 3) := by decide +kernel
theorem dX6_noteMeans_15 : decode cX6_noteMeans 15 = .ok (.aload_n 0, 1) := by decide +kernel
theorem dX6_noteMeans_16 : decode cX6_noteMeans 16 = .ok (.iload_n 1, 1) := by decide +kernel
theorem dX6_noteMeans_17 : decode cX6_noteMeans 17 = .ok (.iload_n 3, 1) := by decide +kernel
theorem dX6_noteMeans_18 : decode cX6_noteMeans 18 = .ok (.invokevirtual 115, 3) := by decide +kernel
theorem dX6_noteMeans_21 : decode cX6_noteMeans 21 = .ok (.iload_n 2, 1) := by decide +kernel
theorem dX6_noteMeans_22 : decode cX6_noteMeans 22 = .ok (.if_icmp .ne 5, 3) := by decide +kernel
theorem dX6_noteMeans_25 : decode cX6_noteMeans 25 = .ok (.iconst 1, 1) := by decide +kernel
theorem dX6_noteMeans_26 : decode cX6_noteMeans 26 = .ok (.ireturn, 1) := by decide +kernel
theorem dX6_noteMeans_27 : decode cX6_noteMeans 27 = .ok (.iinc 3 1, 3) := by decide +kernel
theorem dX6_noteMeans_30 : decode cX6_noteMeans 30 = .ok (.goto (-28), 3) := by decide +kernel
theorem dX6_noteMeans_33 : decode cX6_noteMeans 33 = .ok (.iconst 0, 1) := by decide +kernel
theorem dX6_noteMeans_34 : decode cX6_noteMeans 34 = .ok (.ireturn, 1) := by decide +kernel
theorem dX6_worksCalled_0 : decode cX6_worksCalled 0 = .ok (.iconst 0, 1) := by decide +kernel
theorem dX6_worksCalled_1 : decode cX6_worksCalled 1 = .ok (.istore_n 2, 1) := by decide +kernel
theorem dX6_worksCalled_2 : decode cX6_worksCalled 2 = .ok (.iconst 0, 1) := by decide +kernel
theorem dX6_worksCalled_3 : decode cX6_worksCalled 3 = .ok (.istore_n 3, 1) := by decide +kernel
theorem dX6_worksCalled_4 : decode cX6_worksCalled 4 = .ok (.iload_n 3, 1) := by decide +kernel
theorem dX6_worksCalled_5 : decode cX6_worksCalled 5 = .ok (.aload_n 0, 1) := by decide +kernel
theorem dX6_worksCalled_6 : decode cX6_worksCalled 6 = .ok (.getfield 118, 3) := by decide +kernel
theorem dX6_worksCalled_9 : decode cX6_worksCalled 9 = .ok (.if_icmp .ge 32, 3) := by decide +kernel
theorem dX6_worksCalled_12 : decode cX6_worksCalled 12 = .ok (.iload_n 2, 1) := by decide +kernel
theorem dX6_worksCalled_13 : decode cX6_worksCalled 13 = .ok (.aload_n 0, 1) := by decide +kernel
theorem dX6_worksCalled_14 : decode cX6_worksCalled 14 = .ok (.getfield 15, 3) := by decide +kernel
theorem dX6_worksCalled_17 : decode cX6_worksCalled 17 = .ok (.aload_n 0, 1) := by decide +kernel
theorem dX6_worksCalled_18 : decode cX6_worksCalled 18 = .ok (.getfield 30, 3) := by decide +kernel
theorem dX6_worksCalled_21 : decode cX6_worksCalled 21 = .ok (.iload_n 3, 1) := by decide +kernel
theorem dX6_worksCalled_22 : decode cX6_worksCalled 22 = .ok (.iaload, 1) := by decide +kernel
theorem dX6_worksCalled_23 : decode cX6_worksCalled 23 = .ok (.iaload, 1) := by decide +kernel
theorem dX6_worksCalled_24 : decode cX6_worksCalled 24 = .ok (.iload_n 1, 1) := by decide +kernel
theorem dX6_worksCalled_25 : decode cX6_worksCalled 25 = .ok (.if_icmp .lt 7, 3) := by decide +kernel
theorem dX6_worksCalled_28 : decode cX6_worksCalled 28 = .ok (.iconst 1, 1) := by decide +kernel
theorem dX6_worksCalled_29 : decode cX6_worksCalled 29 = .ok (.goto 4, 3) := by decide +kernel
theorem dX6_worksCalled_32 : decode cX6_worksCalled 32 = .ok (.iconst 0, 1) := by decide +kernel
theorem dX6_worksCalled_33 : decode cX6_worksCalled 33 = .ok (.iadd, 1) := by decide +kernel
theorem dX6_worksCalled_34 : decode cX6_worksCalled 34 = .ok (.istore_n 2, 1) := by decide +kernel
theorem dX6_worksCalled_35 : decode cX6_worksCalled 35 = .ok (.iinc 3 1, 3) := by decide +kernel
theorem dX6_worksCalled_38 : decode cX6_worksCalled 38 = .ok (.goto (-34), 3) := by decide +kernel
theorem dX6_worksCalled_41 : decode cX6_worksCalled 41 = .ok (.iload_n 2, 1) := by decide +kernel
theorem dX6_worksCalled_42 : decode cX6_worksCalled 42 = .ok (.ireturn, 1) := by decide +kernel
theorem dX6_unclearWorks_0 : decode cX6_unclearWorks 0 = .ok (.iconst 0, 1) := by decide +kernel
theorem dX6_unclearWorks_1 : decode cX6_unclearWorks 1 = .ok (.istore_n 1, 1) := by decide +kernel
theorem dX6_unclearWorks_2 : decode cX6_unclearWorks 2 = .ok (.iconst 0, 1) := by decide +kernel
theorem dX6_unclearWorks_3 : decode cX6_unclearWorks 3 = .ok (.istore_n 2, 1) := by decide +kernel
theorem dX6_unclearWorks_4 : decode cX6_unclearWorks 4 = .ok (.iload_n 2, 1) := by decide +kernel
theorem dX6_unclearWorks_5 : decode cX6_unclearWorks 5 = .ok (.aload_n 0, 1) := by decide +kernel
theorem dX6_unclearWorks_6 : decode cX6_unclearWorks 6 = .ok (.getfield 118, 3) := by decide +kernel
theorem dX6_unclearWorks_9 : decode cX6_unclearWorks 9 = .ok (.if_icmp .ge 45, 3) := by decide +kernel
theorem dX6_unclearWorks_12 : decode cX6_unclearWorks 12 = .ok (.iload_n 1, 1) := by decide +kernel
theorem dX6_unclearWorks_13 : decode cX6_unclearWorks 13 = .ok (.aload_n 0, 1) := by decide +kernel
theorem dX6_unclearWorks_14 : decode cX6_unclearWorks 14 = .ok (.getfield 43, 3) := by decide +kernel
theorem dX6_unclearWorks_17 : decode cX6_unclearWorks 17 = .ok (.aload_n 0, 1) := by decide +kernel
theorem dX6_unclearWorks_18 : decode cX6_unclearWorks 18 = .ok (.getfield 30, 3) := by decide +kernel
theorem dX6_unclearWorks_21 : decode cX6_unclearWorks 21 = .ok (.iload_n 2, 1) := by decide +kernel
theorem dX6_unclearWorks_22 : decode cX6_unclearWorks 22 = .ok (.iaload, 1) := by decide +kernel
theorem dX6_unclearWorks_23 : decode cX6_unclearWorks 23 = .ok (.baload, 1) := by decide +kernel
theorem dX6_unclearWorks_24 : decode cX6_unclearWorks 24 = .ok (.ifCond .eq 21, 3) := by decide +kernel
theorem dX6_unclearWorks_27 : decode cX6_unclearWorks 27 = .ok (.aload_n 0, 1) := by decide +kernel
theorem dX6_unclearWorks_28 : decode cX6_unclearWorks 28 = .ok (.getfield 46, 3) := by decide +kernel
theorem dX6_unclearWorks_31 : decode cX6_unclearWorks 31 = .ok (.aload_n 0, 1) := by decide +kernel
theorem dX6_unclearWorks_32 : decode cX6_unclearWorks 32 = .ok (.getfield 30, 3) := by decide +kernel
theorem dX6_unclearWorks_35 : decode cX6_unclearWorks 35 = .ok (.iload_n 2, 1) := by decide +kernel
theorem dX6_unclearWorks_36 : decode cX6_unclearWorks 36 = .ok (.iaload, 1) := by decide +kernel
theorem dX6_unclearWorks_37 : decode cX6_unclearWorks 37 = .ok (.iaload, 1) := by decide +kernel
theorem dX6_unclearWorks_38 : decode cX6_unclearWorks 38 = .ok (.ifCond .ne 7, 3) := by decide +kernel
theorem dX6_unclearWorks_41 : decode cX6_unclearWorks 41 = .ok (.iconst 1, 1) := by decide +kernel
theorem dX6_unclearWorks_42 : decode cX6_unclearWorks 42 = .ok (.goto 4, 3) := by decide +kernel
theorem dX6_unclearWorks_45 : decode cX6_unclearWorks 45 = .ok (.iconst 0, 1) := by decide +kernel
theorem dX6_unclearWorks_46 : decode cX6_unclearWorks 46 = .ok (.iadd, 1) := by decide +kernel
theorem dX6_unclearWorks_47 : decode cX6_unclearWorks 47 = .ok (.istore_n 1, 1) := by decide +kernel
theorem dX6_unclearWorks_48 : decode cX6_unclearWorks 48 = .ok (.iinc 2 1, 3) := by decide +kernel
theorem dX6_unclearWorks_51 : decode cX6_unclearWorks 51 = .ok (.goto (-47), 3) := by decide +kernel
theorem dX6_unclearWorks_54 : decode cX6_unclearWorks 54 = .ok (.iload_n 1, 1) := by decide +kernel
theorem dX6_unclearWorks_55 : decode cX6_unclearWorks 55 = .ok (.ireturn, 1) := by decide +kernel
theorem dX6_letteredWorks_0 : decode cX6_letteredWorks 0 = .ok (.iconst 0, 1) := by decide +kernel
theorem dX6_letteredWorks_1 : decode cX6_letteredWorks 1 = .ok (.istore_n 1, 1) := by decide +kernel
theorem dX6_letteredWorks_2 : decode cX6_letteredWorks 2 = .ok (.iconst 0, 1) := by decide +kernel
theorem dX6_letteredWorks_3 : decode cX6_letteredWorks 3 = .ok (.istore_n 2, 1) := by decide +kernel
theorem dX6_letteredWorks_4 : decode cX6_letteredWorks 4 = .ok (.iload_n 2, 1) := by decide +kernel
theorem dX6_letteredWorks_5 : decode cX6_letteredWorks 5 = .ok (.aload_n 0, 1) := by decide +kernel
theorem dX6_letteredWorks_6 : decode cX6_letteredWorks 6 = .ok (.getfield 118, 3) := by decide +kernel
theorem dX6_letteredWorks_9 : decode cX6_letteredWorks 9 = .ok (.if_icmp .ge 31, 3) := by decide +kernel
theorem dX6_letteredWorks_12 : decode cX6_letteredWorks 12 = .ok (.iload_n 1, 1) := by decide +kernel
theorem dX6_letteredWorks_13 : decode cX6_letteredWorks 13 = .ok (.aload_n 0, 1) := by decide +kernel
theorem dX6_letteredWorks_14 : decode cX6_letteredWorks 14 = .ok (.getfield 46, 3) := by decide +kernel
theorem dX6_letteredWorks_17 : decode cX6_letteredWorks 17 = .ok (.aload_n 0, 1) := by decide +kernel
theorem dX6_letteredWorks_18 : decode cX6_letteredWorks 18 = .ok (.getfield 30, 3) := by decide +kernel
theorem dX6_letteredWorks_21 : decode cX6_letteredWorks 21 = .ok (.iload_n 2, 1) := by decide +kernel
theorem dX6_letteredWorks_22 : decode cX6_letteredWorks 22 = .ok (.iaload, 1) := by decide +kernel
theorem dX6_letteredWorks_23 : decode cX6_letteredWorks 23 = .ok (.iaload, 1) := by decide +kernel
theorem dX6_letteredWorks_24 : decode cX6_letteredWorks 24 = .ok (.ifCond .eq 7, 3) := by decide +kernel
theorem dX6_letteredWorks_27 : decode cX6_letteredWorks 27 = .ok (.iconst 1, 1) := by decide +kernel
theorem dX6_letteredWorks_28 : decode cX6_letteredWorks 28 = .ok (.goto 4, 3) := by decide +kernel
theorem dX6_letteredWorks_31 : decode cX6_letteredWorks 31 = .ok (.iconst 0, 1) := by decide +kernel
theorem dX6_letteredWorks_32 : decode cX6_letteredWorks 32 = .ok (.iadd, 1) := by decide +kernel
theorem dX6_letteredWorks_33 : decode cX6_letteredWorks 33 = .ok (.istore_n 1, 1) := by decide +kernel
theorem dX6_letteredWorks_34 : decode cX6_letteredWorks 34 = .ok (.iinc 2 1, 3) := by decide +kernel
theorem dX6_letteredWorks_37 : decode cX6_letteredWorks 37 = .ok (.goto (-33), 3) := by decide +kernel
theorem dX6_letteredWorks_40 : decode cX6_letteredWorks 40 = .ok (.iload_n 1, 1) := by decide +kernel
theorem dX6_letteredWorks_41 : decode cX6_letteredWorks 41 = .ok (.ireturn, 1) := by decide +kernel
theorem dX6_roomOfAll_0 : decode cX6_roomOfAll 0 = .ok (.iconst 0, 1) := by decide +kernel
theorem dX6_roomOfAll_1 : decode cX6_roomOfAll 1 = .ok (.istore_n 1, 1) := by decide +kernel
theorem dX6_roomOfAll_2 : decode cX6_roomOfAll 2 = .ok (.iconst 0, 1) := by decide +kernel
theorem dX6_roomOfAll_3 : decode cX6_roomOfAll 3 = .ok (.istore_n 2, 1) := by decide +kernel
theorem dX6_roomOfAll_4 : decode cX6_roomOfAll 4 = .ok (.iload_n 2, 1) := by decide +kernel
theorem dX6_roomOfAll_5 : decode cX6_roomOfAll 5 = .ok (.aload_n 0, 1) := by decide +kernel
theorem dX6_roomOfAll_6 : decode cX6_roomOfAll 6 = .ok (.getfield 118, 3) := by decide +kernel
theorem dX6_roomOfAll_9 : decode cX6_roomOfAll 9 = .ok (.if_icmp .ge 22, 3) := by decide +kernel
theorem dX6_roomOfAll_12 : decode cX6_roomOfAll 12 = .ok (.iload_n 1, 1) := by decide +kernel
theorem dX6_roomOfAll_13 : decode cX6_roomOfAll 13 = .ok (.aload_n 0, 1) := by decide +kernel
theorem dX6_roomOfAll_14 : decode cX6_roomOfAll 14 = .ok (.aload_n 0, 1) := by decide +kernel
theorem dX6_roomOfAll_15 : decode cX6_roomOfAll 15 = .ok (.getfield 30, 3) := by decide +kernel
theorem dX6_roomOfAll_18 : decode cX6_roomOfAll 18 = .ok (.iload_n 2, 1) := by decide +kernel
theorem dX6_roomOfAll_19 : decode cX6_roomOfAll 19 = .ok (.iaload, 1) := by decide +kernel
theorem dX6_roomOfAll_20 : decode cX6_roomOfAll 20 = .ok (.invokevirtual 121, 3) := by decide +kernel
theorem dX6_roomOfAll_23 : decode cX6_roomOfAll 23 = .ok (.iadd, 1) := by decide +kernel
theorem dX6_roomOfAll_24 : decode cX6_roomOfAll 24 = .ok (.istore_n 1, 1) := by decide +kernel
theorem dX6_roomOfAll_25 : decode cX6_roomOfAll 25 = .ok (.iinc 2 1, 3) := by decide +kernel
theorem dX6_roomOfAll_28 : decode cX6_roomOfAll 28 = .ok (.goto (-24), 3) := by decide +kernel
theorem dX6_roomOfAll_31 : decode cX6_roomOfAll 31 = .ok (.iload_n 1, 1) := by decide +kernel
theorem dX6_roomOfAll_32 : decode cX6_roomOfAll 32 = .ok (.ireturn, 1) := by decide +kernel
theorem dX6_roomOf_0 : decode cX6_roomOf 0 = .ok (.bipush 8, 2) := by decide +kernel
theorem dX6_roomOf_2 : decode cX6_roomOf 2 = .ok (.aload_n 0, 1) := by decide +kernel
theorem dX6_roomOf_3 : decode cX6_roomOf 3 = .ok (.getfield 36, 3) := by decide +kernel
theorem dX6_roomOf_6 : decode cX6_roomOf 6 = .ok (.iload_n 1, 1) := by decide +kernel
theorem dX6_roomOf_7 : decode cX6_roomOf 7 = .ok (.iaload, 1) := by decide +kernel
theorem dX6_roomOf_8 : decode cX6_roomOf 8 = .ok (.imul, 1) := by decide +kernel
theorem dX6_roomOf_9 : decode cX6_roomOf 9 = .ok (.iconst 4, 1) := by decide +kernel
theorem dX6_roomOf_10 : decode cX6_roomOf 10 = .ok (.iadd, 1) := by decide +kernel
theorem dX6_roomOf_11 : decode cX6_roomOf 11 = .ok (.istore_n 2, 1) := by decide +kernel
theorem dX6_roomOf_12 : decode cX6_roomOf 12 = .ok (.iload_n 2, 1) := by decide +kernel
theorem dX6_roomOf_13 : decode cX6_roomOf 13 = .ok (.aload_n 0, 1) := by decide +kernel
theorem dX6_roomOf_14 : decode cX6_roomOf 14 = .ok (.getfield 39, 3) := by decide +kernel
theorem dX6_roomOf_17 : decode cX6_roomOf 17 = .ok (.iload_n 1, 1) := by decide +kernel
theorem dX6_roomOf_18 : decode cX6_roomOf 18 = .ok (.baload, 1) := by decide +kernel
theorem dX6_roomOf_19 : decode cX6_roomOf 19 = .ok (.ifCond .eq 16, 3) := by decide +kernel
theorem dX6_roomOf_22 : decode cX6_roomOf 22 = .ok (.iconst 2, 1) := by decide +kernel
theorem dX6_roomOf_23 : decode cX6_roomOf 23 = .ok (.aload_n 0, 1) := by decide +kernel
theorem dX6_roomOf_24 : decode cX6_roomOf 24 = .ok (.getfield 49, 3) := by decide +kernel
theorem dX6_roomOf_27 : decode cX6_roomOf 27 = .ok (.iload_n 1, 1) := by decide +kernel
theorem dX6_roomOf_28 : decode cX6_roomOf 28 = .ok (.invokevirtual 124, 3) := by decide +kernel
theorem dX6_roomOf_31 : decode cX6_roomOf 31 = .ok (.imul, 1) := by decide +kernel
theorem dX6_roomOf_32 : decode cX6_roomOf 32 = .ok (.goto 4, 3) := by decide +kernel
theorem dX6_roomOf_35 : decode cX6_roomOf 35 = .ok (.iconst 0, 1) := by decide +kernel
theorem dX6_roomOf_36 : decode cX6_roomOf 36 = .ok (.iadd, 1) := by decide +kernel
theorem dX6_roomOf_37 : decode cX6_roomOf 37 = .ok (.istore_n 2, 1) := by decide +kernel
theorem dX6_roomOf_38 : decode cX6_roomOf 38 = .ok (.iload_n 2, 1) := by decide +kernel
theorem dX6_roomOf_39 : decode cX6_roomOf 39 = .ok (.aload_n 0, 1) := by decide +kernel
theorem dX6_roomOf_40 : decode cX6_roomOf 40 = .ok (.getfield 49, 3) := by decide +kernel
theorem dX6_roomOf_43 : decode cX6_roomOf 43 = .ok (.iload_n 1, 1) := by decide +kernel
theorem dX6_roomOf_44 : decode cX6_roomOf 44 = .ok (.aload_n 0, 1) := by decide +kernel
theorem dX6_roomOf_45 : decode cX6_roomOf 45 = .ok (.getfield 36, 3) := by decide +kernel
theorem dX6_roomOf_48 : decode cX6_roomOf 48 = .ok (.iload_n 1, 1) := by decide +kernel
theorem dX6_roomOf_49 : decode cX6_roomOf 49 = .ok (.iaload, 1) := by decide +kernel
theorem dX6_roomOf_50 : decode cX6_roomOf 50 = .ok (.invokevirtual 127, 3) := by decide +kernel
theorem dX6_roomOf_53 : decode cX6_roomOf 53 = .ok (.ifCond .eq 7, 3) := by decide +kernel
theorem dX6_roomOf_56 : decode cX6_roomOf 56 = .ok (.iconst 5, 1) := by decide +kernel
theorem dX6_roomOf_57 : decode cX6_roomOf 57 = .ok (.goto 4, 3) := by decide +kernel
theorem dX6_roomOf_60 : decode cX6_roomOf 60 = .ok (.iconst 0, 1) := by decide +kernel
theorem dX6_roomOf_61 : decode cX6_roomOf 61 = .ok (.iadd, 1) := by decide +kernel
theorem dX6_roomOf_62 : decode cX6_roomOf 62 = .ok (.istore_n 2, 1) := by decide +kernel
theorem dX6_roomOf_63 : decode cX6_roomOf 63 = .ok (.iload_n 2, 1) := by decide +kernel
theorem dX6_roomOf_64 : decode cX6_roomOf 64 = .ok (.aload_n 0, 1) := by decide +kernel
theorem dX6_roomOf_65 : decode cX6_roomOf 65 = .ok (.getfield 46, 3) := by decide +kernel
theorem dX6_roomOf_68 : decode cX6_roomOf 68 = .ok (.iload_n 1, 1) := by decide +kernel
theorem dX6_roomOf_69 : decode cX6_roomOf 69 = .ok (.iaload, 1) := by decide +kernel
theorem dX6_roomOf_70 : decode cX6_roomOf 70 = .ok (.ifCond .eq 7, 3) := by decide +kernel
theorem dX6_roomOf_73 : decode cX6_roomOf 73 = .ok (.iconst 1, 1) := by decide +kernel
theorem dX6_roomOf_74 : decode cX6_roomOf 74 = .ok (.goto 4, 3) := by decide +kernel
theorem dX6_roomOf_77 : decode cX6_roomOf 77 = .ok (.iconst 0, 1) := by decide +kernel
theorem dX6_roomOf_78 : decode cX6_roomOf 78 = .ok (.iadd, 1) := by decide +kernel
theorem dX6_roomOf_79 : decode cX6_roomOf 79 = .ok (.istore_n 2, 1) := by decide +kernel
theorem dX6_roomOf_80 : decode cX6_roomOf 80 = .ok (.iload_n 2, 1) := by decide +kernel
theorem dX6_roomOf_81 : decode cX6_roomOf 81 = .ok (.ireturn, 1) := by decide +kernel
theorem dX6_present_0 : decode cX6_present 0 = .ok (.iconst 0, 1) := by decide +kernel
theorem dX6_present_1 : decode cX6_present 1 = .ok (.istore_n 2, 1) := by decide +kernel
theorem dX6_present_2 : decode cX6_present 2 = .ok (.iload_n 2, 1) := by decide +kernel
theorem dX6_present_3 : decode cX6_present 3 = .ok (.aload_n 0, 1) := by decide +kernel
theorem dX6_present_4 : decode cX6_present 4 = .ok (.getfield 118, 3) := by decide +kernel
theorem dX6_present_7 : decode cX6_present 7 = .ok (.if_icmp .ge 55, 3) := by decide +kernel
theorem dX6_present_10 : decode cX6_present 10 = .ok (.aload_n 0, 1) := by decide +kernel
theorem dX6_present_11 : decode cX6_present 11 = .ok (.getfield 30, 3) := by decide +kernel
theorem dX6_present_14 : decode cX6_present 14 = .ok (.iload_n 2, 1) := by decide +kernel
theorem dX6_present_15 : decode cX6_present 15 = .ok (.iaload, 1) := by decide +kernel
theorem dX6_present_16 : decode cX6_present 16 = .ok (.istore_n 3, 1) := by decide +kernel
theorem dX6_present_17 : decode cX6_present 17 = .ok (.aload_n 0, 1) := by decide +kernel
theorem dX6_present_18 : decode cX6_present 18 = .ok (.getfield 36, 3) := by decide +kernel
theorem dX6_present_21 : decode cX6_present 21 = .ok (.iload_n 3, 1) := by decide +kernel
theorem dX6_present_22 : decode cX6_present 22 = .ok (.aload_n 0, 1) := by decide +kernel
theorem dX6_present_23 : decode cX6_present 23 = .ok (.iload_n 3, 1) := by decide +kernel
theorem dX6_present_24 : decode cX6_present 24 = .ok (.aload_n 1, 1) := by decide +kernel
theorem dX6_present_25 : decode cX6_present 25 = .ok (.invokevirtual 130, 3) := by decide +kernel
theorem dX6_present_28 : decode cX6_present 28 = .ok (.iastore, 1) := by decide +kernel
theorem dX6_present_29 : decode cX6_present 29 = .ok (.aload_n 0, 1) := by decide +kernel
theorem dX6_present_30 : decode cX6_present 30 = .ok (.getfield 39, 3) := by decide +kernel
theorem dX6_present_33 : decode cX6_present 33 = .ok (.iload_n 3, 1) := by decide +kernel
theorem dX6_present_34 : decode cX6_present 34 = .ok (.aload_n 1, 1) := by decide +kernel
theorem dX6_present_35 : decode cX6_present 35 = .ok (.bipush 6, 2) := by decide +kernel
theorem dX6_present_37 : decode cX6_present 37 = .ok (.iaload, 1) := by decide +kernel
theorem dX6_present_38 : decode cX6_present 38 = .ok (.iconst 1, 1) := by decide +kernel
theorem dX6_present_39 : decode cX6_present 39 = .ok (.if_icmp .ne 15, 3) := by decide +kernel
theorem dX6_present_42 : decode cX6_present 42 = .ok (.aload_n 0, 1) := by decide +kernel
theorem dX6_present_43 : decode cX6_present 43 = .ok (.iload_n 3, 1) := by decide +kernel
theorem dX6_present_44 : decode cX6_present 44 = .ok (.invokevirtual 134, 3) := by decide +kernel
theorem dX6_present_47 : decode cX6_present 47 = .ok (.ifCond .eq 7, 3) := by decide +kernel
theorem dX6_present_50 : decode cX6_present 50 = .ok (.iconst 1, 1) := by decide +kernel
theorem dX6_present_51 : decode cX6_present 51 = .ok (.goto 4, 3) := by decide +kernel
theorem dX6_present_54 : decode cX6_present 54 = .ok (.iconst 0, 1) := by decide +kernel
theorem dX6_present_55 : decode cX6_present 55 = .ok (.bastore, 1) := by decide +kernel
theorem dX6_present_56 : decode cX6_present 56 = .ok (.iinc 2 1, 3) := by decide +kernel
theorem dX6_present_59 : decode cX6_present 59 = .ok (.goto (-57), 3) := by decide +kernel
theorem dX6_present_62 : decode cX6_present 62 = .ok (.iconst 0, 1) := by decide +kernel
theorem dX6_present_63 : decode cX6_present 63 = .ok (.istore_n 2, 1) := by decide +kernel
theorem dX6_present_64 : decode cX6_present 64 = .ok (.iload_n 2, 1) := by decide +kernel
theorem dX6_present_65 : decode cX6_present 65 = .ok (.aload_n 0, 1) := by decide +kernel
theorem dX6_present_66 : decode cX6_present 66 = .ok (.getfield 118, 3) := by decide +kernel
theorem dX6_present_69 : decode cX6_present 69 = .ok (.if_icmp .ge 27, 3) := by decide +kernel
theorem dX6_present_72 : decode cX6_present 72 = .ok (.aload_n 0, 1) := by decide +kernel
theorem dX6_present_73 : decode cX6_present 73 = .ok (.iload_n 2, 1) := by decide +kernel
theorem dX6_present_74 : decode cX6_present 74 = .ok (.aload_n 1, 1) := by decide +kernel
theorem dX6_present_75 : decode cX6_present 75 = .ok (.bipush 7, 2) := by decide +kernel
theorem dX6_present_77 : decode cX6_present 77 = .ok (.iaload, 1) := by decide +kernel
theorem dX6_present_78 : decode cX6_present 78 = .ok (.iconst 1, 1) := by decide +kernel
theorem dX6_present_79 : decode cX6_present 79 = .ok (.if_icmp .ne 7, 3) := by decide +kernel
theorem dX6_present_82 : decode cX6_present 82 = .ok (.iconst 1, 1) := by decide +kernel
theorem dX6_present_83 : decode cX6_present 83 = .ok (.goto 4, 3) := by decide +kernel
theorem dX6_present_86 : decode cX6_present 86 = .ok (.iconst 0, 1) := by decide +kernel
theorem dX6_present_87 : decode cX6_present 87 = .ok (.invokevirtual 138, 3) := by decide +kernel
theorem dX6_present_90 : decode cX6_present 90 = .ok (.iinc 2 1, 3) := by decide +kernel
theorem dX6_present_93 : decode cX6_present 93 = .ok (.goto (-29), 3) := by decide +kernel
theorem dX6_present_96 : decode cX6_present 96 = .ok (.return_, 1) := by decide +kernel
theorem dX6_layRow_0 : decode cX6_layRow 0 = .ok (.aload_n 0, 1) := by decide +kernel
theorem dX6_layRow_1 : decode cX6_layRow 1 = .ok (.getfield 27, 3) := by decide +kernel
theorem dX6_layRow_4 : decode cX6_layRow 4 = .ok (.iconst (-1), 1) := by decide +kernel
theorem dX6_layRow_5 : decode cX6_layRow 5 = .ok (.invokestatic 142, 3) := by decide +kernel
theorem dX6_layRow_8 : decode cX6_layRow 8 = .ok (.aload_n 0, 1) := by decide +kernel
theorem dX6_layRow_9 : decode cX6_layRow 9 = .ok (.iconst 0, 1) := by decide +kernel
theorem dX6_layRow_10 : decode cX6_layRow 10 = .ok (.putfield 148, 3) := by decide +kernel
theorem dX6_layRow_13 : decode cX6_layRow 13 = .ok (.iconst 0, 1) := by decide +kernel
theorem dX6_layRow_14 : decode cX6_layRow 14 = .ok (.istore_n 1, 1) := by decide +kernel
theorem dX6_layRow_15 : decode cX6_layRow 15 = .ok (.iload_n 1, 1) := by decide +kernel
theorem dX6_layRow_16 : decode cX6_layRow 16 = .ok (.aload_n 0, 1) := by decide +kernel
theorem dX6_layRow_17 : decode cX6_layRow 17 = .ok (.getfield 57, 3) := by decide +kernel
theorem dX6_layRow_20 : decode cX6_layRow 20 = .ok (.getfield 151, 3) := by decide +kernel
theorem dX6_layRow_23 : decode cX6_layRow 23 = .ok (.if_icmp .ge 99, 3) := by decide +kernel
theorem dX6_layRow_26 : decode cX6_layRow 26 = .ok (.iconst 0, 1) := by decide +kernel
theorem dX6_layRow_27 : decode cX6_layRow 27 = .ok (.istore_n 2, 1) := by decide +kernel
theorem dX6_layRow_28 : decode cX6_layRow 28 = .ok (.iload_n 2, 1) := by decide +kernel
theorem dX6_layRow_29 : decode cX6_layRow 29 = .ok (.aload_n 0, 1) := by decide +kernel
theorem dX6_layRow_30 : decode cX6_layRow 30 = .ok (.getfield 57, 3) := by decide +kernel
theorem dX6_layRow_33 : decode cX6_layRow 33 = .ok (.getfield 112, 3) := by decide +kernel
theorem dX6_layRow_36 : decode cX6_layRow 36 = .ok (.iload_n 1, 1) := by decide +kernel
theorem dX6_layRow_37 : decode cX6_layRow 37 = .ok (.iaload, 1) := by decide +kernel
theorem dX6_layRow_38 : decode cX6_layRow 38 = .ok (.if_icmp .ge 78, 3) := by decide +kernel
theorem dX6_layRow_41 : decode cX6_layRow 41 = .ok (.aload_n 0, 1) := by decide +kernel
theorem dX6_layRow_42 : decode cX6_layRow 42 = .ok (.getfield 148, 3) := by decide +kernel
theorem dX6_layRow_45 : decode cX6_layRow 45 = .ok (.bipush 100, 2) := by decide +kernel
theorem dX6_layRow_47 : decode cX6_layRow 47 = .ok (.if_icmp .ge 69, 3) := by decide +kernel
theorem dX6_layRow_50 : decode cX6_layRow 50 = .ok (.aload_n 0, 1) := by decide +kernel
theorem dX6_layRow_51 : decode cX6_layRow 51 = .ok (.getfield 57, 3) := by decide +kernel
theorem dX6_layRow_54 : decode cX6_layRow 54 = .ok (.iload_n 1, 1) := by decide +kernel
theorem dX6_layRow_55 : decode cX6_layRow 55 = .ok (.iload_n 2, 1) := by decide +kernel
theorem dX6_layRow_56 : decode cX6_layRow 56 = .ok (.invokevirtual 95, 3) := by decide +kernel
theorem dX6_layRow_59 : decode cX6_layRow 59 = .ok (.istore_n 3, 1) := by decide +kernel
theorem dX6_layRow_60 : decode cX6_layRow 60 = .ok (.aload_n 0, 1) := by decide +kernel
theorem dX6_layRow_61 : decode cX6_layRow 61 = .ok (.getfield 18, 3) := by decide +kernel
theorem dX6_layRow_64 : decode cX6_layRow 64 = .ok (.aload_n 0, 1) := by decide +kernel
theorem dX6_layRow_65 : decode cX6_layRow 65 = .ok (.getfield 148, 3) := by decide +kernel
theorem dX6_layRow_68 : decode cX6_layRow 68 = .ok (.iload_n 3, 1) := by decide +kernel
theorem dX6_layRow_69 : decode cX6_layRow 69 = .ok (.iastore, 1) := by decide +kernel
theorem dX6_layRow_70 : decode cX6_layRow 70 = .ok (.aload_n 0, 1) := by decide +kernel
theorem dX6_layRow_71 : decode cX6_layRow 71 = .ok (.getfield 21, 3) := by decide +kernel
theorem dX6_layRow_74 : decode cX6_layRow 74 = .ok (.aload_n 0, 1) := by decide +kernel
theorem dX6_layRow_75 : decode cX6_layRow 75 = .ok (.getfield 148, 3) := by decide +kernel
theorem dX6_layRow_78 : decode cX6_layRow 78 = .ok (.iload_n 1, 1) := by decide +kernel
theorem dX6_layRow_79 : decode cX6_layRow 79 = .ok (.iastore, 1) := by decide +kernel
theorem dX6_layRow_80 : decode cX6_layRow 80 = .ok (.aload_n 0, 1) := by decide +kernel
theorem dX6_layRow_81 : decode cX6_layRow 81 = .ok (.getfield 24, 3) := by decide +kernel
theorem dX6_layRow_84 : decode cX6_layRow 84 = .ok (.aload_n 0, 1) := by decide +kernel
theorem dX6_layRow_85 : decode cX6_layRow 85 = .ok (.getfield 148, 3) := by decide +kernel
theorem dX6_layRow_88 : decode cX6_layRow 88 = .ok (.iload_n 2, 1) := by decide +kernel
theorem dX6_layRow_89 : decode cX6_layRow 89 = .ok (.iastore, 1) := by decide +kernel
theorem dX6_layRow_90 : decode cX6_layRow 90 = .ok (.aload_n 0, 1) := by decide +kernel
theorem dX6_layRow_91 : decode cX6_layRow 91 = .ok (.getfield 27, 3) := by decide +kernel
theorem dX6_layRow_94 : decode cX6_layRow 94 = .ok (.iload_n 3, 1) := by decide +kernel
theorem dX6_layRow_95 : decode cX6_layRow 95 = .ok (.aload_n 0, 1) := by decide +kernel
theorem dX6_layRow_96 : decode cX6_layRow 96 = .ok (.getfield 148, 3) := by decide +kernel
theorem dX6_layRow_99 : decode cX6_layRow 99 = .ok (.iastore, 1) := by decide +kernel
theorem dX6_layRow_100 : decode cX6_layRow 100 = .ok (.aload_n 0, 1) := by decide +kernel
theorem dX6_layRow_101 : decode cX6_layRow 101 = .ok (.dup, 1) := by decide +kernel
theorem dX6_layRow_102 : decode cX6_layRow 102 = .ok (.getfield 148, 3) := by decide +kernel
theorem dX6_layRow_105 : decode cX6_layRow 105 = .ok (.iconst 1, 1) := by decide +kernel
theorem dX6_layRow_106 : decode cX6_layRow 106 = .ok (.iadd, 1) := by decide +kernel
theorem dX6_layRow_107 : decode cX6_layRow 107 = .ok (.putfield 148, 3) := by decide +kernel
theorem dX6_layRow_110 : decode cX6_layRow 110 = .ok (.iinc 2 1, 3) := by decide +kernel
theorem dX6_layRow_113 : decode cX6_layRow 113 = .ok (.goto (-85), 3) := by decide +kernel
theorem dX6_layRow_116 : decode cX6_layRow 116 = .ok (.iinc 1 1, 3) := by decide +kernel
theorem dX6_layRow_119 : decode cX6_layRow 119 = .ok (.goto (-104), 3) := by decide +kernel
theorem dX6_layRow_122 : decode cX6_layRow 122 = .ok (.return_, 1) := by decide +kernel
theorem dX6_findCited_0 : decode cX6_findCited 0 = .ok (.aload_n 0, 1) := by decide +kernel
theorem dX6_findCited_1 : decode cX6_findCited 1 = .ok (.iconst 0, 1) := by decide +kernel
theorem dX6_findCited_2 : decode cX6_findCited 2 = .ok (.putfield 118, 3) := by decide +kernel
theorem dX6_findCited_5 : decode cX6_findCited 5 = .ok (.iconst 0, 1) := by decide +kernel
theorem dX6_findCited_6 : decode cX6_findCited 6 = .ok (.istore_n 1, 1) := by decide +kernel
theorem dX6_findCited_7 : decode cX6_findCited 7 = .ok (.iload_n 1, 1) := by decide +kernel
theorem dX6_findCited_8 : decode cX6_findCited 8 = .ok (.aload_n 0, 1) := by decide +kernel
theorem dX6_findCited_9 : decode cX6_findCited 9 = .ok (.getfield 148, 3) := by decide +kernel
theorem dX6_findCited_12 : decode cX6_findCited 12 = .ok (.if_icmp .ge 54, 3) := by decide +kernel
theorem dX6_findCited_15 : decode cX6_findCited 15 = .ok (.aload_n 0, 1) := by decide +kernel
theorem dX6_findCited_16 : decode cX6_findCited 16 = .ok (.iload_n 1, 1) := by decide +kernel
theorem dX6_findCited_17 : decode cX6_findCited 17 = .ok (.invokevirtual 99, 3) := by decide +kernel
theorem dX6_findCited_20 : decode cX6_findCited 20 = .ok (.istore_n 2, 1) := by decide +kernel
theorem dX6_findCited_21 : decode cX6_findCited 21 = .ok (.aload_n 0, 1) := by decide +kernel
theorem dX6_findCited_22 : decode cX6_findCited 22 = .ok (.getfield 15, 3) := by decide +kernel
theorem dX6_findCited_25 : decode cX6_findCited 25 = .ok (.iload_n 2, 1) := by decide +kernel
theorem dX6_findCited_26 : decode cX6_findCited 26 = .ok (.iaload, 1) := by decide +kernel
theorem dX6_findCited_27 : decode cX6_findCited 27 = .ok (.ifCond .ne 23, 3) := by decide +kernel
theorem dX6_findCited_30 : decode cX6_findCited 30 = .ok (.aload_n 0, 1) := by decide +kernel
theorem dX6_findCited_31 : decode cX6_findCited 31 = .ok (.getfield 30, 3) := by decide +kernel
theorem dX6_findCited_34 : decode cX6_findCited 34 = .ok (.aload_n 0, 1) := by decide +kernel
theorem dX6_findCited_35 : decode cX6_findCited 35 = .ok (.getfield 118, 3) := by decide +kernel
theorem dX6_findCited_38 : decode cX6_findCited 38 = .ok (.iload_n 2, 1) := by decide +kernel
theorem dX6_findCited_39 : decode cX6_findCited 39 = .ok (.iastore, 1) := by decide +kernel
theorem dX6_findCited_40 : decode cX6_findCited 40 = .ok (.aload_n 0, 1) := by decide +kernel
theorem dX6_findCited_41 : decode cX6_findCited 41 = .ok (.dup, 1) := by decide +kernel
theorem dX6_findCited_42 : decode cX6_findCited 42 = .ok (.getfield 118, 3) := by decide +kernel
theorem dX6_findCited_45 : decode cX6_findCited 45 = .ok (.iconst 1, 1) := by decide +kernel
theorem dX6_findCited_46 : decode cX6_findCited 46 = .ok (.iadd, 1) := by decide +kernel
theorem dX6_findCited_47 : decode cX6_findCited 47 = .ok (.putfield 118, 3) := by decide +kernel
theorem dX6_findCited_50 : decode cX6_findCited 50 = .ok (.aload_n 0, 1) := by decide +kernel
theorem dX6_findCited_51 : decode cX6_findCited 51 = .ok (.getfield 15, 3) := by decide +kernel
theorem dX6_findCited_54 : decode cX6_findCited 54 = .ok (.iload_n 2, 1) := by decide +kernel
theorem dX6_findCited_55 : decode cX6_findCited 55 = .ok (.dup2, 1) := by decide +kernel
theorem dX6_findCited_56 : decode cX6_findCited 56 = .ok (.iaload, 1) := by decide +kernel
theorem dX6_findCited_57 : decode cX6_findCited 57 = .ok (.iconst 1, 1) := by decide +kernel
theorem dX6_findCited_58 : decode cX6_findCited 58 = .ok (.iadd, 1) := by decide +kernel
theorem dX6_findCited_59 : decode cX6_findCited 59 = .ok (.iastore, 1) := by decide +kernel
theorem dX6_findCited_60 : decode cX6_findCited 60 = .ok (.iinc 1 1, 3) := by decide +kernel
theorem dX6_findCited_63 : decode cX6_findCited 63 = .ok (.goto (-56), 3) := by decide +kernel
theorem dX6_findCited_66 : decode cX6_findCited 66 = .ok (.return_, 1) := by decide +kernel
theorem dX6_sortList_0 : decode cX6_sortList 0 = .ok (.aload_n 0, 1) := by decide +kernel
theorem dX6_sortList_1 : decode cX6_sortList 1 = .ok (.getfield 57, 3) := by decide +kernel
theorem dX6_sortList_4 : decode cX6_sortList 4 = .ok (.getfield 82, 3) := by decide +kernel
theorem dX6_sortList_7 : decode cX6_sortList 7 = .ok (.iconst 1, 1) := by decide +kernel
theorem dX6_sortList_8 : decode cX6_sortList 8 = .ok (.iaload, 1) := by decide +kernel
theorem dX6_sortList_9 : decode cX6_sortList 9 = .ok (.ifCond .eq 24, 3) := by decide +kernel
theorem dX6_sortList_12 : decode cX6_sortList 12 = .ok (.iconst 1, 1) := by decide +kernel
theorem dX6_sortList_13 : decode cX6_sortList 13 = .ok (.istore_n 1, 1) := by decide +kernel
theorem dX6_sortList_14 : decode cX6_sortList 14 = .ok (.iload_n 1, 1) := by decide +kernel
theorem dX6_sortList_15 : decode cX6_sortList 15 = .ok (.aload_n 0, 1) := by decide +kernel
theorem dX6_sortList_16 : decode cX6_sortList 16 = .ok (.getfield 118, 3) := by decide +kernel
theorem dX6_sortList_19 : decode cX6_sortList 19 = .ok (.if_icmp .ge 14, 3) := by decide +kernel
theorem dX6_sortList_22 : decode cX6_sortList 22 = .ok (.aload_n 0, 1) := by decide +kernel
theorem dX6_sortList_23 : decode cX6_sortList 23 = .ok (.iload_n 1, 1) := by decide +kernel
theorem dX6_sortList_24 : decode cX6_sortList 24 = .ok (.invokevirtual 154, 3) := by decide +kernel
theorem dX6_sortList_27 : decode cX6_sortList 27 = .ok (.iinc 1 1, 3) := by decide +kernel
theorem dX6_sortList_30 : decode cX6_sortList 30 = .ok (.goto (-16), 3) := by decide +kernel
theorem dX6_sortList_33 : decode cX6_sortList 33 = .ok (.iconst 0, 1) := by decide +kernel
theorem dX6_sortList_34 : decode cX6_sortList 34 = .ok (.istore_n 1, 1) := by decide +kernel
theorem dX6_sortList_35 : decode cX6_sortList 35 = .ok (.iload_n 1, 1) := by decide +kernel
theorem dX6_sortList_36 : decode cX6_sortList 36 = .ok (.aload_n 0, 1) := by decide +kernel
theorem dX6_sortList_37 : decode cX6_sortList 37 = .ok (.getfield 118, 3) := by decide +kernel
theorem dX6_sortList_40 : decode cX6_sortList 40 = .ok (.if_icmp .ge 23, 3) := by decide +kernel
theorem dX6_sortList_43 : decode cX6_sortList 43 = .ok (.aload_n 0, 1) := by decide +kernel
theorem dX6_sortList_44 : decode cX6_sortList 44 = .ok (.getfield 33, 3) := by decide +kernel
theorem dX6_sortList_47 : decode cX6_sortList 47 = .ok (.aload_n 0, 1) := by decide +kernel
theorem dX6_sortList_48 : decode cX6_sortList 48 = .ok (.getfield 30, 3) := by decide +kernel
theorem dX6_sortList_51 : decode cX6_sortList 51 = .ok (.iload_n 1, 1) := by decide +kernel
theorem dX6_sortList_52 : decode cX6_sortList 52 = .ok (.iaload, 1) := by decide +kernel
theorem dX6_sortList_53 : decode cX6_sortList 53 = .ok (.iload_n 1, 1) := by decide +kernel
theorem dX6_sortList_54 : decode cX6_sortList 54 = .ok (.iconst 1, 1) := by decide +kernel
theorem dX6_sortList_55 : decode cX6_sortList 55 = .ok (.iadd, 1) := by decide +kernel
theorem dX6_sortList_56 : decode cX6_sortList 56 = .ok (.iastore, 1) := by decide +kernel
theorem dX6_sortList_57 : decode cX6_sortList 57 = .ok (.iinc 1 1, 3) := by decide +kernel
theorem dX6_sortList_60 : decode cX6_sortList 60 = .ok (.goto (-25), 3) := by decide +kernel
theorem dX6_sortList_63 : decode cX6_sortList 63 = .ok (.return_, 1) := by decide +kernel
theorem dX6_sinkToPlace_0 : decode cX6_sinkToPlace 0 = .ok (.aload_n 0, 1) := by decide +kernel
theorem dX6_sinkToPlace_1 : decode cX6_sinkToPlace 1 = .ok (.getfield 30, 3) := by decide +kernel
theorem dX6_sinkToPlace_4 : decode cX6_sinkToPlace 4 = .ok (.iload_n 1, 1) := by decide +kernel
theorem dX6_sinkToPlace_5 : decode cX6_sinkToPlace 5 = .ok (.iaload, 1) := by decide +kernel
theorem dX6_sinkToPlace_6 : decode cX6_sinkToPlace 6 = .ok (.istore_n 2, 1) := by decide +kernel
theorem dX6_sinkToPlace_7 : decode cX6_sinkToPlace 7 = .ok (.iload_n 1, 1) := by decide +kernel
theorem dX6_sinkToPlace_8 : decode cX6_sinkToPlace 8 = .ok (.istore_n 3, 1) := by decide +kernel
theorem dX6_sinkToPlace_9 : decode cX6_sinkToPlace 9 = .ok (.iload_n 3, 1) := by decide +kernel
theorem dX6_sinkToPlace_10 : decode cX6_sinkToPlace 10 = .ok (.ifCond .le 60, 3) := by decide +kernel
theorem dX6_sinkToPlace_13 : decode cX6_sinkToPlace 13 = .ok (.aload_n 0, 1) := by decide +kernel
theorem dX6_sinkToPlace_14 : decode cX6_sinkToPlace 14 = .ok (.getfield 49, 3) := by decide +kernel
theorem dX6_sinkToPlace_17 : decode cX6_sinkToPlace 17 = .ok (.iload_n 2, 1) := by decide +kernel
theorem dX6_sinkToPlace_18 : decode cX6_sinkToPlace 18 = .ok (.aload_n 0, 1) := by decide +kernel
theorem dX6_sinkToPlace_19 : decode cX6_sinkToPlace 19 = .ok (.getfield 30, 3) := by decide +kernel
theorem dX6_sinkToPlace_22 : decode cX6_sinkToPlace 22 = .ok (.iload_n 3, 1) := by decide +kernel
theorem dX6_sinkToPlace_23 : decode cX6_sinkToPlace 23 = .ok (.iconst 1, 1) := by decide +kernel
theorem dX6_sinkToPlace_24 : decode cX6_sinkToPlace 24 = .ok (.isub, 1) := by decide +kernel
theorem dX6_sinkToPlace_25 : decode cX6_sinkToPlace 25 = .ok (.iaload, 1) := by decide +kernel
theorem dX6_sinkToPlace_26 : decode cX6_sinkToPlace 26 = .ok (.aload_n 0, 1) := by decide +kernel
theorem dX6_sinkToPlace_27 : decode cX6_sinkToPlace 27 = .ok (.getfield 57, 3) := by decide +kernel
theorem dX6_sinkToPlace_30 : decode cX6_sinkToPlace 30 = .ok (.getfield 82, 3) := by decide +kernel
theorem dX6_sinkToPlace_33 : decode cX6_sinkToPlace 33 = .ok (.iconst 1, 1) := by decide +kernel
theorem dX6_sinkToPlace_34 : decode cX6_sinkToPlace 34 = .ok (.iaload, 1) := by decide +kernel
theorem dX6_sinkToPlace_35 : decode cX6_sinkToPlace 35 = .ok (.iconst 2, 1) := by decide +kernel
theorem dX6_sinkToPlace_36 : decode cX6_sinkToPlace 36 = .ok (.if_icmp .ne 7, 3) := by decide +kernel
theorem dX6_sinkToPlace_39 : decode cX6_sinkToPlace 39 = .ok (.iconst 1, 1) := by decide +kernel
theorem dX6_sinkToPlace_40 : decode cX6_sinkToPlace 40 = .ok (.goto 4, 3) := by decide +kernel
theorem dX6_sinkToPlace_43 : decode cX6_sinkToPlace 43 = .ok (.iconst 0, 1) := by decide +kernel
theorem dX6_sinkToPlace_44 : decode cX6_sinkToPlace 44 = .ok (.invokevirtual 158, 3) := by decide +kernel
theorem dX6_sinkToPlace_47 : decode cX6_sinkToPlace 47 = .ok (.ifCond .eq 23, 3) := by decide +kernel
theorem dX6_sinkToPlace_50 : decode cX6_sinkToPlace 50 = .ok (.aload_n 0, 1) := by decide +kernel
theorem dX6_sinkToPlace_51 : decode cX6_sinkToPlace 51 = .ok (.getfield 30, 3) := by decide +kernel
theorem dX6_sinkToPlace_54 : decode cX6_sinkToPlace 54 = .ok (.iload_n 3, 1) := by decide +kernel
theorem dX6_sinkToPlace_55 : decode cX6_sinkToPlace 55 = .ok (.aload_n 0, 1) := by decide +kernel
theorem dX6_sinkToPlace_56 : decode cX6_sinkToPlace 56 = .ok (.getfield 30, 3) := by decide +kernel
theorem dX6_sinkToPlace_59 : decode cX6_sinkToPlace 59 = .ok (.iload_n 3, 1) := by decide +kernel
theorem dX6_sinkToPlace_60 : decode cX6_sinkToPlace 60 = .ok (.iconst 1, 1) := by decide +kernel
theorem dX6_sinkToPlace_61 : decode cX6_sinkToPlace 61 = .ok (.isub, 1) := by decide +kernel
theorem dX6_sinkToPlace_62 : decode cX6_sinkToPlace 62 = .ok (.iaload, 1) := by decide +kernel
theorem dX6_sinkToPlace_63 : decode cX6_sinkToPlace 63 = .ok (.iastore, 1) := by decide +kernel
theorem dX6_sinkToPlace_64 : decode cX6_sinkToPlace 64 = .ok (.iinc 3 (-1), 3) := by decide +kernel
theorem dX6_sinkToPlace_67 : decode cX6_sinkToPlace 67 = .ok (.goto (-58), 3) := by decide +kernel
theorem dX6_sinkToPlace_70 : decode cX6_sinkToPlace 70 = .ok (.aload_n 0, 1) := by decide +kernel
theorem dX6_sinkToPlace_71 : decode cX6_sinkToPlace 71 = .ok (.getfield 30, 3) := by decide +kernel
theorem dX6_sinkToPlace_74 : decode cX6_sinkToPlace 74 = .ok (.iload_n 3, 1) := by decide +kernel
theorem dX6_sinkToPlace_75 : decode cX6_sinkToPlace 75 = .ok (.iload_n 2, 1) := by decide +kernel
theorem dX6_sinkToPlace_76 : decode cX6_sinkToPlace 76 = .ok (.iastore, 1) := by decide +kernel
theorem dX6_sinkToPlace_77 : decode cX6_sinkToPlace 77 = .ok (.return_, 1) := by decide +kernel
theorem dX6_isMeantAhead_0 : decode cX6_isMeantAhead 0 = .ok (.iconst 0, 1) := by decide +kernel
theorem dX6_isMeantAhead_1 : decode cX6_isMeantAhead 1 = .ok (.istore_n 3, 1) := by decide +kernel
theorem dX6_isMeantAhead_2 : decode cX6_isMeantAhead 2 = .ok (.iload_n 3, 1) := by decide +kernel
theorem dX6_isMeantAhead_3 : decode cX6_isMeantAhead 3 = .ok (.iload_n 1, 1) := by decide +kernel
theorem dX6_isMeantAhead_4 : decode cX6_isMeantAhead 4 = .ok (.if_icmp .ge 20, 3) := by decide +kernel
theorem dX6_isMeantAhead_7 : decode cX6_isMeantAhead 7 = .ok (.aload_n 0, 1) := by decide +kernel
theorem dX6_isMeantAhead_8 : decode cX6_isMeantAhead 8 = .ok (.iload_n 3, 1) := by decide +kernel
theorem dX6_isMeantAhead_9 : decode cX6_isMeantAhead 9 = .ok (.invokevirtual 99, 3) := by decide +kernel
theorem dX6_isMeantAhead_12 : decode cX6_isMeantAhead 12 = .ok (.iload_n 2, 1) := by decide +kernel
theorem dX6_isMeantAhead_13 : decode cX6_isMeantAhead 13 = .ok (.if_icmp .ne 5, 3) := by decide +kernel
theorem dX6_isMeantAhead_16 : decode cX6_isMeantAhead 16 = .ok (.iconst 1, 1) := by decide +kernel
theorem dX6_isMeantAhead_17 : decode cX6_isMeantAhead 17 = .ok (.ireturn, 1) := by decide +kernel
theorem dX6_isMeantAhead_18 : decode cX6_isMeantAhead 18 = .ok (.iinc 3 1, 3) := by decide +kernel
theorem dX6_isMeantAhead_21 : decode cX6_isMeantAhead 21 = .ok (.goto (-19), 3) := by decide +kernel
theorem dX6_isMeantAhead_24 : decode cX6_isMeantAhead 24 = .ok (.iconst 0, 1) := by decide +kernel
theorem dX6_isMeantAhead_25 : decode cX6_isMeantAhead 25 = .ok (.ireturn, 1) := by decide +kernel
theorem dX6_isNear_0 : decode cX6_isNear 0 = .ok (.aload_n 0, 1) := by decide +kernel
theorem dX6_isNear_1 : decode cX6_isNear 1 = .ok (.getfield 21, 3) := by decide +kernel
theorem dX6_isNear_4 : decode cX6_isNear 4 = .ok (.iload_n 2, 1) := by decide +kernel
theorem dX6_isNear_5 : decode cX6_isNear 5 = .ok (.iaload, 1) := by decide +kernel
theorem dX6_isNear_6 : decode cX6_isNear 6 = .ok (.aload_n 0, 1) := by decide +kernel
theorem dX6_isNear_7 : decode cX6_isNear 7 = .ok (.getfield 21, 3) := by decide +kernel
theorem dX6_isNear_10 : decode cX6_isNear 10 = .ok (.iload_n 1, 1) := by decide +kernel
theorem dX6_isNear_11 : decode cX6_isNear 11 = .ok (.iaload, 1) := by decide +kernel
theorem dX6_isNear_12 : decode cX6_isNear 12 = .ok (.isub, 1) := by decide +kernel
theorem dX6_isNear_13 : decode cX6_isNear 13 = .ok (.istore_n 3, 1) := by decide +kernel
theorem dX6_isNear_14 : decode cX6_isNear 14 = .ok (.iload_n 3, 1) := by decide +kernel
theorem dX6_isNear_15 : decode cX6_isNear 15 = .ok (.ifCond .eq 34, 3) := by decide +kernel
theorem dX6_isNear_18 : decode cX6_isNear 18 = .ok (.iload_n 3, 1) := by decide +kernel
theorem dX6_isNear_19 : decode cX6_isNear 19 = .ok (.aload_n 0, 1) := by decide +kernel
theorem dX6_isNear_20 : decode cX6_isNear 20 = .ok (.getfield 57, 3) := by decide +kernel
theorem dX6_isNear_23 : decode cX6_isNear 23 = .ok (.getfield 82, 3) := by decide +kernel
theorem dX6_isNear_26 : decode cX6_isNear 26 = .ok (.iconst 4, 1) := by decide +kernel
theorem dX6_isNear_27 : decode cX6_isNear 27 = .ok (.iaload, 1) := by decide +kernel
theorem dX6_isNear_28 : decode cX6_isNear 28 = .ok (.if_icmp .gt 25, 3) := by decide +kernel
theorem dX6_isNear_31 : decode cX6_isNear 31 = .ok (.aload_n 0, 1) := by decide +kernel
theorem dX6_isNear_32 : decode cX6_isNear 32 = .ok (.getfield 57, 3) := by decide +kernel
theorem dX6_isNear_35 : decode cX6_isNear 35 = .ok (.getfield 112, 3) := by decide +kernel
theorem dX6_isNear_38 : decode cX6_isNear 38 = .ok (.aload_n 0, 1) := by decide +kernel
theorem dX6_isNear_39 : decode cX6_isNear 39 = .ok (.getfield 21, 3) := by decide +kernel
theorem dX6_isNear_42 : decode cX6_isNear 42 = .ok (.iload_n 1, 1) := by decide +kernel
theorem dX6_isNear_43 : decode cX6_isNear 43 = .ok (.iaload, 1) := by decide +kernel
theorem dX6_isNear_44 : decode cX6_isNear 44 = .ok (.iaload, 1) := by decide +kernel
theorem dX6_isNear_45 : decode cX6_isNear 45 = .ok (.iconst 1, 1) := by decide +kernel
theorem dX6_isNear_46 : decode cX6_isNear 46 = .ok (.if_icmp .ne 7, 3) := by decide +kernel
theorem dX6_isNear_49 : decode cX6_isNear 49 = .ok (.iconst 1, 1) := by decide +kernel
theorem dX6_isNear_50 : decode cX6_isNear 50 = .ok (.goto 4, 3) := by decide +kernel
theorem dX6_isNear_53 : decode cX6_isNear 53 = .ok (.iconst 0, 1) := by decide +kernel
theorem dX6_isNear_54 : decode cX6_isNear 54 = .ok (.ireturn, 1) := by decide +kernel
theorem dX6_authorsShown_0 : decode cX6_authorsShown 0 = .ok (.aload_n 0, 1) := by decide +kernel
theorem dX6_authorsShown_1 : decode cX6_authorsShown 1 = .ok (.getfield 49, 3) := by decide +kernel
theorem dX6_authorsShown_4 : decode cX6_authorsShown 4 = .ok (.getfield 162, 3) := by decide +kernel
theorem dX6_authorsShown_7 : decode cX6_authorsShown 7 = .ok (.iload_n 1, 1) := by decide +kernel
theorem dX6_authorsShown_8 : decode cX6_authorsShown 8 = .ok (.iaload, 1) := by decide +kernel
theorem dX6_authorsShown_9 : decode cX6_authorsShown 9 = .ok (.istore_n 3, 1) := by decide +kernel
theorem dX6_authorsShown_10 : decode cX6_authorsShown 10 = .ok (.iload_n 3, 1) := by decide +kernel
theorem dX6_authorsShown_11 : decode cX6_authorsShown 11 = .ok (.aload_n 2, 1) := by decide +kernel
theorem dX6_authorsShown_12 : decode cX6_authorsShown 12 = .ok (.iconst 2, 1) := by decide +kernel
theorem dX6_authorsShown_13 : decode cX6_authorsShown 13 = .ok (.iaload, 1) := by decide +kernel
theorem dX6_authorsShown_14 : decode cX6_authorsShown 14 = .ok (.if_icmp .gt 7, 3) := by decide +kernel
theorem dX6_authorsShown_17 : decode cX6_authorsShown 17 = .ok (.iload_n 3, 1) := by decide +kernel
theorem dX6_authorsShown_18 : decode cX6_authorsShown 18 = .ok (.goto 6, 3) := by decide +kernel
theorem dX6_authorsShown_21 : decode cX6_authorsShown 21 = .ok (.aload_n 2, 1) := by decide +kernel
theorem dX6_authorsShown_22 : decode cX6_authorsShown 22 = .ok (.iconst 3, 1) := by decide +kernel
theorem dX6_authorsShown_23 : decode cX6_authorsShown 23 = .ok (.iaload, 1) := by decide +kernel
theorem dX6_authorsShown_24 : decode cX6_authorsShown 24 = .ok (.istore 4, 2) := by decide +kernel
theorem dX6_authorsShown_26 : decode cX6_authorsShown 26 = .ok (.aload_n 2, 1) := by decide +kernel
theorem dX6_authorsShown_27 : decode cX6_authorsShown 27 = .ok (.iconst 5, 1) := by decide +kernel
theorem dX6_authorsShown_28 : decode cX6_authorsShown 28 = .ok (.iaload, 1) := by decide +kernel
theorem dX6_authorsShown_29 : decode cX6_authorsShown 29 = .ok (.ifCond .ne 6, 3) := by decide +kernel
theorem dX6_authorsShown_32 : decode cX6_authorsShown 32 = .ok (.iload 4, 2) := by decide +kernel
theorem dX6_authorsShown_34 : decode cX6_authorsShown 34 = .ok (.ireturn, 1) := by decide +kernel
theorem dX6_authorsShown_35 : decode cX6_authorsShown 35 = .ok (.iload 4, 2) := by decide +kernel
theorem dX6_authorsShown_37 : decode cX6_authorsShown 37 = .ok (.istore 5, 2) := by decide +kernel
theorem dX6_authorsShown_39 : decode cX6_authorsShown 39 = .ok (.iload 5, 2) := by decide +kernel
theorem dX6_authorsShown_41 : decode cX6_authorsShown 41 = .ok (.iload_n 3, 1) := by decide +kernel
theorem dX6_authorsShown_42 : decode cX6_authorsShown 42 = .ok (.if_icmp .gt 22, 3) := by decide +kernel
theorem dX6_authorsShown_45 : decode cX6_authorsShown 45 = .ok (.aload_n 0, 1) := by decide +kernel
theorem dX6_authorsShown_46 : decode cX6_authorsShown 46 = .ok (.iload_n 1, 1) := by decide +kernel
theorem dX6_authorsShown_47 : decode cX6_authorsShown 47 = .ok (.iload 5, 2) := by decide +kernel
theorem dX6_authorsShown_49 : decode cX6_authorsShown 49 = .ok (.invokevirtual 165, 3) := by decide +kernel
theorem dX6_authorsShown_52 : decode cX6_authorsShown 52 = .ok (.ifCond .ne 6, 3) := by decide +kernel
theorem dX6_authorsShown_55 : decode cX6_authorsShown 55 = .ok (.iload 5, 2) := by decide +kernel
theorem dX6_authorsShown_57 : decode cX6_authorsShown 57 = .ok (.ireturn, 1) := by decide +kernel
theorem dX6_authorsShown_58 : decode cX6_authorsShown 58 = .ok (.iinc 5 1, 3) := by decide +kernel
theorem dX6_authorsShown_61 : decode cX6_authorsShown 61 = .ok (.goto (-22), 3) := by decide +kernel
theorem dX6_authorsShown_64 : decode cX6_authorsShown 64 = .ok (.iload 4, 2) := by decide +kernel
theorem dX6_authorsShown_66 : decode cX6_authorsShown 66 = .ok (.ireturn, 1) := by decide +kernel
theorem dX6_hasLikeWork_0 : decode cX6_hasLikeWork 0 = .ok (.iconst 0, 1) := by decide +kernel
theorem dX6_hasLikeWork_1 : decode cX6_hasLikeWork 1 = .ok (.istore_n 3, 1) := by decide +kernel
theorem dX6_hasLikeWork_2 : decode cX6_hasLikeWork 2 = .ok (.iload_n 3, 1) := by decide +kernel
theorem dX6_hasLikeWork_3 : decode cX6_hasLikeWork 3 = .ok (.aload_n 0, 1) := by decide +kernel
theorem dX6_hasLikeWork_4 : decode cX6_hasLikeWork 4 = .ok (.getfield 118, 3) := by decide +kernel
theorem dX6_hasLikeWork_7 : decode cX6_hasLikeWork 7 = .ok (.if_icmp .ge 39, 3) := by decide +kernel
theorem dX6_hasLikeWork_10 : decode cX6_hasLikeWork 10 = .ok (.aload_n 0, 1) := by decide +kernel
theorem dX6_hasLikeWork_11 : decode cX6_hasLikeWork 11 = .ok (.getfield 30, 3) := by decide +kernel
theorem dX6_hasLikeWork_14 : decode cX6_hasLikeWork 14 = .ok (.iload_n 3, 1) := by decide +kernel
theorem dX6_hasLikeWork_15 : decode cX6_hasLikeWork 15 = .ok (.iaload, 1) := by decide +kernel
theorem dX6_hasLikeWork_16 : decode cX6_hasLikeWork 16 = .ok (.iload_n 1, 1) := by decide +kernel
theorem dX6_hasLikeWork_17 : decode cX6_hasLikeWork 17 = .ok (.if_icmp .eq 23, 3) := by decide +kernel
theorem dX6_hasLikeWork_20 : decode cX6_hasLikeWork 20 = .ok (.aload_n 0, 1) := by decide +kernel
theorem dX6_hasLikeWork_21 : decode cX6_hasLikeWork 21 = .ok (.getfield 49, 3) := by decide +kernel
theorem dX6_hasLikeWork_24 : decode cX6_hasLikeWork 24 = .ok (.iload_n 1, 1) := by decide +kernel
theorem dX6_hasLikeWork_25 : decode cX6_hasLikeWork 25 = .ok (.aload_n 0, 1) := by decide +kernel
theorem dX6_hasLikeWork_26 : decode cX6_hasLikeWork 26 = .ok (.getfield 30, 3) := by decide +kernel
theorem dX6_hasLikeWork_29 : decode cX6_hasLikeWork 29 = .ok (.iload_n 3, 1) := by decide +kernel
theorem dX6_hasLikeWork_30 : decode cX6_hasLikeWork 30 = .ok (.iaload, 1) := by decide +kernel
theorem dX6_hasLikeWork_31 : decode cX6_hasLikeWork 31 = .ok (.iload_n 2, 1) := by decide +kernel
theorem dX6_hasLikeWork_32 : decode cX6_hasLikeWork 32 = .ok (.invokevirtual 168, 3) := by decide +kernel
theorem dX6_hasLikeWork_35 : decode cX6_hasLikeWork 35 = .ok (.ifCond .eq 5, 3) := by decide +kernel
theorem dX6_hasLikeWork_38 : decode cX6_hasLikeWork 38 = .ok (.iconst 1, 1) := by decide +kernel
theorem dX6_hasLikeWork_39 : decode cX6_hasLikeWork 39 = .ok (.ireturn, 1) := by decide +kernel
theorem dX6_hasLikeWork_40 : decode cX6_hasLikeWork 40 = .ok (.iinc 3 1, 3) := by decide +kernel
theorem dX6_hasLikeWork_43 : decode cX6_hasLikeWork 43 = .ok (.goto (-41), 3) := by decide +kernel
theorem dX6_hasLikeWork_46 : decode cX6_hasLikeWork 46 = .ok (.iconst 0, 1) := by decide +kernel
theorem dX6_hasLikeWork_47 : decode cX6_hasLikeWork 47 = .ok (.ireturn, 1) := by decide +kernel
theorem dX6_hasNamesake_0 : decode cX6_hasNamesake 0 = .ok (.iconst 0, 1) := by decide +kernel
theorem dX6_hasNamesake_1 : decode cX6_hasNamesake 1 = .ok (.istore_n 2, 1) := by decide +kernel
theorem dX6_hasNamesake_2 : decode cX6_hasNamesake 2 = .ok (.iload_n 2, 1) := by decide +kernel
theorem dX6_hasNamesake_3 : decode cX6_hasNamesake 3 = .ok (.aload_n 0, 1) := by decide +kernel
theorem dX6_hasNamesake_4 : decode cX6_hasNamesake 4 = .ok (.getfield 118, 3) := by decide +kernel
theorem dX6_hasNamesake_7 : decode cX6_hasNamesake 7 = .ok (.if_icmp .ge 49, 3) := by decide +kernel
theorem dX6_hasNamesake_10 : decode cX6_hasNamesake 10 = .ok (.aload_n 0, 1) := by decide +kernel
theorem dX6_hasNamesake_11 : decode cX6_hasNamesake 11 = .ok (.getfield 30, 3) := by decide +kernel
theorem dX6_hasNamesake_14 : decode cX6_hasNamesake 14 = .ok (.iload_n 2, 1) := by decide +kernel
theorem dX6_hasNamesake_15 : decode cX6_hasNamesake 15 = .ok (.iaload, 1) := by decide +kernel
theorem dX6_hasNamesake_16 : decode cX6_hasNamesake 16 = .ok (.istore_n 3, 1) := by decide +kernel
theorem dX6_hasNamesake_17 : decode cX6_hasNamesake 17 = .ok (.aload_n 0, 1) := by decide +kernel
theorem dX6_hasNamesake_18 : decode cX6_hasNamesake 18 = .ok (.getfield 49, 3) := by decide +kernel
theorem dX6_hasNamesake_21 : decode cX6_hasNamesake 21 = .ok (.iload_n 3, 1) := by decide +kernel
theorem dX6_hasNamesake_22 : decode cX6_hasNamesake 22 = .ok (.invokevirtual 172, 3) := by decide +kernel
theorem dX6_hasNamesake_25 : decode cX6_hasNamesake 25 = .ok (.aload_n 0, 1) := by decide +kernel
theorem dX6_hasNamesake_26 : decode cX6_hasNamesake 26 = .ok (.getfield 49, 3) := by decide +kernel
theorem dX6_hasNamesake_29 : decode cX6_hasNamesake 29 = .ok (.iload_n 1, 1) := by decide +kernel
theorem dX6_hasNamesake_30 : decode cX6_hasNamesake 30 = .ok (.invokevirtual 172, 3) := by decide +kernel
theorem dX6_hasNamesake_33 : decode cX6_hasNamesake 33 = .ok (.if_icmp .ne 17, 3) := by decide +kernel
theorem dX6_hasNamesake_36 : decode cX6_hasNamesake 36 = .ok (.aload_n 0, 1) := by decide +kernel
theorem dX6_hasNamesake_37 : decode cX6_hasNamesake 37 = .ok (.getfield 49, 3) := by decide +kernel
theorem dX6_hasNamesake_40 : decode cX6_hasNamesake 40 = .ok (.iload_n 3, 1) := by decide +kernel
theorem dX6_hasNamesake_41 : decode cX6_hasNamesake 41 = .ok (.iload_n 1, 1) := by decide +kernel
theorem dX6_hasNamesake_42 : decode cX6_hasNamesake 42 = .ok (.invokevirtual 175, 3) := by decide +kernel
theorem dX6_hasNamesake_45 : decode cX6_hasNamesake 45 = .ok (.ifCond .ne 5, 3) := by decide +kernel
theorem dX6_hasNamesake_48 : decode cX6_hasNamesake 48 = .ok (.iconst 1, 1) := by decide +kernel
theorem dX6_hasNamesake_49 : decode cX6_hasNamesake 49 = .ok (.ireturn, 1) := by decide +kernel
theorem dX6_hasNamesake_50 : decode cX6_hasNamesake 50 = .ok (.iinc 2 1, 3) := by decide +kernel
theorem dX6_hasNamesake_53 : decode cX6_hasNamesake 53 = .ok (.goto (-51), 3) := by decide +kernel
theorem dX6_hasNamesake_56 : decode cX6_hasNamesake 56 = .ok (.iconst 0, 1) := by decide +kernel
theorem dX6_hasNamesake_57 : decode cX6_hasNamesake 57 = .ok (.ireturn, 1) := by decide +kernel
theorem dX6_giveLetter_0 : decode cX6_giveLetter 0 = .ok (.aload_n 0, 1) := by decide +kernel
theorem dX6_giveLetter_1 : decode cX6_giveLetter 1 = .ok (.getfield 30, 3) := by decide +kernel
theorem dX6_giveLetter_4 : decode cX6_giveLetter 4 = .ok (.iload_n 1, 1) := by decide +kernel
theorem dX6_giveLetter_5 : decode cX6_giveLetter 5 = .ok (.iaload, 1) := by decide +kernel
theorem dX6_giveLetter_6 : decode cX6_giveLetter 6 = .ok (.istore_n 3, 1) := by decide +kernel
theorem dX6_giveLetter_7 : decode cX6_giveLetter 7 = .ok (.iconst 0, 1) := by decide +kernel
theorem dX6_giveLetter_8 : decode cX6_giveLetter 8 = .ok (.istore 4, 2) := by decide +kernel
theorem dX6_giveLetter_10 : decode cX6_giveLetter 10 = .ok (.iconst 0, 1) := by decide +kernel
theorem dX6_giveLetter_11 : decode cX6_giveLetter 11 = .ok (.istore 5, 2) := by decide +kernel
theorem dX6_giveLetter_13 : decode cX6_giveLetter 13 = .ok (.iconst 0, 1) := by decide +kernel
theorem dX6_giveLetter_14 : decode cX6_giveLetter 14 = .ok (.istore 6, 2) := by decide +kernel
theorem dX6_giveLetter_16 : decode cX6_giveLetter 16 = .ok (.iload 6, 2) := by decide +kernel
theorem dX6_giveLetter_18 : decode cX6_giveLetter 18 = .ok (.aload_n 0, 1) := by decide +kernel
theorem dX6_giveLetter_19 : decode cX6_giveLetter 19 = .ok (.getfield 118, 3) := by decide +kernel
theorem dX6_giveLetter_22 : decode cX6_giveLetter 22 = .ok (.if_icmp .ge 49, 3) := by decide +kernel
theorem dX6_giveLetter_25 : decode cX6_giveLetter 25 = .ok (.iload 6, 2) := by decide +kernel
theorem dX6_giveLetter_27 : decode cX6_giveLetter 27 = .ok (.iload_n 1, 1) := by decide +kernel
theorem dX6_giveLetter_28 : decode cX6_giveLetter 28 = .ok (.if_icmp .eq 37, 3) := by decide +kernel
theorem dX6_giveLetter_31 : decode cX6_giveLetter 31 = .ok (.aload_n 0, 1) := by decide +kernel
theorem dX6_giveLetter_32 : decode cX6_giveLetter 32 = .ok (.iload_n 3, 1) := by decide +kernel
theorem dX6_giveLetter_33 : decode cX6_giveLetter 33 = .ok (.aload_n 0, 1) := by decide +kernel
theorem dX6_giveLetter_34 : decode cX6_giveLetter 34 = .ok (.getfield 30, 3) := by decide +kernel
theorem dX6_giveLetter_37 : decode cX6_giveLetter 37 = .ok (.iload 6, 2) := by decide +kernel
theorem dX6_giveLetter_39 : decode cX6_giveLetter 39 = .ok (.iaload, 1) := by decide +kernel
theorem dX6_giveLetter_40 : decode cX6_giveLetter 40 = .ok (.invokevirtual 178, 3) := by decide +kernel
theorem dX6_giveLetter_43 : decode cX6_giveLetter 43 = .ok (.ifCond .eq 22, 3) := by decide +kernel
theorem dX6_giveLetter_46 : decode cX6_giveLetter 46 = .ok (.iconst 1, 1) := by decide +kernel
theorem dX6_giveLetter_47 : decode cX6_giveLetter 47 = .ok (.istore 5, 2) := by decide +kernel
theorem dX6_giveLetter_49 : decode cX6_giveLetter 49 = .ok (.iload 4, 2) := by decide +kernel
theorem dX6_giveLetter_51 : decode cX6_giveLetter 51 = .ok (.iload 6, 2) := by decide +kernel
theorem dX6_giveLetter_53 : decode cX6_giveLetter 53 = .ok (.iload_n 1, 1) := by decide +kernel
theorem dX6_giveLetter_54 : decode cX6_giveLetter 54 = .ok (.if_icmp .ge 7, 3) := by decide +kernel
theorem dX6_giveLetter_57 : decode cX6_giveLetter 57 = .ok (.iconst 1, 1) := by decide +kernel
theorem dX6_giveLetter_58 : decode cX6_giveLetter 58 = .ok (.goto 4, 3) := by decide +kernel
theorem dX6_giveLetter_61 : decode cX6_giveLetter 61 = .ok (.iconst 0, 1) := by decide +kernel
theorem dX6_giveLetter_62 : decode cX6_giveLetter 62 = .ok (.iadd, 1) := by decide +kernel
theorem dX6_giveLetter_63 : decode cX6_giveLetter 63 = .ok (.istore 4, 2) := by decide +kernel
theorem dX6_giveLetter_65 : decode cX6_giveLetter 65 = .ok (.iinc 6 1, 3) := by decide +kernel
theorem dX6_giveLetter_68 : decode cX6_giveLetter 68 = .ok (.goto (-52), 3) := by decide +kernel
theorem dX6_giveLetter_71 : decode cX6_giveLetter 71 = .ok (.aload_n 0, 1) := by decide +kernel
theorem dX6_giveLetter_72 : decode cX6_giveLetter 72 = .ok (.getfield 43, 3) := by decide +kernel
theorem dX6_giveLetter_75 : decode cX6_giveLetter 75 = .ok (.iload_n 3, 1) := by decide +kernel
theorem dX6_giveLetter_76 : decode cX6_giveLetter 76 = .ok (.iload 5, 2) := by decide +kernel
theorem dX6_giveLetter_78 : decode cX6_giveLetter 78 = .ok (.bastore, 1) := by decide +kernel
theorem dX6_giveLetter_79 : decode cX6_giveLetter 79 = .ok (.aload_n 0, 1) := by decide +kernel
theorem dX6_giveLetter_80 : decode cX6_giveLetter 80 = .ok (.getfield 46, 3) := by decide +kernel
theorem dX6_giveLetter_83 : decode cX6_giveLetter 83 = .ok (.iload_n 3, 1) := by decide +kernel
theorem dX6_giveLetter_84 : decode cX6_giveLetter 84 = .ok (.iload 5, 2) := by decide +kernel
theorem dX6_giveLetter_86 : decode cX6_giveLetter 86 = .ok (.ifCond .eq 14, 3) := by decide +kernel
theorem dX6_giveLetter_89 : decode cX6_giveLetter 89 = .ok (.iload_n 2, 1) := by decide +kernel
theorem dX6_giveLetter_90 : decode cX6_giveLetter 90 = .ok (.ifCond .eq 10, 3) := by decide +kernel
theorem dX6_giveLetter_93 : decode cX6_giveLetter 93 = .ok (.iload 4, 2) := by decide +kernel
theorem dX6_giveLetter_95 : decode cX6_giveLetter 95 = .ok (.iconst 1, 1) := by decide +kernel
theorem dX6_giveLetter_96 : decode cX6_giveLetter 96 = .ok (.iadd, 1) := by decide +kernel
theorem dX6_giveLetter_97 : decode cX6_giveLetter 97 = .ok (.goto 4, 3) := by decide +kernel
theorem dX6_giveLetter_100 : decode cX6_giveLetter 100 = .ok (.iconst 0, 1) := by decide +kernel
theorem dX6_giveLetter_101 : decode cX6_giveLetter 101 = .ok (.iastore, 1) := by decide +kernel
theorem dX6_giveLetter_102 : decode cX6_giveLetter 102 = .ok (.return_, 1) := by decide +kernel
theorem dX6_looksAlike_0 : decode cX6_looksAlike 0 = .ok (.aload_n 0, 1) := by decide +kernel
theorem dX6_looksAlike_1 : decode cX6_looksAlike 1 = .ok (.getfield 36, 3) := by decide +kernel
theorem dX6_looksAlike_4 : decode cX6_looksAlike 4 = .ok (.iload_n 1, 1) := by decide +kernel
theorem dX6_looksAlike_5 : decode cX6_looksAlike 5 = .ok (.iaload, 1) := by decide +kernel
theorem dX6_looksAlike_6 : decode cX6_looksAlike 6 = .ok (.aload_n 0, 1) := by decide +kernel
theorem dX6_looksAlike_7 : decode cX6_looksAlike 7 = .ok (.getfield 36, 3) := by decide +kernel
theorem dX6_looksAlike_10 : decode cX6_looksAlike 10 = .ok (.iload_n 2, 1) := by decide +kernel
theorem dX6_looksAlike_11 : decode cX6_looksAlike 11 = .ok (.iaload, 1) := by decide +kernel
theorem dX6_looksAlike_12 : decode cX6_looksAlike 12 = .ok (.if_icmp .ne 61, 3) := by decide +kernel
theorem dX6_looksAlike_15 : decode cX6_looksAlike 15 = .ok (.aload_n 0, 1) := by decide +kernel
theorem dX6_looksAlike_16 : decode cX6_looksAlike 16 = .ok (.getfield 49, 3) := by decide +kernel
theorem dX6_looksAlike_19 : decode cX6_looksAlike 19 = .ok (.iload_n 1, 1) := by decide +kernel
theorem dX6_looksAlike_20 : decode cX6_looksAlike 20 = .ok (.iload_n 2, 1) := by decide +kernel
theorem dX6_looksAlike_21 : decode cX6_looksAlike 21 = .ok (.aload_n 0, 1) := by decide +kernel
theorem dX6_looksAlike_22 : decode cX6_looksAlike 22 = .ok (.getfield 36, 3) := by decide +kernel
theorem dX6_looksAlike_25 : decode cX6_looksAlike 25 = .ok (.iload_n 1, 1) := by decide +kernel
theorem dX6_looksAlike_26 : decode cX6_looksAlike 26 = .ok (.iaload, 1) := by decide +kernel
theorem dX6_looksAlike_27 : decode cX6_looksAlike 27 = .ok (.invokevirtual 168, 3) := by decide +kernel
theorem dX6_looksAlike_30 : decode cX6_looksAlike 30 = .ok (.ifCond .eq 43, 3) := by decide +kernel
theorem dX6_looksAlike_33 : decode cX6_looksAlike 33 = .ok (.aload_n 0, 1) := by decide +kernel
theorem dX6_looksAlike_34 : decode cX6_looksAlike 34 = .ok (.getfield 39, 3) := by decide +kernel
theorem dX6_looksAlike_37 : decode cX6_looksAlike 37 = .ok (.iload_n 1, 1) := by decide +kernel
theorem dX6_looksAlike_38 : decode cX6_looksAlike 38 = .ok (.baload, 1) := by decide +kernel
theorem dX6_looksAlike_39 : decode cX6_looksAlike 39 = .ok (.aload_n 0, 1) := by decide +kernel
theorem dX6_looksAlike_40 : decode cX6_looksAlike 40 = .ok (.getfield 39, 3) := by decide +kernel
theorem dX6_looksAlike_43 : decode cX6_looksAlike 43 = .ok (.iload_n 2, 1) := by decide +kernel
theorem dX6_looksAlike_44 : decode cX6_looksAlike 44 = .ok (.baload, 1) := by decide +kernel
theorem dX6_looksAlike_45 : decode cX6_looksAlike 45 = .ok (.if_icmp .ne 28, 3) := by decide +kernel
theorem dX6_looksAlike_48 : decode cX6_looksAlike 48 = .ok (.aload_n 0, 1) := by decide +kernel
theorem dX6_looksAlike_49 : decode cX6_looksAlike 49 = .ok (.getfield 39, 3) := by decide +kernel
theorem dX6_looksAlike_52 : decode cX6_looksAlike 52 = .ok (.iload_n 1, 1) := by decide +kernel
theorem dX6_looksAlike_53 : decode cX6_looksAlike 53 = .ok (.baload, 1) := by decide +kernel
theorem dX6_looksAlike_54 : decode cX6_looksAlike 54 = .ok (.ifCond .eq 15, 3) := by decide +kernel
theorem dX6_looksAlike_57 : decode cX6_looksAlike 57 = .ok (.aload_n 0, 1) := by decide +kernel
theorem dX6_looksAlike_58 : decode cX6_looksAlike 58 = .ok (.getfield 49, 3) := by decide +kernel
theorem dX6_looksAlike_61 : decode cX6_looksAlike 61 = .ok (.iload_n 1, 1) := by decide +kernel
theorem dX6_looksAlike_62 : decode cX6_looksAlike 62 = .ok (.iload_n 2, 1) := by decide +kernel
theorem dX6_looksAlike_63 : decode cX6_looksAlike 63 = .ok (.invokevirtual 175, 3) := by decide +kernel
theorem dX6_looksAlike_66 : decode cX6_looksAlike 66 = .ok (.ifCond .eq 7, 3) := by decide +kernel
theorem dX6_looksAlike_69 : decode cX6_looksAlike 69 = .ok (.iconst 1, 1) := by decide +kernel
theorem dX6_looksAlike_70 : decode cX6_looksAlike 70 = .ok (.goto 4, 3) := by decide +kernel
theorem dX6_looksAlike_73 : decode cX6_looksAlike 73 = .ok (.iconst 0, 1) := by decide +kernel
theorem dX6_looksAlike_74 : decode cX6_looksAlike 74 = .ok (.ireturn, 1) := by decide +kernel
theorem dX7_init_0 : decode cX7_init 0 = .ok (.aload_n 0, 1) := by decide +kernel
theorem dX7_init_1 : decode cX7_init 1 = .ok (.invokespecial 1, 3) := by decide +kernel
theorem dX7_init_4 : decode cX7_init 4 = .ok (.aload_n 0, 1) := by decide +kernel
theorem dX7_init_5 : decode cX7_init 5 = .ok (.new 7, 3) := by decide +kernel
theorem dX7_init_8 : decode cX7_init 8 = .ok (.dup, 1) := by decide +kernel
theorem dX7_init_9 : decode cX7_init 9 = .ok (.invokespecial 9, 3) := by decide +kernel
theorem dX7_init_12 : decode cX7_init 12 = .ok (.putfield 10, 3) := by decide +kernel
theorem dX7_init_15 : decode cX7_init 15 = .ok (.aload_n 0, 1) := by decide +kernel
theorem dX7_init_16 : decode cX7_init 16 = .ok (.new 16, 3) := by decide +kernel
theorem dX7_init_19 : decode cX7_init 19 = .ok (.dup, 1) := by decide +kernel
theorem dX7_init_20 : decode cX7_init 20 = .ok (.invokespecial 18, 3) := by decide +kernel
theorem dX7_init_23 : decode cX7_init 23 = .ok (.putfield 19, 3) := by decide +kernel
theorem dX7_init_26 : decode cX7_init 26 = .ok (.aload_n 0, 1) := by decide +kernel
theorem dX7_init_27 : decode cX7_init 27 = .ok (.new 23, 3) := by decide +kernel
theorem dX7_init_30 : decode cX7_init 30 = .ok (.dup, 1) := by decide +kernel
theorem dX7_init_31 : decode cX7_init 31 = .ok (.invokespecial 25, 3) := by decide +kernel
theorem dX7_init_34 : decode cX7_init 34 = .ok (.putfield 26, 3) := by decide +kernel
theorem dX7_init_37 : decode cX7_init 37 = .ok (.aload_n 0, 1) := by decide +kernel
theorem dX7_init_38 : decode cX7_init 38 = .ok (.new 30, 3) := by decide +kernel
theorem dX7_init_41 : decode cX7_init 41 = .ok (.dup, 1) := by decide +kernel
theorem dX7_init_42 : decode cX7_init 42 = .ok (.aload_n 0, 1) := by decide +kernel
theorem dX7_init_43 : decode cX7_init 43 = .ok (.getfield 10, 3) := by decide +kernel
theorem dX7_init_46 : decode cX7_init 46 = .ok (.aload_n 0, 1) := by decide +kernel
theorem dX7_init_47 : decode cX7_init 47 = .ok (.getfield 19, 3) := by decide +kernel
theorem dX7_init_50 : decode cX7_init 50 = .ok (.aload_n 0, 1) := by decide +kernel
theorem dX7_init_51 : decode cX7_init 51 = .ok (.getfield 26, 3) := by decide +kernel
theorem dX7_init_54 : decode cX7_init 54 = .ok (.invokespecial 32, 3) := by decide +kernel
theorem dX7_init_57 : decode cX7_init 57 = .ok (.putfield 35, 3) := by decide +kernel
theorem dX7_init_60 : decode cX7_init 60 = .ok (.aload_n 0, 1) := by decide +kernel
theorem dX7_init_61 : decode cX7_init 61 = .ok (.new 23, 3) := by decide +kernel
theorem dX7_init_64 : decode cX7_init 64 = .ok (.dup, 1) := by decide +kernel
theorem dX7_init_65 : decode cX7_init 65 = .ok (.invokespecial 25, 3) := by decide +kernel
theorem dX7_init_68 : decode cX7_init 68 = .ok (.putfield 39, 3) := by decide +kernel
theorem dX7_init_71 : decode cX7_init 71 = .ok (.aload_n 0, 1) := by decide +kernel
theorem dX7_init_72 : decode cX7_init 72 = .ok (.new 30, 3) := by decide +kernel
theorem dX7_init_75 : decode cX7_init 75 = .ok (.dup, 1) := by decide +kernel
theorem dX7_init_76 : decode cX7_init 76 = .ok (.aload_n 0, 1) := by decide +kernel
theorem dX7_init_77 : decode cX7_init 77 = .ok (.getfield 10, 3) := by decide +kernel
theorem dX7_init_80 : decode cX7_init 80 = .ok (.aload_n 0, 1) := by decide +kernel
theorem dX7_init_81 : decode cX7_init 81 = .ok (.getfield 19, 3) := by decide +kernel
theorem dX7_init_84 : decode cX7_init 84 = .ok (.aload_n 0, 1) := by decide +kernel
theorem dX7_init_85 : decode cX7_init 85 = .ok (.getfield 39, 3) := by decide +kernel
theorem dX7_init_88 : decode cX7_init 88 = .ok (.invokespecial 32, 3) := by decide +kernel
theorem dX7_init_91 : decode cX7_init 91 = .ok (.putfield 42, 3) := by decide +kernel
theorem dX7_init_94 : decode cX7_init 94 = .ok (.aload_n 0, 1) := by decide +kernel
theorem dX7_init_95 : decode cX7_init 95 = .ok (.iconst 4, 1) := by decide +kernel
theorem dX7_init_96 : decode cX7_init 96 = .ok (.anewarray 23, 3) := by decide +kernel
theorem dX7_init_99 : decode cX7_init 99 = .ok (.putfield 45, 3) := by decide +kernel
theorem dX7_init_102 : decode cX7_init 102 = .ok (.aload_n 0, 1) := by decide +kernel
theorem dX7_init_103 : decode cX7_init 103 = .ok (.iconst 4, 1) := by decide +kernel
theorem dX7_init_104 : decode cX7_init 104 = .ok (.newarray .boolean, 2) := by decide +kernel
theorem dX7_init_106 : decode cX7_init 106 = .ok (.putfield 49, 3) := by decide +kernel
theorem dX7_init_109 : decode cX7_init 109 = .ok (.aload_n 0, 1) := by decide +kernel
theorem dX7_init_110 : decode cX7_init 110 = .ok (.new 53, 3) := by decide +kernel
theorem dX7_init_113 : decode cX7_init 113 = .ok (.dup, 1) := by decide +kernel
theorem dX7_init_114 : decode cX7_init 114 = .ok (.invokespecial 55, 3) := by decide +kernel
theorem dX7_init_117 : decode cX7_init 117 = .ok (.putfield 56, 3) := by decide +kernel
theorem dX7_init_120 : decode cX7_init 120 = .ok (.aload_n 0, 1) := by decide +kernel
theorem dX7_init_121 : decode cX7_init 121 = .ok (.new 60, 3) := by decide +kernel
theorem dX7_init_124 : decode cX7_init 124 = .ok (.dup, 1) := by decide +kernel
theorem dX7_init_125 : decode cX7_init 125 = .ok (.invokespecial 62, 3) := by decide +kernel
theorem dX7_init_128 : decode cX7_init 128 = .ok (.putfield 63, 3) := by decide +kernel
theorem dX7_init_131 : decode cX7_init 131 = .ok (.aload_n 0, 1) := by decide +kernel
theorem dX7_init_132 : decode cX7_init 132 = .ok (.new 67, 3) := by decide +kernel
theorem dX7_init_135 : decode cX7_init 135 = .ok (.dup, 1) := by decide +kernel
theorem dX7_init_136 : decode cX7_init 136 = .ok (.invokespecial 69, 3) := by decide +kernel
theorem dX7_init_139 : decode cX7_init 139 = .ok (.putfield 70, 3) := by decide +kernel
theorem dX7_init_142 : decode cX7_init 142 = .ok (.iconst 0, 1) := by decide +kernel
theorem dX7_init_143 : decode cX7_init 143 = .ok (.istore_n 1, 1) := by decide +kernel
theorem dX7_init_144 : decode cX7_init 144 = .ok (.iload_n 1, 1) := by decide +kernel
theorem dX7_init_145 : decode cX7_init 145 = .ok (.iconst 4, 1) := by decide +kernel
theorem dX7_init_146 : decode cX7_init 146 = .ok (.if_icmp .ge 22, 3) := by decide +kernel
theorem dX7_init_149 : decode cX7_init 149 = .ok (.aload_n 0, 1) := by decide +kernel
theorem dX7_init_150 : decode cX7_init 150 = .ok (.getfield 45, 3) := by decide +kernel
theorem dX7_init_153 : decode cX7_init 153 = .ok (.iload_n 1, 1) := by decide +kernel
theorem dX7_init_154 : decode cX7_init 154 = .ok (.new 23, 3) := by decide +kernel
theorem dX7_init_157 : decode cX7_init 157 = .ok (.dup, 1) := by decide +kernel
theorem dX7_init_158 : decode cX7_init 158 = .ok (.invokespecial 25, 3) := by decide +kernel
theorem dX7_init_161 : decode cX7_init 161 = .ok (.aastore, 1) := by decide +kernel
theorem dX7_init_162 : decode cX7_init 162 = .ok (.iinc 1 1, 3) := by decide +kernel
theorem dX7_init_165 : decode cX7_init 165 = .ok (.goto (-21), 3) := by decide +kernel
theorem dX7_init_168 : decode cX7_init 168 = .ok (.return_, 1) := by decide +kernel
theorem dX7_work_0 : decode cX7_work 0 = .ok (.iload_n 1, 1) := by decide +kernel
theorem dX7_work_1 : decode cX7_work 1 = .ok (.iload_n 2, 1) := by decide +kernel
theorem dX7_work_2 : decode cX7_work 2 = .ok (.iload_n 3, 1) := by decide +kernel
theorem dX7_work_3 : decode cX7_work 3 = .ok (.invokestatic 74, 3) := by decide +kernel
theorem dX7_work_6 : decode cX7_work 6 = .ok (.ifCond .eq 27, 3) := by decide +kernel
theorem dX7_work_9 : decode cX7_work 9 = .ok (.iload 4, 2) := by decide +kernel
theorem dX7_work_11 : decode cX7_work 11 = .ok (.iconst 0, 1) := by decide +kernel
theorem dX7_work_12 : decode cX7_work 12 = .ok (.sipush 2100, 3) := by decide +kernel
theorem dX7_work_15 : decode cX7_work 15 = .ok (.invokestatic 78, 3) := by decide +kernel
theorem dX7_work_18 : decode cX7_work 18 = .ok (.ifCond .eq 15, 3) := by decide +kernel
theorem dX7_work_21 : decode cX7_work 21 = .ok (.iload 5, 2) := by decide +kernel
theorem dX7_work_23 : decode cX7_work 23 = .ok (.iconst 0, 1) := by decide +kernel
theorem dX7_work_24 : decode cX7_work 24 = .ok (.sipush 999, 3) := by decide +kernel
theorem dX7_work_27 : decode cX7_work 27 = .ok (.invokestatic 78, 3) := by decide +kernel
theorem dX7_work_30 : decode cX7_work 30 = .ok (.ifCond .ne 7, 3) := by decide +kernel
theorem dX7_work_33 : decode cX7_work 33 = .ok (.sipush (-1002), 3) := by decide +kernel
theorem dX7_work_36 : decode cX7_work 36 = .ok (.ireturn, 1) := by decide +kernel
theorem dX7_work_37 : decode cX7_work 37 = .ok (.aload_n 0, 1) := by decide +kernel
theorem dX7_work_38 : decode cX7_work 38 = .ok (.getfield 10, 3) := by decide +kernel
theorem dX7_work_41 : decode cX7_work 41 = .ok (.getfield 81, 3) := by decide +kernel
theorem dX7_work_44 : decode cX7_work 44 = .ok (.bipush 24, 2) := by decide +kernel
theorem dX7_work_46 : decode cX7_work 46 = .ok (.if_icmp .lt 7, 3) := by decide +kernel
theorem dX7_work_49 : decode cX7_work 49 = .ok (.sipush (-1004), 3) := by decide +kernel
theorem dX7_work_52 : decode cX7_work 52 = .ok (.ireturn, 1) := by decide +kernel
theorem dX7_work_53 : decode cX7_work 53 = .ok (.aload_n 0, 1) := by decide +kernel
theorem dX7_work_54 : decode cX7_work 54 = .ok (.getfield 10, 3) := by decide +kernel
theorem dX7_work_57 : decode cX7_work 57 = .ok (.iload 4, 2) := by decide +kernel
theorem dX7_work_59 : decode cX7_work 59 = .ok (.iload 5, 2) := by decide +kernel
theorem dX7_work_61 : decode cX7_work 61 = .ok (.invokevirtual 85, 3) := by decide +kernel
theorem dX7_work_64 : decode cX7_work 64 = .ok (.istore 6, 2) := by decide +kernel
theorem dX7_work_66 : decode cX7_work 66 = .ok (.aload_n 0, 1) := by decide +kernel
theorem dX7_work_67 : decode cX7_work 67 = .ok (.getfield 10, 3) := by decide +kernel
theorem dX7_work_70 : decode cX7_work 70 = .ok (.iload 6, 2) := by decide +kernel
theorem dX7_work_72 : decode cX7_work 72 = .ok (.iload_n 1, 1) := by decide +kernel
theorem dX7_work_73 : decode cX7_work 73 = .ok (.iload_n 2, 1) := by decide +kernel
theorem dX7_work_74 : decode cX7_work 74 = .ok (.iload_n 3, 1) := by decide +kernel
theorem dX7_work_75 : decode cX7_work 75 = .ok (.invokevirtual 89, 3) := by decide +kernel
theorem dX7_work_78 : decode cX7_work 78 = .ok (.aload_n 0, 1) := by decide +kernel
theorem dX7_work_79 : decode cX7_work 79 = .ok (.invokevirtual 93, 3) := by decide +kernel
theorem dX7_work_82 : decode cX7_work 82 = .ok (.iload 6, 2) := by decide +kernel
theorem dX7_work_84 : decode cX7_work 84 = .ok (.ireturn, 1) := by decide +kernel
theorem dX7_author_0 : decode cX7_author 0 = .ok (.aload_n 0, 1) := by decide +kernel
theorem dX7_author_1 : decode cX7_author 1 = .ok (.getfield 10, 3) := by decide +kernel
theorem dX7_author_4 : decode cX7_author 4 = .ok (.iload_n 1, 1) := by decide +kernel
theorem dX7_author_5 : decode cX7_author 5 = .ok (.invokevirtual 96, 3) := by decide +kernel
theorem dX7_author_8 : decode cX7_author 8 = .ok (.ifCond .ne 7, 3) := by decide +kernel
theorem dX7_author_11 : decode cX7_author 11 = .ok (.sipush (-1001), 3) := by decide +kernel
theorem dX7_author_14 : decode cX7_author 14 = .ok (.ireturn, 1) := by decide +kernel
theorem dX7_author_15 : decode cX7_author 15 = .ok (.iload_n 2, 1) := by decide +kernel
theorem dX7_author_16 : decode cX7_author 16 = .ok (.iload_n 3, 1) := by decide +kernel
theorem dX7_author_17 : decode cX7_author 17 = .ok (.iload 4, 2) := by decide +kernel
theorem dX7_author_19 : decode cX7_author 19 = .ok (.invokestatic 74, 3) := by decide +kernel
theorem dX7_author_22 : decode cX7_author 22 = .ok (.ifCond .ne 7, 3) := by decide +kernel
theorem dX7_author_25 : decode cX7_author 25 = .ok (.sipush (-1002), 3) := by decide +kernel
theorem dX7_author_28 : decode cX7_author 28 = .ok (.ireturn, 1) := by decide +kernel
theorem dX7_author_29 : decode cX7_author 29 = .ok (.aload_n 0, 1) := by decide +kernel
theorem dX7_author_30 : decode cX7_author 30 = .ok (.getfield 10, 3) := by decide +kernel
theorem dX7_author_33 : decode cX7_author 33 = .ok (.getfield 100, 3) := by decide +kernel
theorem dX7_author_36 : decode cX7_author 36 = .ok (.iload_n 1, 1) := by decide +kernel
theorem dX7_author_37 : decode cX7_author 37 = .ok (.iaload, 1) := by decide +kernel
theorem dX7_author_38 : decode cX7_author 38 = .ok (.iconst 4, 1) := by decide +kernel
theorem dX7_author_39 : decode cX7_author 39 = .ok (.if_icmp .lt 7, 3) := by decide +kernel
theorem dX7_author_42 : decode cX7_author 42 = .ok (.sipush (-1004), 3) := by decide +kernel
theorem dX7_author_45 : decode cX7_author 45 = .ok (.ireturn, 1) := by decide +kernel
theorem dX7_author_46 : decode cX7_author 46 = .ok (.aload_n 0, 1) := by decide +kernel
theorem dX7_author_47 : decode cX7_author 47 = .ok (.getfield 10, 3) := by decide +kernel
theorem dX7_author_50 : decode cX7_author 50 = .ok (.iload_n 1, 1) := by decide +kernel
theorem dX7_author_51 : decode cX7_author 51 = .ok (.iload_n 2, 1) := by decide +kernel
theorem dX7_author_52 : decode cX7_author 52 = .ok (.iload_n 3, 1) := by decide +kernel
theorem dX7_author_53 : decode cX7_author 53 = .ok (.iload 4, 2) := by decide +kernel
theorem dX7_author_55 : decode cX7_author 55 = .ok (.invokevirtual 89, 3) := by decide +kernel
theorem dX7_author_58 : decode cX7_author 58 = .ok (.aload_n 0, 1) := by decide +kernel
theorem dX7_author_59 : decode cX7_author 59 = .ok (.invokevirtual 93, 3) := by decide +kernel
theorem dX7_author_62 : decode cX7_author 62 = .ok (.aload_n 0, 1) := by decide +kernel
theorem dX7_author_63 : decode cX7_author 63 = .ok (.getfield 10, 3) := by decide +kernel
theorem dX7_author_66 : decode cX7_author 66 = .ok (.getfield 100, 3) := by decide +kernel
theorem dX7_author_69 : decode cX7_author 69 = .ok (.iload_n 1, 1) := by decide +kernel
theorem dX7_author_70 : decode cX7_author 70 = .ok (.iaload, 1) := by decide +kernel
theorem dX7_author_71 : decode cX7_author 71 = .ok (.ireturn, 1) := by decide +kernel
theorem dX7_pages_0 : decode cX7_pages 0 = .ok (.aload_n 0, 1) := by decide +kernel
theorem dX7_pages_1 : decode cX7_pages 1 = .ok (.getfield 10, 3) := by decide +kernel
theorem dX7_pages_4 : decode cX7_pages 4 = .ok (.iload_n 1, 1) := by decide +kernel
theorem dX7_pages_5 : decode cX7_pages 5 = .ok (.invokevirtual 96, 3) := by decide +kernel
theorem dX7_pages_8 : decode cX7_pages 8 = .ok (.ifCond .ne 7, 3) := by decide +kernel
theorem dX7_pages_11 : decode cX7_pages 11 = .ok (.sipush (-1001), 3) := by decide +kernel
theorem dX7_pages_14 : decode cX7_pages 14 = .ok (.ireturn, 1) := by decide +kernel
theorem dX7_pages_15 : decode cX7_pages 15 = .ok (.iload_n 2, 1) := by decide +kernel
theorem dX7_pages_16 : decode cX7_pages 16 = .ok (.iconst (-1), 1) := by decide +kernel
theorem dX7_pages_17 : decode cX7_pages 17 = .ok (.if_icmp .ne 12, 3) := by decide +kernel
theorem dX7_pages_20 : decode cX7_pages 20 = .ok (.iload_n 3, 1) := by decide +kernel
theorem dX7_pages_21 : decode cX7_pages 21 = .ok (.iconst (-1), 1) := by decide +kernel
theorem dX7_pages_22 : decode cX7_pages 22 = .ok (.if_icmp .ne 7, 3) := by decide +kernel
theorem dX7_pages_25 : decode cX7_pages 25 = .ok (.iconst 1, 1) := by decide +kernel
theorem dX7_pages_26 : decode cX7_pages 26 = .ok (.goto 4, 3) := by decide +kernel
theorem dX7_pages_29 : decode cX7_pages 29 = .ok (.iconst 0, 1) := by decide +kernel
theorem dX7_pages_30 : decode cX7_pages 30 = .ok (.istore 4, 2) := by decide +kernel
theorem dX7_pages_32 : decode cX7_pages 32 = .ok (.iload 4, 2) := by decide +kernel
theorem dX7_pages_34 : decode cX7_pages 34 = .ok (.ifCond .ne 29, 3) := by decide +kernel
theorem dX7_pages_37 : decode cX7_pages 37 = .ok (.iload_n 2, 1) := by decide +kernel
theorem dX7_pages_38 : decode cX7_pages 38 = .ok (.iconst 0, 1) := by decide +kernel
theorem dX7_pages_39 : decode cX7_pages 39 = .ok (.sipush 9999, 3) := by decide +kernel
theorem dX7_pages_42 : decode cX7_pages 42 = .ok (.invokestatic 78, 3) := by decide +kernel
theorem dX7_pages_45 : decode cX7_pages 45 = .ok (.ifCond .eq 14, 3) := by decide +kernel
theorem dX7_pages_48 : decode cX7_pages 48 = .ok (.iload_n 3, 1) := by decide +kernel
theorem dX7_pages_49 : decode cX7_pages 49 = .ok (.iload_n 2, 1) := by decide +kernel
theorem dX7_pages_50 : decode cX7_pages 50 = .ok (.sipush 9999, 3) := by decide +kernel
theorem dX7_pages_53 : decode cX7_pages 53 = .ok (.invokestatic 78, 3) := by decide +kernel
theorem dX7_pages_56 : decode cX7_pages 56 = .ok (.ifCond .ne 7, 3) := by decide +kernel
theorem dX7_pages_59 : decode cX7_pages 59 = .ok (.sipush (-1002), 3) := by decide +kernel
theorem dX7_pages_62 : decode cX7_pages 62 = .ok (.ireturn, 1) := by decide +kernel
theorem dX7_pages_63 : decode cX7_pages 63 = .ok (.aload_n 0, 1) := by decide +kernel
theorem dX7_pages_64 : decode cX7_pages 64 = .ok (.getfield 10, 3) := by decide +kernel
theorem dX7_pages_67 : decode cX7_pages 67 = .ok (.getfield 104, 3) := by decide +kernel
theorem dX7_pages_70 : decode cX7_pages 70 = .ok (.iload_n 1, 1) := by decide +kernel
theorem dX7_pages_71 : decode cX7_pages 71 = .ok (.iload_n 2, 1) := by decide +kernel
theorem dX7_pages_72 : decode cX7_pages 72 = .ok (.iastore, 1) := by decide +kernel
theorem dX7_pages_73 : decode cX7_pages 73 = .ok (.aload_n 0, 1) := by decide +kernel
theorem dX7_pages_74 : decode cX7_pages 74 = .ok (.getfield 10, 3) := by decide +kernel
theorem dX7_pages_77 : decode cX7_pages 77 = .ok (.getfield 107, 3) := by decide +kernel
theorem dX7_pages_80 : decode cX7_pages 80 = .ok (.iload_n 1, 1) := by decide +kernel
theorem dX7_pages_81 : decode cX7_pages 81 = .ok (.iload_n 3, 1) := by decide +kernel
theorem dX7_pages_82 : decode cX7_pages 82 = .ok (.iastore, 1) := by decide +kernel
theorem dX7_pages_83 : decode cX7_pages 83 = .ok (.iconst 1, 1) := by decide +kernel
theorem dX7_pages_84 : decode cX7_pages 84 = .ok (.ireturn, 1) := by decide +kernel
theorem dX7_join_0 : decode cX7_join 0 = .ok (.aload_n 0, 1) := by decide +kernel
theorem dX7_join_1 : decode cX7_join 1 = .ok (.getfield 10, 3) := by decide +kernel
theorem dX7_join_4 : decode cX7_join 4 = .ok (.iload_n 1, 1) := by decide +kernel
theorem dX7_join_5 : decode cX7_join 5 = .ok (.invokevirtual 96, 3) := by decide +kernel
theorem dX7_join_8 : decode cX7_join 8 = .ok (.ifCond .eq 14, 3) := by decide +kernel
theorem dX7_join_11 : decode cX7_join 11 = .ok (.aload_n 0, 1) := by decide +kernel
theorem dX7_join_12 : decode cX7_join 12 = .ok (.getfield 10, 3) := by decide +kernel
theorem dX7_join_15 : decode cX7_join 15 = .ok (.iload_n 2, 1) := by decide +kernel
theorem dX7_join_16 : decode cX7_join 16 = .ok (.invokevirtual 96, 3) := by decide +kernel
theorem dX7_join_19 : decode cX7_join 19 = .ok (.ifCond .ne 7, 3) := by decide +kernel
theorem dX7_join_22 : decode cX7_join 22 = .ok (.sipush (-1001), 3) := by decide +kernel
theorem dX7_join_25 : decode cX7_join 25 = .ok (.ireturn, 1) := by decide +kernel
theorem dX7_join_26 : decode cX7_join 26 = .ok (.aload_n 0, 1) := by decide +kernel
theorem dX7_join_27 : decode cX7_join 27 = .ok (.getfield 26, 3) := by decide +kernel
theorem dX7_join_30 : decode cX7_join 30 = .ok (.getfield 110, 3) := by decide +kernel
theorem dX7_join_33 : decode cX7_join 33 = .ok (.iload_n 1, 1) := by decide +kernel
theorem dX7_join_34 : decode cX7_join 34 = .ok (.iaload, 1) := by decide +kernel
theorem dX7_join_35 : decode cX7_join 35 = .ok (.iconst (-1), 1) := by decide +kernel
theorem dX7_join_36 : decode cX7_join 36 = .ok (.if_icmp .ne 15, 3) := by decide +kernel
theorem dX7_join_39 : decode cX7_join 39 = .ok (.aload_n 0, 1) := by decide +kernel
theorem dX7_join_40 : decode cX7_join 40 = .ok (.getfield 26, 3) := by decide +kernel
theorem dX7_join_43 : decode cX7_join 43 = .ok (.iload_n 2, 1) := by decide +kernel
theorem dX7_join_44 : decode cX7_join 44 = .ok (.invokevirtual 113, 3) := by decide +kernel
theorem dX7_join_47 : decode cX7_join 47 = .ok (.iload_n 1, 1) := by decide +kernel
theorem dX7_join_48 : decode cX7_join 48 = .ok (.if_icmp .ne 7, 3) := by decide +kernel
theorem dX7_join_51 : decode cX7_join 51 = .ok (.sipush (-1003), 3) := by decide +kernel
theorem dX7_join_54 : decode cX7_join 54 = .ok (.ireturn, 1) := by decide +kernel
theorem dX7_join_55 : decode cX7_join 55 = .ok (.aload_n 0, 1) := by decide +kernel
theorem dX7_join_56 : decode cX7_join 56 = .ok (.getfield 26, 3) := by decide +kernel
theorem dX7_join_59 : decode cX7_join 59 = .ok (.getfield 110, 3) := by decide +kernel
theorem dX7_join_62 : decode cX7_join 62 = .ok (.iload_n 1, 1) := by decide +kernel
theorem dX7_join_63 : decode cX7_join 63 = .ok (.iload_n 2, 1) := by decide +kernel
theorem dX7_join_64 : decode cX7_join 64 = .ok (.iastore, 1) := by decide +kernel
theorem dX7_join_65 : decode cX7_join 65 = .ok (.aload_n 0, 1) := by decide +kernel
theorem dX7_join_66 : decode cX7_join 66 = .ok (.invokevirtual 93, 3) := by decide +kernel
theorem dX7_join_69 : decode cX7_join 69 = .ok (.aload_n 0, 1) := by decide +kernel
theorem dX7_join_70 : decode cX7_join 70 = .ok (.getfield 26, 3) := by decide +kernel
theorem dX7_join_73 : decode cX7_join 73 = .ok (.iload_n 1, 1) := by decide +kernel
theorem dX7_join_74 : decode cX7_join 74 = .ok (.invokevirtual 113, 3) := by decide +kernel
theorem dX7_join_77 : decode cX7_join 77 = .ok (.ireturn, 1) := by decide +kernel
theorem dX7_part_0 : decode cX7_part 0 = .ok (.aload_n 0, 1) := by decide +kernel
theorem dX7_part_1 : decode cX7_part 1 = .ok (.getfield 10, 3) := by decide +kernel
theorem dX7_part_4 : decode cX7_part 4 = .ok (.iload_n 1, 1) := by decide +kernel
theorem dX7_part_5 : decode cX7_part 5 = .ok (.invokevirtual 96, 3) := by decide +kernel
theorem dX7_part_8 : decode cX7_part 8 = .ok (.ifCond .ne 7, 3) := by decide +kernel
theorem dX7_part_11 : decode cX7_part 11 = .ok (.sipush (-1001), 3) := by decide +kernel
theorem dX7_part_14 : decode cX7_part 14 = .ok (.ireturn, 1) := by decide +kernel
theorem dX7_part_15 : decode cX7_part 15 = .ok (.aload_n 0, 1) := by decide +kernel
theorem dX7_part_16 : decode cX7_part 16 = .ok (.getfield 26, 3) := by decide +kernel
theorem dX7_part_19 : decode cX7_part 19 = .ok (.getfield 110, 3) := by decide +kernel
theorem dX7_part_22 : decode cX7_part 22 = .ok (.iload_n 1, 1) := by decide +kernel
theorem dX7_part_23 : decode cX7_part 23 = .ok (.iaload, 1) := by decide +kernel
theorem dX7_part_24 : decode cX7_part 24 = .ok (.istore_n 2, 1) := by decide +kernel
theorem dX7_part_25 : decode cX7_part 25 = .ok (.iload_n 2, 1) := by decide +kernel
theorem dX7_part_26 : decode cX7_part 26 = .ok (.iconst (-1), 1) := by decide +kernel
theorem dX7_part_27 : decode cX7_part 27 = .ok (.if_icmp .ne 7, 3) := by decide +kernel
theorem dX7_part_30 : decode cX7_part 30 = .ok (.sipush (-1003), 3) := by decide +kernel
theorem dX7_part_33 : decode cX7_part 33 = .ok (.ireturn, 1) := by decide +kernel
theorem dX7_part_34 : decode cX7_part 34 = .ok (.aload_n 0, 1) := by decide +kernel
theorem dX7_part_35 : decode cX7_part 35 = .ok (.getfield 26, 3) := by decide +kernel
theorem dX7_part_38 : decode cX7_part 38 = .ok (.getfield 110, 3) := by decide +kernel
theorem dX7_part_41 : decode cX7_part 41 = .ok (.iload_n 1, 1) := by decide +kernel
theorem dX7_part_42 : decode cX7_part 42 = .ok (.iconst (-1), 1) := by decide +kernel
theorem dX7_part_43 : decode cX7_part 43 = .ok (.iastore, 1) := by decide +kernel
theorem dX7_part_44 : decode cX7_part 44 = .ok (.aload_n 0, 1) := by decide +kernel
theorem dX7_part_45 : decode cX7_part 45 = .ok (.invokevirtual 93, 3) := by decide +kernel
theorem dX7_part_48 : decode cX7_part 48 = .ok (.iload_n 2, 1) := by decide +kernel
theorem dX7_part_49 : decode cX7_part 49 = .ok (.ireturn, 1) := by decide +kernel
theorem dX7_about_0 : decode cX7_about 0 = .ok (.aload_n 0, 1) := by decide +kernel
theorem dX7_about_1 : decode cX7_about 1 = .ok (.getfield 10, 3) := by decide +kernel
theorem dX7_about_4 : decode cX7_about 4 = .ok (.iload_n 1, 1) := by decide +kernel
theorem dX7_about_5 : decode cX7_about 5 = .ok (.invokevirtual 96, 3) := by decide +kernel
theorem dX7_about_8 : decode cX7_about 8 = .ok (.ifCond .ne 7, 3) := by decide +kernel
theorem dX7_about_11 : decode cX7_about 11 = .ok (.sipush (-1001), 3) := by decide +kernel
theorem dX7_about_14 : decode cX7_about 14 = .ok (.ireturn, 1) := by decide +kernel
theorem dX7_about_15 : decode cX7_about 15 = .ok (.iload_n 2, 1) := by decide +kernel
theorem dX7_about_16 : decode cX7_about 16 = .ok (.tableswitch 106 0 5 #[40, 50, 60, 70, 79, 89], 40) := by decide +kernel
theorem dX7_about_56 : decode cX7_about 56 = .ok (.aload_n 0, 1) := by decide +kernel
theorem dX7_about_57 : decode cX7_about 57 = .ok (.getfield 10, 3) := by decide +kernel
theorem dX7_about_60 : decode cX7_about 60 = .ok (.getfield 100, 3) := by decide +kernel
theorem dX7_about_63 : decode cX7_about 63 = .ok (.iload_n 1, 1) := by decide +kernel
theorem dX7_about_64 : decode cX7_about 64 = .ok (.iaload, 1) := by decide +kernel
theorem dX7_about_65 : decode cX7_about 65 = .ok (.ireturn, 1) := by decide +kernel
theorem dX7_about_66 : decode cX7_about 66 = .ok (.aload_n 0, 1) := by decide +kernel
theorem dX7_about_67 : decode cX7_about 67 = .ok (.getfield 10, 3) := by decide +kernel
theorem dX7_about_70 : decode cX7_about 70 = .ok (.getfield 117, 3) := by decide +kernel
theorem dX7_about_73 : decode cX7_about 73 = .ok (.iload_n 1, 1) := by decide +kernel
theorem dX7_about_74 : decode cX7_about 74 = .ok (.iaload, 1) := by decide +kernel
theorem dX7_about_75 : decode cX7_about 75 = .ok (.ireturn, 1) := by decide +kernel
theorem dX7_about_76 : decode cX7_about 76 = .ok (.aload_n 0, 1) := by decide +kernel
theorem dX7_about_77 : decode cX7_about 77 = .ok (.getfield 10, 3) := by decide +kernel
theorem dX7_about_80 : decode cX7_about 80 = .ok (.getfield 120, 3) := by decide +kernel
theorem dX7_about_83 : decode cX7_about 83 = .ok (.iload_n 1, 1) := by decide +kernel
theorem dX7_about_84 : decode cX7_about 84 = .ok (.iaload, 1) := by decide +kernel
theorem dX7_about_85 : decode cX7_about 85 = .ok (.ireturn, 1) := by decide +kernel
theorem dX7_about_86 : decode cX7_about 86 = .ok (.aload_n 0, 1) := by decide +kernel
theorem dX7_about_87 : decode cX7_about 87 = .ok (.getfield 26, 3) := by decide +kernel
theorem dX7_about_90 : decode cX7_about 90 = .ok (.iload_n 1, 1) := by decide +kernel
theorem dX7_about_91 : decode cX7_about 91 = .ok (.invokevirtual 113, 3) := by decide +kernel
theorem dX7_about_94 : decode cX7_about 94 = .ok (.ireturn, 1) := by decide +kernel
theorem dX7_about_95 : decode cX7_about 95 = .ok (.aload_n 0, 1) := by decide +kernel
theorem dX7_about_96 : decode cX7_about 96 = .ok (.invokevirtual 123, 3) := by decide +kernel
theorem dX7_about_99 : decode cX7_about 99 = .ok (.getfield 127, 3) := by decide +kernel
theorem dX7_about_102 : decode cX7_about 102 = .ok (.iload_n 1, 1) := by decide +kernel
theorem dX7_about_103 : decode cX7_about 103 = .ok (.iaload, 1) := by decide +kernel
theorem dX7_about_104 : decode cX7_about 104 = .ok (.ireturn, 1) := by decide +kernel
theorem dX7_about_105 : decode cX7_about 105 = .ok (.aload_n 0, 1) := by decide +kernel
theorem dX7_about_106 : decode cX7_about 106 = .ok (.invokevirtual 123, 3) := by decide +kernel
theorem dX7_about_109 : decode cX7_about 109 = .ok (.iload_n 1, 1) := by decide +kernel
theorem dX7_about_110 : decode cX7_about 110 = .ok (.invokevirtual 130, 3) := by decide +kernel
theorem dX7_about_113 : decode cX7_about 113 = .ok (.ifCond .eq 7, 3) := by decide +kernel
theorem dX7_about_116 : decode cX7_about 116 = .ok (.iconst 1, 1) := by decide +kernel
theorem dX7_about_117 : decode cX7_about 117 = .ok (.goto 4, 3) := by decide +kernel
theorem dX7_about_120 : decode cX7_about 120 = .ok (.iconst 0, 1) := by decide +kernel
theorem dX7_about_121 : decode cX7_about 121 = .ok (.ireturn, 1) := by decide +kernel
theorem dX7_about_122 : decode cX7_about 122 = .ok (.iload_n 2, 1) := by decide +kernel
theorem dX7_about_123 : decode cX7_about 123 = .ok (.bipush 6, 2) := by decide +kernel
theorem dX7_about_125 : decode cX7_about 125 = .ok (.bipush 10, 2) := by decide +kernel
theorem dX7_about_127 : decode cX7_about 127 = .ok (.invokestatic 78, 3) := by decide +kernel
theorem dX7_about_130 : decode cX7_about 130 = .ok (.ifCond .eq 15, 3) := by decide +kernel
theorem dX7_about_133 : decode cX7_about 133 = .ok (.aload_n 0, 1) := by decide +kernel
theorem dX7_about_134 : decode cX7_about 134 = .ok (.invokevirtual 123, 3) := by decide +kernel
theorem dX7_about_137 : decode cX7_about 137 = .ok (.iload_n 1, 1) := by decide +kernel
theorem dX7_about_138 : decode cX7_about 138 = .ok (.iload_n 2, 1) := by decide +kernel
theorem dX7_about_139 : decode cX7_about 139 = .ok (.invokestatic 133, 3) := by decide +kernel
theorem dX7_about_142 : decode cX7_about 142 = .ok (.goto 6, 3) := by decide +kernel
theorem dX7_about_145 : decode cX7_about 145 = .ok (.sipush (-1002), 3) := by decide +kernel
theorem dX7_about_148 : decode cX7_about 148 = .ok (.ireturn, 1) := by decide +kernel
theorem dX7_name_0 : decode cX7_name 0 = .ok (.aload_n 0, 1) := by decide +kernel
theorem dX7_name_1 : decode cX7_name 1 = .ok (.getfield 10, 3) := by decide +kernel
theorem dX7_name_4 : decode cX7_name 4 = .ok (.iload_n 1, 1) := by decide +kernel
theorem dX7_name_5 : decode cX7_name 5 = .ok (.invokevirtual 96, 3) := by decide +kernel
theorem dX7_name_8 : decode cX7_name 8 = .ok (.ifCond .ne 7, 3) := by decide +kernel
theorem dX7_name_11 : decode cX7_name 11 = .ok (.sipush (-1001), 3) := by decide +kernel
theorem dX7_name_14 : decode cX7_name 14 = .ok (.ireturn, 1) := by decide +kernel
theorem dX7_name_15 : decode cX7_name 15 = .ok (.iload_n 2, 1) := by decide +kernel
theorem dX7_name_16 : decode cX7_name 16 = .ok (.iconst 0, 1) := by decide +kernel
theorem dX7_name_17 : decode cX7_name 17 = .ok (.aload_n 0, 1) := by decide +kernel
theorem dX7_name_18 : decode cX7_name 18 = .ok (.getfield 10, 3) := by decide +kernel
theorem dX7_name_21 : decode cX7_name 21 = .ok (.getfield 100, 3) := by decide +kernel
theorem dX7_name_24 : decode cX7_name 24 = .ok (.iload_n 1, 1) := by decide +kernel
theorem dX7_name_25 : decode cX7_name 25 = .ok (.iaload, 1) := by decide +kernel
theorem dX7_name_26 : decode cX7_name 26 = .ok (.iconst 1, 1) := by decide +kernel
theorem dX7_name_27 : decode cX7_name 27 = .ok (.isub, 1) := by decide +kernel
theorem dX7_name_28 : decode cX7_name 28 = .ok (.invokestatic 78, 3) := by decide +kernel
theorem dX7_name_31 : decode cX7_name 31 = .ok (.ifCond .ne 7, 3) := by decide +kernel
theorem dX7_name_34 : decode cX7_name 34 = .ok (.sipush (-1002), 3) := by decide +kernel
theorem dX7_name_37 : decode cX7_name 37 = .ok (.ireturn, 1) := by decide +kernel
theorem dX7_name_38 : decode cX7_name 38 = .ok (.iload_n 1, 1) := by decide +kernel
theorem dX7_name_39 : decode cX7_name 39 = .ok (.iconst 4, 1) := by decide +kernel
theorem dX7_name_40 : decode cX7_name 40 = .ok (.imul, 1) := by decide +kernel
theorem dX7_name_41 : decode cX7_name 41 = .ok (.iload_n 2, 1) := by decide +kernel
theorem dX7_name_42 : decode cX7_name 42 = .ok (.iadd, 1) := by decide +kernel
theorem dX7_name_43 : decode cX7_name 43 = .ok (.istore 4, 2) := by decide +kernel
theorem dX7_name_45 : decode cX7_name 45 = .ok (.iload_n 3, 1) := by decide +kernel
theorem dX7_name_46 : decode cX7_name 46 = .ok (.tableswitch 59 0 2 #[26, 37, 48], 26) := by decide +kernel
theorem dX7_name_72 : decode cX7_name 72 = .ok (.aload_n 0, 1) := by decide +kernel
theorem dX7_name_73 : decode cX7_name 73 = .ok (.getfield 10, 3) := by decide +kernel
theorem dX7_name_76 : decode cX7_name 76 = .ok (.getfield 137, 3) := by decide +kernel
theorem dX7_name_79 : decode cX7_name 79 = .ok (.iload 4, 2) := by decide +kernel
theorem dX7_name_81 : decode cX7_name 81 = .ok (.iaload, 1) := by decide +kernel
theorem dX7_name_82 : decode cX7_name 82 = .ok (.ireturn, 1) := by decide +kernel
theorem dX7_name_83 : decode cX7_name 83 = .ok (.aload_n 0, 1) := by decide +kernel
theorem dX7_name_84 : decode cX7_name 84 = .ok (.getfield 10, 3) := by decide +kernel
theorem dX7_name_87 : decode cX7_name 87 = .ok (.getfield 140, 3) := by decide +kernel
theorem dX7_name_90 : decode cX7_name 90 = .ok (.iload 4, 2) := by decide +kernel
theorem dX7_name_92 : decode cX7_name 92 = .ok (.iaload, 1) := by decide +kernel
theorem dX7_name_93 : decode cX7_name 93 = .ok (.ireturn, 1) := by decide +kernel
theorem dX7_name_94 : decode cX7_name 94 = .ok (.aload_n 0, 1) := by decide +kernel
theorem dX7_name_95 : decode cX7_name 95 = .ok (.getfield 10, 3) := by decide +kernel
theorem dX7_name_98 : decode cX7_name 98 = .ok (.getfield 143, 3) := by decide +kernel
theorem dX7_name_101 : decode cX7_name 101 = .ok (.iload 4, 2) := by decide +kernel
theorem dX7_name_103 : decode cX7_name 103 = .ok (.iaload, 1) := by decide +kernel
theorem dX7_name_104 : decode cX7_name 104 = .ok (.ireturn, 1) := by decide +kernel
theorem dX7_name_105 : decode cX7_name 105 = .ok (.sipush (-1002), 3) := by decide +kernel
theorem dX7_name_108 : decode cX7_name 108 = .ok (.ireturn, 1) := by decide +kernel
theorem dX7_page_0 : decode cX7_page 0 = .ok (.aload_n 0, 1) := by decide +kernel
theorem dX7_page_1 : decode cX7_page 1 = .ok (.getfield 10, 3) := by decide +kernel
theorem dX7_page_4 : decode cX7_page 4 = .ok (.iload_n 1, 1) := by decide +kernel
theorem dX7_page_5 : decode cX7_page 5 = .ok (.invokevirtual 96, 3) := by decide +kernel
theorem dX7_page_8 : decode cX7_page 8 = .ok (.ifCond .ne 7, 3) := by decide +kernel
theorem dX7_page_11 : decode cX7_page 11 = .ok (.sipush (-1001), 3) := by decide +kernel
theorem dX7_page_14 : decode cX7_page 14 = .ok (.ireturn, 1) := by decide +kernel
theorem dX7_page_15 : decode cX7_page 15 = .ok (.iload_n 2, 1) := by decide +kernel
theorem dX7_page_16 : decode cX7_page 16 = .ok (.iconst 0, 1) := by decide +kernel
theorem dX7_page_17 : decode cX7_page 17 = .ok (.iconst 2, 1) := by decide +kernel
theorem dX7_page_18 : decode cX7_page 18 = .ok (.invokestatic 78, 3) := by decide +kernel
theorem dX7_page_21 : decode cX7_page 21 = .ok (.ifCond .ne 7, 3) := by decide +kernel
theorem dX7_page_24 : decode cX7_page 24 = .ok (.sipush (-1002), 3) := by decide +kernel
theorem dX7_page_27 : decode cX7_page 27 = .ok (.ireturn, 1) := by decide +kernel
theorem dX7_page_28 : decode cX7_page 28 = .ok (.aload_n 0, 1) := by decide +kernel
theorem dX7_page_29 : decode cX7_page 29 = .ok (.getfield 10, 3) := by decide +kernel
theorem dX7_page_32 : decode cX7_page 32 = .ok (.getfield 104, 3) := by decide +kernel
theorem dX7_page_35 : decode cX7_page 35 = .ok (.iload_n 1, 1) := by decide +kernel
theorem dX7_page_36 : decode cX7_page 36 = .ok (.iaload, 1) := by decide +kernel
theorem dX7_page_37 : decode cX7_page 37 = .ok (.istore_n 3, 1) := by decide +kernel
theorem dX7_page_38 : decode cX7_page 38 = .ok (.aload_n 0, 1) := by decide +kernel
theorem dX7_page_39 : decode cX7_page 39 = .ok (.getfield 10, 3) := by decide +kernel
theorem dX7_page_42 : decode cX7_page 42 = .ok (.getfield 107, 3) := by decide +kernel
theorem dX7_page_45 : decode cX7_page 45 = .ok (.iload_n 1, 1) := by decide +kernel
theorem dX7_page_46 : decode cX7_page 46 = .ok (.iaload, 1) := by decide +kernel
theorem dX7_page_47 : decode cX7_page 47 = .ok (.istore 4, 2) := by decide +kernel
theorem dX7_page_49 : decode cX7_page 49 = .ok (.iload_n 3, 1) := by decide +kernel
theorem dX7_page_50 : decode cX7_page 50 = .ok (.iconst (-1), 1) := by decide +kernel
theorem dX7_page_51 : decode cX7_page 51 = .ok (.if_icmp .eq 7, 3) := by decide +kernel
theorem dX7_page_54 : decode cX7_page 54 = .ok (.iload_n 2, 1) := by decide +kernel
theorem dX7_page_55 : decode cX7_page 55 = .ok (.ifCond .ne 5, 3) := by decide +kernel
theorem dX7_page_58 : decode cX7_page 58 = .ok (.iload_n 3, 1) := by decide +kernel
theorem dX7_page_59 : decode cX7_page 59 = .ok (.ireturn, 1) := by decide +kernel
theorem dX7_page_60 : decode cX7_page 60 = .ok (.aload_n 0, 1) := by decide +kernel
theorem dX7_page_61 : decode cX7_page 61 = .ok (.getfield 26, 3) := by decide +kernel
theorem dX7_page_64 : decode cX7_page 64 = .ok (.getfield 146, 3) := by decide +kernel
theorem dX7_page_67 : decode cX7_page 67 = .ok (.bipush 9, 2) := by decide +kernel
theorem dX7_page_69 : decode cX7_page 69 = .ok (.iaload, 1) := by decide +kernel
theorem dX7_page_70 : decode cX7_page 70 = .ok (.iconst 1, 1) := by decide +kernel
theorem dX7_page_71 : decode cX7_page 71 = .ok (.if_icmp .ne 12, 3) := by decide +kernel
theorem dX7_page_74 : decode cX7_page 74 = .ok (.iload_n 3, 1) := by decide +kernel
theorem dX7_page_75 : decode cX7_page 75 = .ok (.iload 4, 2) := by decide +kernel
theorem dX7_page_77 : decode cX7_page 77 = .ok (.invokestatic 149, 3) := by decide +kernel
theorem dX7_page_80 : decode cX7_page 80 = .ok (.goto 8, 3) := by decide +kernel
theorem dX7_page_83 : decode cX7_page 83 = .ok (.iload 4, 2) := by decide +kernel
theorem dX7_page_85 : decode cX7_page 85 = .ok (.invokestatic 152, 3) := by decide +kernel
theorem dX7_page_88 : decode cX7_page 88 = .ok (.istore 5, 2) := by decide +kernel
theorem dX7_page_90 : decode cX7_page 90 = .ok (.iload_n 2, 1) := by decide +kernel
theorem dX7_page_91 : decode cX7_page 91 = .ok (.iconst 1, 1) := by decide +kernel
theorem dX7_page_92 : decode cX7_page 92 = .ok (.if_icmp .ne 15, 3) := by decide +kernel
theorem dX7_page_95 : decode cX7_page 95 = .ok (.iload 4, 2) := by decide +kernel
theorem dX7_page_97 : decode cX7_page 97 = .ok (.getstatic 155, 3) := by decide +kernel
theorem dX7_page_100 : decode cX7_page 100 = .ok (.iload 5, 2) := by decide +kernel
theorem dX7_page_102 : decode cX7_page 102 = .ok (.iaload, 1) := by decide +kernel
theorem dX7_page_103 : decode cX7_page 103 = .ok (.irem, 1) := by decide +kernel
theorem dX7_page_104 : decode cX7_page 104 = .ok (.goto 5, 3) := by decide +kernel
theorem dX7_page_107 : decode cX7_page 107 = .ok (.iload 5, 2) := by decide +kernel
theorem dX7_page_109 : decode cX7_page 109 = .ok (.ireturn, 1) := by decide +kernel
theorem dX7_list_0 : decode cX7_list 0 = .ok (.aload_n 0, 1) := by decide +kernel
theorem dX7_list_1 : decode cX7_list 1 = .ok (.invokevirtual 123, 3) := by decide +kernel
theorem dX7_list_4 : decode cX7_list 4 = .ok (.astore_n 2, 1) := by decide +kernel
theorem dX7_list_5 : decode cX7_list 5 = .ok (.iload_n 1, 1) := by decide +kernel
theorem dX7_list_6 : decode cX7_list 6 = .ok (.iconst 0, 1) := by decide +kernel
theorem dX7_list_7 : decode cX7_list 7 = .ok (.aload_n 2, 1) := by decide +kernel
theorem dX7_list_8 : decode cX7_list 8 = .ok (.getfield 158, 3) := by decide +kernel
theorem dX7_list_11 : decode cX7_list 11 = .ok (.iconst 1, 1) := by decide +kernel
theorem dX7_list_12 : decode cX7_list 12 = .ok (.isub, 1) := by decide +kernel
theorem dX7_list_13 : decode cX7_list 13 = .ok (.invokestatic 78, 3) := by decide +kernel
theorem dX7_list_16 : decode cX7_list 16 = .ok (.ifCond .eq 12, 3) := by decide +kernel
theorem dX7_list_19 : decode cX7_list 19 = .ok (.aload_n 2, 1) := by decide +kernel
theorem dX7_list_20 : decode cX7_list 20 = .ok (.getfield 161, 3) := by decide +kernel
theorem dX7_list_23 : decode cX7_list 23 = .ok (.iload_n 1, 1) := by decide +kernel
theorem dX7_list_24 : decode cX7_list 24 = .ok (.iaload, 1) := by decide +kernel
theorem dX7_list_25 : decode cX7_list 25 = .ok (.goto 4, 3) := by decide +kernel
theorem dX7_list_28 : decode cX7_list 28 = .ok (.iconst (-1), 1) := by decide +kernel
theorem dX7_list_29 : decode cX7_list 29 = .ok (.ireturn, 1) := by decide +kernel
theorem dX7_note_0 : decode cX7_note 0 = .ok (.iload_n 1, 1) := by decide +kernel
theorem dX7_note_1 : decode cX7_note 1 = .ok (.iconst 0, 1) := by decide +kernel
theorem dX7_note_2 : decode cX7_note 2 = .ok (.aload_n 0, 1) := by decide +kernel
theorem dX7_note_3 : decode cX7_note 3 = .ok (.getfield 26, 3) := by decide +kernel
theorem dX7_note_6 : decode cX7_note 6 = .ok (.getfield 164, 3) := by decide +kernel
theorem dX7_note_9 : decode cX7_note 9 = .ok (.invokestatic 78, 3) := by decide +kernel
theorem dX7_note_12 : decode cX7_note 12 = .ok (.ifCond .ne 7, 3) := by decide +kernel
theorem dX7_note_15 : decode cX7_note 15 = .ok (.sipush (-1002), 3) := by decide +kernel
theorem dX7_note_18 : decode cX7_note 18 = .ok (.ireturn, 1) := by decide +kernel
theorem dX7_note_19 : decode cX7_note 19 = .ok (.aload_n 0, 1) := by decide +kernel
theorem dX7_note_20 : decode cX7_note 20 = .ok (.getfield 26, 3) := by decide +kernel
theorem dX7_note_23 : decode cX7_note 23 = .ok (.getfield 164, 3) := by decide +kernel
theorem dX7_note_26 : decode cX7_note 26 = .ok (.bipush 40, 2) := by decide +kernel
theorem dX7_note_28 : decode cX7_note 28 = .ok (.if_icmp .lt 7, 3) := by decide +kernel
theorem dX7_note_31 : decode cX7_note 31 = .ok (.sipush (-1004), 3) := by decide +kernel
theorem dX7_note_34 : decode cX7_note 34 = .ok (.ireturn, 1) := by decide +kernel
theorem dX7_note_35 : decode cX7_note 35 = .ok (.aload_n 0, 1) := by decide +kernel
theorem dX7_note_36 : decode cX7_note 36 = .ok (.getfield 26, 3) := by decide +kernel
theorem dX7_note_39 : decode cX7_note 39 = .ok (.iload_n 1, 1) := by decide +kernel
theorem dX7_note_40 : decode cX7_note 40 = .ok (.invokevirtual 167, 3) := by decide +kernel
theorem dX7_note_43 : decode cX7_note 43 = .ok (.aload_n 0, 1) := by decide +kernel
theorem dX7_note_44 : decode cX7_note 44 = .ok (.invokevirtual 93, 3) := by decide +kernel
theorem dX7_note_47 : decode cX7_note 47 = .ok (.iload_n 1, 1) := by decide +kernel
theorem dX7_note_48 : decode cX7_note 48 = .ok (.ireturn, 1) := by decide +kernel
theorem dX7_cut_0 : decode cX7_cut 0 = .ok (.aload_n 0, 1) := by decide +kernel
theorem dX7_cut_1 : decode cX7_cut 1 = .ok (.getfield 26, 3) := by decide +kernel
theorem dX7_cut_4 : decode cX7_cut 4 = .ok (.iload_n 1, 1) := by decide +kernel
theorem dX7_cut_5 : decode cX7_cut 5 = .ok (.invokevirtual 171, 3) := by decide +kernel
theorem dX7_cut_8 : decode cX7_cut 8 = .ok (.ifCond .ne 7, 3) := by decide +kernel
theorem dX7_cut_11 : decode cX7_cut 11 = .ok (.sipush (-1001), 3) := by decide +kernel
theorem dX7_cut_14 : decode cX7_cut 14 = .ok (.ireturn, 1) := by decide +kernel
theorem dX7_cut_15 : decode cX7_cut 15 = .ok (.aload_n 0, 1) := by decide +kernel
theorem dX7_cut_16 : decode cX7_cut 16 = .ok (.getfield 26, 3) := by decide +kernel
theorem dX7_cut_19 : decode cX7_cut 19 = .ok (.getfield 172, 3) := by decide +kernel
theorem dX7_cut_22 : decode cX7_cut 22 = .ok (.iload_n 1, 1) := by decide +kernel
theorem dX7_cut_23 : decode cX7_cut 23 = .ok (.iaload, 1) := by decide +kernel
theorem dX7_cut_24 : decode cX7_cut 24 = .ok (.istore_n 2, 1) := by decide +kernel
theorem dX7_cut_25 : decode cX7_cut 25 = .ok (.aload_n 0, 1) := by decide +kernel
theorem dX7_cut_26 : decode cX7_cut 26 = .ok (.getfield 26, 3) := by decide +kernel
theorem dX7_cut_29 : decode cX7_cut 29 = .ok (.iload_n 1, 1) := by decide +kernel
theorem dX7_cut_30 : decode cX7_cut 30 = .ok (.invokevirtual 175, 3) := by decide +kernel
theorem dX7_cut_33 : decode cX7_cut 33 = .ok (.aload_n 0, 1) := by decide +kernel
theorem dX7_cut_34 : decode cX7_cut 34 = .ok (.invokevirtual 93, 3) := by decide +kernel
theorem dX7_cut_37 : decode cX7_cut 37 = .ok (.iload_n 2, 1) := by decide +kernel
theorem dX7_cut_38 : decode cX7_cut 38 = .ok (.ireturn, 1) := by decide +kernel
theorem dX7_move_0 : decode cX7_move 0 = .ok (.aload_n 0, 1) := by decide +kernel
theorem dX7_move_1 : decode cX7_move 1 = .ok (.getfield 26, 3) := by decide +kernel
theorem dX7_move_4 : decode cX7_move 4 = .ok (.iload_n 1, 1) := by decide +kernel
theorem dX7_move_5 : decode cX7_move 5 = .ok (.invokevirtual 171, 3) := by decide +kernel
theorem dX7_move_8 : decode cX7_move 8 = .ok (.ifCond .eq 14, 3) := by decide +kernel
theorem dX7_move_11 : decode cX7_move 11 = .ok (.aload_n 0, 1) := by decide +kernel
theorem dX7_move_12 : decode cX7_move 12 = .ok (.getfield 26, 3) := by decide +kernel
theorem dX7_move_15 : decode cX7_move 15 = .ok (.iload_n 2, 1) := by decide +kernel
theorem dX7_move_16 : decode cX7_move 16 = .ok (.invokevirtual 171, 3) := by decide +kernel
theorem dX7_move_19 : decode cX7_move 19 = .ok (.ifCond .ne 7, 3) := by decide +kernel
theorem dX7_move_22 : decode cX7_move 22 = .ok (.sipush (-1001), 3) := by decide +kernel
theorem dX7_move_25 : decode cX7_move 25 = .ok (.ireturn, 1) := by decide +kernel
theorem dX7_move_26 : decode cX7_move 26 = .ok (.aload_n 0, 1) := by decide +kernel
theorem dX7_move_27 : decode cX7_move 27 = .ok (.getfield 26, 3) := by decide +kernel
theorem dX7_move_30 : decode cX7_move 30 = .ok (.iload_n 1, 1) := by decide +kernel
theorem dX7_move_31 : decode cX7_move 31 = .ok (.iload_n 2, 1) := by decide +kernel
theorem dX7_move_32 : decode cX7_move 32 = .ok (.invokevirtual 178, 3) := by decide +kernel
theorem dX7_move_35 : decode cX7_move 35 = .ok (.aload_n 0, 1) := by decide +kernel
theorem dX7_move_36 : decode cX7_move 36 = .ok (.invokevirtual 93, 3) := by decide +kernel
theorem dX7_move_39 : decode cX7_move 39 = .ok (.iconst 1, 1) := by decide +kernel
theorem dX7_move_40 : decode cX7_move 40 = .ok (.ireturn, 1) := by decide +kernel
theorem dX7_call_0 : decode cX7_call 0 = .ok (.aload_n 0, 1) := by decide +kernel
theorem dX7_call_1 : decode cX7_call 1 = .ok (.getfield 26, 3) := by decide +kernel
theorem dX7_call_4 : decode cX7_call 4 = .ok (.iload_n 1, 1) := by decide +kernel
theorem dX7_call_5 : decode cX7_call 5 = .ok (.invokevirtual 171, 3) := by decide +kernel
theorem dX7_call_8 : decode cX7_call 8 = .ok (.ifCond .eq 14, 3) := by decide +kernel
theorem dX7_call_11 : decode cX7_call 11 = .ok (.aload_n 0, 1) := by decide +kernel
theorem dX7_call_12 : decode cX7_call 12 = .ok (.getfield 10, 3) := by decide +kernel
theorem dX7_call_15 : decode cX7_call 15 = .ok (.iload_n 2, 1) := by decide +kernel
theorem dX7_call_16 : decode cX7_call 16 = .ok (.invokevirtual 96, 3) := by decide +kernel
theorem dX7_call_19 : decode cX7_call 19 = .ok (.ifCond .ne 7, 3) := by decide +kernel
theorem dX7_call_22 : decode cX7_call 22 = .ok (.sipush (-1001), 3) := by decide +kernel
theorem dX7_call_25 : decode cX7_call 25 = .ok (.ireturn, 1) := by decide +kernel
theorem dX7_call_26 : decode cX7_call 26 = .ok (.iload_n 3, 1) := by decide +kernel
theorem dX7_call_27 : decode cX7_call 27 = .ok (.iconst (-1), 1) := by decide +kernel
theorem dX7_call_28 : decode cX7_call 28 = .ok (.sipush 9999, 3) := by decide +kernel
theorem dX7_call_31 : decode cX7_call 31 = .ok (.invokestatic 78, 3) := by decide +kernel
theorem dX7_call_34 : decode cX7_call 34 = .ok (.ifCond .ne 7, 3) := by decide +kernel
theorem dX7_call_37 : decode cX7_call 37 = .ok (.sipush (-1002), 3) := by decide +kernel
theorem dX7_call_40 : decode cX7_call 40 = .ok (.ireturn, 1) := by decide +kernel
theorem dX7_call_41 : decode cX7_call 41 = .ok (.aload_n 0, 1) := by decide +kernel
theorem dX7_call_42 : decode cX7_call 42 = .ok (.getfield 26, 3) := by decide +kernel
theorem dX7_call_45 : decode cX7_call 45 = .ok (.getfield 172, 3) := by decide +kernel
theorem dX7_call_48 : decode cX7_call 48 = .ok (.iload_n 1, 1) := by decide +kernel
theorem dX7_call_49 : decode cX7_call 49 = .ok (.iaload, 1) := by decide +kernel
theorem dX7_call_50 : decode cX7_call 50 = .ok (.iconst 5, 1) := by decide +kernel
theorem dX7_call_51 : decode cX7_call 51 = .ok (.if_icmp .ge 15, 3) := by decide +kernel
theorem dX7_call_54 : decode cX7_call 54 = .ok (.aload_n 0, 1) := by decide +kernel
theorem dX7_call_55 : decode cX7_call 55 = .ok (.getfield 19, 3) := by decide +kernel
theorem dX7_call_58 : decode cX7_call 58 = .ok (.getfield 182, 3) := by decide +kernel
theorem dX7_call_61 : decode cX7_call 61 = .ok (.bipush 100, 2) := by decide +kernel
theorem dX7_call_63 : decode cX7_call 63 = .ok (.if_icmp .lt 7, 3) := by decide +kernel
theorem dX7_call_66 : decode cX7_call 66 = .ok (.sipush (-1004), 3) := by decide +kernel
theorem dX7_call_69 : decode cX7_call 69 = .ok (.ireturn, 1) := by decide +kernel
theorem dX7_call_70 : decode cX7_call 70 = .ok (.aload_n 0, 1) := by decide +kernel
theorem dX7_call_71 : decode cX7_call 71 = .ok (.getfield 19, 3) := by decide +kernel
theorem dX7_call_74 : decode cX7_call 74 = .ok (.iload_n 2, 1) := by decide +kernel
theorem dX7_call_75 : decode cX7_call 75 = .ok (.iload_n 3, 1) := by decide +kernel
theorem dX7_call_76 : decode cX7_call 76 = .ok (.invokevirtual 183, 3) := by decide +kernel
theorem dX7_call_79 : decode cX7_call 79 = .ok (.istore 4, 2) := by decide +kernel
theorem dX7_call_81 : decode cX7_call 81 = .ok (.aload_n 0, 1) := by decide +kernel
theorem dX7_call_82 : decode cX7_call 82 = .ok (.getfield 26, 3) := by decide +kernel
theorem dX7_call_85 : decode cX7_call 85 = .ok (.iload_n 1, 1) := by decide +kernel
theorem dX7_call_86 : decode cX7_call 86 = .ok (.iload 4, 2) := by decide +kernel
theorem dX7_call_88 : decode cX7_call 88 = .ok (.invokevirtual 186, 3) := by decide +kernel
theorem dX7_call_91 : decode cX7_call 91 = .ok (.aload_n 0, 1) := by decide +kernel
theorem dX7_call_92 : decode cX7_call 92 = .ok (.invokevirtual 93, 3) := by decide +kernel
theorem dX7_call_95 : decode cX7_call 95 = .ok (.iload 4, 2) := by decide +kernel
theorem dX7_call_97 : decode cX7_call 97 = .ok (.ireturn, 1) := by decide +kernel
theorem dX7_drop_0 : decode cX7_drop 0 = .ok (.aload_n 0, 1) := by decide +kernel
theorem dX7_drop_1 : decode cX7_drop 1 = .ok (.invokevirtual 123, 3) := by decide +kernel
theorem dX7_drop_4 : decode cX7_drop 4 = .ok (.astore_n 2, 1) := by decide +kernel
theorem dX7_drop_5 : decode cX7_drop 5 = .ok (.aload_n 2, 1) := by decide +kernel
theorem dX7_drop_6 : decode cX7_drop 6 = .ok (.iload_n 1, 1) := by decide +kernel
theorem dX7_drop_7 : decode cX7_drop 7 = .ok (.invokevirtual 188, 3) := by decide +kernel
theorem dX7_drop_10 : decode cX7_drop 10 = .ok (.ifCond .ne 7, 3) := by decide +kernel
theorem dX7_drop_13 : decode cX7_drop 13 = .ok (.sipush (-1001), 3) := by decide +kernel
theorem dX7_drop_16 : decode cX7_drop 16 = .ok (.ireturn, 1) := by decide +kernel
theorem dX7_drop_17 : decode cX7_drop 17 = .ok (.aload_n 2, 1) := by decide +kernel
theorem dX7_drop_18 : decode cX7_drop 18 = .ok (.getfield 191, 3) := by decide +kernel
theorem dX7_drop_21 : decode cX7_drop 21 = .ok (.iload_n 1, 1) := by decide +kernel
theorem dX7_drop_22 : decode cX7_drop 22 = .ok (.iaload, 1) := by decide +kernel
theorem dX7_drop_23 : decode cX7_drop 23 = .ok (.istore_n 3, 1) := by decide +kernel
theorem dX7_drop_24 : decode cX7_drop 24 = .ok (.aload_n 0, 1) := by decide +kernel
theorem dX7_drop_25 : decode cX7_drop 25 = .ok (.getfield 26, 3) := by decide +kernel
theorem dX7_drop_28 : decode cX7_drop 28 = .ok (.aload_n 2, 1) := by decide +kernel
theorem dX7_drop_29 : decode cX7_drop 29 = .ok (.getfield 194, 3) := by decide +kernel
theorem dX7_drop_32 : decode cX7_drop 32 = .ok (.iload_n 3, 1) := by decide +kernel
theorem dX7_drop_33 : decode cX7_drop 33 = .ok (.iaload, 1) := by decide +kernel
theorem dX7_drop_34 : decode cX7_drop 34 = .ok (.aload_n 2, 1) := by decide +kernel
theorem dX7_drop_35 : decode cX7_drop 35 = .ok (.getfield 197, 3) := by decide +kernel
theorem dX7_drop_38 : decode cX7_drop 38 = .ok (.iload_n 3, 1) := by decide +kernel
theorem dX7_drop_39 : decode cX7_drop 39 = .ok (.iaload, 1) := by decide +kernel
theorem dX7_drop_40 : decode cX7_drop 40 = .ok (.invokevirtual 200, 3) := by decide +kernel
theorem dX7_drop_43 : decode cX7_drop 43 = .ok (.aload_n 0, 1) := by decide +kernel
theorem dX7_drop_44 : decode cX7_drop 44 = .ok (.invokevirtual 93, 3) := by decide +kernel
theorem dX7_drop_47 : decode cX7_drop 47 = .ok (.iconst 1, 1) := by decide +kernel
theorem dX7_drop_48 : decode cX7_drop 48 = .ok (.ireturn, 1) := by decide +kernel
theorem dX7_told_0 : decode cX7_told 0 = .ok (.aload_n 0, 1) := by decide +kernel
theorem dX7_told_1 : decode cX7_told 1 = .ok (.invokevirtual 123, 3) := by decide +kernel
theorem dX7_told_4 : decode cX7_told 4 = .ok (.astore_n 3, 1) := by decide +kernel
theorem dX7_told_5 : decode cX7_told 5 = .ok (.aload_n 3, 1) := by decide +kernel
theorem dX7_told_6 : decode cX7_told 6 = .ok (.iload_n 1, 1) := by decide +kernel
theorem dX7_told_7 : decode cX7_told 7 = .ok (.invokevirtual 188, 3) := by decide +kernel
theorem dX7_told_10 : decode cX7_told 10 = .ok (.ifCond .ne 7, 3) := by decide +kernel
theorem dX7_told_13 : decode cX7_told 13 = .ok (.sipush (-1001), 3) := by decide +kernel
theorem dX7_told_16 : decode cX7_told 16 = .ok (.ireturn, 1) := by decide +kernel
theorem dX7_told_17 : decode cX7_told 17 = .ok (.aload_n 3, 1) := by decide +kernel
theorem dX7_told_18 : decode cX7_told 18 = .ok (.getfield 191, 3) := by decide +kernel
theorem dX7_told_21 : decode cX7_told 21 = .ok (.iload_n 1, 1) := by decide +kernel
theorem dX7_told_22 : decode cX7_told 22 = .ok (.iaload, 1) := by decide +kernel
theorem dX7_told_23 : decode cX7_told 23 = .ok (.istore 4, 2) := by decide +kernel
theorem dX7_told_25 : decode cX7_told 25 = .ok (.iload_n 2, 1) := by decide +kernel
theorem dX7_told_26 : decode cX7_told 26 = .ok (.tableswitch 95 0 6 #[42, 50, 58, 68, 75, 85, 88], 42) := by decide +kernel
theorem dX7_told_68 : decode cX7_told 68 = .ok (.aload_n 3, 1) := by decide +kernel
theorem dX7_told_69 : decode cX7_told 69 = .ok (.getfield 194, 3) := by decide +kernel
theorem dX7_told_72 : decode cX7_told 72 = .ok (.iload 4, 2) := by decide +kernel
theorem dX7_told_74 : decode cX7_told 74 = .ok (.iaload, 1) := by decide +kernel
theorem dX7_told_75 : decode cX7_told 75 = .ok (.ireturn, 1) := by decide +kernel
theorem dX7_told_76 : decode cX7_told 76 = .ok (.aload_n 3, 1) := by decide +kernel
theorem dX7_told_77 : decode cX7_told 77 = .ok (.getfield 197, 3) := by decide +kernel
theorem dX7_told_80 : decode cX7_told 80 = .ok (.iload 4, 2) := by decide +kernel
theorem dX7_told_82 : decode cX7_told 82 = .ok (.iaload, 1) := by decide +kernel
theorem dX7_told_83 : decode cX7_told 83 = .ok (.ireturn, 1) := by decide +kernel
theorem dX7_told_84 : decode cX7_told 84 = .ok (.aload_n 0, 1) := by decide +kernel
theorem dX7_told_85 : decode cX7_told 85 = .ok (.getfield 19, 3) := by decide +kernel
theorem dX7_told_88 : decode cX7_told 88 = .ok (.getfield 203, 3) := by decide +kernel
theorem dX7_told_91 : decode cX7_told 91 = .ok (.iload_n 1, 1) := by decide +kernel
theorem dX7_told_92 : decode cX7_told 92 = .ok (.iaload, 1) := by decide +kernel
theorem dX7_told_93 : decode cX7_told 93 = .ok (.ireturn, 1) := by decide +kernel
theorem dX7_told_94 : decode cX7_told 94 = .ok (.aload_n 3, 1) := by decide +kernel
theorem dX7_told_95 : decode cX7_told 95 = .ok (.iload 4, 2) := by decide +kernel
theorem dX7_told_97 : decode cX7_told 97 = .ok (.invokevirtual 206, 3) := by decide +kernel
theorem dX7_told_100 : decode cX7_told 100 = .ok (.ireturn, 1) := by decide +kernel
theorem dX7_told_101 : decode cX7_told 101 = .ok (.aload_n 0, 1) := by decide +kernel
theorem dX7_told_102 : decode cX7_told 102 = .ok (.getfield 19, 3) := by decide +kernel
theorem dX7_told_105 : decode cX7_told 105 = .ok (.getfield 209, 3) := by decide +kernel
theorem dX7_told_108 : decode cX7_told 108 = .ok (.iload_n 1, 1) := by decide +kernel
theorem dX7_told_109 : decode cX7_told 109 = .ok (.iaload, 1) := by decide +kernel
theorem dX7_told_110 : decode cX7_told 110 = .ok (.ireturn, 1) := by decide +kernel
theorem dX7_told_111 : decode cX7_told 111 = .ok (.iload 4, 2) := by decide +kernel
theorem dX7_told_113 : decode cX7_told 113 = .ok (.ireturn, 1) := by decide +kernel
theorem dX7_told_114 : decode cX7_told 114 = .ok (.aload_n 3, 1) := by decide +kernel
theorem dX7_told_115 : decode cX7_told 115 = .ok (.iload 4, 2) := by decide +kernel
theorem dX7_told_117 : decode cX7_told 117 = .ok (.invokevirtual 212, 3) := by decide +kernel
theorem dX7_told_120 : decode cX7_told 120 = .ok (.ireturn, 1) := by decide +kernel
theorem dX7_told_121 : decode cX7_told 121 = .ok (.sipush (-1002), 3) := by decide +kernel
theorem dX7_told_124 : decode cX7_told 124 = .ok (.ireturn, 1) := by decide +kernel
theorem dX7_at_0 : decode cX7_at 0 = .ok (.aload_n 0, 1) := by decide +kernel
theorem dX7_at_1 : decode cX7_at 1 = .ok (.getfield 26, 3) := by decide +kernel
theorem dX7_at_4 : decode cX7_at 4 = .ok (.iload_n 1, 1) := by decide +kernel
theorem dX7_at_5 : decode cX7_at 5 = .ok (.invokevirtual 171, 3) := by decide +kernel
theorem dX7_at_8 : decode cX7_at 8 = .ok (.ifCond .ne 7, 3) := by decide +kernel
theorem dX7_at_11 : decode cX7_at 11 = .ok (.sipush (-1001), 3) := by decide +kernel
theorem dX7_at_14 : decode cX7_at 14 = .ok (.ireturn, 1) := by decide +kernel
theorem dX7_at_15 : decode cX7_at 15 = .ok (.iload_n 2, 1) := by decide +kernel
theorem dX7_at_16 : decode cX7_at 16 = .ok (.iconst 0, 1) := by decide +kernel
theorem dX7_at_17 : decode cX7_at 17 = .ok (.aload_n 0, 1) := by decide +kernel
theorem dX7_at_18 : decode cX7_at 18 = .ok (.getfield 26, 3) := by decide +kernel
theorem dX7_at_21 : decode cX7_at 21 = .ok (.getfield 172, 3) := by decide +kernel
theorem dX7_at_24 : decode cX7_at 24 = .ok (.iload_n 1, 1) := by decide +kernel
theorem dX7_at_25 : decode cX7_at 25 = .ok (.iaload, 1) := by decide +kernel
theorem dX7_at_26 : decode cX7_at 26 = .ok (.iconst 1, 1) := by decide +kernel
theorem dX7_at_27 : decode cX7_at 27 = .ok (.isub, 1) := by decide +kernel
theorem dX7_at_28 : decode cX7_at 28 = .ok (.invokestatic 78, 3) := by decide +kernel
theorem dX7_at_31 : decode cX7_at 31 = .ok (.ifCond .eq 15, 3) := by decide +kernel
theorem dX7_at_34 : decode cX7_at 34 = .ok (.aload_n 0, 1) := by decide +kernel
theorem dX7_at_35 : decode cX7_at 35 = .ok (.getfield 26, 3) := by decide +kernel
theorem dX7_at_38 : decode cX7_at 38 = .ok (.iload_n 1, 1) := by decide +kernel
theorem dX7_at_39 : decode cX7_at 39 = .ok (.iload_n 2, 1) := by decide +kernel
theorem dX7_at_40 : decode cX7_at 40 = .ok (.invokevirtual 215, 3) := by decide +kernel
theorem dX7_at_43 : decode cX7_at 43 = .ok (.goto 4, 3) := by decide +kernel
theorem dX7_at_46 : decode cX7_at 46 = .ok (.iconst (-1), 1) := by decide +kernel
theorem dX7_at_47 : decode cX7_at 47 = .ok (.ireturn, 1) := by decide +kernel
theorem dX7_piece_0 : decode cX7_piece 0 = .ok (.aload_n 0, 1) := by decide +kernel
theorem dX7_piece_1 : decode cX7_piece 1 = .ok (.getfield 26, 3) := by decide +kernel
theorem dX7_piece_4 : decode cX7_piece 4 = .ok (.iload_n 1, 1) := by decide +kernel
theorem dX7_piece_5 : decode cX7_piece 5 = .ok (.invokevirtual 171, 3) := by decide +kernel
theorem dX7_piece_8 : decode cX7_piece 8 = .ok (.ifCond .ne 7, 3) := by decide +kernel
theorem dX7_piece_11 : decode cX7_piece 11 = .ok (.sipush (-1001), 3) := by decide +kernel
theorem dX7_piece_14 : decode cX7_piece 14 = .ok (.ireturn, 1) := by decide +kernel
theorem dX7_piece_15 : decode cX7_piece 15 = .ok (.iload_n 2, 1) := by decide +kernel
theorem dX7_piece_16 : decode cX7_piece 16 = .ok (.iconst (-1), 1) := by decide +kernel
theorem dX7_piece_17 : decode cX7_piece 17 = .ok (.if_icmp .eq 16, 3) := by decide +kernel
theorem dX7_piece_20 : decode cX7_piece 20 = .ok (.iload_n 3, 1) := by decide +kernel
theorem dX7_piece_21 : decode cX7_piece 21 = .ok (.iconst 0, 1) := by decide +kernel
theorem dX7_piece_22 : decode cX7_piece 22 = .ok (.iconst 1, 1) := by decide +kernel
theorem dX7_piece_23 : decode cX7_piece 23 = .ok (.invokestatic 78, 3) := by decide +kernel
theorem dX7_piece_26 : decode cX7_piece 26 = .ok (.ifCond .ne 7, 3) := by decide +kernel
theorem dX7_piece_29 : decode cX7_piece 29 = .ok (.sipush (-1002), 3) := by decide +kernel
theorem dX7_piece_32 : decode cX7_piece 32 = .ok (.ireturn, 1) := by decide +kernel
theorem dX7_piece_33 : decode cX7_piece 33 = .ok (.aload_n 0, 1) := by decide +kernel
theorem dX7_piece_34 : decode cX7_piece 34 = .ok (.getfield 63, 3) := by decide +kernel
theorem dX7_piece_37 : decode cX7_piece 37 = .ok (.aload_n 0, 1) := by decide +kernel
theorem dX7_piece_38 : decode cX7_piece 38 = .ok (.invokevirtual 123, 3) := by decide +kernel
theorem dX7_piece_41 : decode cX7_piece 41 = .ok (.iload_n 1, 1) := by decide +kernel
theorem dX7_piece_42 : decode cX7_piece 42 = .ok (.invokevirtual 218, 3) := by decide +kernel
theorem dX7_piece_45 : decode cX7_piece 45 = .ok (.iload_n 2, 1) := by decide +kernel
theorem dX7_piece_46 : decode cX7_piece 46 = .ok (.iconst (-1), 1) := by decide +kernel
theorem dX7_piece_47 : decode cX7_piece 47 = .ok (.if_icmp .ne 11, 3) := by decide +kernel
theorem dX7_piece_50 : decode cX7_piece 50 = .ok (.aload_n 0, 1) := by decide +kernel
theorem dX7_piece_51 : decode cX7_piece 51 = .ok (.getfield 63, 3) := by decide +kernel
theorem dX7_piece_54 : decode cX7_piece 54 = .ok (.getfield 222, 3) := by decide +kernel
theorem dX7_piece_57 : decode cX7_piece 57 = .ok (.ireturn, 1) := by decide +kernel
theorem dX7_piece_58 : decode cX7_piece 58 = .ok (.iload_n 2, 1) := by decide +kernel
theorem dX7_piece_59 : decode cX7_piece 59 = .ok (.iconst 0, 1) := by decide +kernel
theorem dX7_piece_60 : decode cX7_piece 60 = .ok (.aload_n 0, 1) := by decide +kernel
theorem dX7_piece_61 : decode cX7_piece 61 = .ok (.getfield 63, 3) := by decide +kernel
theorem dX7_piece_64 : decode cX7_piece 64 = .ok (.getfield 222, 3) := by decide +kernel
theorem dX7_piece_67 : decode cX7_piece 67 = .ok (.iconst 1, 1) := by decide +kernel
theorem dX7_piece_68 : decode cX7_piece 68 = .ok (.isub, 1) := by decide +kernel
theorem dX7_piece_69 : decode cX7_piece 69 = .ok (.invokestatic 78, 3) := by decide +kernel
theorem dX7_piece_72 : decode cX7_piece 72 = .ok (.ifCond .ne 5, 3) := by decide +kernel
theorem dX7_piece_75 : decode cX7_piece 75 = .ok (.iconst (-1), 1) := by decide +kernel
theorem dX7_piece_76 : decode cX7_piece 76 = .ok (.ireturn, 1) := by decide +kernel
theorem dX7_piece_77 : decode cX7_piece 77 = .ok (.iload_n 3, 1) := by decide +kernel
theorem dX7_piece_78 : decode cX7_piece 78 = .ok (.ifCond .ne 15, 3) := by decide +kernel
theorem dX7_piece_81 : decode cX7_piece 81 = .ok (.aload_n 0, 1) := by decide +kernel
theorem dX7_piece_82 : decode cX7_piece 82 = .ok (.getfield 63, 3) := by decide +kernel
theorem dX7_piece_85 : decode cX7_piece 85 = .ok (.getfield 223, 3) := by decide +kernel
theorem dX7_piece_88 : decode cX7_piece 88 = .ok (.iload_n 2, 1) := by decide +kernel
theorem dX7_piece_89 : decode cX7_piece 89 = .ok (.iaload, 1) := by decide +kernel
theorem dX7_piece_90 : decode cX7_piece 90 = .ok (.goto 12, 3) := by decide +kernel
theorem dX7_piece_93 : decode cX7_piece 93 = .ok (.aload_n 0, 1) := by decide +kernel
theorem dX7_piece_94 : decode cX7_piece 94 = .ok (.getfield 63, 3) := by decide +kernel
theorem dX7_piece_97 : decode cX7_piece 97 = .ok (.getfield 224, 3) := by decide +kernel
theorem dX7_piece_100 : decode cX7_piece 100 = .ok (.iload_n 2, 1) := by decide +kernel
theorem dX7_piece_101 : decode cX7_piece 101 = .ok (.iaload, 1) := by decide +kernel
theorem dX7_piece_102 : decode cX7_piece 102 = .ok (.ireturn, 1) := by decide +kernel
theorem dX7_count_0 : decode cX7_count 0 = .ok (.iload_n 1, 1) := by decide +kernel
theorem dX7_count_1 : decode cX7_count 1 = .ok (.tableswitch 123 0 8 #[51, 59, 67, 75, 83, 91, 99, 107, 115], 51) := by decide +kernel
theorem dX7_count_52 : decode cX7_count 52 = .ok (.aload_n 0, 1) := by decide +kernel
theorem dX7_count_53 : decode cX7_count 53 = .ok (.getfield 10, 3) := by decide +kernel
theorem dX7_count_56 : decode cX7_count 56 = .ok (.getfield 81, 3) := by decide +kernel
theorem dX7_count_59 : decode cX7_count 59 = .ok (.ireturn, 1) := by decide +kernel
theorem dX7_count_60 : decode cX7_count 60 = .ok (.aload_n 0, 1) := by decide +kernel
theorem dX7_count_61 : decode cX7_count 61 = .ok (.getfield 26, 3) := by decide +kernel
theorem dX7_count_64 : decode cX7_count 64 = .ok (.invokevirtual 227, 3) := by decide +kernel
theorem dX7_count_67 : decode cX7_count 67 = .ok (.ireturn, 1) := by decide +kernel
theorem dX7_count_68 : decode cX7_count 68 = .ok (.aload_n 0, 1) := by decide +kernel
theorem dX7_count_69 : decode cX7_count 69 = .ok (.getfield 26, 3) := by decide +kernel
theorem dX7_count_72 : decode cX7_count 72 = .ok (.getfield 164, 3) := by decide +kernel
theorem dX7_count_75 : decode cX7_count 75 = .ok (.ireturn, 1) := by decide +kernel
theorem dX7_count_76 : decode cX7_count 76 = .ok (.aload_n 0, 1) := by decide +kernel
theorem dX7_count_77 : decode cX7_count 77 = .ok (.invokevirtual 123, 3) := by decide +kernel
theorem dX7_count_80 : decode cX7_count 80 = .ok (.getfield 231, 3) := by decide +kernel
theorem dX7_count_83 : decode cX7_count 83 = .ok (.ireturn, 1) := by decide +kernel
theorem dX7_count_84 : decode cX7_count 84 = .ok (.aload_n 0, 1) := by decide +kernel
theorem dX7_count_85 : decode cX7_count 85 = .ok (.invokevirtual 123, 3) := by decide +kernel
theorem dX7_count_88 : decode cX7_count 88 = .ok (.getfield 158, 3) := by decide +kernel
theorem dX7_count_91 : decode cX7_count 91 = .ok (.ireturn, 1) := by decide +kernel
theorem dX7_count_92 : decode cX7_count 92 = .ok (.aload_n 0, 1) := by decide +kernel
theorem dX7_count_93 : decode cX7_count 93 = .ok (.invokevirtual 123, 3) := by decide +kernel
theorem dX7_count_96 : decode cX7_count 96 = .ok (.invokevirtual 234, 3) := by decide +kernel
theorem dX7_count_99 : decode cX7_count 99 = .ok (.ireturn, 1) := by decide +kernel
theorem dX7_count_100 : decode cX7_count 100 = .ok (.aload_n 0, 1) := by decide +kernel
theorem dX7_count_101 : decode cX7_count 101 = .ok (.invokevirtual 123, 3) := by decide +kernel
theorem dX7_count_104 : decode cX7_count 104 = .ok (.invokevirtual 237, 3) := by decide +kernel
theorem dX7_count_107 : decode cX7_count 107 = .ok (.ireturn, 1) := by decide +kernel
theorem dX7_count_108 : decode cX7_count 108 = .ok (.aload_n 0, 1) := by decide +kernel
theorem dX7_count_109 : decode cX7_count 109 = .ok (.invokevirtual 123, 3) := by decide +kernel
theorem dX7_count_112 : decode cX7_count 112 = .ok (.invokevirtual 240, 3) := by decide +kernel
theorem dX7_count_115 : decode cX7_count 115 = .ok (.ireturn, 1) := by decide +kernel
theorem dX7_count_116 : decode cX7_count 116 = .ok (.aload_n 0, 1) := by decide +kernel
theorem dX7_count_117 : decode cX7_count 117 = .ok (.getfield 56, 3) := by decide +kernel
theorem dX7_count_120 : decode cX7_count 120 = .ok (.getfield 243, 3) := by decide +kernel
theorem dX7_count_123 : decode cX7_count 123 = .ok (.ireturn, 1) := by decide +kernel
theorem dX7_count_124 : decode cX7_count 124 = .ok (.sipush (-1002), 3) := by decide +kernel
theorem dX7_count_127 : decode cX7_count 127 = .ok (.ireturn, 1) := by decide +kernel
theorem dX7_feed_0 : decode cX7_feed 0 = .ok (.iload_n 1, 1) := by decide +kernel
theorem dX7_feed_1 : decode cX7_feed 1 = .ok (.iconst 1, 1) := by decide +kernel
theorem dX7_feed_2 : decode cX7_feed 2 = .ok (.bipush 8, 2) := by decide +kernel
theorem dX7_feed_4 : decode cX7_feed 4 = .ok (.invokestatic 78, 3) := by decide +kernel
theorem dX7_feed_7 : decode cX7_feed 7 = .ok (.ifCond .ne 7, 3) := by decide +kernel
theorem dX7_feed_10 : decode cX7_feed 10 = .ok (.sipush (-1002), 3) := by decide +kernel
theorem dX7_feed_13 : decode cX7_feed 13 = .ok (.ireturn, 1) := by decide +kernel
theorem dX7_feed_14 : decode cX7_feed 14 = .ok (.aload_n 0, 1) := by decide +kernel
theorem dX7_feed_15 : decode cX7_feed 15 = .ok (.getfield 56, 3) := by decide +kernel
theorem dX7_feed_18 : decode cX7_feed 18 = .ok (.getfield 243, 3) := by decide +kernel
theorem dX7_feed_21 : decode cX7_feed 21 = .ok (.iload_n 1, 1) := by decide +kernel
theorem dX7_feed_22 : decode cX7_feed 22 = .ok (.iadd, 1) := by decide +kernel
theorem dX7_feed_23 : decode cX7_feed 23 = .ok (.sipush 200, 3) := by decide +kernel
theorem dX7_feed_26 : decode cX7_feed 26 = .ok (.if_icmp .le 7, 3) := by decide +kernel
theorem dX7_feed_29 : decode cX7_feed 29 = .ok (.sipush (-1004), 3) := by decide +kernel
theorem dX7_feed_32 : decode cX7_feed 32 = .ok (.ireturn, 1) := by decide +kernel
theorem dX7_feed_33 : decode cX7_feed 33 = .ok (.iload_n 1, 1) := by decide +kernel
theorem dX7_feed_34 : decode cX7_feed 34 = .ok (.iconst 1, 1) := by decide +kernel
theorem dX7_feed_35 : decode cX7_feed 35 = .ok (.isub, 1) := by decide +kernel
theorem dX7_feed_36 : decode cX7_feed 36 = .ok (.istore 4, 2) := by decide +kernel
theorem dX7_feed_38 : decode cX7_feed 38 = .ok (.iload 4, 2) := by decide +kernel
theorem dX7_feed_40 : decode cX7_feed 40 = .ok (.ifCond .lt 28, 3) := by decide +kernel
theorem dX7_feed_43 : decode cX7_feed 43 = .ok (.aload_n 0, 1) := by decide +kernel
theorem dX7_feed_44 : decode cX7_feed 44 = .ok (.getfield 56, 3) := by decide +kernel
theorem dX7_feed_47 : decode cX7_feed 47 = .ok (.lload_n 2, 1) := by decide +kernel
theorem dX7_feed_48 : decode cX7_feed 48 = .ok (.bipush 8, 2) := by decide +kernel
theorem dX7_feed_50 : decode cX7_feed 50 = .ok (.iload 4, 2) := by decide +kernel
theorem dX7_feed_52 : decode cX7_feed 52 = .ok (.imul, 1) := by decide +kernel
theorem dX7_feed_53 : decode cX7_feed 53 = .ok (.lushr, 1) := by decide +kernel
theorem dX7_feed_54 : decode cX7_feed 54 = .ok (.l2i, 1) := by decide +kernel
theorem dX7_feed_55 : decode cX7_feed 55 = .ok (.sipush 255, 3) := by decide +kernel
theorem dX7_feed_58 : decode cX7_feed 58 = .ok (.iand, 1) := by decide +kernel
theorem dX7_feed_59 : decode cX7_feed 59 = .ok (.invokevirtual 245, 3) := by decide +kernel
theorem dX7_feed_62 : decode cX7_feed 62 = .ok (.iinc 4 (-1), 3) := by decide +kernel
theorem dX7_feed_65 : decode cX7_feed 65 = .ok (.goto (-27), 3) := by decide +kernel
theorem dX7_feed_68 : decode cX7_feed 68 = .ok (.aload_n 0, 1) := by decide +kernel
theorem dX7_feed_69 : decode cX7_feed 69 = .ok (.getfield 56, 3) := by decide +kernel
theorem dX7_feed_72 : decode cX7_feed 72 = .ok (.getfield 243, 3) := by decide +kernel
theorem dX7_feed_75 : decode cX7_feed 75 = .ok (.ireturn, 1) := by decide +kernel
theorem dX7_read_0 : decode cX7_read 0 = .ok (.aload_n 0, 1) := by decide +kernel
theorem dX7_read_1 : decode cX7_read 1 = .ok (.getfield 56, 3) := by decide +kernel
theorem dX7_read_4 : decode cX7_read 4 = .ok (.invokevirtual 248, 3) := by decide +kernel
theorem dX7_read_7 : decode cX7_read 7 = .ok (.istore_n 1, 1) := by decide +kernel
theorem dX7_read_8 : decode cX7_read 8 = .ok (.aload_n 0, 1) := by decide +kernel
theorem dX7_read_9 : decode cX7_read 9 = .ok (.getfield 56, 3) := by decide +kernel
theorem dX7_read_12 : decode cX7_read 12 = .ok (.getfield 251, 3) := by decide +kernel
theorem dX7_read_15 : decode cX7_read 15 = .ok (.ifCond .eq 14, 3) := by decide +kernel
theorem dX7_read_18 : decode cX7_read 18 = .ok (.bipush (-10), 2) := by decide +kernel
theorem dX7_read_20 : decode cX7_read 20 = .ok (.aload_n 0, 1) := by decide +kernel
theorem dX7_read_21 : decode cX7_read 21 = .ok (.getfield 56, 3) := by decide +kernel
theorem dX7_read_24 : decode cX7_read 24 = .ok (.getfield 251, 3) := by decide +kernel
theorem dX7_read_27 : decode cX7_read 27 = .ok (.isub, 1) := by decide +kernel
theorem dX7_read_28 : decode cX7_read 28 = .ok (.ireturn, 1) := by decide +kernel
theorem dX7_read_29 : decode cX7_read 29 = .ok (.aload_n 0, 1) := by decide +kernel
theorem dX7_read_30 : decode cX7_read 30 = .ok (.getfield 56, 3) := by decide +kernel
theorem dX7_read_33 : decode cX7_read 33 = .ok (.getfield 254, 3) := by decide +kernel
theorem dX7_read_36 : decode cX7_read 36 = .ok (.iconst 0, 1) := by decide +kernel
theorem dX7_read_37 : decode cX7_read 37 = .ok (.aload_n 0, 1) := by decide +kernel
theorem dX7_read_38 : decode cX7_read 38 = .ok (.getfield 26, 3) := by decide +kernel
theorem dX7_read_41 : decode cX7_read 41 = .ok (.getfield 146, 3) := by decide +kernel
theorem dX7_read_44 : decode cX7_read 44 = .ok (.iconst 0, 1) := by decide +kernel
theorem dX7_read_45 : decode cX7_read 45 = .ok (.bipush 10, 2) := by decide +kernel
theorem dX7_read_47 : decode cX7_read 47 = .ok (.invokestatic 255, 3) := by decide +kernel
theorem dX7_read_50 : decode cX7_read 50 = .ok (.aload_n 0, 1) := by decide +kernel
theorem dX7_read_51 : decode cX7_read 51 = .ok (.invokevirtual 93, 3) := by decide +kernel
theorem dX7_read_54 : decode cX7_read 54 = .ok (.iload_n 1, 1) := by decide +kernel
theorem dX7_read_55 : decode cX7_read 55 = .ok (.ireturn, 1) := by decide +kernel
theorem dX7_fault_0 : decode cX7_fault 0 = .ok (.aload_n 0, 1) := by decide +kernel
theorem dX7_fault_1 : decode cX7_fault 1 = .ok (.getfield 56, 3) := by decide +kernel
theorem dX7_fault_4 : decode cX7_fault 4 = .ok (.getfield 261, 3) := by decide +kernel
theorem dX7_fault_7 : decode cX7_fault 7 = .ok (.ireturn, 1) := by decide +kernel
theorem dX7_style_0 : decode cX7_style 0 = .ok (.iload_n 1, 1) := by decide +kernel
theorem dX7_style_1 : decode cX7_style 1 = .ok (.iconst 0, 1) := by decide +kernel
theorem dX7_style_2 : decode cX7_style 2 = .ok (.bipush 9, 2) := by decide +kernel
theorem dX7_style_4 : decode cX7_style 4 = .ok (.invokestatic 78, 3) := by decide +kernel
theorem dX7_style_7 : decode cX7_style 7 = .ok (.ifCond .eq 15, 3) := by decide +kernel
theorem dX7_style_10 : decode cX7_style 10 = .ok (.aload_n 0, 1) := by decide +kernel
theorem dX7_style_11 : decode cX7_style 11 = .ok (.getfield 26, 3) := by decide +kernel
theorem dX7_style_14 : decode cX7_style 14 = .ok (.getfield 146, 3) := by decide +kernel
theorem dX7_style_17 : decode cX7_style 17 = .ok (.iload_n 1, 1) := by decide +kernel
theorem dX7_style_18 : decode cX7_style 18 = .ok (.iaload, 1) := by decide +kernel
theorem dX7_style_19 : decode cX7_style 19 = .ok (.goto 6, 3) := by decide +kernel
theorem dX7_style_22 : decode cX7_style 22 = .ok (.sipush (-1002), 3) := by decide +kernel
theorem dX7_style_25 : decode cX7_style 25 = .ok (.ireturn, 1) := by decide +kernel
theorem dX7_keep_0 : decode cX7_keep 0 = .ok (.iload_n 1, 1) := by decide +kernel
theorem dX7_keep_1 : decode cX7_keep 1 = .ok (.iconst 0, 1) := by decide +kernel
theorem dX7_keep_2 : decode cX7_keep 2 = .ok (.iconst 3, 1) := by decide +kernel
theorem dX7_keep_3 : decode cX7_keep 3 = .ok (.invokestatic 78, 3) := by decide +kernel
theorem dX7_keep_6 : decode cX7_keep 6 = .ok (.ifCond .ne 7, 3) := by decide +kernel
theorem dX7_keep_9 : decode cX7_keep 9 = .ok (.sipush (-1001), 3) := by decide +kernel
theorem dX7_keep_12 : decode cX7_keep 12 = .ok (.ireturn, 1) := by decide +kernel
theorem dX7_keep_13 : decode cX7_keep 13 = .ok (.aload_n 0, 1) := by decide +kernel
theorem dX7_keep_14 : decode cX7_keep 14 = .ok (.getfield 45, 3) := by decide +kernel
theorem dX7_keep_17 : decode cX7_keep 17 = .ok (.iload_n 1, 1) := by decide +kernel
theorem dX7_keep_18 : decode cX7_keep 18 = .ok (.aaload, 1) := by decide +kernel
theorem dX7_keep_19 : decode cX7_keep 19 = .ok (.aload_n 0, 1) := by decide +kernel
theorem dX7_keep_20 : decode cX7_keep 20 = .ok (.getfield 26, 3) := by decide +kernel
theorem dX7_keep_23 : decode cX7_keep 23 = .ok (.invokevirtual 264, 3) := by decide +kernel
theorem dX7_keep_26 : decode cX7_keep 26 = .ok (.aload_n 0, 1) := by decide +kernel
theorem dX7_keep_27 : decode cX7_keep 27 = .ok (.getfield 49, 3) := by decide +kernel
theorem dX7_keep_30 : decode cX7_keep 30 = .ok (.iload_n 1, 1) := by decide +kernel
theorem dX7_keep_31 : decode cX7_keep 31 = .ok (.iconst 1, 1) := by decide +kernel
theorem dX7_keep_32 : decode cX7_keep 32 = .ok (.bastore, 1) := by decide +kernel
theorem dX7_keep_33 : decode cX7_keep 33 = .ok (.aload_n 0, 1) := by decide +kernel
theorem dX7_keep_34 : decode cX7_keep 34 = .ok (.invokevirtual 123, 3) := by decide +kernel
theorem dX7_keep_37 : decode cX7_keep 37 = .ok (.getfield 231, 3) := by decide +kernel
theorem dX7_keep_40 : decode cX7_keep 40 = .ok (.ireturn, 1) := by decide +kernel
theorem dX7_back_0 : decode cX7_back 0 = .ok (.aload_n 0, 1) := by decide +kernel
theorem dX7_back_1 : decode cX7_back 1 = .ok (.iload_n 1, 1) := by decide +kernel
theorem dX7_back_2 : decode cX7_back 2 = .ok (.invokevirtual 268, 3) := by decide +kernel
theorem dX7_back_5 : decode cX7_back 5 = .ok (.ifCond .ne 7, 3) := by decide +kernel
theorem dX7_back_8 : decode cX7_back 8 = .ok (.sipush (-1001), 3) := by decide +kernel
theorem dX7_back_11 : decode cX7_back 11 = .ok (.ireturn, 1) := by decide +kernel
theorem dX7_back_12 : decode cX7_back 12 = .ok (.aload_n 0, 1) := by decide +kernel
theorem dX7_back_13 : decode cX7_back 13 = .ok (.getfield 26, 3) := by decide +kernel
theorem dX7_back_16 : decode cX7_back 16 = .ok (.aload_n 0, 1) := by decide +kernel
theorem dX7_back_17 : decode cX7_back 17 = .ok (.getfield 45, 3) := by decide +kernel
theorem dX7_back_20 : decode cX7_back 20 = .ok (.iload_n 1, 1) := by decide +kernel
theorem dX7_back_21 : decode cX7_back 21 = .ok (.aaload, 1) := by decide +kernel
theorem dX7_back_22 : decode cX7_back 22 = .ok (.invokevirtual 264, 3) := by decide +kernel
theorem dX7_back_25 : decode cX7_back 25 = .ok (.aload_n 0, 1) := by decide +kernel
theorem dX7_back_26 : decode cX7_back 26 = .ok (.invokevirtual 93, 3) := by decide +kernel
theorem dX7_back_29 : decode cX7_back 29 = .ok (.aload_n 0, 1) := by decide +kernel
theorem dX7_back_30 : decode cX7_back 30 = .ok (.getfield 26, 3) := by decide +kernel
theorem dX7_back_33 : decode cX7_back 33 = .ok (.getfield 164, 3) := by decide +kernel
theorem dX7_back_36 : decode cX7_back 36 = .ok (.ireturn, 1) := by decide +kernel
theorem dX7_beside_0 : decode cX7_beside 0 = .ok (.aload_n 0, 1) := by decide +kernel
theorem dX7_beside_1 : decode cX7_beside 1 = .ok (.iload_n 1, 1) := by decide +kernel
theorem dX7_beside_2 : decode cX7_beside 2 = .ok (.invokevirtual 268, 3) := by decide +kernel
theorem dX7_beside_5 : decode cX7_beside 5 = .ok (.ifCond .ne 7, 3) := by decide +kernel
theorem dX7_beside_8 : decode cX7_beside 8 = .ok (.sipush (-1001), 3) := by decide +kernel
theorem dX7_beside_11 : decode cX7_beside 11 = .ok (.ireturn, 1) := by decide +kernel
theorem dX7_beside_12 : decode cX7_beside 12 = .ok (.iload_n 2, 1) := by decide +kernel
theorem dX7_beside_13 : decode cX7_beside 13 = .ok (.iconst 0, 1) := by decide +kernel
theorem dX7_beside_14 : decode cX7_beside 14 = .ok (.iconst 2, 1) := by decide +kernel
theorem dX7_beside_15 : decode cX7_beside 15 = .ok (.invokestatic 78, 3) := by decide +kernel
theorem dX7_beside_18 : decode cX7_beside 18 = .ok (.ifCond .ne 7, 3) := by decide +kernel
theorem dX7_beside_21 : decode cX7_beside 21 = .ok (.sipush (-1002), 3) := by decide +kernel
theorem dX7_beside_24 : decode cX7_beside 24 = .ok (.ireturn, 1) := by decide +kernel
theorem dX7_beside_25 : decode cX7_beside 25 = .ok (.aload_n 0, 1) := by decide +kernel
theorem dX7_beside_26 : decode cX7_beside 26 = .ok (.invokevirtual 123, 3) := by decide +kernel
theorem dX7_beside_29 : decode cX7_beside 29 = .ok (.astore_n 3, 1) := by decide +kernel
theorem dX7_beside_30 : decode cX7_beside 30 = .ok (.aload_n 0, 1) := by decide +kernel
theorem dX7_beside_31 : decode cX7_beside 31 = .ok (.getfield 39, 3) := by decide +kernel
theorem dX7_beside_34 : decode cX7_beside 34 = .ok (.aload_n 0, 1) := by decide +kernel
theorem dX7_beside_35 : decode cX7_beside 35 = .ok (.getfield 45, 3) := by decide +kernel
theorem dX7_beside_38 : decode cX7_beside 38 = .ok (.iload_n 1, 1) := by decide +kernel
theorem dX7_beside_39 : decode cX7_beside 39 = .ok (.aaload, 1) := by decide +kernel
theorem dX7_beside_40 : decode cX7_beside 40 = .ok (.invokevirtual 264, 3) := by decide +kernel
theorem dX7_beside_43 : decode cX7_beside 43 = .ok (.aload_n 0, 1) := by decide +kernel
theorem dX7_beside_44 : decode cX7_beside 44 = .ok (.getfield 42, 3) := by decide +kernel
theorem dX7_beside_47 : decode cX7_beside 47 = .ok (.invokevirtual 271, 3) := by decide +kernel
theorem dX7_beside_50 : decode cX7_beside 50 = .ok (.iconst 0, 1) := by decide +kernel
theorem dX7_beside_51 : decode cX7_beside 51 = .ok (.istore 4, 2) := by decide +kernel
theorem dX7_beside_53 : decode cX7_beside 53 = .ok (.iconst 0, 1) := by decide +kernel
theorem dX7_beside_54 : decode cX7_beside 54 = .ok (.istore 5, 2) := by decide +kernel
theorem dX7_beside_56 : decode cX7_beside 56 = .ok (.iconst (-1), 1) := by decide +kernel
theorem dX7_beside_57 : decode cX7_beside 57 = .ok (.istore 6, 2) := by decide +kernel
theorem dX7_beside_59 : decode cX7_beside 59 = .ok (.iconst 0, 1) := by decide +kernel
theorem dX7_beside_60 : decode cX7_beside 60 = .ok (.istore 7, 2) := by decide +kernel
theorem dX7_beside_62 : decode cX7_beside 62 = .ok (.iload 7, 2) := by decide +kernel
theorem dX7_beside_64 : decode cX7_beside 64 = .ok (.aload_n 0, 1) := by decide +kernel
theorem dX7_beside_65 : decode cX7_beside 65 = .ok (.getfield 19, 3) := by decide +kernel
theorem dX7_beside_68 : decode cX7_beside 68 = .ok (.getfield 182, 3) := by decide +kernel
theorem dX7_beside_71 : decode cX7_beside 71 = .ok (.if_icmp .ge 119, 3) := by decide +kernel
theorem dX7_beside_74 : decode cX7_beside 74 = .ok (.aload_n 3, 1) := by decide +kernel
theorem dX7_beside_75 : decode cX7_beside 75 = .ok (.iload 7, 2) := by decide +kernel
theorem dX7_beside_77 : decode cX7_beside 77 = .ok (.invokevirtual 188, 3) := by decide +kernel
theorem dX7_beside_80 : decode cX7_beside 80 = .ok (.istore 8, 2) := by decide +kernel
theorem dX7_beside_82 : decode cX7_beside 82 = .ok (.iload 8, 2) := by decide +kernel
theorem dX7_beside_84 : decode cX7_beside 84 = .ok (.aload_n 0, 1) := by decide +kernel
theorem dX7_beside_85 : decode cX7_beside 85 = .ok (.getfield 42, 3) := by decide +kernel
theorem dX7_beside_88 : decode cX7_beside 88 = .ok (.iload 7, 2) := by decide +kernel
theorem dX7_beside_90 : decode cX7_beside 90 = .ok (.invokevirtual 188, 3) := by decide +kernel
theorem dX7_beside_93 : decode cX7_beside 93 = .ok (.if_icmp .eq 7, 3) := by decide +kernel
theorem dX7_beside_96 : decode cX7_beside 96 = .ok (.iconst 1, 1) := by decide +kernel
theorem dX7_beside_97 : decode cX7_beside 97 = .ok (.goto 4, 3) := by decide +kernel
theorem dX7_beside_100 : decode cX7_beside 100 = .ok (.iconst 0, 1) := by decide +kernel
theorem dX7_beside_101 : decode cX7_beside 101 = .ok (.istore 9, 2) := by decide +kernel
theorem dX7_beside_103 : decode cX7_beside 103 = .ok (.iload 9, 2) := by decide +kernel
theorem dX7_beside_105 : decode cX7_beside 105 = .ok (.ifCond .ne 21, 3) := by decide +kernel
theorem dX7_beside_108 : decode cX7_beside 108 = .ok (.iload 8, 2) := by decide +kernel
theorem dX7_beside_110 : decode cX7_beside 110 = .ok (.ifCond .eq 16, 3) := by decide +kernel
theorem dX7_beside_113 : decode cX7_beside 113 = .ok (.aload_n 0, 1) := by decide +kernel
theorem dX7_beside_114 : decode cX7_beside 114 = .ok (.iload 7, 2) := by decide +kernel
theorem dX7_beside_116 : decode cX7_beside 116 = .ok (.invokevirtual 274, 3) := by decide +kernel
theorem dX7_beside_119 : decode cX7_beside 119 = .ok (.ifCond .eq 7, 3) := by decide +kernel
theorem dX7_beside_122 : decode cX7_beside 122 = .ok (.iconst 1, 1) := by decide +kernel
theorem dX7_beside_123 : decode cX7_beside 123 = .ok (.goto 4, 3) := by decide +kernel
theorem dX7_beside_126 : decode cX7_beside 126 = .ok (.iconst 0, 1) := by decide +kernel
theorem dX7_beside_127 : decode cX7_beside 127 = .ok (.istore 10, 2) := by decide +kernel
theorem dX7_beside_129 : decode cX7_beside 129 = .ok (.iload 4, 2) := by decide +kernel
theorem dX7_beside_131 : decode cX7_beside 131 = .ok (.iload 9, 2) := by decide +kernel
theorem dX7_beside_133 : decode cX7_beside 133 = .ok (.ifCond .eq 7, 3) := by decide +kernel
theorem dX7_beside_136 : decode cX7_beside 136 = .ok (.iconst 1, 1) := by decide +kernel
theorem dX7_beside_137 : decode cX7_beside 137 = .ok (.goto 4, 3) := by decide +kernel
theorem dX7_beside_140 : decode cX7_beside 140 = .ok (.iconst 0, 1) := by decide +kernel
theorem dX7_beside_141 : decode cX7_beside 141 = .ok (.iadd, 1) := by decide +kernel
theorem dX7_beside_142 : decode cX7_beside 142 = .ok (.istore 4, 2) := by decide +kernel
theorem dX7_beside_144 : decode cX7_beside 144 = .ok (.iload 5, 2) := by decide +kernel
theorem dX7_beside_146 : decode cX7_beside 146 = .ok (.iload 10, 2) := by decide +kernel
theorem dX7_beside_148 : decode cX7_beside 148 = .ok (.ifCond .eq 7, 3) := by decide +kernel
theorem dX7_beside_151 : decode cX7_beside 151 = .ok (.iconst 1, 1) := by decide +kernel
theorem dX7_beside_152 : decode cX7_beside 152 = .ok (.goto 4, 3) := by decide +kernel
theorem dX7_beside_155 : decode cX7_beside 155 = .ok (.iconst 0, 1) := by decide +kernel
theorem dX7_beside_156 : decode cX7_beside 156 = .ok (.iadd, 1) := by decide +kernel
theorem dX7_beside_157 : decode cX7_beside 157 = .ok (.istore 5, 2) := by decide +kernel
theorem dX7_beside_159 : decode cX7_beside 159 = .ok (.iload 6, 2) := by decide +kernel
theorem dX7_beside_161 : decode cX7_beside 161 = .ok (.iconst (-1), 1) := by decide +kernel
theorem dX7_beside_162 : decode cX7_beside 162 = .ok (.if_icmp .ne 18, 3) := by decide +kernel
theorem dX7_beside_165 : decode cX7_beside 165 = .ok (.iload 9, 2) := by decide +kernel
theorem dX7_beside_167 : decode cX7_beside 167 = .ok (.ifCond .ne 8, 3) := by decide +kernel
theorem dX7_beside_170 : decode cX7_beside 170 = .ok (.iload 10, 2) := by decide +kernel
theorem dX7_beside_172 : decode cX7_beside 172 = .ok (.ifCond .eq 8, 3) := by decide +kernel
theorem dX7_beside_175 : decode cX7_beside 175 = .ok (.iload 7, 2) := by decide +kernel
theorem dX7_beside_177 : decode cX7_beside 177 = .ok (.goto 5, 3) := by decide +kernel
theorem dX7_beside_180 : decode cX7_beside 180 = .ok (.iload 6, 2) := by decide +kernel
theorem dX7_beside_182 : decode cX7_beside 182 = .ok (.istore 6, 2) := by decide +kernel
theorem dX7_beside_184 : decode cX7_beside 184 = .ok (.iinc 7 1, 3) := by decide +kernel
theorem dX7_beside_187 : decode cX7_beside 187 = .ok (.goto (-125), 3) := by decide +kernel
theorem dX7_beside_190 : decode cX7_beside 190 = .ok (.iload_n 2, 1) := by decide +kernel
theorem dX7_beside_191 : decode cX7_beside 191 = .ok (.ifCond .ne 8, 3) := by decide +kernel
theorem dX7_beside_194 : decode cX7_beside 194 = .ok (.iload 4, 2) := by decide +kernel
theorem dX7_beside_196 : decode cX7_beside 196 = .ok (.goto 15, 3) := by decide +kernel
theorem dX7_beside_199 : decode cX7_beside 199 = .ok (.iload_n 2, 1) := by decide +kernel
theorem dX7_beside_200 : decode cX7_beside 200 = .ok (.iconst 1, 1) := by decide +kernel
theorem dX7_beside_201 : decode cX7_beside 201 = .ok (.if_icmp .ne 8, 3) := by decide +kernel
theorem dX7_beside_204 : decode cX7_beside 204 = .ok (.iload 5, 2) := by decide +kernel
theorem dX7_beside_206 : decode cX7_beside 206 = .ok (.goto 5, 3) := by decide +kernel
theorem dX7_beside_209 : decode cX7_beside 209 = .ok (.iload 6, 2) := by decide +kernel
theorem dX7_beside_211 : decode cX7_beside 211 = .ok (.ireturn, 1) := by decide +kernel
theorem dX7_together_0 : decode cX7_together 0 = .ok (.aload_n 0, 1) := by decide +kernel
theorem dX7_together_1 : decode cX7_together 1 = .ok (.getfield 10, 3) := by decide +kernel
theorem dX7_together_4 : decode cX7_together 4 = .ok (.iload_n 1, 1) := by decide +kernel
theorem dX7_together_5 : decode cX7_together 5 = .ok (.invokevirtual 96, 3) := by decide +kernel
theorem dX7_together_8 : decode cX7_together 8 = .ok (.ifCond .eq 14, 3) := by decide +kernel
theorem dX7_together_11 : decode cX7_together 11 = .ok (.aload_n 0, 1) := by decide +kernel
theorem dX7_together_12 : decode cX7_together 12 = .ok (.getfield 10, 3) := by decide +kernel
theorem dX7_together_15 : decode cX7_together 15 = .ok (.iload_n 2, 1) := by decide +kernel
theorem dX7_together_16 : decode cX7_together 16 = .ok (.invokevirtual 96, 3) := by decide +kernel
theorem dX7_together_19 : decode cX7_together 19 = .ok (.ifCond .ne 7, 3) := by decide +kernel
theorem dX7_together_22 : decode cX7_together 22 = .ok (.sipush (-1001), 3) := by decide +kernel
theorem dX7_together_25 : decode cX7_together 25 = .ok (.ireturn, 1) := by decide +kernel
theorem dX7_together_26 : decode cX7_together 26 = .ok (.aload_n 0, 1) := by decide +kernel
theorem dX7_together_27 : decode cX7_together 27 = .ok (.invokevirtual 123, 3) := by decide +kernel
theorem dX7_together_30 : decode cX7_together 30 = .ok (.astore_n 3, 1) := by decide +kernel
theorem dX7_together_31 : decode cX7_together 31 = .ok (.iconst 0, 1) := by decide +kernel
theorem dX7_together_32 : decode cX7_together 32 = .ok (.istore 4, 2) := by decide +kernel
theorem dX7_together_34 : decode cX7_together 34 = .ok (.iconst 0, 1) := by decide +kernel
theorem dX7_together_35 : decode cX7_together 35 = .ok (.istore 5, 2) := by decide +kernel
theorem dX7_together_37 : decode cX7_together 37 = .ok (.iload 5, 2) := by decide +kernel
theorem dX7_together_39 : decode cX7_together 39 = .ok (.aload_n 0, 1) := by decide +kernel
theorem dX7_together_40 : decode cX7_together 40 = .ok (.getfield 26, 3) := by decide +kernel
theorem dX7_together_43 : decode cX7_together 43 = .ok (.getfield 164, 3) := by decide +kernel
theorem dX7_together_46 : decode cX7_together 46 = .ok (.if_icmp .ge 42, 3) := by decide +kernel
theorem dX7_together_49 : decode cX7_together 49 = .ok (.aload_n 3, 1) := by decide +kernel
theorem dX7_together_50 : decode cX7_together 50 = .ok (.iload 5, 2) := by decide +kernel
theorem dX7_together_52 : decode cX7_together 52 = .ok (.aload_n 3, 1) := by decide +kernel
theorem dX7_together_53 : decode cX7_together 53 = .ok (.getfield 277, 3) := by decide +kernel
theorem dX7_together_56 : decode cX7_together 56 = .ok (.iload_n 1, 1) := by decide +kernel
theorem dX7_together_57 : decode cX7_together 57 = .ok (.iaload, 1) := by decide +kernel
theorem dX7_together_58 : decode cX7_together 58 = .ok (.invokevirtual 280, 3) := by decide +kernel
theorem dX7_together_61 : decode cX7_together 61 = .ok (.ifCond .eq 21, 3) := by decide +kernel
theorem dX7_together_64 : decode cX7_together 64 = .ok (.aload_n 3, 1) := by decide +kernel
theorem dX7_together_65 : decode cX7_together 65 = .ok (.iload 5, 2) := by decide +kernel
theorem dX7_together_67 : decode cX7_together 67 = .ok (.aload_n 3, 1) := by decide +kernel
theorem dX7_together_68 : decode cX7_together 68 = .ok (.getfield 277, 3) := by decide +kernel
theorem dX7_together_71 : decode cX7_together 71 = .ok (.iload_n 2, 1) := by decide +kernel
theorem dX7_together_72 : decode cX7_together 72 = .ok (.iaload, 1) := by decide +kernel
theorem dX7_together_73 : decode cX7_together 73 = .ok (.invokevirtual 280, 3) := by decide +kernel
theorem dX7_together_76 : decode cX7_together 76 = .ok (.ifCond .eq 6, 3) := by decide +kernel
theorem dX7_together_79 : decode cX7_together 79 = .ok (.iinc 4 1, 3) := by decide +kernel
theorem dX7_together_82 : decode cX7_together 82 = .ok (.iinc 5 1, 3) := by decide +kernel
theorem dX7_together_85 : decode cX7_together 85 = .ok (.goto (-48), 3) := by decide +kernel
theorem dX7_together_88 : decode cX7_together 88 = .ok (.iload 4, 2) := by decide +kernel
theorem dX7_together_90 : decode cX7_together 90 = .ok (.ireturn, 1) := by decide +kernel
theorem dX7_rank_0 : decode cX7_rank 0 = .ok (.aload_n 0, 1) := by decide +kernel
theorem dX7_rank_1 : decode cX7_rank 1 = .ok (.invokevirtual 123, 3) := by decide +kernel
theorem dX7_rank_4 : decode cX7_rank 4 = .ok (.astore_n 1, 1) := by decide +kernel
theorem dX7_rank_5 : decode cX7_rank 5 = .ok (.aload_n 1, 1) := by decide +kernel
theorem dX7_rank_6 : decode cX7_rank 6 = .ok (.getfield 158, 3) := by decide +kernel
theorem dX7_rank_9 : decode cX7_rank 9 = .ok (.istore_n 2, 1) := by decide +kernel
theorem dX7_rank_10 : decode cX7_rank 10 = .ok (.iload_n 2, 1) := by decide +kernel
theorem dX7_rank_11 : decode cX7_rank 11 = .ok (.ifCond .le 20, 3) := by decide +kernel
theorem dX7_rank_14 : decode cX7_rank 14 = .ok (.aload_n 1, 1) := by decide +kernel
theorem dX7_rank_15 : decode cX7_rank 15 = .ok (.iload_n 2, 1) := by decide +kernel
theorem dX7_rank_16 : decode cX7_rank 16 = .ok (.invokevirtual 284, 3) := by decide +kernel
theorem dX7_rank_19 : decode cX7_rank 19 = .ok (.iload_n 2, 1) := by decide +kernel
theorem dX7_rank_20 : decode cX7_rank 20 = .ok (.if_icmp .lt 5, 3) := by decide +kernel
theorem dX7_rank_23 : decode cX7_rank 23 = .ok (.iload_n 2, 1) := by decide +kernel
theorem dX7_rank_24 : decode cX7_rank 24 = .ok (.ireturn, 1) := by decide +kernel
theorem dX7_rank_25 : decode cX7_rank 25 = .ok (.iinc 2 (-1), 3) := by decide +kernel
theorem dX7_rank_28 : decode cX7_rank 28 = .ok (.goto (-18), 3) := by decide +kernel
theorem dX7_rank_31 : decode cX7_rank 31 = .ok (.iconst 0, 1) := by decide +kernel
theorem dX7_rank_32 : decode cX7_rank 32 = .ok (.ireturn, 1) := by decide +kernel
theorem dX7_least_0 : decode cX7_least 0 = .ok (.iload_n 1, 1) := by decide +kernel
theorem dX7_least_1 : decode cX7_least 1 = .ok (.iconst 0, 1) := by decide +kernel
theorem dX7_least_2 : decode cX7_least 2 = .ok (.iconst 5, 1) := by decide +kernel
theorem dX7_least_3 : decode cX7_least 3 = .ok (.invokestatic 78, 3) := by decide +kernel
theorem dX7_least_6 : decode cX7_least 6 = .ok (.ifCond .ne 7, 3) := by decide +kernel
theorem dX7_least_9 : decode cX7_least 9 = .ok (.sipush (-1002), 3) := by decide +kernel
theorem dX7_least_12 : decode cX7_least 12 = .ok (.ireturn, 1) := by decide +kernel
theorem dX7_least_13 : decode cX7_least 13 = .ok (.aload_n 0, 1) := by decide +kernel
theorem dX7_least_14 : decode cX7_least 14 = .ok (.invokevirtual 123, 3) := by decide +kernel
theorem dX7_least_17 : decode cX7_least 17 = .ok (.astore_n 2, 1) := by decide +kernel
theorem dX7_least_18 : decode cX7_least 18 = .ok (.aload_n 0, 1) := by decide +kernel
theorem dX7_least_19 : decode cX7_least 19 = .ok (.getfield 287, 3) := by decide +kernel
theorem dX7_least_22 : decode cX7_least 22 = .ok (.ifCond .ne 16, 3) := by decide +kernel
theorem dX7_least_25 : decode cX7_least 25 = .ok (.aload_n 0, 1) := by decide +kernel
theorem dX7_least_26 : decode cX7_least 26 = .ok (.getfield 70, 3) := by decide +kernel
theorem dX7_least_29 : decode cX7_least 29 = .ok (.aload_n 2, 1) := by decide +kernel
theorem dX7_least_30 : decode cX7_least 30 = .ok (.invokevirtual 291, 3) := by decide +kernel
theorem dX7_least_33 : decode cX7_least 33 = .ok (.aload_n 0, 1) := by decide +kernel
theorem dX7_least_34 : decode cX7_least 34 = .ok (.iconst 1, 1) := by decide +kernel
theorem dX7_least_35 : decode cX7_least 35 = .ok (.putfield 287, 3) := by decide +kernel
theorem dX7_least_38 : decode cX7_least 38 = .ok (.aload_n 0, 1) := by decide +kernel
theorem dX7_least_39 : decode cX7_least 39 = .ok (.getfield 70, 3) := by decide +kernel
theorem dX7_least_42 : decode cX7_least 42 = .ok (.getfield 295, 3) := by decide +kernel
theorem dX7_least_45 : decode cX7_least 45 = .ok (.ifCond .ne 7, 3) := by decide +kernel
theorem dX7_least_48 : decode cX7_least 48 = .ok (.sipush (-1003), 3) := by decide +kernel
theorem dX7_least_51 : decode cX7_least 51 = .ok (.ireturn, 1) := by decide +kernel
theorem dX7_least_52 : decode cX7_least 52 = .ok (.iload_n 1, 1) := by decide +kernel
theorem dX7_least_53 : decode cX7_least 53 = .ok (.tableswitch 87 1 5 #[35, 45, 55, 65, 76], 35) := by decide +kernel
theorem dX7_least_88 : decode cX7_least 88 = .ok (.aload_n 0, 1) := by decide +kernel
theorem dX7_least_89 : decode cX7_least 89 = .ok (.getfield 70, 3) := by decide +kernel
theorem dX7_least_92 : decode cX7_least 92 = .ok (.getfield 298, 3) := by decide +kernel
theorem dX7_least_95 : decode cX7_least 95 = .ok (.iconst 2, 1) := by decide +kernel
theorem dX7_least_96 : decode cX7_least 96 = .ok (.iaload, 1) := by decide +kernel
theorem dX7_least_97 : decode cX7_least 97 = .ok (.ireturn, 1) := by decide +kernel
theorem dX7_least_98 : decode cX7_least 98 = .ok (.aload_n 0, 1) := by decide +kernel
theorem dX7_least_99 : decode cX7_least 99 = .ok (.getfield 70, 3) := by decide +kernel
theorem dX7_least_102 : decode cX7_least 102 = .ok (.getfield 298, 3) := by decide +kernel
theorem dX7_least_105 : decode cX7_least 105 = .ok (.iconst 3, 1) := by decide +kernel
theorem dX7_least_106 : decode cX7_least 106 = .ok (.iaload, 1) := by decide +kernel
theorem dX7_least_107 : decode cX7_least 107 = .ok (.ireturn, 1) := by decide +kernel
theorem dX7_least_108 : decode cX7_least 108 = .ok (.aload_n 0, 1) := by decide +kernel
theorem dX7_least_109 : decode cX7_least 109 = .ok (.getfield 70, 3) := by decide +kernel
theorem dX7_least_112 : decode cX7_least 112 = .ok (.getfield 298, 3) := by decide +kernel
theorem dX7_least_115 : decode cX7_least 115 = .ok (.iconst 5, 1) := by decide +kernel
theorem dX7_least_116 : decode cX7_least 116 = .ok (.iaload, 1) := by decide +kernel
theorem dX7_least_117 : decode cX7_least 117 = .ok (.ireturn, 1) := by decide +kernel
theorem dX7_least_118 : decode cX7_least 118 = .ok (.aload_n 0, 1) := by decide +kernel
theorem dX7_least_119 : decode cX7_least 119 = .ok (.getfield 70, 3) := by decide +kernel
theorem dX7_least_122 : decode cX7_least 122 = .ok (.getfield 298, 3) := by decide +kernel
theorem dX7_least_125 : decode cX7_least 125 = .ok (.bipush 6, 2) := by decide +kernel
theorem dX7_least_127 : decode cX7_least 127 = .ok (.iaload, 1) := by decide +kernel
theorem dX7_least_128 : decode cX7_least 128 = .ok (.ireturn, 1) := by decide +kernel
theorem dX7_least_129 : decode cX7_least 129 = .ok (.aload_n 0, 1) := by decide +kernel
theorem dX7_least_130 : decode cX7_least 130 = .ok (.getfield 70, 3) := by decide +kernel
theorem dX7_least_133 : decode cX7_least 133 = .ok (.getfield 298, 3) := by decide +kernel
theorem dX7_least_136 : decode cX7_least 136 = .ok (.bipush 7, 2) := by decide +kernel
theorem dX7_least_138 : decode cX7_least 138 = .ok (.iaload, 1) := by decide +kernel
theorem dX7_least_139 : decode cX7_least 139 = .ok (.ireturn, 1) := by decide +kernel
theorem dX7_least_140 : decode cX7_least 140 = .ok (.aload_n 0, 1) := by decide +kernel
theorem dX7_least_141 : decode cX7_least 141 = .ok (.getfield 70, 3) := by decide +kernel
theorem dX7_least_144 : decode cX7_least 144 = .ok (.getfield 301, 3) := by decide +kernel
theorem dX7_least_147 : decode cX7_least 147 = .ok (.ireturn, 1) := by decide +kernel
theorem dX7_within_0 : decode cX7_within 0 = .ok (.iload_n 0, 1) := by decide +kernel
theorem dX7_within_1 : decode cX7_within 1 = .ok (.iload_n 1, 1) := by decide +kernel
theorem dX7_within_2 : decode cX7_within 2 = .ok (.if_icmp .lt 12, 3) := by decide +kernel
theorem dX7_within_5 : decode cX7_within 5 = .ok (.iload_n 0, 1) := by decide +kernel
theorem dX7_within_6 : decode cX7_within 6 = .ok (.iload_n 2, 1) := by decide +kernel
theorem dX7_within_7 : decode cX7_within 7 = .ok (.if_icmp .gt 7, 3) := by decide +kernel
theorem dX7_within_10 : decode cX7_within 10 = .ok (.iconst 1, 1) := by decide +kernel
theorem dX7_within_11 : decode cX7_within 11 = .ok (.goto 4, 3) := by decide +kernel
theorem dX7_within_14 : decode cX7_within 14 = .ok (.iconst 0, 1) := by decide +kernel
theorem dX7_within_15 : decode cX7_within 15 = .ok (.ireturn, 1) := by decide +kernel
theorem dX7_isAuthor_0 : decode cX7_isAuthor 0 = .ok (.iload_n 0, 1) := by decide +kernel
theorem dX7_isAuthor_1 : decode cX7_isAuthor 1 = .ok (.iconst 0, 1) := by decide +kernel
theorem dX7_isAuthor_2 : decode cX7_isAuthor 2 = .ok (.bipush 49, 2) := by decide +kernel
theorem dX7_isAuthor_4 : decode cX7_isAuthor 4 = .ok (.invokestatic 78, 3) := by decide +kernel
theorem dX7_isAuthor_7 : decode cX7_isAuthor 7 = .ok (.ifCond .eq 35, 3) := by decide +kernel
theorem dX7_isAuthor_10 : decode cX7_isAuthor 10 = .ok (.iload_n 1, 1) := by decide +kernel
theorem dX7_isAuthor_11 : decode cX7_isAuthor 11 = .ok (.iconst 0, 1) := by decide +kernel
theorem dX7_isAuthor_12 : decode cX7_isAuthor 12 = .ok (.bipush 26, 2) := by decide +kernel
theorem dX7_isAuthor_14 : decode cX7_isAuthor 14 = .ok (.invokestatic 78, 3) := by decide +kernel
theorem dX7_isAuthor_17 : decode cX7_isAuthor 17 = .ok (.ifCond .eq 25, 3) := by decide +kernel
theorem dX7_isAuthor_20 : decode cX7_isAuthor 20 = .ok (.iload_n 2, 1) := by decide +kernel
theorem dX7_isAuthor_21 : decode cX7_isAuthor 21 = .ok (.iconst 0, 1) := by decide +kernel
theorem dX7_isAuthor_22 : decode cX7_isAuthor 22 = .ok (.iload_n 1, 1) := by decide +kernel
theorem dX7_isAuthor_23 : decode cX7_isAuthor 23 = .ok (.ifCond .ne 7, 3) := by decide +kernel
theorem dX7_isAuthor_26 : decode cX7_isAuthor 26 = .ok (.iconst 0, 1) := by decide +kernel
theorem dX7_isAuthor_27 : decode cX7_isAuthor 27 = .ok (.goto 5, 3) := by decide +kernel
theorem dX7_isAuthor_30 : decode cX7_isAuthor 30 = .ok (.bipush 26, 2) := by decide +kernel
theorem dX7_isAuthor_32 : decode cX7_isAuthor 32 = .ok (.invokestatic 78, 3) := by decide +kernel
theorem dX7_isAuthor_35 : decode cX7_isAuthor 35 = .ok (.ifCond .eq 7, 3) := by decide +kernel
theorem dX7_isAuthor_38 : decode cX7_isAuthor 38 = .ok (.iconst 1, 1) := by decide +kernel
theorem dX7_isAuthor_39 : decode cX7_isAuthor 39 = .ok (.goto 4, 3) := by decide +kernel
theorem dX7_isAuthor_42 : decode cX7_isAuthor 42 = .ok (.iconst 0, 1) := by decide +kernel
theorem dX7_isAuthor_43 : decode cX7_isAuthor 43 = .ok (.ireturn, 1) := by decide +kernel
theorem dX7_figures_0 : decode cX7_figures 0 = .ok (.iload_n 0, 1) := by decide +kernel
theorem dX7_figures_1 : decode cX7_figures 1 = .ok (.sipush 1000, 3) := by decide +kernel
theorem dX7_figures_4 : decode cX7_figures 4 = .ok (.if_icmp .lt 7, 3) := by decide +kernel
theorem dX7_figures_7 : decode cX7_figures 7 = .ok (.iconst 4, 1) := by decide +kernel
theorem dX7_figures_8 : decode cX7_figures 8 = .ok (.goto 24, 3) := by decide +kernel
theorem dX7_figures_11 : decode cX7_figures 11 = .ok (.iload_n 0, 1) := by decide +kernel
theorem dX7_figures_12 : decode cX7_figures 12 = .ok (.bipush 100, 2) := by decide +kernel
theorem dX7_figures_14 : decode cX7_figures 14 = .ok (.if_icmp .lt 7, 3) := by decide +kernel
theorem dX7_figures_17 : decode cX7_figures 17 = .ok (.iconst 3, 1) := by decide +kernel
theorem dX7_figures_18 : decode cX7_figures 18 = .ok (.goto 14, 3) := by decide +kernel
theorem dX7_figures_21 : decode cX7_figures 21 = .ok (.iload_n 0, 1) := by decide +kernel
theorem dX7_figures_22 : decode cX7_figures 22 = .ok (.bipush 10, 2) := by decide +kernel
theorem dX7_figures_24 : decode cX7_figures 24 = .ok (.if_icmp .lt 7, 3) := by decide +kernel
theorem dX7_figures_27 : decode cX7_figures 27 = .ok (.iconst 2, 1) := by decide +kernel
theorem dX7_figures_28 : decode cX7_figures 28 = .ok (.goto 4, 3) := by decide +kernel
theorem dX7_figures_31 : decode cX7_figures 31 = .ok (.iconst 1, 1) := by decide +kernel
theorem dX7_figures_32 : decode cX7_figures 32 = .ok (.ireturn, 1) := by decide +kernel
theorem dX7_shortFigures_0 : decode cX7_shortFigures 0 = .ok (.iload_n 1, 1) := by decide +kernel
theorem dX7_shortFigures_1 : decode cX7_shortFigures 1 = .ok (.invokestatic 152, 3) := by decide +kernel
theorem dX7_shortFigures_4 : decode cX7_shortFigures 4 = .ok (.istore_n 2, 1) := by decide +kernel
theorem dX7_shortFigures_5 : decode cX7_shortFigures 5 = .ok (.iload_n 0, 1) := by decide +kernel
theorem dX7_shortFigures_6 : decode cX7_shortFigures 6 = .ok (.invokestatic 152, 3) := by decide +kernel
theorem dX7_shortFigures_9 : decode cX7_shortFigures 9 = .ok (.iload_n 2, 1) := by decide +kernel
theorem dX7_shortFigures_10 : decode cX7_shortFigures 10 = .ok (.if_icmp .eq 5, 3) := by decide +kernel
theorem dX7_shortFigures_13 : decode cX7_shortFigures 13 = .ok (.iload_n 2, 1) := by decide +kernel
theorem dX7_shortFigures_14 : decode cX7_shortFigures 14 = .ok (.ireturn, 1) := by decide +kernel
theorem dX7_shortFigures_15 : decode cX7_shortFigures 15 = .ok (.iload_n 2, 1) := by decide +kernel
theorem dX7_shortFigures_16 : decode cX7_shortFigures 16 = .ok (.iconst 1, 1) := by decide +kernel
theorem dX7_shortFigures_17 : decode cX7_shortFigures 17 = .ok (.isub, 1) := by decide +kernel
theorem dX7_shortFigures_18 : decode cX7_shortFigures 18 = .ok (.istore_n 3, 1) := by decide +kernel
theorem dX7_shortFigures_19 : decode cX7_shortFigures 19 = .ok (.iload_n 3, 1) := by decide +kernel
theorem dX7_shortFigures_20 : decode cX7_shortFigures 20 = .ok (.ifCond .le 30, 3) := by decide +kernel
theorem dX7_shortFigures_23 : decode cX7_shortFigures 23 = .ok (.iload_n 0, 1) := by decide +kernel
theorem dX7_shortFigures_24 : decode cX7_shortFigures 24 = .ok (.getstatic 155, 3) := by decide +kernel
theorem dX7_shortFigures_27 : decode cX7_shortFigures 27 = .ok (.iload_n 3, 1) := by decide +kernel
theorem dX7_shortFigures_28 : decode cX7_shortFigures 28 = .ok (.iaload, 1) := by decide +kernel
theorem dX7_shortFigures_29 : decode cX7_shortFigures 29 = .ok (.idiv, 1) := by decide +kernel
theorem dX7_shortFigures_30 : decode cX7_shortFigures 30 = .ok (.iload_n 1, 1) := by decide +kernel
theorem dX7_shortFigures_31 : decode cX7_shortFigures 31 = .ok (.getstatic 155, 3) := by decide +kernel
theorem dX7_shortFigures_34 : decode cX7_shortFigures 34 = .ok (.iload_n 3, 1) := by decide +kernel
theorem dX7_shortFigures_35 : decode cX7_shortFigures 35 = .ok (.iaload, 1) := by decide +kernel
theorem dX7_shortFigures_36 : decode cX7_shortFigures 36 = .ok (.idiv, 1) := by decide +kernel
theorem dX7_shortFigures_37 : decode cX7_shortFigures 37 = .ok (.if_icmp .eq 7, 3) := by decide +kernel
theorem dX7_shortFigures_40 : decode cX7_shortFigures 40 = .ok (.iload_n 3, 1) := by decide +kernel
theorem dX7_shortFigures_41 : decode cX7_shortFigures 41 = .ok (.iconst 1, 1) := by decide +kernel
theorem dX7_shortFigures_42 : decode cX7_shortFigures 42 = .ok (.iadd, 1) := by decide +kernel
theorem dX7_shortFigures_43 : decode cX7_shortFigures 43 = .ok (.ireturn, 1) := by decide +kernel
theorem dX7_shortFigures_44 : decode cX7_shortFigures 44 = .ok (.iinc 3 (-1), 3) := by decide +kernel
theorem dX7_shortFigures_47 : decode cX7_shortFigures 47 = .ok (.goto (-28), 3) := by decide +kernel
theorem dX7_shortFigures_50 : decode cX7_shortFigures 50 = .ok (.iconst 1, 1) := by decide +kernel
theorem dX7_shortFigures_51 : decode cX7_shortFigures 51 = .ok (.ireturn, 1) := by decide +kernel
theorem dX7_isKept_0 : decode cX7_isKept 0 = .ok (.iload_n 1, 1) := by decide +kernel
theorem dX7_isKept_1 : decode cX7_isKept 1 = .ok (.iconst 0, 1) := by decide +kernel
theorem dX7_isKept_2 : decode cX7_isKept 2 = .ok (.iconst 3, 1) := by decide +kernel
theorem dX7_isKept_3 : decode cX7_isKept 3 = .ok (.invokestatic 78, 3) := by decide +kernel
theorem dX7_isKept_6 : decode cX7_isKept 6 = .ok (.ifCond .eq 16, 3) := by decide +kernel
theorem dX7_isKept_9 : decode cX7_isKept 9 = .ok (.aload_n 0, 1) := by decide +kernel
theorem dX7_isKept_10 : decode cX7_isKept 10 = .ok (.getfield 49, 3) := by decide +kernel
theorem dX7_isKept_13 : decode cX7_isKept 13 = .ok (.iload_n 1, 1) := by decide +kernel
theorem dX7_isKept_14 : decode cX7_isKept 14 = .ok (.baload, 1) := by decide +kernel
theorem dX7_isKept_15 : decode cX7_isKept 15 = .ok (.ifCond .eq 7, 3) := by decide +kernel
theorem dX7_isKept_18 : decode cX7_isKept 18 = .ok (.iconst 1, 1) := by decide +kernel
theorem dX7_isKept_19 : decode cX7_isKept 19 = .ok (.goto 4, 3) := by decide +kernel
theorem dX7_isKept_22 : decode cX7_isKept 22 = .ok (.iconst 0, 1) := by decide +kernel
theorem dX7_isKept_23 : decode cX7_isKept 23 = .ok (.ireturn, 1) := by decide +kernel
theorem dX7_unsettle_0 : decode cX7_unsettle 0 = .ok (.aload_n 0, 1) := by decide +kernel
theorem dX7_unsettle_1 : decode cX7_unsettle 1 = .ok (.iconst 0, 1) := by decide +kernel
theorem dX7_unsettle_2 : decode cX7_unsettle 2 = .ok (.putfield 304, 3) := by decide +kernel
theorem dX7_unsettle_5 : decode cX7_unsettle 5 = .ok (.aload_n 0, 1) := by decide +kernel
theorem dX7_unsettle_6 : decode cX7_unsettle 6 = .ok (.iconst 0, 1) := by decide +kernel
theorem dX7_unsettle_7 : decode cX7_unsettle 7 = .ok (.putfield 287, 3) := by decide +kernel
theorem dX7_unsettle_10 : decode cX7_unsettle 10 = .ok (.return_, 1) := by decide +kernel
theorem dX7_settledView_0 : decode cX7_settledView 0 = .ok (.aload_n 0, 1) := by decide +kernel
theorem dX7_settledView_1 : decode cX7_settledView 1 = .ok (.getfield 304, 3) := by decide +kernel
theorem dX7_settledView_4 : decode cX7_settledView 4 = .ok (.ifCond .ne 15, 3) := by decide +kernel
theorem dX7_settledView_7 : decode cX7_settledView 7 = .ok (.aload_n 0, 1) := by decide +kernel
theorem dX7_settledView_8 : decode cX7_settledView 8 = .ok (.getfield 35, 3) := by decide +kernel
theorem dX7_settledView_11 : decode cX7_settledView 11 = .ok (.invokevirtual 271, 3) := by decide +kernel
theorem dX7_settledView_14 : decode cX7_settledView 14 = .ok (.aload_n 0, 1) := by decide +kernel
theorem dX7_settledView_15 : decode cX7_settledView 15 = .ok (.iconst 1, 1) := by decide +kernel
theorem dX7_settledView_16 : decode cX7_settledView 16 = .ok (.putfield 304, 3) := by decide +kernel
theorem dX7_settledView_19 : decode cX7_settledView 19 = .ok (.aload_n 0, 1) := by decide +kernel
theorem dX7_settledView_20 : decode cX7_settledView 20 = .ok (.getfield 35, 3) := by decide +kernel
theorem dX7_settledView_23 : decode cX7_settledView 23 = .ok (.areturn, 1) := by decide +kernel
theorem dX7_aboutCited_0 : decode cX7_aboutCited 0 = .ok (.aload_n 0, 1) := by decide +kernel
theorem dX7_aboutCited_1 : decode cX7_aboutCited 1 = .ok (.iload_n 1, 1) := by decide +kernel
theorem dX7_aboutCited_2 : decode cX7_aboutCited 2 = .ok (.invokevirtual 130, 3) := by decide +kernel
theorem dX7_aboutCited_5 : decode cX7_aboutCited 5 = .ok (.ifCond .ne 5, 3) := by decide +kernel
theorem dX7_aboutCited_8 : decode cX7_aboutCited 8 = .ok (.iconst (-1), 1) := by decide +kernel
theorem dX7_aboutCited_9 : decode cX7_aboutCited 9 = .ok (.ireturn, 1) := by decide +kernel
theorem dX7_aboutCited_10 : decode cX7_aboutCited 10 = .ok (.iload_n 2, 1) := by decide +kernel
theorem dX7_aboutCited_11 : decode cX7_aboutCited 11 = .ok (.tableswitch 65 6 9 #[29, 36, 51, 58], 29) := by decide +kernel
theorem dX7_aboutCited_40 : decode cX7_aboutCited 40 = .ok (.aload_n 0, 1) := by decide +kernel
theorem dX7_aboutCited_41 : decode cX7_aboutCited 41 = .ok (.getfield 307, 3) := by decide +kernel
theorem dX7_aboutCited_44 : decode cX7_aboutCited 44 = .ok (.iload_n 1, 1) := by decide +kernel
theorem dX7_aboutCited_45 : decode cX7_aboutCited 45 = .ok (.iaload, 1) := by decide +kernel
theorem dX7_aboutCited_46 : decode cX7_aboutCited 46 = .ok (.ireturn, 1) := by decide +kernel
theorem dX7_aboutCited_47 : decode cX7_aboutCited 47 = .ok (.aload_n 0, 1) := by decide +kernel
theorem dX7_aboutCited_48 : decode cX7_aboutCited 48 = .ok (.getfield 310, 3) := by decide +kernel
theorem dX7_aboutCited_51 : decode cX7_aboutCited 51 = .ok (.iload_n 1, 1) := by decide +kernel
theorem dX7_aboutCited_52 : decode cX7_aboutCited 52 = .ok (.baload, 1) := by decide +kernel
theorem dX7_aboutCited_53 : decode cX7_aboutCited 53 = .ok (.ifCond .eq 7, 3) := by decide +kernel
theorem dX7_aboutCited_56 : decode cX7_aboutCited 56 = .ok (.iconst 1, 1) := by decide +kernel
theorem dX7_aboutCited_57 : decode cX7_aboutCited 57 = .ok (.goto 4, 3) := by decide +kernel
theorem dX7_aboutCited_60 : decode cX7_aboutCited 60 = .ok (.iconst 0, 1) := by decide +kernel
theorem dX7_aboutCited_61 : decode cX7_aboutCited 61 = .ok (.ireturn, 1) := by decide +kernel
theorem dX7_aboutCited_62 : decode cX7_aboutCited 62 = .ok (.aload_n 0, 1) := by decide +kernel
theorem dX7_aboutCited_63 : decode cX7_aboutCited 63 = .ok (.getfield 313, 3) := by decide +kernel
theorem dX7_aboutCited_66 : decode cX7_aboutCited 66 = .ok (.iload_n 1, 1) := by decide +kernel
theorem dX7_aboutCited_67 : decode cX7_aboutCited 67 = .ok (.iaload, 1) := by decide +kernel
theorem dX7_aboutCited_68 : decode cX7_aboutCited 68 = .ok (.ireturn, 1) := by decide +kernel
theorem dX7_aboutCited_69 : decode cX7_aboutCited 69 = .ok (.aload_n 0, 1) := by decide +kernel
theorem dX7_aboutCited_70 : decode cX7_aboutCited 70 = .ok (.getfield 316, 3) := by decide +kernel
theorem dX7_aboutCited_73 : decode cX7_aboutCited 73 = .ok (.iload_n 1, 1) := by decide +kernel
theorem dX7_aboutCited_74 : decode cX7_aboutCited 74 = .ok (.iaload, 1) := by decide +kernel
theorem dX7_aboutCited_75 : decode cX7_aboutCited 75 = .ok (.ireturn, 1) := by decide +kernel
theorem dX7_aboutCited_76 : decode cX7_aboutCited 76 = .ok (.aload_n 0, 1) := by decide +kernel
theorem dX7_aboutCited_77 : decode cX7_aboutCited 77 = .ok (.iload_n 1, 1) := by decide +kernel
theorem dX7_aboutCited_78 : decode cX7_aboutCited 78 = .ok (.invokevirtual 319, 3) := by decide +kernel
theorem dX7_aboutCited_81 : decode cX7_aboutCited 81 = .ok (.ireturn, 1) := by decide +kernel
theorem dX7_readsOtherwise_0 : decode cX7_readsOtherwise 0 = .ok (.aload_n 0, 1) := by decide +kernel
theorem dX7_readsOtherwise_1 : decode cX7_readsOtherwise 1 = .ok (.getfield 35, 3) := by decide +kernel
theorem dX7_readsOtherwise_4 : decode cX7_readsOtherwise 4 = .ok (.getfield 191, 3) := by decide +kernel
theorem dX7_readsOtherwise_7 : decode cX7_readsOtherwise 7 = .ok (.iload_n 1, 1) := by decide +kernel
theorem dX7_readsOtherwise_8 : decode cX7_readsOtherwise 8 = .ok (.iaload, 1) := by decide +kernel
theorem dX7_readsOtherwise_9 : decode cX7_readsOtherwise 9 = .ok (.istore_n 2, 1) := by decide +kernel
theorem dX7_readsOtherwise_10 : decode cX7_readsOtherwise 10 = .ok (.aload_n 0, 1) := by decide +kernel
theorem dX7_readsOtherwise_11 : decode cX7_readsOtherwise 11 = .ok (.getfield 42, 3) := by decide +kernel
theorem dX7_readsOtherwise_14 : decode cX7_readsOtherwise 14 = .ok (.getfield 191, 3) := by decide +kernel
theorem dX7_readsOtherwise_17 : decode cX7_readsOtherwise 17 = .ok (.iload_n 1, 1) := by decide +kernel
theorem dX7_readsOtherwise_18 : decode cX7_readsOtherwise 18 = .ok (.iaload, 1) := by decide +kernel
theorem dX7_readsOtherwise_19 : decode cX7_readsOtherwise 19 = .ok (.istore_n 3, 1) := by decide +kernel
theorem dX7_readsOtherwise_20 : decode cX7_readsOtherwise 20 = .ok (.aload_n 0, 1) := by decide +kernel
theorem dX7_readsOtherwise_21 : decode cX7_readsOtherwise 21 = .ok (.getfield 35, 3) := by decide +kernel
theorem dX7_readsOtherwise_24 : decode cX7_readsOtherwise 24 = .ok (.iload_n 2, 1) := by decide +kernel
theorem dX7_readsOtherwise_25 : decode cX7_readsOtherwise 25 = .ok (.invokevirtual 206, 3) := by decide +kernel
theorem dX7_readsOtherwise_28 : decode cX7_readsOtherwise 28 = .ok (.istore 4, 2) := by decide +kernel
theorem dX7_readsOtherwise_30 : decode cX7_readsOtherwise 30 = .ok (.aload_n 0, 1) := by decide +kernel
theorem dX7_readsOtherwise_31 : decode cX7_readsOtherwise 31 = .ok (.getfield 42, 3) := by decide +kernel
theorem dX7_readsOtherwise_34 : decode cX7_readsOtherwise 34 = .ok (.iload_n 3, 1) := by decide +kernel
theorem dX7_readsOtherwise_35 : decode cX7_readsOtherwise 35 = .ok (.invokevirtual 206, 3) := by decide +kernel
theorem dX7_readsOtherwise_38 : decode cX7_readsOtherwise 38 = .ok (.istore 5, 2) := by decide +kernel
theorem dX7_readsOtherwise_40 : decode cX7_readsOtherwise 40 = .ok (.aload_n 0, 1) := by decide +kernel
theorem dX7_readsOtherwise_41 : decode cX7_readsOtherwise 41 = .ok (.getfield 35, 3) := by decide +kernel
theorem dX7_readsOtherwise_44 : decode cX7_readsOtherwise 44 = .ok (.iload_n 2, 1) := by decide +kernel
theorem dX7_readsOtherwise_45 : decode cX7_readsOtherwise 45 = .ok (.invokevirtual 212, 3) := by decide +kernel
theorem dX7_readsOtherwise_48 : decode cX7_readsOtherwise 48 = .ok (.istore 6, 2) := by decide +kernel
theorem dX7_readsOtherwise_50 : decode cX7_readsOtherwise 50 = .ok (.iload 6, 2) := by decide +kernel
theorem dX7_readsOtherwise_52 : decode cX7_readsOtherwise 52 = .ok (.aload_n 0, 1) := by decide +kernel
theorem dX7_readsOtherwise_53 : decode cX7_readsOtherwise 53 = .ok (.getfield 42, 3) := by decide +kernel
theorem dX7_readsOtherwise_56 : decode cX7_readsOtherwise 56 = .ok (.iload_n 3, 1) := by decide +kernel
theorem dX7_readsOtherwise_57 : decode cX7_readsOtherwise 57 = .ok (.invokevirtual 212, 3) := by decide +kernel
theorem dX7_readsOtherwise_60 : decode cX7_readsOtherwise 60 = .ok (.if_icmp .ne 101, 3) := by decide +kernel
theorem dX7_readsOtherwise_63 : decode cX7_readsOtherwise 63 = .ok (.aload_n 0, 1) := by decide +kernel
theorem dX7_readsOtherwise_64 : decode cX7_readsOtherwise 64 = .ok (.getfield 35, 3) := by decide +kernel
theorem dX7_readsOtherwise_67 : decode cX7_readsOtherwise 67 = .ok (.getfield 307, 3) := by decide +kernel
theorem dX7_readsOtherwise_70 : decode cX7_readsOtherwise 70 = .ok (.iload 4, 2) := by decide +kernel
theorem dX7_readsOtherwise_72 : decode cX7_readsOtherwise 72 = .ok (.iaload, 1) := by decide +kernel
theorem dX7_readsOtherwise_73 : decode cX7_readsOtherwise 73 = .ok (.aload_n 0, 1) := by decide +kernel
theorem dX7_readsOtherwise_74 : decode cX7_readsOtherwise 74 = .ok (.getfield 42, 3) := by decide +kernel
theorem dX7_readsOtherwise_77 : decode cX7_readsOtherwise 77 = .ok (.getfield 307, 3) := by decide +kernel
theorem dX7_readsOtherwise_80 : decode cX7_readsOtherwise 80 = .ok (.iload 5, 2) := by decide +kernel
theorem dX7_readsOtherwise_82 : decode cX7_readsOtherwise 82 = .ok (.iaload, 1) := by decide +kernel
theorem dX7_readsOtherwise_83 : decode cX7_readsOtherwise 83 = .ok (.if_icmp .ne 78, 3) := by decide +kernel
theorem dX7_readsOtherwise_86 : decode cX7_readsOtherwise 86 = .ok (.aload_n 0, 1) := by decide +kernel
theorem dX7_readsOtherwise_87 : decode cX7_readsOtherwise 87 = .ok (.getfield 35, 3) := by decide +kernel
theorem dX7_readsOtherwise_90 : decode cX7_readsOtherwise 90 = .ok (.getfield 310, 3) := by decide +kernel
theorem dX7_readsOtherwise_93 : decode cX7_readsOtherwise 93 = .ok (.iload 4, 2) := by decide +kernel
theorem dX7_readsOtherwise_95 : decode cX7_readsOtherwise 95 = .ok (.baload, 1) := by decide +kernel
theorem dX7_readsOtherwise_96 : decode cX7_readsOtherwise 96 = .ok (.aload_n 0, 1) := by decide +kernel
theorem dX7_readsOtherwise_97 : decode cX7_readsOtherwise 97 = .ok (.getfield 42, 3) := by decide +kernel
theorem dX7_readsOtherwise_100 : decode cX7_readsOtherwise 100 = .ok (.getfield 310, 3) := by decide +kernel
theorem dX7_readsOtherwise_103 : decode cX7_readsOtherwise 103 = .ok (.iload 5, 2) := by decide +kernel
theorem dX7_readsOtherwise_105 : decode cX7_readsOtherwise 105 = .ok (.baload, 1) := by decide +kernel
theorem dX7_readsOtherwise_106 : decode cX7_readsOtherwise 106 = .ok (.if_icmp .ne 55, 3) := by decide +kernel
theorem dX7_readsOtherwise_109 : decode cX7_readsOtherwise 109 = .ok (.aload_n 0, 1) := by decide +kernel
theorem dX7_readsOtherwise_110 : decode cX7_readsOtherwise 110 = .ok (.getfield 35, 3) := by decide +kernel
theorem dX7_readsOtherwise_113 : decode cX7_readsOtherwise 113 = .ok (.getfield 313, 3) := by decide +kernel
theorem dX7_readsOtherwise_116 : decode cX7_readsOtherwise 116 = .ok (.iload 4, 2) := by decide +kernel
theorem dX7_readsOtherwise_118 : decode cX7_readsOtherwise 118 = .ok (.iaload, 1) := by decide +kernel
theorem dX7_readsOtherwise_119 : decode cX7_readsOtherwise 119 = .ok (.aload_n 0, 1) := by decide +kernel
theorem dX7_readsOtherwise_120 : decode cX7_readsOtherwise 120 = .ok (.getfield 42, 3) := by decide +kernel
theorem dX7_readsOtherwise_123 : decode cX7_readsOtherwise 123 = .ok (.getfield 313, 3) := by decide +kernel
theorem dX7_readsOtherwise_126 : decode cX7_readsOtherwise 126 = .ok (.iload 5, 2) := by decide +kernel
theorem dX7_readsOtherwise_128 : decode cX7_readsOtherwise 128 = .ok (.iaload, 1) := by decide +kernel
theorem dX7_readsOtherwise_129 : decode cX7_readsOtherwise 129 = .ok (.if_icmp .ne 32, 3) := by decide +kernel
theorem dX7_readsOtherwise_132 : decode cX7_readsOtherwise 132 = .ok (.iload 6, 2) := by decide +kernel
theorem dX7_readsOtherwise_134 : decode cX7_readsOtherwise 134 = .ok (.iconst 5, 1) := by decide +kernel
theorem dX7_readsOtherwise_135 : decode cX7_readsOtherwise 135 = .ok (.if_icmp .ne 30, 3) := by decide +kernel
theorem dX7_readsOtherwise_138 : decode cX7_readsOtherwise 138 = .ok (.aload_n 0, 1) := by decide +kernel
theorem dX7_readsOtherwise_139 : decode cX7_readsOtherwise 139 = .ok (.getfield 35, 3) := by decide +kernel
theorem dX7_readsOtherwise_142 : decode cX7_readsOtherwise 142 = .ok (.getfield 316, 3) := by decide +kernel
theorem dX7_readsOtherwise_145 : decode cX7_readsOtherwise 145 = .ok (.iload 4, 2) := by decide +kernel
theorem dX7_readsOtherwise_147 : decode cX7_readsOtherwise 147 = .ok (.iaload, 1) := by decide +kernel
theorem dX7_readsOtherwise_148 : decode cX7_readsOtherwise 148 = .ok (.aload_n 0, 1) := by decide +kernel
theorem dX7_readsOtherwise_149 : decode cX7_readsOtherwise 149 = .ok (.getfield 42, 3) := by decide +kernel
theorem dX7_readsOtherwise_152 : decode cX7_readsOtherwise 152 = .ok (.getfield 316, 3) := by decide +kernel
theorem dX7_readsOtherwise_155 : decode cX7_readsOtherwise 155 = .ok (.iload 5, 2) := by decide +kernel
theorem dX7_readsOtherwise_157 : decode cX7_readsOtherwise 157 = .ok (.iaload, 1) := by decide +kernel
theorem dX7_readsOtherwise_158 : decode cX7_readsOtherwise 158 = .ok (.if_icmp .eq 7, 3) := by decide +kernel
theorem dX7_readsOtherwise_161 : decode cX7_readsOtherwise 161 = .ok (.iconst 1, 1) := by decide +kernel
theorem dX7_readsOtherwise_162 : decode cX7_readsOtherwise 162 = .ok (.goto 4, 3) := by decide +kernel
theorem dX7_readsOtherwise_165 : decode cX7_readsOtherwise 165 = .ok (.iconst 0, 1) := by decide +kernel
theorem dX7_readsOtherwise_166 : decode cX7_readsOtherwise 166 = .ok (.ireturn, 1) := by decide +kernel
theorem dJ9_min_7cf53_0 : decode cJ9_min_7cf53 0 = .ok (.iload_n 0, 1) := by decide +kernel
theorem dJ9_min_7cf53_1 : decode cJ9_min_7cf53 1 = .ok (.iload_n 1, 1) := by decide +kernel
theorem dJ9_min_7cf53_2 : decode cJ9_min_7cf53 2 = .ok (.if_icmp .gt 7, 3) := by decide +kernel
theorem dJ9_min_7cf53_5 : decode cJ9_min_7cf53 5 = .ok (.iload_n 0, 1) := by decide +kernel
theorem dJ9_min_7cf53_6 : decode cJ9_min_7cf53 6 = .ok (.goto 4, 3) := by decide +kernel
theorem dJ9_min_7cf53_9 : decode cJ9_min_7cf53 9 = .ok (.iload_n 1, 1) := by decide +kernel
theorem dJ9_min_7cf53_10 : decode cJ9_min_7cf53 10 = .ok (.ireturn, 1) := by decide +kernel
theorem dJ0_length_8abf5_0 : decode cJ0_length_8abf5 0 = .ok (.aload_n 0, 1) := by decide +kernel
theorem dJ0_length_8abf5_1 : decode cJ0_length_8abf5 1 = .ok (.getfield 9, 3) := by decide +kernel
theorem dJ0_length_8abf5_4 : decode cJ0_length_8abf5 4 = .ok (.arraylength, 1) := by decide +kernel
theorem dJ0_length_8abf5_5 : decode cJ0_length_8abf5 5 = .ok (.aload_n 0, 1) := by decide +kernel
theorem dJ0_length_8abf5_6 : decode cJ0_length_8abf5 6 = .ok (.invokevirtual 335, 3) := by decide +kernel
theorem dJ0_length_8abf5_9 : decode cJ0_length_8abf5 9 = .ok (.ishr, 1) := by decide +kernel
theorem dJ0_length_8abf5_10 : decode cJ0_length_8abf5 10 = .ok (.ireturn, 1) := by decide +kernel
theorem dJ0_isEmpty_aae02_0 : decode cJ0_isEmpty_aae02 0 = .ok (.aload_n 0, 1) := by decide +kernel
theorem dJ0_isEmpty_aae02_1 : decode cJ0_isEmpty_aae02 1 = .ok (.getfield 9, 3) := by decide +kernel
theorem dJ0_isEmpty_aae02_4 : decode cJ0_isEmpty_aae02 4 = .ok (.arraylength, 1) := by decide +kernel
theorem dJ0_isEmpty_aae02_5 : decode cJ0_isEmpty_aae02 5 = .ok (.ifCond .ne 7, 3) := by decide +kernel
theorem dJ0_isEmpty_aae02_8 : decode cJ0_isEmpty_aae02 8 = .ok (.iconst 1, 1) := by decide +kernel
theorem dJ0_isEmpty_aae02_9 : decode cJ0_isEmpty_aae02 9 = .ok (.goto 4, 3) := by decide +kernel
theorem dJ0_isEmpty_aae02_12 : decode cJ0_isEmpty_aae02 12 = .ok (.iconst 0, 1) := by decide +kernel
theorem dJ0_isEmpty_aae02_13 : decode cJ0_isEmpty_aae02 13 = .ok (.ireturn, 1) := by decide +kernel
theorem dJ0_charAt_5068e_0 : decode cJ0_charAt_5068e 0 = .ok (.aload_n 0, 1) := by decide +kernel
theorem dJ0_charAt_5068e_1 : decode cJ0_charAt_5068e 1 = .ok (.invokevirtual 492, 3) := by decide +kernel
theorem dJ0_charAt_5068e_4 : decode cJ0_charAt_5068e 4 = .ok (.ifCond .eq 12, 3) := by decide +kernel
theorem dJ0_charAt_5068e_7 : decode cJ0_charAt_5068e 7 = .ok (.aload_n 0, 1) := by decide +kernel
theorem dJ0_charAt_5068e_8 : decode cJ0_charAt_5068e 8 = .ok (.getfield 9, 3) := by decide +kernel
theorem dJ0_charAt_5068e_11 : decode cJ0_charAt_5068e 11 = .ok (.iload_n 1, 1) := by decide +kernel
theorem dJ0_charAt_5068e_12 : decode cJ0_charAt_5068e 12 = .ok (.invokestatic 495, 3) := by decide +kernel
theorem dJ0_charAt_5068e_15 : decode cJ0_charAt_5068e 15 = .ok (.ireturn, 1) := by decide +kernel
theorem dJ0_charAt_5068e_16 : decode cJ0_charAt_5068e 16 = .ok (.aload_n 0, 1) := by decide +kernel
theorem dJ0_charAt_5068e_17 : decode cJ0_charAt_5068e 17 = .ok (.getfield 9, 3) := by decide +kernel
theorem dJ0_charAt_5068e_20 : decode cJ0_charAt_5068e 20 = .ok (.iload_n 1, 1) := by decide +kernel
theorem dJ0_charAt_5068e_21 : decode cJ0_charAt_5068e 21 = .ok (.invokestatic 498, 3) := by decide +kernel
theorem dJ0_charAt_5068e_24 : decode cJ0_charAt_5068e 24 = .ok (.ireturn, 1) := by decide +kernel
theorem dJ0_coder_7d493_0 : decode cJ0_coder_7d493 0 = .ok (.getstatic 38, 3) := by decide +kernel
theorem dJ0_coder_7d493_3 : decode cJ0_coder_7d493 3 = .ok (.ifCond .eq 10, 3) := by decide +kernel
theorem dJ0_coder_7d493_6 : decode cJ0_coder_7d493 6 = .ok (.aload_n 0, 1) := by decide +kernel
theorem dJ0_coder_7d493_7 : decode cJ0_coder_7d493 7 = .ok (.getfield 15, 3) := by decide +kernel
theorem dJ0_coder_7d493_10 : decode cJ0_coder_7d493 10 = .ok (.goto 4, 3) := by decide +kernel
theorem dJ0_coder_7d493_13 : decode cJ0_coder_7d493 13 = .ok (.iconst 1, 1) := by decide +kernel
theorem dJ0_coder_7d493_14 : decode cJ0_coder_7d493 14 = .ok (.ireturn, 1) := by decide +kernel
theorem dJ0_isLatin1_aae02_0 : decode cJ0_isLatin1_aae02 0 = .ok (.getstatic 38, 3) := by decide +kernel
theorem dJ0_isLatin1_aae02_3 : decode cJ0_isLatin1_aae02 3 = .ok (.ifCond .eq 14, 3) := by decide +kernel
theorem dJ0_isLatin1_aae02_6 : decode cJ0_isLatin1_aae02 6 = .ok (.aload_n 0, 1) := by decide +kernel
theorem dJ0_isLatin1_aae02_7 : decode cJ0_isLatin1_aae02 7 = .ok (.getfield 15, 3) := by decide +kernel
theorem dJ0_isLatin1_aae02_10 : decode cJ0_isLatin1_aae02 10 = .ok (.ifCond .ne 7, 3) := by decide +kernel
theorem dJ0_isLatin1_aae02_13 : decode cJ0_isLatin1_aae02 13 = .ok (.iconst 1, 1) := by decide +kernel
theorem dJ0_isLatin1_aae02_14 : decode cJ0_isLatin1_aae02 14 = .ok (.goto 4, 3) := by decide +kernel
theorem dJ0_isLatin1_aae02_17 : decode cJ0_isLatin1_aae02 17 = .ok (.iconst 0, 1) := by decide +kernel
theorem dJ0_isLatin1_aae02_18 : decode cJ0_isLatin1_aae02 18 = .ok (.ireturn, 1) := by decide +kernel
theorem dJ0_checkIndex_df160_0 : decode cJ0_checkIndex_df160 0 = .ok (.iload_n 0, 1) := by decide +kernel
theorem dJ0_checkIndex_df160_1 : decode cJ0_checkIndex_df160 1 = .ok (.iload_n 1, 1) := by decide +kernel
theorem dJ0_checkIndex_df160_2 : decode cJ0_checkIndex_df160 2 = .ok (.getstatic 1053, 3) := by decide +kernel
theorem dJ0_checkIndex_df160_5 : decode cJ0_checkIndex_df160 5 = .ok (.invokestatic 1059, 3) := by decide +kernel
theorem dJ0_checkIndex_df160_8 : decode cJ0_checkIndex_df160 8 = .ok (.pop, 1) := by decide +kernel
theorem dJ0_checkIndex_df160_9 : decode cJ0_checkIndex_df160 9 = .ok (.return_, 1) := by decide +kernel
theorem dJ1_charAt_3b067_0 : decode cJ1_charAt_3b067 0 = .ok (.iload_n 1, 1) := by decide +kernel
theorem dJ1_charAt_3b067_1 : decode cJ1_charAt_3b067 1 = .ok (.aload_n 0, 1) := by decide +kernel
theorem dJ1_charAt_3b067_2 : decode cJ1_charAt_3b067 2 = .ok (.arraylength, 1) := by decide +kernel
theorem dJ1_charAt_3b067_3 : decode cJ1_charAt_3b067 3 = .ok (.invokestatic 9, 3) := by decide +kernel
theorem dJ1_charAt_3b067_6 : decode cJ1_charAt_3b067 6 = .ok (.aload_n 0, 1) := by decide +kernel
theorem dJ1_charAt_3b067_7 : decode cJ1_charAt_3b067 7 = .ok (.iload_n 1, 1) := by decide +kernel
theorem dJ1_charAt_3b067_8 : decode cJ1_charAt_3b067 8 = .ok (.baload, 1) := by decide +kernel
theorem dJ1_charAt_3b067_9 : decode cJ1_charAt_3b067 9 = .ok (.sipush 255, 3) := by decide +kernel
theorem dJ1_charAt_3b067_12 : decode cJ1_charAt_3b067 12 = .ok (.iand, 1) := by decide +kernel
theorem dJ1_charAt_3b067_13 : decode cJ1_charAt_3b067 13 = .ok (.i2c, 1) := by decide +kernel
theorem dJ1_charAt_3b067_14 : decode cJ1_charAt_3b067 14 = .ok (.ireturn, 1) := by decide +kernel
theorem dJ2_getChar_3b067_0 : decode cJ2_getChar_3b067 0 = .ok (.getstatic 44, 3) := by decide +kernel
theorem dJ2_getChar_3b067_3 : decode cJ2_getChar_3b067 3 = .ok (.ifCond .ne 25, 3) := by decide +kernel
theorem dJ2_getChar_3b067_6 : decode cJ2_getChar_3b067 6 = .ok (.iload_n 1, 1) := by decide +kernel
theorem dJ2_getChar_3b067_7 : decode cJ2_getChar_3b067 7 = .ok (.ifCond .lt 11, 3) := by decide +kernel
theorem dJ2_getChar_3b067_10 : decode cJ2_getChar_3b067 10 = .ok (.iload_n 1, 1) := by decide +kernel
theorem dJ2_getChar_3b067_11 : decode cJ2_getChar_3b067 11 = .ok (.aload_n 0, 1) := by decide +kernel
theorem dJ2_getChar_3b067_12 : decode cJ2_getChar_3b067 12 = .ok (.invokestatic 48, 3) := by decide +kernel
theorem dJ2_getChar_3b067_15 : decode cJ2_getChar_3b067 15 = .ok (.if_icmp .lt 13, 3) := by decide +kernel
theorem dJ2_getChar_3b067_18 : decode cJ2_getChar_3b067 18 = .ok (.new 52, 3) := by decide +kernel
theorem dJ2_getChar_3b067_21 : decode cJ2_getChar_3b067 21 = .ok (.dup, 1) := by decide +kernel
theorem dJ2_getChar_3b067_22 : decode cJ2_getChar_3b067 22 = .ok (.ldc 54, 2) := by decide +kernel
theorem dJ2_getChar_3b067_24 : decode cJ2_getChar_3b067 24 = .ok (.invokespecial 56, 3) := by decide +kernel
theorem dJ2_getChar_3b067_27 : decode cJ2_getChar_3b067 27 = .ok (.athrow, 1) := by decide +kernel
theorem dJ2_getChar_3b067_28 : decode cJ2_getChar_3b067 28 = .ok (.iload_n 1, 1) := by decide +kernel
theorem dJ2_getChar_3b067_29 : decode cJ2_getChar_3b067 29 = .ok (.iconst 1, 1) := by decide +kernel
theorem dJ2_getChar_3b067_30 : decode cJ2_getChar_3b067 30 = .ok (.ishl, 1) := by decide +kernel
theorem dJ2_getChar_3b067_31 : decode cJ2_getChar_3b067 31 = .ok (.istore_n 1, 1) := by decide +kernel
theorem dJ2_getChar_3b067_32 : decode cJ2_getChar_3b067 32 = .ok (.aload_n 0, 1) := by decide +kernel
theorem dJ2_getChar_3b067_33 : decode cJ2_getChar_3b067 33 = .ok (.iload_n 1, 1) := by decide +kernel
theorem dJ2_getChar_3b067_34 : decode cJ2_getChar_3b067 34 = .ok (.iinc 1 1, 3) := by decide +kernel
theorem dJ2_getChar_3b067_37 : decode cJ2_getChar_3b067 37 = .ok (.baload, 1) := by decide +kernel
theorem dJ2_getChar_3b067_38 : decode cJ2_getChar_3b067 38 = .ok (.sipush 255, 3) := by decide +kernel
theorem dJ2_getChar_3b067_41 : decode cJ2_getChar_3b067 41 = .ok (.iand, 1) := by decide +kernel
theorem dJ2_getChar_3b067_42 : decode cJ2_getChar_3b067 42 = .ok (.getstatic 59, 3) := by decide +kernel
theorem dJ2_getChar_3b067_45 : decode cJ2_getChar_3b067 45 = .ok (.ishl, 1) := by decide +kernel
theorem dJ2_getChar_3b067_46 : decode cJ2_getChar_3b067 46 = .ok (.aload_n 0, 1) := by decide +kernel
theorem dJ2_getChar_3b067_47 : decode cJ2_getChar_3b067 47 = .ok (.iload_n 1, 1) := by decide +kernel
theorem dJ2_getChar_3b067_48 : decode cJ2_getChar_3b067 48 = .ok (.baload, 1) := by decide +kernel
theorem dJ2_getChar_3b067_49 : decode cJ2_getChar_3b067 49 = .ok (.sipush 255, 3) := by decide +kernel
theorem dJ2_getChar_3b067_52 : decode cJ2_getChar_3b067 52 = .ok (.iand, 1) := by decide +kernel
theorem dJ2_getChar_3b067_53 : decode cJ2_getChar_3b067 53 = .ok (.getstatic 63, 3) := by decide +kernel
theorem dJ2_getChar_3b067_56 : decode cJ2_getChar_3b067 56 = .ok (.ishl, 1) := by decide +kernel
theorem dJ2_getChar_3b067_57 : decode cJ2_getChar_3b067 57 = .ok (.ior, 1) := by decide +kernel
theorem dJ2_getChar_3b067_58 : decode cJ2_getChar_3b067 58 = .ok (.i2c, 1) := by decide +kernel
theorem dJ2_getChar_3b067_59 : decode cJ2_getChar_3b067 59 = .ok (.ireturn, 1) := by decide +kernel
theorem dJ2_length_9d52b_0 : decode cJ2_length_9d52b 0 = .ok (.aload_n 0, 1) := by decide +kernel
theorem dJ2_length_9d52b_1 : decode cJ2_length_9d52b 1 = .ok (.arraylength, 1) := by decide +kernel
theorem dJ2_length_9d52b_2 : decode cJ2_length_9d52b 2 = .ok (.iconst 1, 1) := by decide +kernel
theorem dJ2_length_9d52b_3 : decode cJ2_length_9d52b 3 = .ok (.ishr, 1) := by decide +kernel
theorem dJ2_length_9d52b_4 : decode cJ2_length_9d52b 4 = .ok (.ireturn, 1) := by decide +kernel
theorem dJ2_charAt_3b067_0 : decode cJ2_charAt_3b067 0 = .ok (.iload_n 1, 1) := by decide +kernel
theorem dJ2_charAt_3b067_1 : decode cJ2_charAt_3b067 1 = .ok (.aload_n 0, 1) := by decide +kernel
theorem dJ2_charAt_3b067_2 : decode cJ2_charAt_3b067 2 = .ok (.invokestatic 67, 3) := by decide +kernel
theorem dJ2_charAt_3b067_5 : decode cJ2_charAt_3b067 5 = .ok (.aload_n 0, 1) := by decide +kernel
theorem dJ2_charAt_3b067_6 : decode cJ2_charAt_3b067 6 = .ok (.iload_n 1, 1) := by decide +kernel
theorem dJ2_charAt_3b067_7 : decode cJ2_charAt_3b067 7 = .ok (.invokestatic 71, 3) := by decide +kernel
theorem dJ2_charAt_3b067_10 : decode cJ2_charAt_3b067 10 = .ok (.ireturn, 1) := by decide +kernel
theorem dJ2_checkIndex_2214a_0 : decode cJ2_checkIndex_2214a 0 = .ok (.iload_n 0, 1) := by decide +kernel
theorem dJ2_checkIndex_2214a_1 : decode cJ2_checkIndex_2214a 1 = .ok (.aload_n 1, 1) := by decide +kernel
theorem dJ2_checkIndex_2214a_2 : decode cJ2_checkIndex_2214a 2 = .ok (.invokestatic 48, 3) := by decide +kernel
theorem dJ2_checkIndex_2214a_5 : decode cJ2_checkIndex_2214a 5 = .ok (.invokestatic 414, 3) := by decide +kernel
theorem dJ2_checkIndex_2214a_8 : decode cJ2_checkIndex_2214a 8 = .ok (.return_, 1) := by decide +kernel
theorem dJ7_fill_53178_0 : decode cJ7_fill_53178 0 = .ok (.iconst 0, 1) := by decide +kernel
theorem dJ7_fill_53178_1 : decode cJ7_fill_53178 1 = .ok (.istore_n 2, 1) := by decide +kernel
theorem dJ7_fill_53178_2 : decode cJ7_fill_53178 2 = .ok (.aload_n 0, 1) := by decide +kernel
theorem dJ7_fill_53178_3 : decode cJ7_fill_53178 3 = .ok (.arraylength, 1) := by decide +kernel
theorem dJ7_fill_53178_4 : decode cJ7_fill_53178 4 = .ok (.istore_n 3, 1) := by decide +kernel
theorem dJ7_fill_53178_5 : decode cJ7_fill_53178 5 = .ok (.iload_n 2, 1) := by decide +kernel
theorem dJ7_fill_53178_6 : decode cJ7_fill_53178 6 = .ok (.iload_n 3, 1) := by decide +kernel
theorem dJ7_fill_53178_7 : decode cJ7_fill_53178 7 = .ok (.if_icmp .ge 13, 3) := by decide +kernel
theorem dJ7_fill_53178_10 : decode cJ7_fill_53178 10 = .ok (.aload_n 0, 1) := by decide +kernel
theorem dJ7_fill_53178_11 : decode cJ7_fill_53178 11 = .ok (.iload_n 2, 1) := by decide +kernel
theorem dJ7_fill_53178_12 : decode cJ7_fill_53178 12 = .ok (.iload_n 1, 1) := by decide +kernel
theorem dJ7_fill_53178_13 : decode cJ7_fill_53178 13 = .ok (.iastore, 1) := by decide +kernel
theorem dJ7_fill_53178_14 : decode cJ7_fill_53178 14 = .ok (.iinc 2 1, 3) := by decide +kernel
theorem dJ7_fill_53178_17 : decode cJ7_fill_53178 17 = .ok (.goto (-12), 3) := by decide +kernel
theorem dJ7_fill_53178_20 : decode cJ7_fill_53178 20 = .ok (.return_, 1) := by decide +kernel
theorem dJ3_checkIndex_8e157_0 : decode cJ3_checkIndex_8e157 0 = .ok (.iload_n 0, 1) := by decide +kernel
theorem dJ3_checkIndex_8e157_1 : decode cJ3_checkIndex_8e157 1 = .ok (.ifCond .lt 8, 3) := by decide +kernel
theorem dJ3_checkIndex_8e157_4 : decode cJ3_checkIndex_8e157 4 = .ok (.iload_n 0, 1) := by decide +kernel
theorem dJ3_checkIndex_8e157_5 : decode cJ3_checkIndex_8e157 5 = .ok (.iload_n 1, 1) := by decide +kernel
theorem dJ3_checkIndex_8e157_6 : decode cJ3_checkIndex_8e157 6 = .ok (.if_icmp .lt 10, 3) := by decide +kernel
theorem dJ3_checkIndex_8e157_9 : decode cJ3_checkIndex_8e157 9 = .ok (.aload_n 2, 1) := by decide +kernel
theorem dJ3_checkIndex_8e157_10 : decode cJ3_checkIndex_8e157 10 = .ok (.iload_n 0, 1) := by decide +kernel
theorem dJ3_checkIndex_8e157_11 : decode cJ3_checkIndex_8e157 11 = .ok (.iload_n 1, 1) := by decide +kernel
theorem dJ3_checkIndex_8e157_12 : decode cJ3_checkIndex_8e157 12 = .ok (.invokestatic 95, 3) := by decide +kernel
theorem dJ3_checkIndex_8e157_15 : decode cJ3_checkIndex_8e157 15 = .ok (.athrow, 1) := by decide +kernel
theorem dJ3_checkIndex_8e157_16 : decode cJ3_checkIndex_8e157 16 = .ok (.iload_n 0, 1) := by decide +kernel
theorem dJ3_checkIndex_8e157_17 : decode cJ3_checkIndex_8e157 17 = .ok (.ireturn, 1) := by decide +kernel
theorem dL_law_0 : decode cL_law 0 = .ok (.new 7, 3) := by decide +kernel
theorem dL_law_3 : decode cL_law 3 = .ok (.dup, 1) := by decide +kernel
theorem dL_law_4 : decode cL_law 4 = .ok (.invokespecial 9, 3) := by decide +kernel
theorem dL_law_7 : decode cL_law 7 = .ok (.astore_n 1, 1) := by decide +kernel
theorem dL_law_8 : decode cL_law 8 = .ok (.new 10, 3) := by decide +kernel
theorem dL_law_11 : decode cL_law 11 = .ok (.dup, 1) := by decide +kernel
theorem dL_law_12 : decode cL_law 12 = .ok (.invokespecial 12, 3) := by decide +kernel
theorem dL_law_15 : decode cL_law 15 = .ok (.astore_n 2, 1) := by decide +kernel
theorem dL_law_16 : decode cL_law 16 = .ok (.iconst 0, 1) := by decide +kernel
theorem dL_law_17 : decode cL_law 17 = .ok (.istore_n 3, 1) := by decide +kernel
theorem dL_law_18 : decode cL_law 18 = .ok (.iload_n 3, 1) := by decide +kernel
theorem dL_law_19 : decode cL_law 19 = .ok (.aload_n 0, 1) := by decide +kernel
theorem dL_law_20 : decode cL_law 20 = .ok (.arraylength, 1) := by decide +kernel
theorem dL_law_21 : decode cL_law 21 = .ok (.bipush 6, 2) := by decide +kernel
theorem dL_law_23 : decode cL_law 23 = .ok (.isub, 1) := by decide +kernel
theorem dL_law_24 : decode cL_law 24 = .ok (.if_icmp .gt 1026, 3) := by decide +kernel
theorem dL_law_27 : decode cL_law 27 = .ok (.aload_n 0, 1) := by decide +kernel
theorem dL_law_28 : decode cL_law 28 = .ok (.iload_n 3, 1) := by decide +kernel
theorem dL_law_29 : decode cL_law 29 = .ok (.iaload, 1) := by decide +kernel
theorem dL_law_30 : decode cL_law 30 = .ok (.bipush 31, 2) := by decide +kernel
theorem dL_law_32 : decode cL_law 32 = .ok (.iand, 1) := by decide +kernel
theorem dL_law_33 : decode cL_law 33 = .ok (.tableswitch 1011 0 27 #[127, 190, 243, 286, 319, 342, 375, 418, 451, 474, 497, 520, 553, 596, 619, 652, 685, 728, 751, 814, 827, 840, 863, 886, 909, 942, 975, 988], 127) := by decide +kernel
theorem dL_law_160 : decode cL_law 160 = .ok (.aload_n 1, 1) := by decide +kernel
theorem dL_law_161 : decode cL_law 161 = .ok (.aload_n 0, 1) := by decide +kernel
theorem dL_law_162 : decode cL_law 162 = .ok (.iload_n 3, 1) := by decide +kernel
theorem dL_law_163 : decode cL_law 163 = .ok (.iconst 1, 1) := by decide +kernel
theorem dL_law_164 : decode cL_law 164 = .ok (.iadd, 1) := by decide +kernel
theorem dL_law_165 : decode cL_law 165 = .ok (.iaload, 1) := by decide +kernel
theorem dL_law_166 : decode cL_law 166 = .ok (.aload_n 0, 1) := by decide +kernel
theorem dL_law_167 : decode cL_law 167 = .ok (.iload_n 3, 1) := by decide +kernel
theorem dL_law_168 : decode cL_law 168 = .ok (.iconst 2, 1) := by decide +kernel
theorem dL_law_169 : decode cL_law 169 = .ok (.iadd, 1) := by decide +kernel
theorem dL_law_170 : decode cL_law 170 = .ok (.iaload, 1) := by decide +kernel
theorem dL_law_171 : decode cL_law 171 = .ok (.aload_n 0, 1) := by decide +kernel
theorem dL_law_172 : decode cL_law 172 = .ok (.iload_n 3, 1) := by decide +kernel
theorem dL_law_173 : decode cL_law 173 = .ok (.iconst 3, 1) := by decide +kernel
theorem dL_law_174 : decode cL_law 174 = .ok (.iadd, 1) := by decide +kernel
theorem dL_law_175 : decode cL_law 175 = .ok (.iaload, 1) := by decide +kernel
theorem dL_law_176 : decode cL_law 176 = .ok (.aload_n 0, 1) := by decide +kernel
theorem dL_law_177 : decode cL_law 177 = .ok (.iload_n 3, 1) := by decide +kernel
theorem dL_law_178 : decode cL_law 178 = .ok (.iconst 4, 1) := by decide +kernel
theorem dL_law_179 : decode cL_law 179 = .ok (.iadd, 1) := by decide +kernel
theorem dL_law_180 : decode cL_law 180 = .ok (.iaload, 1) := by decide +kernel
theorem dL_law_181 : decode cL_law 181 = .ok (.aload_n 0, 1) := by decide +kernel
theorem dL_law_182 : decode cL_law 182 = .ok (.iload_n 3, 1) := by decide +kernel
theorem dL_law_183 : decode cL_law 183 = .ok (.iconst 5, 1) := by decide +kernel
theorem dL_law_184 : decode cL_law 184 = .ok (.iadd, 1) := by decide +kernel
theorem dL_law_185 : decode cL_law 185 = .ok (.iaload, 1) := by decide +kernel
theorem dL_law_186 : decode cL_law 186 = .ok (.invokevirtual 13, 3) := by decide +kernel
theorem dL_law_189 : decode cL_law 189 = .ok (.aload_n 2, 1) := by decide +kernel
theorem dL_law_190 : decode cL_law 190 = .ok (.aload_n 0, 1) := by decide +kernel
theorem dL_law_191 : decode cL_law 191 = .ok (.iload_n 3, 1) := by decide +kernel
theorem dL_law_192 : decode cL_law 192 = .ok (.iconst 1, 1) := by decide +kernel
theorem dL_law_193 : decode cL_law 193 = .ok (.iadd, 1) := by decide +kernel
theorem dL_law_194 : decode cL_law 194 = .ok (.iaload, 1) := by decide +kernel
theorem dL_law_195 : decode cL_law 195 = .ok (.aload_n 0, 1) := by decide +kernel
theorem dL_law_196 : decode cL_law 196 = .ok (.iload_n 3, 1) := by decide +kernel
theorem dL_law_197 : decode cL_law 197 = .ok (.iconst 2, 1) := by decide +kernel
theorem dL_law_198 : decode cL_law 198 = .ok (.iadd, 1) := by decide +kernel
theorem dL_law_199 : decode cL_law 199 = .ok (.iaload, 1) := by decide +kernel
theorem dL_law_200 : decode cL_law 200 = .ok (.aload_n 0, 1) := by decide +kernel
theorem dL_law_201 : decode cL_law 201 = .ok (.iload_n 3, 1) := by decide +kernel
theorem dL_law_202 : decode cL_law 202 = .ok (.iconst 3, 1) := by decide +kernel
theorem dL_law_203 : decode cL_law 203 = .ok (.iadd, 1) := by decide +kernel
theorem dL_law_204 : decode cL_law 204 = .ok (.iaload, 1) := by decide +kernel
theorem dL_law_205 : decode cL_law 205 = .ok (.aload_n 0, 1) := by decide +kernel
theorem dL_law_206 : decode cL_law 206 = .ok (.iload_n 3, 1) := by decide +kernel
theorem dL_law_207 : decode cL_law 207 = .ok (.iconst 4, 1) := by decide +kernel
theorem dL_law_208 : decode cL_law 208 = .ok (.iadd, 1) := by decide +kernel
theorem dL_law_209 : decode cL_law 209 = .ok (.iaload, 1) := by decide +kernel
theorem dL_law_210 : decode cL_law 210 = .ok (.aload_n 0, 1) := by decide +kernel
theorem dL_law_211 : decode cL_law 211 = .ok (.iload_n 3, 1) := by decide +kernel
theorem dL_law_212 : decode cL_law 212 = .ok (.iconst 5, 1) := by decide +kernel
theorem dL_law_213 : decode cL_law 213 = .ok (.iadd, 1) := by decide +kernel
theorem dL_law_214 : decode cL_law 214 = .ok (.iaload, 1) := by decide +kernel
theorem dL_law_215 : decode cL_law 215 = .ok (.invokevirtual 17, 3) := by decide +kernel
theorem dL_law_218 : decode cL_law 218 = .ok (.if_icmp .eq 826, 3) := by decide +kernel
theorem dL_law_221 : decode cL_law 221 = .ok (.iconst 0, 1) := by decide +kernel
theorem dL_law_222 : decode cL_law 222 = .ok (.ireturn, 1) := by decide +kernel
theorem dL_law_223 : decode cL_law 223 = .ok (.aload_n 1, 1) := by decide +kernel
theorem dL_law_224 : decode cL_law 224 = .ok (.aload_n 0, 1) := by decide +kernel
theorem dL_law_225 : decode cL_law 225 = .ok (.iload_n 3, 1) := by decide +kernel
theorem dL_law_226 : decode cL_law 226 = .ok (.iconst 1, 1) := by decide +kernel
theorem dL_law_227 : decode cL_law 227 = .ok (.iadd, 1) := by decide +kernel
theorem dL_law_228 : decode cL_law 228 = .ok (.iaload, 1) := by decide +kernel
theorem dL_law_229 : decode cL_law 229 = .ok (.aload_n 0, 1) := by decide +kernel
theorem dL_law_230 : decode cL_law 230 = .ok (.iload_n 3, 1) := by decide +kernel
theorem dL_law_231 : decode cL_law 231 = .ok (.iconst 2, 1) := by decide +kernel
theorem dL_law_232 : decode cL_law 232 = .ok (.iadd, 1) := by decide +kernel
theorem dL_law_233 : decode cL_law 233 = .ok (.iaload, 1) := by decide +kernel
theorem dL_law_234 : decode cL_law 234 = .ok (.aload_n 0, 1) := by decide +kernel
theorem dL_law_235 : decode cL_law 235 = .ok (.iload_n 3, 1) := by decide +kernel
theorem dL_law_236 : decode cL_law 236 = .ok (.iconst 3, 1) := by decide +kernel
theorem dL_law_237 : decode cL_law 237 = .ok (.iadd, 1) := by decide +kernel
theorem dL_law_238 : decode cL_law 238 = .ok (.iaload, 1) := by decide +kernel
theorem dL_law_239 : decode cL_law 239 = .ok (.aload_n 0, 1) := by decide +kernel
theorem dL_law_240 : decode cL_law 240 = .ok (.iload_n 3, 1) := by decide +kernel
theorem dL_law_241 : decode cL_law 241 = .ok (.iconst 4, 1) := by decide +kernel
theorem dL_law_242 : decode cL_law 242 = .ok (.iadd, 1) := by decide +kernel
theorem dL_law_243 : decode cL_law 243 = .ok (.iaload, 1) := by decide +kernel
theorem dL_law_244 : decode cL_law 244 = .ok (.invokevirtual 18, 3) := by decide +kernel
theorem dL_law_247 : decode cL_law 247 = .ok (.aload_n 2, 1) := by decide +kernel
theorem dL_law_248 : decode cL_law 248 = .ok (.aload_n 0, 1) := by decide +kernel
theorem dL_law_249 : decode cL_law 249 = .ok (.iload_n 3, 1) := by decide +kernel
theorem dL_law_250 : decode cL_law 250 = .ok (.iconst 1, 1) := by decide +kernel
theorem dL_law_251 : decode cL_law 251 = .ok (.iadd, 1) := by decide +kernel
theorem dL_law_252 : decode cL_law 252 = .ok (.iaload, 1) := by decide +kernel
theorem dL_law_253 : decode cL_law 253 = .ok (.aload_n 0, 1) := by decide +kernel
theorem dL_law_254 : decode cL_law 254 = .ok (.iload_n 3, 1) := by decide +kernel
theorem dL_law_255 : decode cL_law 255 = .ok (.iconst 2, 1) := by decide +kernel
theorem dL_law_256 : decode cL_law 256 = .ok (.iadd, 1) := by decide +kernel
theorem dL_law_257 : decode cL_law 257 = .ok (.iaload, 1) := by decide +kernel
theorem dL_law_258 : decode cL_law 258 = .ok (.aload_n 0, 1) := by decide +kernel
theorem dL_law_259 : decode cL_law 259 = .ok (.iload_n 3, 1) := by decide +kernel
theorem dL_law_260 : decode cL_law 260 = .ok (.iconst 3, 1) := by decide +kernel
theorem dL_law_261 : decode cL_law 261 = .ok (.iadd, 1) := by decide +kernel
theorem dL_law_262 : decode cL_law 262 = .ok (.iaload, 1) := by decide +kernel
theorem dL_law_263 : decode cL_law 263 = .ok (.aload_n 0, 1) := by decide +kernel
theorem dL_law_264 : decode cL_law 264 = .ok (.iload_n 3, 1) := by decide +kernel
theorem dL_law_265 : decode cL_law 265 = .ok (.iconst 4, 1) := by decide +kernel
theorem dL_law_266 : decode cL_law 266 = .ok (.iadd, 1) := by decide +kernel
theorem dL_law_267 : decode cL_law 267 = .ok (.iaload, 1) := by decide +kernel
theorem dL_law_268 : decode cL_law 268 = .ok (.invokevirtual 22, 3) := by decide +kernel
theorem dL_law_271 : decode cL_law 271 = .ok (.if_icmp .eq 773, 3) := by decide +kernel
theorem dL_law_274 : decode cL_law 274 = .ok (.iconst 0, 1) := by decide +kernel
theorem dL_law_275 : decode cL_law 275 = .ok (.ireturn, 1) := by decide +kernel
theorem dL_law_276 : decode cL_law 276 = .ok (.aload_n 1, 1) := by decide +kernel
theorem dL_law_277 : decode cL_law 277 = .ok (.aload_n 0, 1) := by decide +kernel
theorem dL_law_278 : decode cL_law 278 = .ok (.iload_n 3, 1) := by decide +kernel
theorem dL_law_279 : decode cL_law 279 = .ok (.iconst 1, 1) := by decide +kernel
theorem dL_law_280 : decode cL_law 280 = .ok (.iadd, 1) := by decide +kernel
theorem dL_law_281 : decode cL_law 281 = .ok (.iaload, 1) := by decide +kernel
theorem dL_law_282 : decode cL_law 282 = .ok (.aload_n 0, 1) := by decide +kernel
theorem dL_law_283 : decode cL_law 283 = .ok (.iload_n 3, 1) := by decide +kernel
theorem dL_law_284 : decode cL_law 284 = .ok (.iconst 2, 1) := by decide +kernel
theorem dL_law_285 : decode cL_law 285 = .ok (.iadd, 1) := by decide +kernel
theorem dL_law_286 : decode cL_law 286 = .ok (.iaload, 1) := by decide +kernel
theorem dL_law_287 : decode cL_law 287 = .ok (.aload_n 0, 1) := by decide +kernel
theorem dL_law_288 : decode cL_law 288 = .ok (.iload_n 3, 1) := by decide +kernel
theorem dL_law_289 : decode cL_law 289 = .ok (.iconst 3, 1) := by decide +kernel
theorem dL_law_290 : decode cL_law 290 = .ok (.iadd, 1) := by decide +kernel
theorem dL_law_291 : decode cL_law 291 = .ok (.iaload, 1) := by decide +kernel
theorem dL_law_292 : decode cL_law 292 = .ok (.invokevirtual 23, 3) := by decide +kernel
theorem dL_law_295 : decode cL_law 295 = .ok (.aload_n 2, 1) := by decide +kernel
theorem dL_law_296 : decode cL_law 296 = .ok (.aload_n 0, 1) := by decide +kernel
theorem dL_law_297 : decode cL_law 297 = .ok (.iload_n 3, 1) := by decide +kernel
theorem dL_law_298 : decode cL_law 298 = .ok (.iconst 1, 1) := by decide +kernel
theorem dL_law_299 : decode cL_law 299 = .ok (.iadd, 1) := by decide +kernel
theorem dL_law_300 : decode cL_law 300 = .ok (.iaload, 1) := by decide +kernel
theorem dL_law_301 : decode cL_law 301 = .ok (.aload_n 0, 1) := by decide +kernel
theorem dL_law_302 : decode cL_law 302 = .ok (.iload_n 3, 1) := by decide +kernel
theorem dL_law_303 : decode cL_law 303 = .ok (.iconst 2, 1) := by decide +kernel
theorem dL_law_304 : decode cL_law 304 = .ok (.iadd, 1) := by decide +kernel
theorem dL_law_305 : decode cL_law 305 = .ok (.iaload, 1) := by decide +kernel
theorem dL_law_306 : decode cL_law 306 = .ok (.aload_n 0, 1) := by decide +kernel
theorem dL_law_307 : decode cL_law 307 = .ok (.iload_n 3, 1) := by decide +kernel
theorem dL_law_308 : decode cL_law 308 = .ok (.iconst 3, 1) := by decide +kernel
theorem dL_law_309 : decode cL_law 309 = .ok (.iadd, 1) := by decide +kernel
theorem dL_law_310 : decode cL_law 310 = .ok (.iaload, 1) := by decide +kernel
theorem dL_law_311 : decode cL_law 311 = .ok (.invokevirtual 27, 3) := by decide +kernel
theorem dL_law_314 : decode cL_law 314 = .ok (.if_icmp .eq 730, 3) := by decide +kernel
theorem dL_law_317 : decode cL_law 317 = .ok (.iconst 0, 1) := by decide +kernel
theorem dL_law_318 : decode cL_law 318 = .ok (.ireturn, 1) := by decide +kernel
theorem dL_law_319 : decode cL_law 319 = .ok (.aload_n 1, 1) := by decide +kernel
theorem dL_law_320 : decode cL_law 320 = .ok (.aload_n 0, 1) := by decide +kernel
theorem dL_law_321 : decode cL_law 321 = .ok (.iload_n 3, 1) := by decide +kernel
theorem dL_law_322 : decode cL_law 322 = .ok (.iconst 1, 1) := by decide +kernel
theorem dL_law_323 : decode cL_law 323 = .ok (.iadd, 1) := by decide +kernel
theorem dL_law_324 : decode cL_law 324 = .ok (.iaload, 1) := by decide +kernel
theorem dL_law_325 : decode cL_law 325 = .ok (.aload_n 0, 1) := by decide +kernel
theorem dL_law_326 : decode cL_law 326 = .ok (.iload_n 3, 1) := by decide +kernel
theorem dL_law_327 : decode cL_law 327 = .ok (.iconst 2, 1) := by decide +kernel
theorem dL_law_328 : decode cL_law 328 = .ok (.iadd, 1) := by decide +kernel
theorem dL_law_329 : decode cL_law 329 = .ok (.iaload, 1) := by decide +kernel
theorem dL_law_330 : decode cL_law 330 = .ok (.invokevirtual 28, 3) := by decide +kernel
theorem dL_law_333 : decode cL_law 333 = .ok (.aload_n 2, 1) := by decide +kernel
theorem dL_law_334 : decode cL_law 334 = .ok (.aload_n 0, 1) := by decide +kernel
theorem dL_law_335 : decode cL_law 335 = .ok (.iload_n 3, 1) := by decide +kernel
theorem dL_law_336 : decode cL_law 336 = .ok (.iconst 1, 1) := by decide +kernel
theorem dL_law_337 : decode cL_law 337 = .ok (.iadd, 1) := by decide +kernel
theorem dL_law_338 : decode cL_law 338 = .ok (.iaload, 1) := by decide +kernel
theorem dL_law_339 : decode cL_law 339 = .ok (.aload_n 0, 1) := by decide +kernel
theorem dL_law_340 : decode cL_law 340 = .ok (.iload_n 3, 1) := by decide +kernel
theorem dL_law_341 : decode cL_law 341 = .ok (.iconst 2, 1) := by decide +kernel
theorem dL_law_342 : decode cL_law 342 = .ok (.iadd, 1) := by decide +kernel
theorem dL_law_343 : decode cL_law 343 = .ok (.iaload, 1) := by decide +kernel
theorem dL_law_344 : decode cL_law 344 = .ok (.invokevirtual 32, 3) := by decide +kernel
theorem dL_law_347 : decode cL_law 347 = .ok (.if_icmp .eq 697, 3) := by decide +kernel
theorem dL_law_350 : decode cL_law 350 = .ok (.iconst 0, 1) := by decide +kernel
theorem dL_law_351 : decode cL_law 351 = .ok (.ireturn, 1) := by decide +kernel
theorem dL_law_352 : decode cL_law 352 = .ok (.aload_n 1, 1) := by decide +kernel
theorem dL_law_353 : decode cL_law 353 = .ok (.aload_n 0, 1) := by decide +kernel
theorem dL_law_354 : decode cL_law 354 = .ok (.iload_n 3, 1) := by decide +kernel
theorem dL_law_355 : decode cL_law 355 = .ok (.iconst 1, 1) := by decide +kernel
theorem dL_law_356 : decode cL_law 356 = .ok (.iadd, 1) := by decide +kernel
theorem dL_law_357 : decode cL_law 357 = .ok (.iaload, 1) := by decide +kernel
theorem dL_law_358 : decode cL_law 358 = .ok (.invokevirtual 33, 3) := by decide +kernel
theorem dL_law_361 : decode cL_law 361 = .ok (.aload_n 2, 1) := by decide +kernel
theorem dL_law_362 : decode cL_law 362 = .ok (.aload_n 0, 1) := by decide +kernel
theorem dL_law_363 : decode cL_law 363 = .ok (.iload_n 3, 1) := by decide +kernel
theorem dL_law_364 : decode cL_law 364 = .ok (.iconst 1, 1) := by decide +kernel
theorem dL_law_365 : decode cL_law 365 = .ok (.iadd, 1) := by decide +kernel
theorem dL_law_366 : decode cL_law 366 = .ok (.iaload, 1) := by decide +kernel
theorem dL_law_367 : decode cL_law 367 = .ok (.invokevirtual 37, 3) := by decide +kernel
theorem dL_law_370 : decode cL_law 370 = .ok (.if_icmp .eq 674, 3) := by decide +kernel
theorem dL_law_373 : decode cL_law 373 = .ok (.iconst 0, 1) := by decide +kernel
theorem dL_law_374 : decode cL_law 374 = .ok (.ireturn, 1) := by decide +kernel
theorem dL_law_375 : decode cL_law 375 = .ok (.aload_n 1, 1) := by decide +kernel
theorem dL_law_376 : decode cL_law 376 = .ok (.aload_n 0, 1) := by decide +kernel
theorem dL_law_377 : decode cL_law 377 = .ok (.iload_n 3, 1) := by decide +kernel
theorem dL_law_378 : decode cL_law 378 = .ok (.iconst 1, 1) := by decide +kernel
theorem dL_law_379 : decode cL_law 379 = .ok (.iadd, 1) := by decide +kernel
theorem dL_law_380 : decode cL_law 380 = .ok (.iaload, 1) := by decide +kernel
theorem dL_law_381 : decode cL_law 381 = .ok (.aload_n 0, 1) := by decide +kernel
theorem dL_law_382 : decode cL_law 382 = .ok (.iload_n 3, 1) := by decide +kernel
theorem dL_law_383 : decode cL_law 383 = .ok (.iconst 2, 1) := by decide +kernel
theorem dL_law_384 : decode cL_law 384 = .ok (.iadd, 1) := by decide +kernel
theorem dL_law_385 : decode cL_law 385 = .ok (.iaload, 1) := by decide +kernel
theorem dL_law_386 : decode cL_law 386 = .ok (.invokevirtual 38, 3) := by decide +kernel
theorem dL_law_389 : decode cL_law 389 = .ok (.aload_n 2, 1) := by decide +kernel
theorem dL_law_390 : decode cL_law 390 = .ok (.aload_n 0, 1) := by decide +kernel
theorem dL_law_391 : decode cL_law 391 = .ok (.iload_n 3, 1) := by decide +kernel
theorem dL_law_392 : decode cL_law 392 = .ok (.iconst 1, 1) := by decide +kernel
theorem dL_law_393 : decode cL_law 393 = .ok (.iadd, 1) := by decide +kernel
theorem dL_law_394 : decode cL_law 394 = .ok (.iaload, 1) := by decide +kernel
theorem dL_law_395 : decode cL_law 395 = .ok (.aload_n 0, 1) := by decide +kernel
theorem dL_law_396 : decode cL_law 396 = .ok (.iload_n 3, 1) := by decide +kernel
theorem dL_law_397 : decode cL_law 397 = .ok (.iconst 2, 1) := by decide +kernel
theorem dL_law_398 : decode cL_law 398 = .ok (.iadd, 1) := by decide +kernel
theorem dL_law_399 : decode cL_law 399 = .ok (.iaload, 1) := by decide +kernel
theorem dL_law_400 : decode cL_law 400 = .ok (.invokevirtual 41, 3) := by decide +kernel
theorem dL_law_403 : decode cL_law 403 = .ok (.if_icmp .eq 641, 3) := by decide +kernel
theorem dL_law_406 : decode cL_law 406 = .ok (.iconst 0, 1) := by decide +kernel
theorem dL_law_407 : decode cL_law 407 = .ok (.ireturn, 1) := by decide +kernel
theorem dL_law_408 : decode cL_law 408 = .ok (.aload_n 1, 1) := by decide +kernel
theorem dL_law_409 : decode cL_law 409 = .ok (.aload_n 0, 1) := by decide +kernel
theorem dL_law_410 : decode cL_law 410 = .ok (.iload_n 3, 1) := by decide +kernel
theorem dL_law_411 : decode cL_law 411 = .ok (.iconst 1, 1) := by decide +kernel
theorem dL_law_412 : decode cL_law 412 = .ok (.iadd, 1) := by decide +kernel
theorem dL_law_413 : decode cL_law 413 = .ok (.iaload, 1) := by decide +kernel
theorem dL_law_414 : decode cL_law 414 = .ok (.aload_n 0, 1) := by decide +kernel
theorem dL_law_415 : decode cL_law 415 = .ok (.iload_n 3, 1) := by decide +kernel
theorem dL_law_416 : decode cL_law 416 = .ok (.iconst 2, 1) := by decide +kernel
theorem dL_law_417 : decode cL_law 417 = .ok (.iadd, 1) := by decide +kernel
theorem dL_law_418 : decode cL_law 418 = .ok (.iaload, 1) := by decide +kernel
theorem dL_law_419 : decode cL_law 419 = .ok (.aload_n 0, 1) := by decide +kernel
theorem dL_law_420 : decode cL_law 420 = .ok (.iload_n 3, 1) := by decide +kernel
theorem dL_law_421 : decode cL_law 421 = .ok (.iconst 3, 1) := by decide +kernel
theorem dL_law_422 : decode cL_law 422 = .ok (.iadd, 1) := by decide +kernel
theorem dL_law_423 : decode cL_law 423 = .ok (.iaload, 1) := by decide +kernel
theorem dL_law_424 : decode cL_law 424 = .ok (.invokevirtual 42, 3) := by decide +kernel
theorem dL_law_427 : decode cL_law 427 = .ok (.aload_n 2, 1) := by decide +kernel
theorem dL_law_428 : decode cL_law 428 = .ok (.aload_n 0, 1) := by decide +kernel
theorem dL_law_429 : decode cL_law 429 = .ok (.iload_n 3, 1) := by decide +kernel
theorem dL_law_430 : decode cL_law 430 = .ok (.iconst 1, 1) := by decide +kernel
theorem dL_law_431 : decode cL_law 431 = .ok (.iadd, 1) := by decide +kernel
theorem dL_law_432 : decode cL_law 432 = .ok (.iaload, 1) := by decide +kernel
theorem dL_law_433 : decode cL_law 433 = .ok (.aload_n 0, 1) := by decide +kernel
theorem dL_law_434 : decode cL_law 434 = .ok (.iload_n 3, 1) := by decide +kernel
theorem dL_law_435 : decode cL_law 435 = .ok (.iconst 2, 1) := by decide +kernel
theorem dL_law_436 : decode cL_law 436 = .ok (.iadd, 1) := by decide +kernel
theorem dL_law_437 : decode cL_law 437 = .ok (.iaload, 1) := by decide +kernel
theorem dL_law_438 : decode cL_law 438 = .ok (.aload_n 0, 1) := by decide +kernel
theorem dL_law_439 : decode cL_law 439 = .ok (.iload_n 3, 1) := by decide +kernel
theorem dL_law_440 : decode cL_law 440 = .ok (.iconst 3, 1) := by decide +kernel
theorem dL_law_441 : decode cL_law 441 = .ok (.iadd, 1) := by decide +kernel
theorem dL_law_442 : decode cL_law 442 = .ok (.iaload, 1) := by decide +kernel
theorem dL_law_443 : decode cL_law 443 = .ok (.invokevirtual 45, 3) := by decide +kernel
theorem dL_law_446 : decode cL_law 446 = .ok (.if_icmp .eq 598, 3) := by decide +kernel
theorem dL_law_449 : decode cL_law 449 = .ok (.iconst 0, 1) := by decide +kernel
theorem dL_law_450 : decode cL_law 450 = .ok (.ireturn, 1) := by decide +kernel
theorem dL_law_451 : decode cL_law 451 = .ok (.aload_n 1, 1) := by decide +kernel
theorem dL_law_452 : decode cL_law 452 = .ok (.aload_n 0, 1) := by decide +kernel
theorem dL_law_453 : decode cL_law 453 = .ok (.iload_n 3, 1) := by decide +kernel
theorem dL_law_454 : decode cL_law 454 = .ok (.iconst 1, 1) := by decide +kernel
theorem dL_law_455 : decode cL_law 455 = .ok (.iadd, 1) := by decide +kernel
theorem dL_law_456 : decode cL_law 456 = .ok (.iaload, 1) := by decide +kernel
theorem dL_law_457 : decode cL_law 457 = .ok (.aload_n 0, 1) := by decide +kernel
theorem dL_law_458 : decode cL_law 458 = .ok (.iload_n 3, 1) := by decide +kernel
theorem dL_law_459 : decode cL_law 459 = .ok (.iconst 2, 1) := by decide +kernel
theorem dL_law_460 : decode cL_law 460 = .ok (.iadd, 1) := by decide +kernel
theorem dL_law_461 : decode cL_law 461 = .ok (.iaload, 1) := by decide +kernel
theorem dL_law_462 : decode cL_law 462 = .ok (.invokevirtual 46, 3) := by decide +kernel
theorem dL_law_465 : decode cL_law 465 = .ok (.aload_n 2, 1) := by decide +kernel
theorem dL_law_466 : decode cL_law 466 = .ok (.aload_n 0, 1) := by decide +kernel
theorem dL_law_467 : decode cL_law 467 = .ok (.iload_n 3, 1) := by decide +kernel
theorem dL_law_468 : decode cL_law 468 = .ok (.iconst 1, 1) := by decide +kernel
theorem dL_law_469 : decode cL_law 469 = .ok (.iadd, 1) := by decide +kernel
theorem dL_law_470 : decode cL_law 470 = .ok (.iaload, 1) := by decide +kernel
theorem dL_law_471 : decode cL_law 471 = .ok (.aload_n 0, 1) := by decide +kernel
theorem dL_law_472 : decode cL_law 472 = .ok (.iload_n 3, 1) := by decide +kernel
theorem dL_law_473 : decode cL_law 473 = .ok (.iconst 2, 1) := by decide +kernel
theorem dL_law_474 : decode cL_law 474 = .ok (.iadd, 1) := by decide +kernel
theorem dL_law_475 : decode cL_law 475 = .ok (.iaload, 1) := by decide +kernel
theorem dL_law_476 : decode cL_law 476 = .ok (.invokevirtual 49, 3) := by decide +kernel
theorem dL_law_479 : decode cL_law 479 = .ok (.if_icmp .eq 565, 3) := by decide +kernel
theorem dL_law_482 : decode cL_law 482 = .ok (.iconst 0, 1) := by decide +kernel
theorem dL_law_483 : decode cL_law 483 = .ok (.ireturn, 1) := by decide +kernel
theorem dL_law_484 : decode cL_law 484 = .ok (.aload_n 1, 1) := by decide +kernel
theorem dL_law_485 : decode cL_law 485 = .ok (.aload_n 0, 1) := by decide +kernel
theorem dL_law_486 : decode cL_law 486 = .ok (.iload_n 3, 1) := by decide +kernel
theorem dL_law_487 : decode cL_law 487 = .ok (.iconst 1, 1) := by decide +kernel
theorem dL_law_488 : decode cL_law 488 = .ok (.iadd, 1) := by decide +kernel
theorem dL_law_489 : decode cL_law 489 = .ok (.iaload, 1) := by decide +kernel
theorem dL_law_490 : decode cL_law 490 = .ok (.invokevirtual 50, 3) := by decide +kernel
theorem dL_law_493 : decode cL_law 493 = .ok (.aload_n 2, 1) := by decide +kernel
theorem dL_law_494 : decode cL_law 494 = .ok (.aload_n 0, 1) := by decide +kernel
theorem dL_law_495 : decode cL_law 495 = .ok (.iload_n 3, 1) := by decide +kernel
theorem dL_law_496 : decode cL_law 496 = .ok (.iconst 1, 1) := by decide +kernel
theorem dL_law_497 : decode cL_law 497 = .ok (.iadd, 1) := by decide +kernel
theorem dL_law_498 : decode cL_law 498 = .ok (.iaload, 1) := by decide +kernel
theorem dL_law_499 : decode cL_law 499 = .ok (.invokevirtual 53, 3) := by decide +kernel
theorem dL_law_502 : decode cL_law 502 = .ok (.if_icmp .eq 542, 3) := by decide +kernel
theorem dL_law_505 : decode cL_law 505 = .ok (.iconst 0, 1) := by decide +kernel
theorem dL_law_506 : decode cL_law 506 = .ok (.ireturn, 1) := by decide +kernel
theorem dL_law_507 : decode cL_law 507 = .ok (.aload_n 1, 1) := by decide +kernel
theorem dL_law_508 : decode cL_law 508 = .ok (.aload_n 0, 1) := by decide +kernel
theorem dL_law_509 : decode cL_law 509 = .ok (.iload_n 3, 1) := by decide +kernel
theorem dL_law_510 : decode cL_law 510 = .ok (.iconst 1, 1) := by decide +kernel
theorem dL_law_511 : decode cL_law 511 = .ok (.iadd, 1) := by decide +kernel
theorem dL_law_512 : decode cL_law 512 = .ok (.iaload, 1) := by decide +kernel
theorem dL_law_513 : decode cL_law 513 = .ok (.invokevirtual 54, 3) := by decide +kernel
theorem dL_law_516 : decode cL_law 516 = .ok (.aload_n 2, 1) := by decide +kernel
theorem dL_law_517 : decode cL_law 517 = .ok (.aload_n 0, 1) := by decide +kernel
theorem dL_law_518 : decode cL_law 518 = .ok (.iload_n 3, 1) := by decide +kernel
theorem dL_law_519 : decode cL_law 519 = .ok (.iconst 1, 1) := by decide +kernel
theorem dL_law_520 : decode cL_law 520 = .ok (.iadd, 1) := by decide +kernel
theorem dL_law_521 : decode cL_law 521 = .ok (.iaload, 1) := by decide +kernel
theorem dL_law_522 : decode cL_law 522 = .ok (.invokevirtual 57, 3) := by decide +kernel
theorem dL_law_525 : decode cL_law 525 = .ok (.if_icmp .eq 519, 3) := by decide +kernel
theorem dL_law_528 : decode cL_law 528 = .ok (.iconst 0, 1) := by decide +kernel
theorem dL_law_529 : decode cL_law 529 = .ok (.ireturn, 1) := by decide +kernel
theorem dL_law_530 : decode cL_law 530 = .ok (.aload_n 1, 1) := by decide +kernel
theorem dL_law_531 : decode cL_law 531 = .ok (.aload_n 0, 1) := by decide +kernel
theorem dL_law_532 : decode cL_law 532 = .ok (.iload_n 3, 1) := by decide +kernel
theorem dL_law_533 : decode cL_law 533 = .ok (.iconst 1, 1) := by decide +kernel
theorem dL_law_534 : decode cL_law 534 = .ok (.iadd, 1) := by decide +kernel
theorem dL_law_535 : decode cL_law 535 = .ok (.iaload, 1) := by decide +kernel
theorem dL_law_536 : decode cL_law 536 = .ok (.invokevirtual 58, 3) := by decide +kernel
theorem dL_law_539 : decode cL_law 539 = .ok (.aload_n 2, 1) := by decide +kernel
theorem dL_law_540 : decode cL_law 540 = .ok (.aload_n 0, 1) := by decide +kernel
theorem dL_law_541 : decode cL_law 541 = .ok (.iload_n 3, 1) := by decide +kernel
theorem dL_law_542 : decode cL_law 542 = .ok (.iconst 1, 1) := by decide +kernel
theorem dL_law_543 : decode cL_law 543 = .ok (.iadd, 1) := by decide +kernel
theorem dL_law_544 : decode cL_law 544 = .ok (.iaload, 1) := by decide +kernel
theorem dL_law_545 : decode cL_law 545 = .ok (.invokevirtual 61, 3) := by decide +kernel
theorem dL_law_548 : decode cL_law 548 = .ok (.if_icmp .eq 496, 3) := by decide +kernel
theorem dL_law_551 : decode cL_law 551 = .ok (.iconst 0, 1) := by decide +kernel
theorem dL_law_552 : decode cL_law 552 = .ok (.ireturn, 1) := by decide +kernel
theorem dL_law_553 : decode cL_law 553 = .ok (.aload_n 1, 1) := by decide +kernel
theorem dL_law_554 : decode cL_law 554 = .ok (.aload_n 0, 1) := by decide +kernel
theorem dL_law_555 : decode cL_law 555 = .ok (.iload_n 3, 1) := by decide +kernel
theorem dL_law_556 : decode cL_law 556 = .ok (.iconst 1, 1) := by decide +kernel
theorem dL_law_557 : decode cL_law 557 = .ok (.iadd, 1) := by decide +kernel
theorem dL_law_558 : decode cL_law 558 = .ok (.iaload, 1) := by decide +kernel
theorem dL_law_559 : decode cL_law 559 = .ok (.aload_n 0, 1) := by decide +kernel
theorem dL_law_560 : decode cL_law 560 = .ok (.iload_n 3, 1) := by decide +kernel
theorem dL_law_561 : decode cL_law 561 = .ok (.iconst 2, 1) := by decide +kernel
theorem dL_law_562 : decode cL_law 562 = .ok (.iadd, 1) := by decide +kernel
theorem dL_law_563 : decode cL_law 563 = .ok (.iaload, 1) := by decide +kernel
theorem dL_law_564 : decode cL_law 564 = .ok (.invokevirtual 62, 3) := by decide +kernel
theorem dL_law_567 : decode cL_law 567 = .ok (.aload_n 2, 1) := by decide +kernel
theorem dL_law_568 : decode cL_law 568 = .ok (.aload_n 0, 1) := by decide +kernel
theorem dL_law_569 : decode cL_law 569 = .ok (.iload_n 3, 1) := by decide +kernel
theorem dL_law_570 : decode cL_law 570 = .ok (.iconst 1, 1) := by decide +kernel
theorem dL_law_571 : decode cL_law 571 = .ok (.iadd, 1) := by decide +kernel
theorem dL_law_572 : decode cL_law 572 = .ok (.iaload, 1) := by decide +kernel
theorem dL_law_573 : decode cL_law 573 = .ok (.aload_n 0, 1) := by decide +kernel
theorem dL_law_574 : decode cL_law 574 = .ok (.iload_n 3, 1) := by decide +kernel
theorem dL_law_575 : decode cL_law 575 = .ok (.iconst 2, 1) := by decide +kernel
theorem dL_law_576 : decode cL_law 576 = .ok (.iadd, 1) := by decide +kernel
theorem dL_law_577 : decode cL_law 577 = .ok (.iaload, 1) := by decide +kernel
theorem dL_law_578 : decode cL_law 578 = .ok (.invokevirtual 65, 3) := by decide +kernel
theorem dL_law_581 : decode cL_law 581 = .ok (.if_icmp .eq 463, 3) := by decide +kernel
theorem dL_law_584 : decode cL_law 584 = .ok (.iconst 0, 1) := by decide +kernel
theorem dL_law_585 : decode cL_law 585 = .ok (.ireturn, 1) := by decide +kernel
theorem dL_law_586 : decode cL_law 586 = .ok (.aload_n 1, 1) := by decide +kernel
theorem dL_law_587 : decode cL_law 587 = .ok (.aload_n 0, 1) := by decide +kernel
theorem dL_law_588 : decode cL_law 588 = .ok (.iload_n 3, 1) := by decide +kernel
theorem dL_law_589 : decode cL_law 589 = .ok (.iconst 1, 1) := by decide +kernel
theorem dL_law_590 : decode cL_law 590 = .ok (.iadd, 1) := by decide +kernel
theorem dL_law_591 : decode cL_law 591 = .ok (.iaload, 1) := by decide +kernel
theorem dL_law_592 : decode cL_law 592 = .ok (.aload_n 0, 1) := by decide +kernel
theorem dL_law_593 : decode cL_law 593 = .ok (.iload_n 3, 1) := by decide +kernel
theorem dL_law_594 : decode cL_law 594 = .ok (.iconst 2, 1) := by decide +kernel
theorem dL_law_595 : decode cL_law 595 = .ok (.iadd, 1) := by decide +kernel
theorem dL_law_596 : decode cL_law 596 = .ok (.iaload, 1) := by decide +kernel
theorem dL_law_597 : decode cL_law 597 = .ok (.aload_n 0, 1) := by decide +kernel
theorem dL_law_598 : decode cL_law 598 = .ok (.iload_n 3, 1) := by decide +kernel
theorem dL_law_599 : decode cL_law 599 = .ok (.iconst 3, 1) := by decide +kernel
theorem dL_law_600 : decode cL_law 600 = .ok (.iadd, 1) := by decide +kernel
theorem dL_law_601 : decode cL_law 601 = .ok (.iaload, 1) := by decide +kernel
theorem dL_law_602 : decode cL_law 602 = .ok (.invokevirtual 66, 3) := by decide +kernel
theorem dL_law_605 : decode cL_law 605 = .ok (.aload_n 2, 1) := by decide +kernel
theorem dL_law_606 : decode cL_law 606 = .ok (.aload_n 0, 1) := by decide +kernel
theorem dL_law_607 : decode cL_law 607 = .ok (.iload_n 3, 1) := by decide +kernel
theorem dL_law_608 : decode cL_law 608 = .ok (.iconst 1, 1) := by decide +kernel
theorem dL_law_609 : decode cL_law 609 = .ok (.iadd, 1) := by decide +kernel
theorem dL_law_610 : decode cL_law 610 = .ok (.iaload, 1) := by decide +kernel
theorem dL_law_611 : decode cL_law 611 = .ok (.aload_n 0, 1) := by decide +kernel
theorem dL_law_612 : decode cL_law 612 = .ok (.iload_n 3, 1) := by decide +kernel
theorem dL_law_613 : decode cL_law 613 = .ok (.iconst 2, 1) := by decide +kernel
theorem dL_law_614 : decode cL_law 614 = .ok (.iadd, 1) := by decide +kernel
theorem dL_law_615 : decode cL_law 615 = .ok (.iaload, 1) := by decide +kernel
theorem dL_law_616 : decode cL_law 616 = .ok (.aload_n 0, 1) := by decide +kernel
theorem dL_law_617 : decode cL_law 617 = .ok (.iload_n 3, 1) := by decide +kernel
theorem dL_law_618 : decode cL_law 618 = .ok (.iconst 3, 1) := by decide +kernel
theorem dL_law_619 : decode cL_law 619 = .ok (.iadd, 1) := by decide +kernel
theorem dL_law_620 : decode cL_law 620 = .ok (.iaload, 1) := by decide +kernel
theorem dL_law_621 : decode cL_law 621 = .ok (.invokevirtual 69, 3) := by decide +kernel
theorem dL_law_624 : decode cL_law 624 = .ok (.if_icmp .eq 420, 3) := by decide +kernel
theorem dL_law_627 : decode cL_law 627 = .ok (.iconst 0, 1) := by decide +kernel
theorem dL_law_628 : decode cL_law 628 = .ok (.ireturn, 1) := by decide +kernel
theorem dL_law_629 : decode cL_law 629 = .ok (.aload_n 1, 1) := by decide +kernel
theorem dL_law_630 : decode cL_law 630 = .ok (.aload_n 0, 1) := by decide +kernel
theorem dL_law_631 : decode cL_law 631 = .ok (.iload_n 3, 1) := by decide +kernel
theorem dL_law_632 : decode cL_law 632 = .ok (.iconst 1, 1) := by decide +kernel
theorem dL_law_633 : decode cL_law 633 = .ok (.iadd, 1) := by decide +kernel
theorem dL_law_634 : decode cL_law 634 = .ok (.iaload, 1) := by decide +kernel
theorem dL_law_635 : decode cL_law 635 = .ok (.invokevirtual 70, 3) := by decide +kernel
theorem dL_law_638 : decode cL_law 638 = .ok (.aload_n 2, 1) := by decide +kernel
theorem dL_law_639 : decode cL_law 639 = .ok (.aload_n 0, 1) := by decide +kernel
theorem dL_law_640 : decode cL_law 640 = .ok (.iload_n 3, 1) := by decide +kernel
theorem dL_law_641 : decode cL_law 641 = .ok (.iconst 1, 1) := by decide +kernel
theorem dL_law_642 : decode cL_law 642 = .ok (.iadd, 1) := by decide +kernel
theorem dL_law_643 : decode cL_law 643 = .ok (.iaload, 1) := by decide +kernel
theorem dL_law_644 : decode cL_law 644 = .ok (.invokevirtual 73, 3) := by decide +kernel
theorem dL_law_647 : decode cL_law 647 = .ok (.if_icmp .eq 397, 3) := by decide +kernel
theorem dL_law_650 : decode cL_law 650 = .ok (.iconst 0, 1) := by decide +kernel
theorem dL_law_651 : decode cL_law 651 = .ok (.ireturn, 1) := by decide +kernel
theorem dL_law_652 : decode cL_law 652 = .ok (.aload_n 1, 1) := by decide +kernel
theorem dL_law_653 : decode cL_law 653 = .ok (.aload_n 0, 1) := by decide +kernel
theorem dL_law_654 : decode cL_law 654 = .ok (.iload_n 3, 1) := by decide +kernel
theorem dL_law_655 : decode cL_law 655 = .ok (.iconst 1, 1) := by decide +kernel
theorem dL_law_656 : decode cL_law 656 = .ok (.iadd, 1) := by decide +kernel
theorem dL_law_657 : decode cL_law 657 = .ok (.iaload, 1) := by decide +kernel
theorem dL_law_658 : decode cL_law 658 = .ok (.aload_n 0, 1) := by decide +kernel
theorem dL_law_659 : decode cL_law 659 = .ok (.iload_n 3, 1) := by decide +kernel
theorem dL_law_660 : decode cL_law 660 = .ok (.iconst 2, 1) := by decide +kernel
theorem dL_law_661 : decode cL_law 661 = .ok (.iadd, 1) := by decide +kernel
theorem dL_law_662 : decode cL_law 662 = .ok (.iaload, 1) := by decide +kernel
theorem dL_law_663 : decode cL_law 663 = .ok (.invokevirtual 74, 3) := by decide +kernel
theorem dL_law_666 : decode cL_law 666 = .ok (.aload_n 2, 1) := by decide +kernel
theorem dL_law_667 : decode cL_law 667 = .ok (.aload_n 0, 1) := by decide +kernel
theorem dL_law_668 : decode cL_law 668 = .ok (.iload_n 3, 1) := by decide +kernel
theorem dL_law_669 : decode cL_law 669 = .ok (.iconst 1, 1) := by decide +kernel
theorem dL_law_670 : decode cL_law 670 = .ok (.iadd, 1) := by decide +kernel
theorem dL_law_671 : decode cL_law 671 = .ok (.iaload, 1) := by decide +kernel
theorem dL_law_672 : decode cL_law 672 = .ok (.aload_n 0, 1) := by decide +kernel
theorem dL_law_673 : decode cL_law 673 = .ok (.iload_n 3, 1) := by decide +kernel
theorem dL_law_674 : decode cL_law 674 = .ok (.iconst 2, 1) := by decide +kernel
theorem dL_law_675 : decode cL_law 675 = .ok (.iadd, 1) := by decide +kernel
theorem dL_law_676 : decode cL_law 676 = .ok (.iaload, 1) := by decide +kernel
theorem dL_law_677 : decode cL_law 677 = .ok (.invokevirtual 77, 3) := by decide +kernel
theorem dL_law_680 : decode cL_law 680 = .ok (.if_icmp .eq 364, 3) := by decide +kernel
theorem dL_law_683 : decode cL_law 683 = .ok (.iconst 0, 1) := by decide +kernel
theorem dL_law_684 : decode cL_law 684 = .ok (.ireturn, 1) := by decide +kernel
theorem dL_law_685 : decode cL_law 685 = .ok (.aload_n 1, 1) := by decide +kernel
theorem dL_law_686 : decode cL_law 686 = .ok (.aload_n 0, 1) := by decide +kernel
theorem dL_law_687 : decode cL_law 687 = .ok (.iload_n 3, 1) := by decide +kernel
theorem dL_law_688 : decode cL_law 688 = .ok (.iconst 1, 1) := by decide +kernel
theorem dL_law_689 : decode cL_law 689 = .ok (.iadd, 1) := by decide +kernel
theorem dL_law_690 : decode cL_law 690 = .ok (.iaload, 1) := by decide +kernel
theorem dL_law_691 : decode cL_law 691 = .ok (.aload_n 0, 1) := by decide +kernel
theorem dL_law_692 : decode cL_law 692 = .ok (.iload_n 3, 1) := by decide +kernel
theorem dL_law_693 : decode cL_law 693 = .ok (.iconst 2, 1) := by decide +kernel
theorem dL_law_694 : decode cL_law 694 = .ok (.iadd, 1) := by decide +kernel
theorem dL_law_695 : decode cL_law 695 = .ok (.iaload, 1) := by decide +kernel
theorem dL_law_696 : decode cL_law 696 = .ok (.invokevirtual 78, 3) := by decide +kernel
theorem dL_law_699 : decode cL_law 699 = .ok (.aload_n 2, 1) := by decide +kernel
theorem dL_law_700 : decode cL_law 700 = .ok (.aload_n 0, 1) := by decide +kernel
theorem dL_law_701 : decode cL_law 701 = .ok (.iload_n 3, 1) := by decide +kernel
theorem dL_law_702 : decode cL_law 702 = .ok (.iconst 1, 1) := by decide +kernel
theorem dL_law_703 : decode cL_law 703 = .ok (.iadd, 1) := by decide +kernel
theorem dL_law_704 : decode cL_law 704 = .ok (.iaload, 1) := by decide +kernel
theorem dL_law_705 : decode cL_law 705 = .ok (.aload_n 0, 1) := by decide +kernel
theorem dL_law_706 : decode cL_law 706 = .ok (.iload_n 3, 1) := by decide +kernel
theorem dL_law_707 : decode cL_law 707 = .ok (.iconst 2, 1) := by decide +kernel
theorem dL_law_708 : decode cL_law 708 = .ok (.iadd, 1) := by decide +kernel
theorem dL_law_709 : decode cL_law 709 = .ok (.iaload, 1) := by decide +kernel
theorem dL_law_710 : decode cL_law 710 = .ok (.invokevirtual 81, 3) := by decide +kernel
theorem dL_law_713 : decode cL_law 713 = .ok (.if_icmp .eq 331, 3) := by decide +kernel
theorem dL_law_716 : decode cL_law 716 = .ok (.iconst 0, 1) := by decide +kernel
theorem dL_law_717 : decode cL_law 717 = .ok (.ireturn, 1) := by decide +kernel
theorem dL_law_718 : decode cL_law 718 = .ok (.aload_n 1, 1) := by decide +kernel
theorem dL_law_719 : decode cL_law 719 = .ok (.aload_n 0, 1) := by decide +kernel
theorem dL_law_720 : decode cL_law 720 = .ok (.iload_n 3, 1) := by decide +kernel
theorem dL_law_721 : decode cL_law 721 = .ok (.iconst 1, 1) := by decide +kernel
theorem dL_law_722 : decode cL_law 722 = .ok (.iadd, 1) := by decide +kernel
theorem dL_law_723 : decode cL_law 723 = .ok (.iaload, 1) := by decide +kernel
theorem dL_law_724 : decode cL_law 724 = .ok (.aload_n 0, 1) := by decide +kernel
theorem dL_law_725 : decode cL_law 725 = .ok (.iload_n 3, 1) := by decide +kernel
theorem dL_law_726 : decode cL_law 726 = .ok (.iconst 2, 1) := by decide +kernel
theorem dL_law_727 : decode cL_law 727 = .ok (.iadd, 1) := by decide +kernel
theorem dL_law_728 : decode cL_law 728 = .ok (.iaload, 1) := by decide +kernel
theorem dL_law_729 : decode cL_law 729 = .ok (.aload_n 0, 1) := by decide +kernel
theorem dL_law_730 : decode cL_law 730 = .ok (.iload_n 3, 1) := by decide +kernel
theorem dL_law_731 : decode cL_law 731 = .ok (.iconst 3, 1) := by decide +kernel
theorem dL_law_732 : decode cL_law 732 = .ok (.iadd, 1) := by decide +kernel
theorem dL_law_733 : decode cL_law 733 = .ok (.iaload, 1) := by decide +kernel
theorem dL_law_734 : decode cL_law 734 = .ok (.invokevirtual 82, 3) := by decide +kernel
theorem dL_law_737 : decode cL_law 737 = .ok (.aload_n 2, 1) := by decide +kernel
theorem dL_law_738 : decode cL_law 738 = .ok (.aload_n 0, 1) := by decide +kernel
theorem dL_law_739 : decode cL_law 739 = .ok (.iload_n 3, 1) := by decide +kernel
theorem dL_law_740 : decode cL_law 740 = .ok (.iconst 1, 1) := by decide +kernel
theorem dL_law_741 : decode cL_law 741 = .ok (.iadd, 1) := by decide +kernel
theorem dL_law_742 : decode cL_law 742 = .ok (.iaload, 1) := by decide +kernel
theorem dL_law_743 : decode cL_law 743 = .ok (.aload_n 0, 1) := by decide +kernel
theorem dL_law_744 : decode cL_law 744 = .ok (.iload_n 3, 1) := by decide +kernel
theorem dL_law_745 : decode cL_law 745 = .ok (.iconst 2, 1) := by decide +kernel
theorem dL_law_746 : decode cL_law 746 = .ok (.iadd, 1) := by decide +kernel
theorem dL_law_747 : decode cL_law 747 = .ok (.iaload, 1) := by decide +kernel
theorem dL_law_748 : decode cL_law 748 = .ok (.aload_n 0, 1) := by decide +kernel
theorem dL_law_749 : decode cL_law 749 = .ok (.iload_n 3, 1) := by decide +kernel
theorem dL_law_750 : decode cL_law 750 = .ok (.iconst 3, 1) := by decide +kernel
theorem dL_law_751 : decode cL_law 751 = .ok (.iadd, 1) := by decide +kernel
theorem dL_law_752 : decode cL_law 752 = .ok (.iaload, 1) := by decide +kernel
theorem dL_law_753 : decode cL_law 753 = .ok (.invokevirtual 85, 3) := by decide +kernel
theorem dL_law_756 : decode cL_law 756 = .ok (.if_icmp .eq 288, 3) := by decide +kernel
theorem dL_law_759 : decode cL_law 759 = .ok (.iconst 0, 1) := by decide +kernel
theorem dL_law_760 : decode cL_law 760 = .ok (.ireturn, 1) := by decide +kernel
theorem dL_law_761 : decode cL_law 761 = .ok (.aload_n 1, 1) := by decide +kernel
theorem dL_law_762 : decode cL_law 762 = .ok (.aload_n 0, 1) := by decide +kernel
theorem dL_law_763 : decode cL_law 763 = .ok (.iload_n 3, 1) := by decide +kernel
theorem dL_law_764 : decode cL_law 764 = .ok (.iconst 1, 1) := by decide +kernel
theorem dL_law_765 : decode cL_law 765 = .ok (.iadd, 1) := by decide +kernel
theorem dL_law_766 : decode cL_law 766 = .ok (.iaload, 1) := by decide +kernel
theorem dL_law_767 : decode cL_law 767 = .ok (.invokevirtual 86, 3) := by decide +kernel
theorem dL_law_770 : decode cL_law 770 = .ok (.aload_n 2, 1) := by decide +kernel
theorem dL_law_771 : decode cL_law 771 = .ok (.aload_n 0, 1) := by decide +kernel
theorem dL_law_772 : decode cL_law 772 = .ok (.iload_n 3, 1) := by decide +kernel
theorem dL_law_773 : decode cL_law 773 = .ok (.iconst 1, 1) := by decide +kernel
theorem dL_law_774 : decode cL_law 774 = .ok (.iadd, 1) := by decide +kernel
theorem dL_law_775 : decode cL_law 775 = .ok (.iaload, 1) := by decide +kernel
theorem dL_law_776 : decode cL_law 776 = .ok (.invokevirtual 89, 3) := by decide +kernel
theorem dL_law_779 : decode cL_law 779 = .ok (.if_icmp .eq 265, 3) := by decide +kernel
theorem dL_law_782 : decode cL_law 782 = .ok (.iconst 0, 1) := by decide +kernel
theorem dL_law_783 : decode cL_law 783 = .ok (.ireturn, 1) := by decide +kernel
theorem dL_law_784 : decode cL_law 784 = .ok (.aload_n 1, 1) := by decide +kernel
theorem dL_law_785 : decode cL_law 785 = .ok (.aload_n 0, 1) := by decide +kernel
theorem dL_law_786 : decode cL_law 786 = .ok (.iload_n 3, 1) := by decide +kernel
theorem dL_law_787 : decode cL_law 787 = .ok (.iconst 1, 1) := by decide +kernel
theorem dL_law_788 : decode cL_law 788 = .ok (.iadd, 1) := by decide +kernel
theorem dL_law_789 : decode cL_law 789 = .ok (.iaload, 1) := by decide +kernel
theorem dL_law_790 : decode cL_law 790 = .ok (.aload_n 0, 1) := by decide +kernel
theorem dL_law_791 : decode cL_law 791 = .ok (.iload_n 3, 1) := by decide +kernel
theorem dL_law_792 : decode cL_law 792 = .ok (.iconst 2, 1) := by decide +kernel
theorem dL_law_793 : decode cL_law 793 = .ok (.iadd, 1) := by decide +kernel
theorem dL_law_794 : decode cL_law 794 = .ok (.iaload, 1) := by decide +kernel
theorem dL_law_795 : decode cL_law 795 = .ok (.i2l, 1) := by decide +kernel
theorem dL_law_796 : decode cL_law 796 = .ok (.bipush 32, 2) := by decide +kernel
theorem dL_law_798 : decode cL_law 798 = .ok (.lshl, 1) := by decide +kernel
theorem dL_law_799 : decode cL_law 799 = .ok (.aload_n 0, 1) := by decide +kernel
theorem dL_law_800 : decode cL_law 800 = .ok (.iload_n 3, 1) := by decide +kernel
theorem dL_law_801 : decode cL_law 801 = .ok (.iconst 3, 1) := by decide +kernel
theorem dL_law_802 : decode cL_law 802 = .ok (.iadd, 1) := by decide +kernel
theorem dL_law_803 : decode cL_law 803 = .ok (.iaload, 1) := by decide +kernel
theorem dL_law_804 : decode cL_law 804 = .ok (.i2l, 1) := by decide +kernel
theorem dL_law_805 : decode cL_law 805 = .ok (.ldc2_w 90, 3) := by decide +kernel
theorem dL_law_808 : decode cL_law 808 = .ok (.land, 1) := by decide +kernel
theorem dL_law_809 : decode cL_law 809 = .ok (.lor, 1) := by decide +kernel
theorem dL_law_810 : decode cL_law 810 = .ok (.invokevirtual 92, 3) := by decide +kernel
theorem dL_law_813 : decode cL_law 813 = .ok (.aload_n 2, 1) := by decide +kernel
theorem dL_law_814 : decode cL_law 814 = .ok (.aload_n 0, 1) := by decide +kernel
theorem dL_law_815 : decode cL_law 815 = .ok (.iload_n 3, 1) := by decide +kernel
theorem dL_law_816 : decode cL_law 816 = .ok (.iconst 1, 1) := by decide +kernel
theorem dL_law_817 : decode cL_law 817 = .ok (.iadd, 1) := by decide +kernel
theorem dL_law_818 : decode cL_law 818 = .ok (.iaload, 1) := by decide +kernel
theorem dL_law_819 : decode cL_law 819 = .ok (.aload_n 0, 1) := by decide +kernel
theorem dL_law_820 : decode cL_law 820 = .ok (.iload_n 3, 1) := by decide +kernel
theorem dL_law_821 : decode cL_law 821 = .ok (.iconst 2, 1) := by decide +kernel
theorem dL_law_822 : decode cL_law 822 = .ok (.iadd, 1) := by decide +kernel
theorem dL_law_823 : decode cL_law 823 = .ok (.iaload, 1) := by decide +kernel
theorem dL_law_824 : decode cL_law 824 = .ok (.i2l, 1) := by decide +kernel
theorem dL_law_825 : decode cL_law 825 = .ok (.bipush 32, 2) := by decide +kernel
theorem dL_law_827 : decode cL_law 827 = .ok (.lshl, 1) := by decide +kernel
theorem dL_law_828 : decode cL_law 828 = .ok (.aload_n 0, 1) := by decide +kernel
theorem dL_law_829 : decode cL_law 829 = .ok (.iload_n 3, 1) := by decide +kernel
theorem dL_law_830 : decode cL_law 830 = .ok (.iconst 3, 1) := by decide +kernel
theorem dL_law_831 : decode cL_law 831 = .ok (.iadd, 1) := by decide +kernel
theorem dL_law_832 : decode cL_law 832 = .ok (.iaload, 1) := by decide +kernel
theorem dL_law_833 : decode cL_law 833 = .ok (.i2l, 1) := by decide +kernel
theorem dL_law_834 : decode cL_law 834 = .ok (.ldc2_w 90, 3) := by decide +kernel
theorem dL_law_837 : decode cL_law 837 = .ok (.land, 1) := by decide +kernel
theorem dL_law_838 : decode cL_law 838 = .ok (.lor, 1) := by decide +kernel
theorem dL_law_839 : decode cL_law 839 = .ok (.invokevirtual 96, 3) := by decide +kernel
theorem dL_law_842 : decode cL_law 842 = .ok (.if_icmp .eq 202, 3) := by decide +kernel
theorem dL_law_845 : decode cL_law 845 = .ok (.iconst 0, 1) := by decide +kernel
theorem dL_law_846 : decode cL_law 846 = .ok (.ireturn, 1) := by decide +kernel
theorem dL_law_847 : decode cL_law 847 = .ok (.aload_n 1, 1) := by decide +kernel
theorem dL_law_848 : decode cL_law 848 = .ok (.invokevirtual 97, 3) := by decide +kernel
theorem dL_law_851 : decode cL_law 851 = .ok (.aload_n 2, 1) := by decide +kernel
theorem dL_law_852 : decode cL_law 852 = .ok (.invokevirtual 101, 3) := by decide +kernel
theorem dL_law_855 : decode cL_law 855 = .ok (.if_icmp .eq 189, 3) := by decide +kernel
theorem dL_law_858 : decode cL_law 858 = .ok (.iconst 0, 1) := by decide +kernel
theorem dL_law_859 : decode cL_law 859 = .ok (.ireturn, 1) := by decide +kernel
theorem dL_law_860 : decode cL_law 860 = .ok (.aload_n 1, 1) := by decide +kernel
theorem dL_law_861 : decode cL_law 861 = .ok (.invokevirtual 102, 3) := by decide +kernel
theorem dL_law_864 : decode cL_law 864 = .ok (.aload_n 2, 1) := by decide +kernel
theorem dL_law_865 : decode cL_law 865 = .ok (.invokevirtual 105, 3) := by decide +kernel
theorem dL_law_868 : decode cL_law 868 = .ok (.if_icmp .eq 176, 3) := by decide +kernel
theorem dL_law_871 : decode cL_law 871 = .ok (.iconst 0, 1) := by decide +kernel
theorem dL_law_872 : decode cL_law 872 = .ok (.ireturn, 1) := by decide +kernel
theorem dL_law_873 : decode cL_law 873 = .ok (.aload_n 1, 1) := by decide +kernel
theorem dL_law_874 : decode cL_law 874 = .ok (.aload_n 0, 1) := by decide +kernel
theorem dL_law_875 : decode cL_law 875 = .ok (.iload_n 3, 1) := by decide +kernel
theorem dL_law_876 : decode cL_law 876 = .ok (.iconst 1, 1) := by decide +kernel
theorem dL_law_877 : decode cL_law 877 = .ok (.iadd, 1) := by decide +kernel
theorem dL_law_878 : decode cL_law 878 = .ok (.iaload, 1) := by decide +kernel
theorem dL_law_879 : decode cL_law 879 = .ok (.invokevirtual 106, 3) := by decide +kernel
theorem dL_law_882 : decode cL_law 882 = .ok (.aload_n 2, 1) := by decide +kernel
theorem dL_law_883 : decode cL_law 883 = .ok (.aload_n 0, 1) := by decide +kernel
theorem dL_law_884 : decode cL_law 884 = .ok (.iload_n 3, 1) := by decide +kernel
theorem dL_law_885 : decode cL_law 885 = .ok (.iconst 1, 1) := by decide +kernel
theorem dL_law_886 : decode cL_law 886 = .ok (.iadd, 1) := by decide +kernel
theorem dL_law_887 : decode cL_law 887 = .ok (.iaload, 1) := by decide +kernel
theorem dL_law_888 : decode cL_law 888 = .ok (.invokevirtual 109, 3) := by decide +kernel
theorem dL_law_891 : decode cL_law 891 = .ok (.if_icmp .eq 153, 3) := by decide +kernel
theorem dL_law_894 : decode cL_law 894 = .ok (.iconst 0, 1) := by decide +kernel
theorem dL_law_895 : decode cL_law 895 = .ok (.ireturn, 1) := by decide +kernel
theorem dL_law_896 : decode cL_law 896 = .ok (.aload_n 1, 1) := by decide +kernel
theorem dL_law_897 : decode cL_law 897 = .ok (.aload_n 0, 1) := by decide +kernel
theorem dL_law_898 : decode cL_law 898 = .ok (.iload_n 3, 1) := by decide +kernel
theorem dL_law_899 : decode cL_law 899 = .ok (.iconst 1, 1) := by decide +kernel
theorem dL_law_900 : decode cL_law 900 = .ok (.iadd, 1) := by decide +kernel
theorem dL_law_901 : decode cL_law 901 = .ok (.iaload, 1) := by decide +kernel
theorem dL_law_902 : decode cL_law 902 = .ok (.invokevirtual 110, 3) := by decide +kernel
theorem dL_law_905 : decode cL_law 905 = .ok (.aload_n 2, 1) := by decide +kernel
theorem dL_law_906 : decode cL_law 906 = .ok (.aload_n 0, 1) := by decide +kernel
theorem dL_law_907 : decode cL_law 907 = .ok (.iload_n 3, 1) := by decide +kernel
theorem dL_law_908 : decode cL_law 908 = .ok (.iconst 1, 1) := by decide +kernel
theorem dL_law_909 : decode cL_law 909 = .ok (.iadd, 1) := by decide +kernel
theorem dL_law_910 : decode cL_law 910 = .ok (.iaload, 1) := by decide +kernel
theorem dL_law_911 : decode cL_law 911 = .ok (.invokevirtual 113, 3) := by decide +kernel
theorem dL_law_914 : decode cL_law 914 = .ok (.if_icmp .eq 130, 3) := by decide +kernel
theorem dL_law_917 : decode cL_law 917 = .ok (.iconst 0, 1) := by decide +kernel
theorem dL_law_918 : decode cL_law 918 = .ok (.ireturn, 1) := by decide +kernel
theorem dL_law_919 : decode cL_law 919 = .ok (.aload_n 1, 1) := by decide +kernel
theorem dL_law_920 : decode cL_law 920 = .ok (.aload_n 0, 1) := by decide +kernel
theorem dL_law_921 : decode cL_law 921 = .ok (.iload_n 3, 1) := by decide +kernel
theorem dL_law_922 : decode cL_law 922 = .ok (.iconst 1, 1) := by decide +kernel
theorem dL_law_923 : decode cL_law 923 = .ok (.iadd, 1) := by decide +kernel
theorem dL_law_924 : decode cL_law 924 = .ok (.iaload, 1) := by decide +kernel
theorem dL_law_925 : decode cL_law 925 = .ok (.invokevirtual 114, 3) := by decide +kernel
theorem dL_law_928 : decode cL_law 928 = .ok (.aload_n 2, 1) := by decide +kernel
theorem dL_law_929 : decode cL_law 929 = .ok (.aload_n 0, 1) := by decide +kernel
theorem dL_law_930 : decode cL_law 930 = .ok (.iload_n 3, 1) := by decide +kernel
theorem dL_law_931 : decode cL_law 931 = .ok (.iconst 1, 1) := by decide +kernel
theorem dL_law_932 : decode cL_law 932 = .ok (.iadd, 1) := by decide +kernel
theorem dL_law_933 : decode cL_law 933 = .ok (.iaload, 1) := by decide +kernel
theorem dL_law_934 : decode cL_law 934 = .ok (.invokevirtual 117, 3) := by decide +kernel
theorem dL_law_937 : decode cL_law 937 = .ok (.if_icmp .eq 107, 3) := by decide +kernel
theorem dL_law_940 : decode cL_law 940 = .ok (.iconst 0, 1) := by decide +kernel
theorem dL_law_941 : decode cL_law 941 = .ok (.ireturn, 1) := by decide +kernel
theorem dL_law_942 : decode cL_law 942 = .ok (.aload_n 1, 1) := by decide +kernel
theorem dL_law_943 : decode cL_law 943 = .ok (.aload_n 0, 1) := by decide +kernel
theorem dL_law_944 : decode cL_law 944 = .ok (.iload_n 3, 1) := by decide +kernel
theorem dL_law_945 : decode cL_law 945 = .ok (.iconst 1, 1) := by decide +kernel
theorem dL_law_946 : decode cL_law 946 = .ok (.iadd, 1) := by decide +kernel
theorem dL_law_947 : decode cL_law 947 = .ok (.iaload, 1) := by decide +kernel
theorem dL_law_948 : decode cL_law 948 = .ok (.aload_n 0, 1) := by decide +kernel
theorem dL_law_949 : decode cL_law 949 = .ok (.iload_n 3, 1) := by decide +kernel
theorem dL_law_950 : decode cL_law 950 = .ok (.iconst 2, 1) := by decide +kernel
theorem dL_law_951 : decode cL_law 951 = .ok (.iadd, 1) := by decide +kernel
theorem dL_law_952 : decode cL_law 952 = .ok (.iaload, 1) := by decide +kernel
theorem dL_law_953 : decode cL_law 953 = .ok (.invokevirtual 118, 3) := by decide +kernel
theorem dL_law_956 : decode cL_law 956 = .ok (.aload_n 2, 1) := by decide +kernel
theorem dL_law_957 : decode cL_law 957 = .ok (.aload_n 0, 1) := by decide +kernel
theorem dL_law_958 : decode cL_law 958 = .ok (.iload_n 3, 1) := by decide +kernel
theorem dL_law_959 : decode cL_law 959 = .ok (.iconst 1, 1) := by decide +kernel
theorem dL_law_960 : decode cL_law 960 = .ok (.iadd, 1) := by decide +kernel
theorem dL_law_961 : decode cL_law 961 = .ok (.iaload, 1) := by decide +kernel
theorem dL_law_962 : decode cL_law 962 = .ok (.aload_n 0, 1) := by decide +kernel
theorem dL_law_963 : decode cL_law 963 = .ok (.iload_n 3, 1) := by decide +kernel
theorem dL_law_964 : decode cL_law 964 = .ok (.iconst 2, 1) := by decide +kernel
theorem dL_law_965 : decode cL_law 965 = .ok (.iadd, 1) := by decide +kernel
theorem dL_law_966 : decode cL_law 966 = .ok (.iaload, 1) := by decide +kernel
theorem dL_law_967 : decode cL_law 967 = .ok (.invokevirtual 121, 3) := by decide +kernel
theorem dL_law_970 : decode cL_law 970 = .ok (.if_icmp .eq 74, 3) := by decide +kernel
theorem dL_law_973 : decode cL_law 973 = .ok (.iconst 0, 1) := by decide +kernel
theorem dL_law_974 : decode cL_law 974 = .ok (.ireturn, 1) := by decide +kernel
theorem dL_law_975 : decode cL_law 975 = .ok (.aload_n 1, 1) := by decide +kernel
theorem dL_law_976 : decode cL_law 976 = .ok (.aload_n 0, 1) := by decide +kernel
theorem dL_law_977 : decode cL_law 977 = .ok (.iload_n 3, 1) := by decide +kernel
theorem dL_law_978 : decode cL_law 978 = .ok (.iconst 1, 1) := by decide +kernel
theorem dL_law_979 : decode cL_law 979 = .ok (.iadd, 1) := by decide +kernel
theorem dL_law_980 : decode cL_law 980 = .ok (.iaload, 1) := by decide +kernel
theorem dL_law_981 : decode cL_law 981 = .ok (.aload_n 0, 1) := by decide +kernel
theorem dL_law_982 : decode cL_law 982 = .ok (.iload_n 3, 1) := by decide +kernel
theorem dL_law_983 : decode cL_law 983 = .ok (.iconst 2, 1) := by decide +kernel
theorem dL_law_984 : decode cL_law 984 = .ok (.iadd, 1) := by decide +kernel
theorem dL_law_985 : decode cL_law 985 = .ok (.iaload, 1) := by decide +kernel
theorem dL_law_986 : decode cL_law 986 = .ok (.invokevirtual 122, 3) := by decide +kernel
theorem dL_law_989 : decode cL_law 989 = .ok (.aload_n 2, 1) := by decide +kernel
theorem dL_law_990 : decode cL_law 990 = .ok (.aload_n 0, 1) := by decide +kernel
theorem dL_law_991 : decode cL_law 991 = .ok (.iload_n 3, 1) := by decide +kernel
theorem dL_law_992 : decode cL_law 992 = .ok (.iconst 1, 1) := by decide +kernel
theorem dL_law_993 : decode cL_law 993 = .ok (.iadd, 1) := by decide +kernel
theorem dL_law_994 : decode cL_law 994 = .ok (.iaload, 1) := by decide +kernel
theorem dL_law_995 : decode cL_law 995 = .ok (.aload_n 0, 1) := by decide +kernel
theorem dL_law_996 : decode cL_law 996 = .ok (.iload_n 3, 1) := by decide +kernel
theorem dL_law_997 : decode cL_law 997 = .ok (.iconst 2, 1) := by decide +kernel
theorem dL_law_998 : decode cL_law 998 = .ok (.iadd, 1) := by decide +kernel
theorem dL_law_999 : decode cL_law 999 = .ok (.iaload, 1) := by decide +kernel
theorem dL_law_1000 : decode cL_law 1000 = .ok (.invokevirtual 125, 3) := by decide +kernel
theorem dL_law_1003 : decode cL_law 1003 = .ok (.if_icmp .eq 41, 3) := by decide +kernel
theorem dL_law_1006 : decode cL_law 1006 = .ok (.iconst 0, 1) := by decide +kernel
theorem dL_law_1007 : decode cL_law 1007 = .ok (.ireturn, 1) := by decide +kernel
theorem dL_law_1008 : decode cL_law 1008 = .ok (.aload_n 1, 1) := by decide +kernel
theorem dL_law_1009 : decode cL_law 1009 = .ok (.invokevirtual 126, 3) := by decide +kernel
theorem dL_law_1012 : decode cL_law 1012 = .ok (.aload_n 2, 1) := by decide +kernel
theorem dL_law_1013 : decode cL_law 1013 = .ok (.invokevirtual 129, 3) := by decide +kernel
theorem dL_law_1016 : decode cL_law 1016 = .ok (.if_icmp .eq 28, 3) := by decide +kernel
theorem dL_law_1019 : decode cL_law 1019 = .ok (.iconst 0, 1) := by decide +kernel
theorem dL_law_1020 : decode cL_law 1020 = .ok (.ireturn, 1) := by decide +kernel
theorem dL_law_1021 : decode cL_law 1021 = .ok (.aload_n 1, 1) := by decide +kernel
theorem dL_law_1022 : decode cL_law 1022 = .ok (.aload_n 0, 1) := by decide +kernel
theorem dL_law_1023 : decode cL_law 1023 = .ok (.iload_n 3, 1) := by decide +kernel
theorem dL_law_1024 : decode cL_law 1024 = .ok (.iconst 1, 1) := by decide +kernel
theorem dL_law_1025 : decode cL_law 1025 = .ok (.iadd, 1) := by decide +kernel
theorem dL_law_1026 : decode cL_law 1026 = .ok (.iaload, 1) := by decide +kernel
theorem dL_law_1027 : decode cL_law 1027 = .ok (.invokevirtual 130, 3) := by decide +kernel
theorem dL_law_1030 : decode cL_law 1030 = .ok (.aload_n 2, 1) := by decide +kernel
theorem dL_law_1031 : decode cL_law 1031 = .ok (.aload_n 0, 1) := by decide +kernel
theorem dL_law_1032 : decode cL_law 1032 = .ok (.iload_n 3, 1) := by decide +kernel
theorem dL_law_1033 : decode cL_law 1033 = .ok (.iconst 1, 1) := by decide +kernel
theorem dL_law_1034 : decode cL_law 1034 = .ok (.iadd, 1) := by decide +kernel
theorem dL_law_1035 : decode cL_law 1035 = .ok (.iaload, 1) := by decide +kernel
theorem dL_law_1036 : decode cL_law 1036 = .ok (.invokevirtual 133, 3) := by decide +kernel
theorem dL_law_1039 : decode cL_law 1039 = .ok (.if_icmp .eq 5, 3) := by decide +kernel
theorem dL_law_1042 : decode cL_law 1042 = .ok (.iconst 0, 1) := by decide +kernel
theorem dL_law_1043 : decode cL_law 1043 = .ok (.ireturn, 1) := by decide +kernel
theorem dL_law_1044 : decode cL_law 1044 = .ok (.iinc 3 6, 3) := by decide +kernel
theorem dL_law_1047 : decode cL_law 1047 = .ok (.goto (-1029), 3) := by decide +kernel
theorem dL_law_1050 : decode cL_law 1050 = .ok (.iconst 1, 1) := by decide +kernel
theorem dL_law_1051 : decode cL_law 1051 = .ok (.ireturn, 1) := by decide +kernel
