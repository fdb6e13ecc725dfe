theorem dX3_init_0 : decode cX3_init 0 = .ok (.aload_n 0, 1) := by decide +kernel
theorem dX3_init_1 : decode cX3_init 1 = .ok (.invokespecial 1, 3) := by decide +kernel
theorem dX3_init_4 : decode cX3_init 4 = .ok (.aload_n 0, 1) := by decide +kernel
theorem dX3_init_5 : decode cX3_init 5 = .ok (.bipush 8, 2) := by decide +kernel
theorem dX3_init_7 : decode cX3_init 7 = .ok (.anewarray 9, 3) := by decide +kernel
theorem dX3_init_10 : decode cX3_init 10 = .ok (.putfield 11, 3) := by decide +kernel
theorem dX3_init_13 : decode cX3_init 13 = .ok (.iconst 0, 1) := by decide +kernel
theorem dX3_init_14 : decode cX3_init 14 = .ok (.istore_n 1, 1) := by decide +kernel
theorem dX3_init_15 : decode cX3_init 15 = .ok (.iload_n 1, 1) := by decide +kernel
theorem dX3_init_16 : decode cX3_init 16 = .ok (.bipush 8, 2) := by decide +kernel
theorem dX3_init_18 : decode cX3_init 18 = .ok (.if_icmp .ge 22, 3) := by decide +kernel
theorem dX3_init_21 : decode cX3_init 21 = .ok (.aload_n 0, 1) := by decide +kernel
theorem dX3_init_22 : decode cX3_init 22 = .ok (.getfield 11, 3) := by decide +kernel
theorem dX3_init_25 : decode cX3_init 25 = .ok (.iload_n 1, 1) := by decide +kernel
theorem dX3_init_26 : decode cX3_init 26 = .ok (.new 9, 3) := by decide +kernel
theorem dX3_init_29 : decode cX3_init 29 = .ok (.dup, 1) := by decide +kernel
theorem dX3_init_30 : decode cX3_init 30 = .ok (.invokespecial 15, 3) := by decide +kernel
theorem dX3_init_33 : decode cX3_init 33 = .ok (.aastore, 1) := by decide +kernel
theorem dX3_init_34 : decode cX3_init 34 = .ok (.iinc 1 1, 3) := by decide +kernel
theorem dX3_init_37 : decode cX3_init 37 = .ok (.goto (-22), 3) := by decide +kernel
theorem dX3_init_40 : decode cX3_init 40 = .ok (.return_, 1) := by decide +kernel
theorem dX3_remember_0 : decode cX3_remember 0 = .ok (.aload_n 0, 1) := by decide +kernel
theorem dX3_remember_1 : decode cX3_remember 1 = .ok (.getfield 11, 3) := by decide +kernel
theorem dX3_remember_4 : decode cX3_remember 4 = .ok (.bipush 7, 2) := by decide +kernel
theorem dX3_remember_6 : decode cX3_remember 6 = .ok (.aaload, 1) := by decide +kernel
theorem dX3_remember_7 : decode cX3_remember 7 = .ok (.astore_n 2, 1) := by decide +kernel
theorem dX3_remember_8 : decode cX3_remember 8 = .ok (.bipush 7, 2) := by decide +kernel
theorem dX3_remember_10 : decode cX3_remember 10 = .ok (.istore_n 3, 1) := by decide +kernel
theorem dX3_remember_11 : decode cX3_remember 11 = .ok (.iload_n 3, 1) := by decide +kernel
theorem dX3_remember_12 : decode cX3_remember 12 = .ok (.ifCond .le 23, 3) := by decide +kernel
theorem dX3_remember_15 : decode cX3_remember 15 = .ok (.aload_n 0, 1) := by decide +kernel
theorem dX3_remember_16 : decode cX3_remember 16 = .ok (.getfield 11, 3) := by decide +kernel
theorem dX3_remember_19 : decode cX3_remember 19 = .ok (.iload_n 3, 1) := by decide +kernel
theorem dX3_remember_20 : decode cX3_remember 20 = .ok (.aload_n 0, 1) := by decide +kernel
theorem dX3_remember_21 : decode cX3_remember 21 = .ok (.getfield 11, 3) := by decide +kernel
theorem dX3_remember_24 : decode cX3_remember 24 = .ok (.iload_n 3, 1) := by decide +kernel
theorem dX3_remember_25 : decode cX3_remember 25 = .ok (.iconst 1, 1) := by decide +kernel
theorem dX3_remember_26 : decode cX3_remember 26 = .ok (.isub, 1) := by decide +kernel
theorem dX3_remember_27 : decode cX3_remember 27 = .ok (.aaload, 1) := by decide +kernel
theorem dX3_remember_28 : decode cX3_remember 28 = .ok (.aastore, 1) := by decide +kernel
theorem dX3_remember_29 : decode cX3_remember 29 = .ok (.iinc 3 (-1), 3) := by decide +kernel
theorem dX3_remember_32 : decode cX3_remember 32 = .ok (.goto (-21), 3) := by decide +kernel
theorem dX3_remember_35 : decode cX3_remember 35 = .ok (.aload_n 0, 1) := by decide +kernel
theorem dX3_remember_36 : decode cX3_remember 36 = .ok (.getfield 11, 3) := by decide +kernel
theorem dX3_remember_39 : decode cX3_remember 39 = .ok (.iconst 0, 1) := by decide +kernel
theorem dX3_remember_40 : decode cX3_remember 40 = .ok (.aload_n 2, 1) := by decide +kernel
theorem dX3_remember_41 : decode cX3_remember 41 = .ok (.aastore, 1) := by decide +kernel
theorem dX3_remember_42 : decode cX3_remember 42 = .ok (.aload_n 2, 1) := by decide +kernel
theorem dX3_remember_43 : decode cX3_remember 43 = .ok (.aload_n 1, 1) := by decide +kernel
theorem dX3_remember_44 : decode cX3_remember 44 = .ok (.invokevirtual 16, 3) := by decide +kernel
theorem dX3_remember_47 : decode cX3_remember 47 = .ok (.aload_n 0, 1) := by decide +kernel
theorem dX3_remember_48 : decode cX3_remember 48 = .ok (.aload_n 0, 1) := by decide +kernel
theorem dX3_remember_49 : decode cX3_remember 49 = .ok (.getfield 20, 3) := by decide +kernel
theorem dX3_remember_52 : decode cX3_remember 52 = .ok (.iconst 1, 1) := by decide +kernel
theorem dX3_remember_53 : decode cX3_remember 53 = .ok (.iadd, 1) := by decide +kernel
theorem dX3_remember_54 : decode cX3_remember 54 = .ok (.bipush 8, 2) := by decide +kernel
theorem dX3_remember_56 : decode cX3_remember 56 = .ok (.invokestatic 24, 3) := by decide +kernel
theorem dX3_remember_59 : decode cX3_remember 59 = .ok (.putfield 20, 3) := by decide +kernel
theorem dX3_remember_62 : decode cX3_remember 62 = .ok (.return_, 1) := by decide +kernel
theorem dX3_takeBack_0 : decode cX3_takeBack 0 = .ok (.aload_n 0, 1) := by decide +kernel
theorem dX3_takeBack_1 : decode cX3_takeBack 1 = .ok (.getfield 20, 3) := by decide +kernel
theorem dX3_takeBack_4 : decode cX3_takeBack 4 = .ok (.ifCond .ne 4, 3) := by decide +kernel
theorem dX3_takeBack_7 : decode cX3_takeBack 7 = .ok (.return_, 1) := by decide +kernel
theorem dX3_takeBack_8 : decode cX3_takeBack 8 = .ok (.aload_n 0, 1) := by decide +kernel
theorem dX3_takeBack_9 : decode cX3_takeBack 9 = .ok (.getfield 11, 3) := by decide +kernel
theorem dX3_takeBack_12 : decode cX3_takeBack 12 = .ok (.iconst 0, 1) := by decide +kernel
theorem dX3_takeBack_13 : decode cX3_takeBack 13 = .ok (.aaload, 1) := by decide +kernel
theorem dX3_takeBack_14 : decode cX3_takeBack 14 = .ok (.astore_n 2, 1) := by decide +kernel
theorem dX3_takeBack_15 : decode cX3_takeBack 15 = .ok (.aload_n 1, 1) := by decide +kernel
theorem dX3_takeBack_16 : decode cX3_takeBack 16 = .ok (.aload_n 2, 1) := by decide +kernel
theorem dX3_takeBack_17 : decode cX3_takeBack 17 = .ok (.invokevirtual 16, 3) := by decide +kernel
theorem dX3_takeBack_20 : decode cX3_takeBack 20 = .ok (.iconst 1, 1) := by decide +kernel
theorem dX3_takeBack_21 : decode cX3_takeBack 21 = .ok (.istore_n 3, 1) := by decide +kernel
theorem dX3_takeBack_22 : decode cX3_takeBack 22 = .ok (.iload_n 3, 1) := by decide +kernel
theorem dX3_takeBack_23 : decode cX3_takeBack 23 = .ok (.bipush 8, 2) := by decide +kernel
theorem dX3_takeBack_25 : decode cX3_takeBack 25 = .ok (.if_icmp .ge 23, 3) := by decide +kernel
theorem dX3_takeBack_28 : decode cX3_takeBack 28 = .ok (.aload_n 0, 1) := by decide +kernel
theorem dX3_takeBack_29 : decode cX3_takeBack 29 = .ok (.getfield 11, 3) := by decide +kernel
theorem dX3_takeBack_32 : decode cX3_takeBack 32 = .ok (.iload_n 3, 1) := by decide +kernel
theorem dX3_takeBack_33 : decode cX3_takeBack 33 = .ok (.iconst 1, 1) := by decide +kernel
theorem dX3_takeBack_34 : decode cX3_takeBack 34 = .ok (.isub, 1) := by decide +kernel
theorem dX3_takeBack_35 : decode cX3_takeBack 35 = .ok (.aload_n 0, 1) := by decide +kernel
theorem dX3_takeBack_36 : decode cX3_takeBack 36 = .ok (.getfield 11, 3) := by decide +kernel
theorem dX3_takeBack_39 : decode cX3_takeBack 39 = .ok (.iload_n 3, 1) := by decide +kernel
theorem dX3_takeBack_40 : decode cX3_takeBack 40 = .ok (.aaload, 1) := by decide +kernel
theorem dX3_takeBack_41 : decode cX3_takeBack 41 = .ok (.aastore, 1) := by decide +kernel
theorem dX3_takeBack_42 : decode cX3_takeBack 42 = .ok (.iinc 3 1, 3) := by decide +kernel
theorem dX3_takeBack_45 : decode cX3_takeBack 45 = .ok (.goto (-23), 3) := by decide +kernel
theorem dX3_takeBack_48 : decode cX3_takeBack 48 = .ok (.aload_n 0, 1) := by decide +kernel
theorem dX3_takeBack_49 : decode cX3_takeBack 49 = .ok (.getfield 11, 3) := by decide +kernel
theorem dX3_takeBack_52 : decode cX3_takeBack 52 = .ok (.bipush 7, 2) := by decide +kernel
theorem dX3_takeBack_54 : decode cX3_takeBack 54 = .ok (.aload_n 2, 1) := by decide +kernel
theorem dX3_takeBack_55 : decode cX3_takeBack 55 = .ok (.aastore, 1) := by decide +kernel
theorem dX3_takeBack_56 : decode cX3_takeBack 56 = .ok (.aload_n 0, 1) := by decide +kernel
theorem dX3_takeBack_57 : decode cX3_takeBack 57 = .ok (.dup, 1) := by decide +kernel
theorem dX3_takeBack_58 : decode cX3_takeBack 58 = .ok (.getfield 20, 3) := by decide +kernel
theorem dX3_takeBack_61 : decode cX3_takeBack 61 = .ok (.iconst 1, 1) := by decide +kernel
theorem dX3_takeBack_62 : decode cX3_takeBack 62 = .ok (.isub, 1) := by decide +kernel
theorem dX3_takeBack_63 : decode cX3_takeBack 63 = .ok (.putfield 20, 3) := by decide +kernel
theorem dX3_takeBack_66 : decode cX3_takeBack 66 = .ok (.return_, 1) := by decide +kernel
theorem dX3_clear_0 : decode cX3_clear 0 = .ok (.aload_n 0, 1) := by decide +kernel
theorem dX3_clear_1 : decode cX3_clear 1 = .ok (.iconst 0, 1) := by decide +kernel
theorem dX3_clear_2 : decode cX3_clear 2 = .ok (.putfield 20, 3) := by decide +kernel
theorem dX3_clear_5 : decode cX3_clear 5 = .ok (.return_, 1) := by decide +kernel
theorem dX4_init_0 : decode cX4_init 0 = .ok (.aload_n 0, 1) := by decide +kernel
theorem dX4_init_1 : decode cX4_init 1 = .ok (.invokespecial 3, 3) := by decide +kernel
theorem dX4_init_4 : decode cX4_init 4 = .ok (.aload_n 0, 1) := by decide +kernel
theorem dX4_init_5 : decode cX4_init 5 = .ok (.sipush 500, 3) := by decide +kernel
theorem dX4_init_8 : decode cX4_init 8 = .ok (.newarray .int, 2) := by decide +kernel
theorem dX4_init_10 : decode cX4_init 10 = .ok (.putfield 11, 3) := by decide +kernel
theorem dX4_init_13 : decode cX4_init 13 = .ok (.return_, 1) := by decide +kernel
theorem dX4_hasRoomFor_0 : decode cX4_hasRoomFor 0 = .ok (.aload_n 0, 1) := by decide +kernel
theorem dX4_hasRoomFor_1 : decode cX4_hasRoomFor 1 = .ok (.getfield 15, 3) := by decide +kernel
theorem dX4_hasRoomFor_4 : decode cX4_hasRoomFor 4 = .ok (.iload_n 1, 1) := by decide +kernel
theorem dX4_hasRoomFor_5 : decode cX4_hasRoomFor 5 = .ok (.iadd, 1) := by decide +kernel
theorem dX4_hasRoomFor_6 : decode cX4_hasRoomFor 6 = .ok (.sipush 500, 3) := by decide +kernel
theorem dX4_hasRoomFor_9 : decode cX4_hasRoomFor 9 = .ok (.if_icmp .gt 7, 3) := by decide +kernel
theorem dX4_hasRoomFor_12 : decode cX4_hasRoomFor 12 = .ok (.iconst 1, 1) := by decide +kernel
theorem dX4_hasRoomFor_13 : decode cX4_hasRoomFor 13 = .ok (.goto 4, 3) := by decide +kernel
theorem dX4_hasRoomFor_16 : decode cX4_hasRoomFor 16 = .ok (.iconst 0, 1) := by decide +kernel
theorem dX4_hasRoomFor_17 : decode cX4_hasRoomFor 17 = .ok (.ireturn, 1) := by decide +kernel
theorem dX4_appendFourBytes_0 : decode cX4_appendFourBytes 0 = .ok (.bipush 24, 2) := by decide +kernel
theorem dX4_appendFourBytes_2 : decode cX4_appendFourBytes 2 = .ok (.istore_n 2, 1) := by decide +kernel
theorem dX4_appendFourBytes_3 : decode cX4_appendFourBytes 3 = .ok (.iload_n 2, 1) := by decide +kernel
theorem dX4_appendFourBytes_4 : decode cX4_appendFourBytes 4 = .ok (.ifCond .lt 20, 3) := by decide +kernel
theorem dX4_appendFourBytes_7 : decode cX4_appendFourBytes 7 = .ok (.aload_n 0, 1) := by decide +kernel
theorem dX4_appendFourBytes_8 : decode cX4_appendFourBytes 8 = .ok (.iload_n 1, 1) := by decide +kernel
theorem dX4_appendFourBytes_9 : decode cX4_appendFourBytes 9 = .ok (.iload_n 2, 1) := by decide +kernel
theorem dX4_appendFourBytes_10 : decode cX4_appendFourBytes 10 = .ok (.ishr, 1) := by decide +kernel
theorem dX4_appendFourBytes_11 : decode cX4_appendFourBytes 11 = .ok (.sipush 255, 3) := by decide +kernel
theorem dX4_appendFourBytes_14 : decode cX4_appendFourBytes 14 = .ok (.iand, 1) := by decide +kernel
theorem dX4_appendFourBytes_15 : decode cX4_appendFourBytes 15 = .ok (.invokevirtual 19, 3) := by decide +kernel
theorem dX4_appendFourBytes_18 : decode cX4_appendFourBytes 18 = .ok (.iinc 2 (-8), 3) := by decide +kernel
theorem dX4_appendFourBytes_21 : decode cX4_appendFourBytes 21 = .ok (.goto (-18), 3) := by decide +kernel
theorem dX4_appendFourBytes_24 : decode cX4_appendFourBytes 24 = .ok (.return_, 1) := by decide +kernel
theorem dX4_appendByte_0 : decode cX4_appendByte 0 = .ok (.aload_n 0, 1) := by decide +kernel
theorem dX4_appendByte_1 : decode cX4_appendByte 1 = .ok (.getfield 15, 3) := by decide +kernel
theorem dX4_appendByte_4 : decode cX4_appendByte 4 = .ok (.ifCond .lt 15, 3) := by decide +kernel
theorem dX4_appendByte_7 : decode cX4_appendByte 7 = .ok (.aload_n 0, 1) := by decide +kernel
theorem dX4_appendByte_8 : decode cX4_appendByte 8 = .ok (.getfield 15, 3) := by decide +kernel
theorem dX4_appendByte_11 : decode cX4_appendByte 11 = .ok (.aload_n 0, 1) := by decide +kernel
theorem dX4_appendByte_12 : decode cX4_appendByte 12 = .ok (.getfield 11, 3) := by decide +kernel
theorem dX4_appendByte_15 : decode cX4_appendByte 15 = .ok (.arraylength, 1) := by decide +kernel
theorem dX4_appendByte_16 : decode cX4_appendByte 16 = .ok (.if_icmp .lt 4, 3) := by decide +kernel
theorem dX4_appendByte_19 : decode cX4_appendByte 19 = .ok (.return_, 1) := by decide +kernel
theorem dX4_appendByte_20 : decode cX4_appendByte 20 = .ok (.aload_n 0, 1) := by decide +kernel
theorem dX4_appendByte_21 : decode cX4_appendByte 21 = .ok (.getfield 11, 3) := by decide +kernel
theorem dX4_appendByte_24 : decode cX4_appendByte 24 = .ok (.aload_n 0, 1) := by decide +kernel
theorem dX4_appendByte_25 : decode cX4_appendByte 25 = .ok (.getfield 15, 3) := by decide +kernel
theorem dX4_appendByte_28 : decode cX4_appendByte 28 = .ok (.iload_n 1, 1) := by decide +kernel
theorem dX4_appendByte_29 : decode cX4_appendByte 29 = .ok (.iastore, 1) := by decide +kernel
theorem dX4_appendByte_30 : decode cX4_appendByte 30 = .ok (.aload_n 0, 1) := by decide +kernel
theorem dX4_appendByte_31 : decode cX4_appendByte 31 = .ok (.dup, 1) := by decide +kernel
theorem dX4_appendByte_32 : decode cX4_appendByte 32 = .ok (.getfield 15, 3) := by decide +kernel
theorem dX4_appendByte_35 : decode cX4_appendByte 35 = .ok (.iconst 1, 1) := by decide +kernel
theorem dX4_appendByte_36 : decode cX4_appendByte 36 = .ok (.iadd, 1) := by decide +kernel
theorem dX4_appendByte_37 : decode cX4_appendByte 37 = .ok (.putfield 15, 3) := by decide +kernel
theorem dX4_appendByte_40 : decode cX4_appendByte 40 = .ok (.return_, 1) := by decide +kernel
theorem dX4_clear_0 : decode cX4_clear 0 = .ok (.aload_n 0, 1) := by decide +kernel
theorem dX4_clear_1 : decode cX4_clear 1 = .ok (.iconst 0, 1) := by decide +kernel
theorem dX4_clear_2 : decode cX4_clear 2 = .ok (.putfield 15, 3) := by decide +kernel
theorem dX4_clear_5 : decode cX4_clear 5 = .ok (.return_, 1) := by decide +kernel
theorem dX5_of_0 : decode cX5_of 0 = .ok (.iload_n 0, 1) := by decide +kernel
theorem dX5_of_1 : decode cX5_of 1 = .ok (.bipush 16, 2) := by decide +kernel
theorem dX5_of_3 : decode cX5_of 3 = .ok (.ishl, 1) := by decide +kernel
theorem dX5_of_4 : decode cX5_of 4 = .ok (.iload_n 1, 1) := by decide +kernel
theorem dX5_of_5 : decode cX5_of 5 = .ok (.bipush 8, 2) := by decide +kernel
theorem dX5_of_7 : decode cX5_of 7 = .ok (.ishl, 1) := by decide +kernel
theorem dX5_of_8 : decode cX5_of 8 = .ok (.ior, 1) := by decide +kernel
theorem dX5_of_9 : decode cX5_of 9 = .ok (.iload_n 2, 1) := by decide +kernel
theorem dX5_of_10 : decode cX5_of 10 = .ok (.ior, 1) := by decide +kernel
theorem dX5_of_11 : decode cX5_of 11 = .ok (.ireturn, 1) := by decide +kernel
theorem dX5_intact_0 : decode cX5_intact 0 = .ok (.iload_n 1, 1) := by decide +kernel
theorem dX5_intact_1 : decode cX5_intact 1 = .ok (.bipush 6, 2) := by decide +kernel
theorem dX5_intact_3 : decode cX5_intact 3 = .ok (.ishl, 1) := by decide +kernel
theorem dX5_intact_4 : decode cX5_intact 4 = .ok (.iload_n 2, 1) := by decide +kernel
theorem dX5_intact_5 : decode cX5_intact 5 = .ok (.ior, 1) := by decide +kernel
theorem dX5_intact_6 : decode cX5_intact 6 = .ok (.istore_n 3, 1) := by decide +kernel
theorem dX5_intact_7 : decode cX5_intact 7 = .ok (.iload_n 0, 1) := by decide +kernel
theorem dX5_intact_8 : decode cX5_intact 8 = .ok (.iload_n 3, 1) := by decide +kernel
theorem dX5_intact_9 : decode cX5_intact 9 = .ok (.iload_n 0, 1) := by decide +kernel
theorem dX5_intact_10 : decode cX5_intact 10 = .ok (.iload_n 3, 1) := by decide +kernel
theorem dX5_intact_11 : decode cX5_intact 11 = .ok (.invokestatic 9, 3) := by decide +kernel
theorem dX5_intact_14 : decode cX5_intact 14 = .ok (.invokestatic 15, 3) := by decide +kernel
theorem dX5_intact_17 : decode cX5_intact 17 = .ok (.ireturn, 1) := by decide +kernel
theorem dX5_checkFor_0 : decode cX5_checkFor 0 = .ok (.iload_n 0, 1) := by decide +kernel
theorem dX5_checkFor_1 : decode cX5_checkFor 1 = .ok (.iload_n 1, 1) := by decide +kernel
theorem dX5_checkFor_2 : decode cX5_checkFor 2 = .ok (.ixor, 1) := by decide +kernel
theorem dX5_checkFor_3 : decode cX5_checkFor 3 = .ok (.ireturn, 1) := by decide +kernel
theorem dX5_addressOf_0 : decode cX5_addressOf 0 = .ok (.iload_n 0, 1) := by decide +kernel
theorem dX5_addressOf_1 : decode cX5_addressOf 1 = .ok (.bipush 16, 2) := by decide +kernel
theorem dX5_addressOf_3 : decode cX5_addressOf 3 = .ok (.ishr, 1) := by decide +kernel
theorem dX5_addressOf_4 : decode cX5_addressOf 4 = .ok (.ireturn, 1) := by decide +kernel
theorem dX5_commandOf_0 : decode cX5_commandOf 0 = .ok (.iload_n 0, 1) := by decide +kernel
theorem dX5_commandOf_1 : decode cX5_commandOf 1 = .ok (.bipush 8, 2) := by decide +kernel
theorem dX5_commandOf_3 : decode cX5_commandOf 3 = .ok (.ishr, 1) := by decide +kernel
theorem dX5_commandOf_4 : decode cX5_commandOf 4 = .ok (.sipush 255, 3) := by decide +kernel
theorem dX5_commandOf_7 : decode cX5_commandOf 7 = .ok (.iand, 1) := by decide +kernel
theorem dX5_commandOf_8 : decode cX5_commandOf 8 = .ok (.ireturn, 1) := by decide +kernel
theorem dX5_isWhole_0 : decode cX5_isWhole 0 = .ok (.iload_n 0, 1) := by decide +kernel
theorem dX5_isWhole_1 : decode cX5_isWhole 1 = .ok (.bipush 16, 2) := by decide +kernel
theorem dX5_isWhole_3 : decode cX5_isWhole 3 = .ok (.ishr, 1) := by decide +kernel
theorem dX5_isWhole_4 : decode cX5_isWhole 4 = .ok (.iload_n 0, 1) := by decide +kernel
theorem dX5_isWhole_5 : decode cX5_isWhole 5 = .ok (.bipush 8, 2) := by decide +kernel
theorem dX5_isWhole_7 : decode cX5_isWhole 7 = .ok (.ishr, 1) := by decide +kernel
theorem dX5_isWhole_8 : decode cX5_isWhole 8 = .ok (.ixor, 1) := by decide +kernel
theorem dX5_isWhole_9 : decode cX5_isWhole 9 = .ok (.iload_n 0, 1) := by decide +kernel
theorem dX5_isWhole_10 : decode cX5_isWhole 10 = .ok (.ixor, 1) := by decide +kernel
theorem dX5_isWhole_11 : decode cX5_isWhole 11 = .ok (.sipush 255, 3) := by decide +kernel
theorem dX5_isWhole_14 : decode cX5_isWhole 14 = .ok (.iand, 1) := by decide +kernel
theorem dX5_isWhole_15 : decode cX5_isWhole 15 = .ok (.ifCond .ne 7, 3) := by decide +kernel
theorem dX5_isWhole_18 : decode cX5_isWhole 18 = .ok (.iconst 1, 1) := by decide +kernel
theorem dX5_isWhole_19 : decode cX5_isWhole 19 = .ok (.goto 4, 3) := by decide +kernel
theorem dX5_isWhole_22 : decode cX5_isWhole 22 = .ok (.iconst 0, 1) := by decide +kernel
theorem dX5_isWhole_23 : decode cX5_isWhole 23 = .ok (.ireturn, 1) := by decide +kernel
theorem dX5_isFor_0 : decode cX5_isFor 0 = .ok (.iload_n 0, 1) := by decide +kernel
theorem dX5_isFor_1 : decode cX5_isFor 1 = .ok (.bipush 16, 2) := by decide +kernel
theorem dX5_isFor_3 : decode cX5_isFor 3 = .ok (.ishr, 1) := by decide +kernel
theorem dX5_isFor_4 : decode cX5_isFor 4 = .ok (.istore_n 2, 1) := by decide +kernel
theorem dX5_isFor_5 : decode cX5_isFor 5 = .ok (.iload_n 2, 1) := by decide +kernel
theorem dX5_isFor_6 : decode cX5_isFor 6 = .ok (.ifCond .eq 8, 3) := by decide +kernel
theorem dX5_isFor_9 : decode cX5_isFor 9 = .ok (.iload_n 2, 1) := by decide +kernel
theorem dX5_isFor_10 : decode cX5_isFor 10 = .ok (.iload_n 1, 1) := by decide +kernel
theorem dX5_isFor_11 : decode cX5_isFor 11 = .ok (.if_icmp .ne 7, 3) := by decide +kernel
theorem dX5_isFor_14 : decode cX5_isFor 14 = .ok (.iconst 1, 1) := by decide +kernel
theorem dX5_isFor_15 : decode cX5_isFor 15 = .ok (.goto 4, 3) := by decide +kernel
theorem dX5_isFor_18 : decode cX5_isFor 18 = .ok (.iconst 0, 1) := by decide +kernel
theorem dX5_isFor_19 : decode cX5_isFor 19 = .ok (.ireturn, 1) := by decide +kernel
theorem dX6_init_0 : decode cX6_init 0 = .ok (.aload_n 0, 1) := by decide +kernel
theorem dX6_init_1 : decode cX6_init 1 = .ok (.invokespecial 1, 3) := by decide +kernel
theorem dX6_init_4 : decode cX6_init 4 = .ok (.aload_n 0, 1) := by decide +kernel
theorem dX6_init_5 : decode cX6_init 5 = .ok (.bipush 12, 2) := by decide +kernel
theorem dX6_init_7 : decode cX6_init 7 = .ok (.newarray .int, 2) := by decide +kernel
theorem dX6_init_9 : decode cX6_init 9 = .ok (.putfield 9, 3) := by decide +kernel
theorem dX6_init_12 : decode cX6_init 12 = .ok (.return_, 1) := by decide +kernel
theorem dX6_isFull_0 : decode cX6_isFull 0 = .ok (.aload_n 0, 1) := by decide +kernel
theorem dX6_isFull_1 : decode cX6_isFull 1 = .ok (.getfield 13, 3) := by decide +kernel
theorem dX6_isFull_4 : decode cX6_isFull 4 = .ok (.bipush 12, 2) := by decide +kernel
theorem dX6_isFull_6 : decode cX6_isFull 6 = .ok (.if_icmp .lt 7, 3) := by decide +kernel
theorem dX6_isFull_9 : decode cX6_isFull 9 = .ok (.iconst 1, 1) := by decide +kernel
theorem dX6_isFull_10 : decode cX6_isFull 10 = .ok (.goto 4, 3) := by decide +kernel
theorem dX6_isFull_13 : decode cX6_isFull 13 = .ok (.iconst 0, 1) := by decide +kernel
theorem dX6_isFull_14 : decode cX6_isFull 14 = .ok (.ireturn, 1) := by decide +kernel
theorem dX6_packetAt_0 : decode cX6_packetAt 0 = .ok (.iload_n 1, 1) := by decide +kernel
theorem dX6_packetAt_1 : decode cX6_packetAt 1 = .ok (.ifCond .lt 20, 3) := by decide +kernel
theorem dX6_packetAt_4 : decode cX6_packetAt 4 = .ok (.iload_n 1, 1) := by decide +kernel
theorem dX6_packetAt_5 : decode cX6_packetAt 5 = .ok (.aload_n 0, 1) := by decide +kernel
theorem dX6_packetAt_6 : decode cX6_packetAt 6 = .ok (.getfield 13, 3) := by decide +kernel
theorem dX6_packetAt_9 : decode cX6_packetAt 9 = .ok (.if_icmp .ge 12, 3) := by decide +kernel
theorem dX6_packetAt_12 : decode cX6_packetAt 12 = .ok (.iload_n 1, 1) := by decide +kernel
theorem dX6_packetAt_13 : decode cX6_packetAt 13 = .ok (.aload_n 0, 1) := by decide +kernel
theorem dX6_packetAt_14 : decode cX6_packetAt 14 = .ok (.getfield 9, 3) := by decide +kernel
theorem dX6_packetAt_17 : decode cX6_packetAt 17 = .ok (.arraylength, 1) := by decide +kernel
theorem dX6_packetAt_18 : decode cX6_packetAt 18 = .ok (.if_icmp .lt 5, 3) := by decide +kernel
theorem dX6_packetAt_21 : decode cX6_packetAt 21 = .ok (.iconst (-1), 1) := by decide +kernel
theorem dX6_packetAt_22 : decode cX6_packetAt 22 = .ok (.ireturn, 1) := by decide +kernel
theorem dX6_packetAt_23 : decode cX6_packetAt 23 = .ok (.aload_n 0, 1) := by decide +kernel
theorem dX6_packetAt_24 : decode cX6_packetAt 24 = .ok (.getfield 9, 3) := by decide +kernel
theorem dX6_packetAt_27 : decode cX6_packetAt 27 = .ok (.iload_n 1, 1) := by decide +kernel
theorem dX6_packetAt_28 : decode cX6_packetAt 28 = .ok (.iaload, 1) := by decide +kernel
theorem dX6_packetAt_29 : decode cX6_packetAt 29 = .ok (.ireturn, 1) := by decide +kernel
theorem dX6_putLast_0 : decode cX6_putLast 0 = .ok (.aload_n 0, 1) := by decide +kernel
theorem dX6_putLast_1 : decode cX6_putLast 1 = .ok (.getfield 13, 3) := by decide +kernel
theorem dX6_putLast_4 : decode cX6_putLast 4 = .ok (.ifCond .lt 15, 3) := by decide +kernel
theorem dX6_putLast_7 : decode cX6_putLast 7 = .ok (.aload_n 0, 1) := by decide +kernel
theorem dX6_putLast_8 : decode cX6_putLast 8 = .ok (.getfield 13, 3) := by decide +kernel
theorem dX6_putLast_11 : decode cX6_putLast 11 = .ok (.aload_n 0, 1) := by decide +kernel
theorem dX6_putLast_12 : decode cX6_putLast 12 = .ok (.getfield 9, 3) := by decide +kernel
theorem dX6_putLast_15 : decode cX6_putLast 15 = .ok (.arraylength, 1) := by decide +kernel
theorem dX6_putLast_16 : decode cX6_putLast 16 = .ok (.if_icmp .lt 5, 3) := by decide +kernel
theorem dX6_putLast_19 : decode cX6_putLast 19 = .ok (.iconst 0, 1) := by decide +kernel
theorem dX6_putLast_20 : decode cX6_putLast 20 = .ok (.ireturn, 1) := by decide +kernel
theorem dX6_putLast_21 : decode cX6_putLast 21 = .ok (.aload_n 0, 1) := by decide +kernel
theorem dX6_putLast_22 : decode cX6_putLast 22 = .ok (.getfield 9, 3) := by decide +kernel
theorem dX6_putLast_25 : decode cX6_putLast 25 = .ok (.aload_n 0, 1) := by decide +kernel
theorem dX6_putLast_26 : decode cX6_putLast 26 = .ok (.getfield 13, 3) := by decide +kernel
theorem dX6_putLast_29 : decode cX6_putLast 29 = .ok (.iload_n 1, 1) := by decide +kernel
theorem dX6_putLast_30 : decode cX6_putLast 30 = .ok (.iastore, 1) := by decide +kernel
theorem dX6_putLast_31 : decode cX6_putLast 31 = .ok (.aload_n 0, 1) := by decide +kernel
theorem dX6_putLast_32 : decode cX6_putLast 32 = .ok (.dup, 1) := by decide +kernel
theorem dX6_putLast_33 : decode cX6_putLast 33 = .ok (.getfield 13, 3) := by decide +kernel
theorem dX6_putLast_36 : decode cX6_putLast 36 = .ok (.iconst 1, 1) := by decide +kernel
theorem dX6_putLast_37 : decode cX6_putLast 37 = .ok (.iadd, 1) := by decide +kernel
theorem dX6_putLast_38 : decode cX6_putLast 38 = .ok (.putfield 13, 3) := by decide +kernel
theorem dX6_putLast_41 : decode cX6_putLast 41 = .ok (.aload_n 0, 1) := by decide +kernel
theorem dX6_putLast_42 : decode cX6_putLast 42 = .ok (.dup, 1) := by decide +kernel
theorem dX6_putLast_43 : decode cX6_putLast 43 = .ok (.getfield 19, 3) := by decide +kernel
theorem dX6_putLast_46 : decode cX6_putLast 46 = .ok (.iconst 1, 1) := by decide +kernel
theorem dX6_putLast_47 : decode cX6_putLast 47 = .ok (.iadd, 1) := by decide +kernel
theorem dX6_putLast_48 : decode cX6_putLast 48 = .ok (.putfield 19, 3) := by decide +kernel
theorem dX6_putLast_51 : decode cX6_putLast 51 = .ok (.iconst 1, 1) := by decide +kernel
theorem dX6_putLast_52 : decode cX6_putLast 52 = .ok (.ireturn, 1) := by decide +kernel
theorem dX6_putFirst_0 : decode cX6_putFirst 0 = .ok (.aload_n 0, 1) := by decide +kernel
theorem dX6_putFirst_1 : decode cX6_putFirst 1 = .ok (.invokevirtual 22, 3) := by decide +kernel
theorem dX6_putFirst_4 : decode cX6_putFirst 4 = .ok (.ifCond .eq 5, 3) := by decide +kernel
theorem dX6_putFirst_7 : decode cX6_putFirst 7 = .ok (.iconst 0, 1) := by decide +kernel
theorem dX6_putFirst_8 : decode cX6_putFirst 8 = .ok (.ireturn, 1) := by decide +kernel
theorem dX6_putFirst_9 : decode cX6_putFirst 9 = .ok (.aload_n 0, 1) := by decide +kernel
theorem dX6_putFirst_10 : decode cX6_putFirst 10 = .ok (.getfield 9, 3) := by decide +kernel
theorem dX6_putFirst_13 : decode cX6_putFirst 13 = .ok (.iconst 0, 1) := by decide +kernel
theorem dX6_putFirst_14 : decode cX6_putFirst 14 = .ok (.aload_n 0, 1) := by decide +kernel
theorem dX6_putFirst_15 : decode cX6_putFirst 15 = .ok (.getfield 9, 3) := by decide +kernel
theorem dX6_putFirst_18 : decode cX6_putFirst 18 = .ok (.iconst 1, 1) := by decide +kernel
theorem dX6_putFirst_19 : decode cX6_putFirst 19 = .ok (.bipush 11, 2) := by decide +kernel
theorem dX6_putFirst_21 : decode cX6_putFirst 21 = .ok (.invokestatic 26, 3) := by decide +kernel
theorem dX6_putFirst_24 : decode cX6_putFirst 24 = .ok (.aload_n 0, 1) := by decide +kernel
theorem dX6_putFirst_25 : decode cX6_putFirst 25 = .ok (.getfield 9, 3) := by decide +kernel
theorem dX6_putFirst_28 : decode cX6_putFirst 28 = .ok (.iconst 0, 1) := by decide +kernel
theorem dX6_putFirst_29 : decode cX6_putFirst 29 = .ok (.iload_n 1, 1) := by decide +kernel
theorem dX6_putFirst_30 : decode cX6_putFirst 30 = .ok (.iastore, 1) := by decide +kernel
theorem dX6_putFirst_31 : decode cX6_putFirst 31 = .ok (.aload_n 0, 1) := by decide +kernel
theorem dX6_putFirst_32 : decode cX6_putFirst 32 = .ok (.dup, 1) := by decide +kernel
theorem dX6_putFirst_33 : decode cX6_putFirst 33 = .ok (.getfield 13, 3) := by decide +kernel
theorem dX6_putFirst_36 : decode cX6_putFirst 36 = .ok (.iconst 1, 1) := by decide +kernel
theorem dX6_putFirst_37 : decode cX6_putFirst 37 = .ok (.iadd, 1) := by decide +kernel
theorem dX6_putFirst_38 : decode cX6_putFirst 38 = .ok (.putfield 13, 3) := by decide +kernel
theorem dX6_putFirst_41 : decode cX6_putFirst 41 = .ok (.aload_n 0, 1) := by decide +kernel
theorem dX6_putFirst_42 : decode cX6_putFirst 42 = .ok (.dup, 1) := by decide +kernel
theorem dX6_putFirst_43 : decode cX6_putFirst 43 = .ok (.getfield 19, 3) := by decide +kernel
theorem dX6_putFirst_46 : decode cX6_putFirst 46 = .ok (.iconst 1, 1) := by decide +kernel
theorem dX6_putFirst_47 : decode cX6_putFirst 47 = .ok (.iadd, 1) := by decide +kernel
theorem dX6_putFirst_48 : decode cX6_putFirst 48 = .ok (.putfield 19, 3) := by decide +kernel
theorem dX6_putFirst_51 : decode cX6_putFirst 51 = .ok (.iconst 1, 1) := by decide +kernel
theorem dX6_putFirst_52 : decode cX6_putFirst 52 = .ok (.ireturn, 1) := by decide +kernel
theorem dX6_sendFirst_0 : decode cX6_sendFirst 0 = .ok (.aload_n 0, 1) := by decide +kernel
theorem dX6_sendFirst_1 : decode cX6_sendFirst 1 = .ok (.getfield 13, 3) := by decide +kernel
theorem dX6_sendFirst_4 : decode cX6_sendFirst 4 = .ok (.ifCond .ne 5, 3) := by decide +kernel
theorem dX6_sendFirst_7 : decode cX6_sendFirst 7 = .ok (.iconst (-1), 1) := by decide +kernel
theorem dX6_sendFirst_8 : decode cX6_sendFirst 8 = .ok (.ireturn, 1) := by decide +kernel
theorem dX6_sendFirst_9 : decode cX6_sendFirst 9 = .ok (.aload_n 0, 1) := by decide +kernel
theorem dX6_sendFirst_10 : decode cX6_sendFirst 10 = .ok (.getfield 9, 3) := by decide +kernel
theorem dX6_sendFirst_13 : decode cX6_sendFirst 13 = .ok (.iconst 0, 1) := by decide +kernel
theorem dX6_sendFirst_14 : decode cX6_sendFirst 14 = .ok (.iaload, 1) := by decide +kernel
theorem dX6_sendFirst_15 : decode cX6_sendFirst 15 = .ok (.istore_n 1, 1) := by decide +kernel
theorem dX6_sendFirst_16 : decode cX6_sendFirst 16 = .ok (.aload_n 0, 1) := by decide +kernel
theorem dX6_sendFirst_17 : decode cX6_sendFirst 17 = .ok (.getfield 9, 3) := by decide +kernel
theorem dX6_sendFirst_20 : decode cX6_sendFirst 20 = .ok (.iconst 1, 1) := by decide +kernel
theorem dX6_sendFirst_21 : decode cX6_sendFirst 21 = .ok (.aload_n 0, 1) := by decide +kernel
theorem dX6_sendFirst_22 : decode cX6_sendFirst 22 = .ok (.getfield 9, 3) := by decide +kernel
theorem dX6_sendFirst_25 : decode cX6_sendFirst 25 = .ok (.iconst 0, 1) := by decide +kernel
theorem dX6_sendFirst_26 : decode cX6_sendFirst 26 = .ok (.bipush 11, 2) := by decide +kernel
theorem dX6_sendFirst_28 : decode cX6_sendFirst 28 = .ok (.invokestatic 26, 3) := by decide +kernel
theorem dX6_sendFirst_31 : decode cX6_sendFirst 31 = .ok (.aload_n 0, 1) := by decide +kernel
theorem dX6_sendFirst_32 : decode cX6_sendFirst 32 = .ok (.dup, 1) := by decide +kernel
theorem dX6_sendFirst_33 : decode cX6_sendFirst 33 = .ok (.getfield 13, 3) := by decide +kernel
theorem dX6_sendFirst_36 : decode cX6_sendFirst 36 = .ok (.iconst 1, 1) := by decide +kernel
theorem dX6_sendFirst_37 : decode cX6_sendFirst 37 = .ok (.isub, 1) := by decide +kernel
theorem dX6_sendFirst_38 : decode cX6_sendFirst 38 = .ok (.putfield 13, 3) := by decide +kernel
theorem dX6_sendFirst_41 : decode cX6_sendFirst 41 = .ok (.aload_n 0, 1) := by decide +kernel
theorem dX6_sendFirst_42 : decode cX6_sendFirst 42 = .ok (.dup, 1) := by decide +kernel
theorem dX6_sendFirst_43 : decode cX6_sendFirst 43 = .ok (.getfield 32, 3) := by decide +kernel
theorem dX6_sendFirst_46 : decode cX6_sendFirst 46 = .ok (.iconst 1, 1) := by decide +kernel
theorem dX6_sendFirst_47 : decode cX6_sendFirst 47 = .ok (.iadd, 1) := by decide +kernel
theorem dX6_sendFirst_48 : decode cX6_sendFirst 48 = .ok (.putfield 32, 3) := by decide +kernel
theorem dX6_sendFirst_51 : decode cX6_sendFirst 51 = .ok (.iload_n 1, 1) := by decide +kernel
theorem dX6_sendFirst_52 : decode cX6_sendFirst 52 = .ok (.ireturn, 1) := by decide +kernel
theorem dX6_clear_0 : decode cX6_clear 0 = .ok (.aload_n 0, 1) := by decide +kernel
theorem dX6_clear_1 : decode cX6_clear 1 = .ok (.getfield 13, 3) := by decide +kernel
theorem dX6_clear_4 : decode cX6_clear 4 = .ok (.istore_n 1, 1) := by decide +kernel
theorem dX6_clear_5 : decode cX6_clear 5 = .ok (.aload_n 0, 1) := by decide +kernel
theorem dX6_clear_6 : decode cX6_clear 6 = .ok (.dup, 1) := by decide +kernel
theorem dX6_clear_7 : decode cX6_clear 7 = .ok (.getfield 35, 3) := by decide +kernel
theorem dX6_clear_10 : decode cX6_clear 10 = .ok (.iload_n 1, 1) := by decide +kernel
theorem dX6_clear_11 : decode cX6_clear 11 = .ok (.iadd, 1) := by decide +kernel
theorem dX6_clear_12 : decode cX6_clear 12 = .ok (.putfield 35, 3) := by decide +kernel
theorem dX6_clear_15 : decode cX6_clear 15 = .ok (.aload_n 0, 1) := by decide +kernel
theorem dX6_clear_16 : decode cX6_clear 16 = .ok (.iconst 0, 1) := by decide +kernel
theorem dX6_clear_17 : decode cX6_clear 17 = .ok (.putfield 13, 3) := by decide +kernel
theorem dX6_clear_20 : decode cX6_clear 20 = .ok (.iload_n 1, 1) := by decide +kernel
theorem dX6_clear_21 : decode cX6_clear 21 = .ok (.ireturn, 1) := by decide +kernel
theorem dX6_reset_0 : decode cX6_reset 0 = .ok (.aload_n 0, 1) := by decide +kernel
theorem dX6_reset_1 : decode cX6_reset 1 = .ok (.iconst 0, 1) := by decide +kernel
theorem dX6_reset_2 : decode cX6_reset 2 = .ok (.putfield 13, 3) := by decide +kernel
theorem dX6_reset_5 : decode cX6_reset 5 = .ok (.aload_n 0, 1) := by decide +kernel
theorem dX6_reset_6 : decode cX6_reset 6 = .ok (.iconst 0, 1) := by decide +kernel
theorem dX6_reset_7 : decode cX6_reset 7 = .ok (.putfield 19, 3) := by decide +kernel
theorem dX6_reset_10 : decode cX6_reset 10 = .ok (.aload_n 0, 1) := by decide +kernel
theorem dX6_reset_11 : decode cX6_reset 11 = .ok (.iconst 0, 1) := by decide +kernel
theorem dX6_reset_12 : decode cX6_reset 12 = .ok (.putfield 32, 3) := by decide +kernel
theorem dX6_reset_15 : decode cX6_reset 15 = .ok (.aload_n 0, 1) := by decide +kernel
theorem dX6_reset_16 : decode cX6_reset 16 = .ok (.iconst 0, 1) := by decide +kernel
theorem dX6_reset_17 : decode cX6_reset 17 = .ok (.putfield 35, 3) := by decide +kernel
theorem dX6_reset_20 : decode cX6_reset 20 = .ok (.return_, 1) := by decide +kernel
theorem dX6_numberFor_0 : decode cX6_numberFor 0 = .ok (.iconst 0, 1) := by decide +kernel
theorem dX6_numberFor_1 : decode cX6_numberFor 1 = .ok (.istore_n 2, 1) := by decide +kernel
theorem dX6_numberFor_2 : decode cX6_numberFor 2 = .ok (.iconst 0, 1) := by decide +kernel
theorem dX6_numberFor_3 : decode cX6_numberFor 3 = .ok (.istore_n 3, 1) := by decide +kernel
theorem dX6_numberFor_4 : decode cX6_numberFor 4 = .ok (.iload_n 3, 1) := by decide +kernel
theorem dX6_numberFor_5 : decode cX6_numberFor 5 = .ok (.aload_n 0, 1) := by decide +kernel
theorem dX6_numberFor_6 : decode cX6_numberFor 6 = .ok (.getfield 13, 3) := by decide +kernel
theorem dX6_numberFor_9 : decode cX6_numberFor 9 = .ok (.if_icmp .ge 34, 3) := by decide +kernel
theorem dX6_numberFor_12 : decode cX6_numberFor 12 = .ok (.iload_n 3, 1) := by decide +kernel
theorem dX6_numberFor_13 : decode cX6_numberFor 13 = .ok (.aload_n 0, 1) := by decide +kernel
theorem dX6_numberFor_14 : decode cX6_numberFor 14 = .ok (.getfield 9, 3) := by decide +kernel
theorem dX6_numberFor_17 : decode cX6_numberFor 17 = .ok (.arraylength, 1) := by decide +kernel
theorem dX6_numberFor_18 : decode cX6_numberFor 18 = .ok (.if_icmp .ge 25, 3) := by decide +kernel
theorem dX6_numberFor_21 : decode cX6_numberFor 21 = .ok (.aload_n 0, 1) := by decide +kernel
theorem dX6_numberFor_22 : decode cX6_numberFor 22 = .ok (.getfield 9, 3) := by decide +kernel
theorem dX6_numberFor_25 : decode cX6_numberFor 25 = .ok (.iload_n 3, 1) := by decide +kernel
theorem dX6_numberFor_26 : decode cX6_numberFor 26 = .ok (.iaload, 1) := by decide +kernel
theorem dX6_numberFor_27 : decode cX6_numberFor 27 = .ok (.iload_n 1, 1) := by decide +kernel
theorem dX6_numberFor_28 : decode cX6_numberFor 28 = .ok (.invokestatic 38, 3) := by decide +kernel
theorem dX6_numberFor_31 : decode cX6_numberFor 31 = .ok (.ifCond .eq 6, 3) := by decide +kernel
theorem dX6_numberFor_34 : decode cX6_numberFor 34 = .ok (.iinc 2 1, 3) := by decide +kernel
theorem dX6_numberFor_37 : decode cX6_numberFor 37 = .ok (.iinc 3 1, 3) := by decide +kernel
theorem dX6_numberFor_40 : decode cX6_numberFor 40 = .ok (.goto (-36), 3) := by decide +kernel
theorem dX6_numberFor_43 : decode cX6_numberFor 43 = .ok (.iload_n 2, 1) := by decide +kernel
theorem dX6_numberFor_44 : decode cX6_numberFor 44 = .ok (.ireturn, 1) := by decide +kernel
theorem dX6_surplus_0 : decode cX6_surplus 0 = .ok (.aload_n 0, 1) := by decide +kernel
theorem dX6_surplus_1 : decode cX6_surplus 1 = .ok (.getfield 19, 3) := by decide +kernel
theorem dX6_surplus_4 : decode cX6_surplus 4 = .ok (.aload_n 0, 1) := by decide +kernel
theorem dX6_surplus_5 : decode cX6_surplus 5 = .ok (.getfield 32, 3) := by decide +kernel
theorem dX6_surplus_8 : decode cX6_surplus 8 = .ok (.isub, 1) := by decide +kernel
theorem dX6_surplus_9 : decode cX6_surplus 9 = .ok (.aload_n 0, 1) := by decide +kernel
theorem dX6_surplus_10 : decode cX6_surplus 10 = .ok (.getfield 35, 3) := by decide +kernel
theorem dX6_surplus_13 : decode cX6_surplus 13 = .ok (.isub, 1) := by decide +kernel
theorem dX6_surplus_14 : decode cX6_surplus 14 = .ok (.aload_n 0, 1) := by decide +kernel
theorem dX6_surplus_15 : decode cX6_surplus 15 = .ok (.getfield 13, 3) := by decide +kernel
theorem dX6_surplus_18 : decode cX6_surplus 18 = .ok (.isub, 1) := by decide +kernel
theorem dX6_surplus_19 : decode cX6_surplus 19 = .ok (.ireturn, 1) := by decide +kernel
theorem dX6_copyFrom_0 : decode cX6_copyFrom 0 = .ok (.aload_n 1, 1) := by decide +kernel
theorem dX6_copyFrom_1 : decode cX6_copyFrom 1 = .ok (.getfield 9, 3) := by decide +kernel
theorem dX6_copyFrom_4 : decode cX6_copyFrom 4 = .ok (.iconst 0, 1) := by decide +kernel
theorem dX6_copyFrom_5 : decode cX6_copyFrom 5 = .ok (.aload_n 0, 1) := by decide +kernel
theorem dX6_copyFrom_6 : decode cX6_copyFrom 6 = .ok (.getfield 9, 3) := by decide +kernel
theorem dX6_copyFrom_9 : decode cX6_copyFrom 9 = .ok (.iconst 0, 1) := by decide +kernel
theorem dX6_copyFrom_10 : decode cX6_copyFrom 10 = .ok (.bipush 12, 2) := by decide +kernel
theorem dX6_copyFrom_12 : decode cX6_copyFrom 12 = .ok (.invokestatic 26, 3) := by decide +kernel
theorem dX6_copyFrom_15 : decode cX6_copyFrom 15 = .ok (.aload_n 0, 1) := by decide +kernel
theorem dX6_copyFrom_16 : decode cX6_copyFrom 16 = .ok (.aload_n 1, 1) := by decide +kernel
theorem dX6_copyFrom_17 : decode cX6_copyFrom 17 = .ok (.getfield 13, 3) := by decide +kernel
theorem dX6_copyFrom_20 : decode cX6_copyFrom 20 = .ok (.putfield 13, 3) := by decide +kernel
theorem dX6_copyFrom_23 : decode cX6_copyFrom 23 = .ok (.aload_n 0, 1) := by decide +kernel
theorem dX6_copyFrom_24 : decode cX6_copyFrom 24 = .ok (.aload_n 1, 1) := by decide +kernel
theorem dX6_copyFrom_25 : decode cX6_copyFrom 25 = .ok (.getfield 19, 3) := by decide +kernel
theorem dX6_copyFrom_28 : decode cX6_copyFrom 28 = .ok (.putfield 19, 3) := by decide +kernel
theorem dX6_copyFrom_31 : decode cX6_copyFrom 31 = .ok (.aload_n 0, 1) := by decide +kernel
theorem dX6_copyFrom_32 : decode cX6_copyFrom 32 = .ok (.aload_n 1, 1) := by decide +kernel
theorem dX6_copyFrom_33 : decode cX6_copyFrom 33 = .ok (.getfield 32, 3) := by decide +kernel
theorem dX6_copyFrom_36 : decode cX6_copyFrom 36 = .ok (.putfield 32, 3) := by decide +kernel
theorem dX6_copyFrom_39 : decode cX6_copyFrom 39 = .ok (.aload_n 0, 1) := by decide +kernel
theorem dX6_copyFrom_40 : decode cX6_copyFrom 40 = .ok (.aload_n 1, 1) := by decide +kernel
theorem dX6_copyFrom_41 : decode cX6_copyFrom 41 = .ok (.getfield 35, 3) := by decide +kernel
theorem dX6_copyFrom_44 : decode cX6_copyFrom 44 = .ok (.putfield 35, 3) := by decide +kernel
theorem dX6_copyFrom_47 : decode cX6_copyFrom 47 = .ok (.return_, 1) := by decide +kernel
theorem dX7_init_0 : decode cX7_init 0 = .ok (.aload_n 0, 1) := by decide +kernel
theorem dX7_init_1 : decode cX7_init 1 = .ok (.invokespecial 3, 3) := by decide +kernel
theorem dX7_init_4 : decode cX7_init 4 = .ok (.aload_n 0, 1) := by decide +kernel
theorem dX7_init_5 : decode cX7_init 5 = .ok (.iconst 0, 1) := by decide +kernel
theorem dX7_init_6 : decode cX7_init 6 = .ok (.putfield 11, 3) := by decide +kernel
theorem dX7_init_9 : decode cX7_init 9 = .ok (.aload_n 0, 1) := by decide +kernel
theorem dX7_init_10 : decode cX7_init 10 = .ok (.iconst (-1), 1) := by decide +kernel
theorem dX7_init_11 : decode cX7_init 11 = .ok (.putfield 15, 3) := by decide +kernel
theorem dX7_init_14 : decode cX7_init 14 = .ok (.aload_n 0, 1) := by decide +kernel
theorem dX7_init_15 : decode cX7_init 15 = .ok (.new 18, 3) := by decide +kernel
theorem dX7_init_18 : decode cX7_init 18 = .ok (.dup, 1) := by decide +kernel
theorem dX7_init_19 : decode cX7_init 19 = .ok (.aload_n 1, 1) := by decide +kernel
theorem dX7_init_20 : decode cX7_init 20 = .ok (.invokespecial 20, 3) := by decide +kernel
theorem dX7_init_23 : decode cX7_init 23 = .ok (.putfield 23, 3) := by decide +kernel
theorem dX7_init_26 : decode cX7_init 26 = .ok (.return_, 1) := by decide +kernel
theorem dX7_hasFailed_0 : decode cX7_hasFailed 0 = .ok (.aload_n 0, 1) := by decide +kernel
theorem dX7_hasFailed_1 : decode cX7_hasFailed 1 = .ok (.getfield 11, 3) := by decide +kernel
theorem dX7_hasFailed_4 : decode cX7_hasFailed 4 = .ok (.ifCond .eq 7, 3) := by decide +kernel
theorem dX7_hasFailed_7 : decode cX7_hasFailed 7 = .ok (.iconst 1, 1) := by decide +kernel
theorem dX7_hasFailed_8 : decode cX7_hasFailed 8 = .ok (.goto 4, 3) := by decide +kernel
theorem dX7_hasFailed_11 : decode cX7_hasFailed 11 = .ok (.iconst 0, 1) := by decide +kernel
theorem dX7_hasFailed_12 : decode cX7_hasFailed 12 = .ok (.ireturn, 1) := by decide +kernel
theorem dX7_parseRailway_0 : decode cX7_parseRailway 0 = .ok (.aload_n 0, 1) := by decide +kernel
theorem dX7_parseRailway_1 : decode cX7_parseRailway 1 = .ok (.iload_n 1, 1) := by decide +kernel
theorem dX7_parseRailway_2 : decode cX7_parseRailway 2 = .ok (.invokevirtual 27, 3) := by decide +kernel
theorem dX7_parseRailway_5 : decode cX7_parseRailway 5 = .ok (.aload_n 0, 1) := by decide +kernel
theorem dX7_parseRailway_6 : decode cX7_parseRailway 6 = .ok (.ldc 31, 2) := by decide +kernel
theorem dX7_parseRailway_8 : decode cX7_parseRailway 8 = .ok (.invokevirtual 33, 3) := by decide +kernel
theorem dX7_parseRailway_11 : decode cX7_parseRailway 11 = .ok (.aload_n 0, 1) := by decide +kernel
theorem dX7_parseRailway_12 : decode cX7_parseRailway 12 = .ok (.iconst 4, 1) := by decide +kernel
theorem dX7_parseRailway_13 : decode cX7_parseRailway 13 = .ok (.bipush 24, 2) := by decide +kernel
theorem dX7_parseRailway_15 : decode cX7_parseRailway 15 = .ok (.invokevirtual 37, 3) := by decide +kernel
theorem dX7_parseRailway_18 : decode cX7_parseRailway 18 = .ok (.istore_n 3, 1) := by decide +kernel
theorem dX7_parseRailway_19 : decode cX7_parseRailway 19 = .ok (.aload_n 0, 1) := by decide +kernel
theorem dX7_parseRailway_20 : decode cX7_parseRailway 20 = .ok (.iconst 1, 1) := by decide +kernel
theorem dX7_parseRailway_21 : decode cX7_parseRailway 21 = .ok (.bipush 20, 2) := by decide +kernel
theorem dX7_parseRailway_23 : decode cX7_parseRailway 23 = .ok (.invokevirtual 37, 3) := by decide +kernel
theorem dX7_parseRailway_26 : decode cX7_parseRailway 26 = .ok (.istore 4, 2) := by decide +kernel
theorem dX7_parseRailway_28 : decode cX7_parseRailway 28 = .ok (.aload_n 0, 1) := by decide +kernel
theorem dX7_parseRailway_29 : decode cX7_parseRailway 29 = .ok (.iconst 3, 1) := by decide +kernel
theorem dX7_parseRailway_30 : decode cX7_parseRailway 30 = .ok (.invokevirtual 41, 3) := by decide +kernel
theorem dX7_parseRailway_33 : decode cX7_parseRailway 33 = .ok (.aload_n 2, 1) := by decide +kernel
theorem dX7_parseRailway_34 : decode cX7_parseRailway 34 = .ok (.iload_n 3, 1) := by decide +kernel
theorem dX7_parseRailway_35 : decode cX7_parseRailway 35 = .ok (.iload 4, 2) := by decide +kernel
theorem dX7_parseRailway_37 : decode cX7_parseRailway 37 = .ok (.invokevirtual 44, 3) := by decide +kernel
theorem dX7_parseRailway_40 : decode cX7_parseRailway 40 = .ok (.aload_n 0, 1) := by decide +kernel
theorem dX7_parseRailway_41 : decode cX7_parseRailway 41 = .ok (.aload_n 2, 1) := by decide +kernel
theorem dX7_parseRailway_42 : decode cX7_parseRailway 42 = .ok (.invokevirtual 50, 3) := by decide +kernel
theorem dX7_parseRailway_45 : decode cX7_parseRailway 45 = .ok (.aload_n 0, 1) := by decide +kernel
theorem dX7_parseRailway_46 : decode cX7_parseRailway 46 = .ok (.aload_n 2, 1) := by decide +kernel
theorem dX7_parseRailway_47 : decode cX7_parseRailway 47 = .ok (.invokevirtual 54, 3) := by decide +kernel
theorem dX7_parseRailway_50 : decode cX7_parseRailway 50 = .ok (.iconst 1, 1) := by decide +kernel
theorem dX7_parseRailway_51 : decode cX7_parseRailway 51 = .ok (.istore 5, 2) := by decide +kernel
theorem dX7_parseRailway_53 : decode cX7_parseRailway 53 = .ok (.iload 5, 2) := by decide +kernel
theorem dX7_parseRailway_55 : decode cX7_parseRailway 55 = .ok (.bipush 6, 2) := by decide +kernel
theorem dX7_parseRailway_57 : decode cX7_parseRailway 57 = .ok (.if_icmp .gt 21, 3) := by decide +kernel
theorem dX7_parseRailway_60 : decode cX7_parseRailway 60 = .ok (.aload_n 0, 1) := by decide +kernel
theorem dX7_parseRailway_61 : decode cX7_parseRailway 61 = .ok (.invokevirtual 57, 3) := by decide +kernel
theorem dX7_parseRailway_64 : decode cX7_parseRailway 64 = .ok (.ifCond .ne 14, 3) := by decide +kernel
theorem dX7_parseRailway_67 : decode cX7_parseRailway 67 = .ok (.aload_n 0, 1) := by decide +kernel
theorem dX7_parseRailway_68 : decode cX7_parseRailway 68 = .ok (.aload_n 2, 1) := by decide +kernel
theorem dX7_parseRailway_69 : decode cX7_parseRailway 69 = .ok (.invokevirtual 54, 3) := by decide +kernel
theorem dX7_parseRailway_72 : decode cX7_parseRailway 72 = .ok (.iinc 5 1, 3) := by decide +kernel
theorem dX7_parseRailway_75 : decode cX7_parseRailway 75 = .ok (.goto (-22), 3) := by decide +kernel
theorem dX7_parseRailway_78 : decode cX7_parseRailway 78 = .ok (.aload_n 0, 1) := by decide +kernel
theorem dX7_parseRailway_79 : decode cX7_parseRailway 79 = .ok (.invokevirtual 61, 3) := by decide +kernel
theorem dX7_parseRailway_82 : decode cX7_parseRailway 82 = .ok (.ifCond .ne 7, 3) := by decide +kernel
theorem dX7_parseRailway_85 : decode cX7_parseRailway 85 = .ok (.iconst 1, 1) := by decide +kernel
theorem dX7_parseRailway_86 : decode cX7_parseRailway 86 = .ok (.goto 4, 3) := by decide +kernel
theorem dX7_parseRailway_89 : decode cX7_parseRailway 89 = .ok (.iconst 0, 1) := by decide +kernel
theorem dX7_parseRailway_90 : decode cX7_parseRailway 90 = .ok (.ireturn, 1) := by decide +kernel
theorem dX7_takeTunnelsAndShorts_0 : decode cX7_takeTunnelsAndShorts 0 = .ok (.iconst 0, 1) := by decide +kernel
theorem dX7_takeTunnelsAndShorts_1 : decode cX7_takeTunnelsAndShorts 1 = .ok (.istore_n 2, 1) := by decide +kernel
theorem dX7_takeTunnelsAndShorts_2 : decode cX7_takeTunnelsAndShorts 2 = .ok (.iload_n 2, 1) := by decide +kernel
theorem dX7_takeTunnelsAndShorts_3 : decode cX7_takeTunnelsAndShorts 3 = .ok (.sipush 500, 3) := by decide +kernel
theorem dX7_takeTunnelsAndShorts_6 : decode cX7_takeTunnelsAndShorts 6 = .ok (.if_icmp .ge 89, 3) := by decide +kernel
theorem dX7_takeTunnelsAndShorts_9 : decode cX7_takeTunnelsAndShorts 9 = .ok (.aload_n 0, 1) := by decide +kernel
theorem dX7_takeTunnelsAndShorts_10 : decode cX7_takeTunnelsAndShorts 10 = .ok (.invokevirtual 57, 3) := by decide +kernel
theorem dX7_takeTunnelsAndShorts_13 : decode cX7_takeTunnelsAndShorts 13 = .ok (.ifCond .ne 82, 3) := by decide +kernel
theorem dX7_takeTunnelsAndShorts_16 : decode cX7_takeTunnelsAndShorts 16 = .ok (.aload_n 0, 1) := by decide +kernel
theorem dX7_takeTunnelsAndShorts_17 : decode cX7_takeTunnelsAndShorts 17 = .ok (.getfield 23, 3) := by decide +kernel
theorem dX7_takeTunnelsAndShorts_20 : decode cX7_takeTunnelsAndShorts 20 = .ok (.ldc 66, 2) := by decide +kernel
theorem dX7_takeTunnelsAndShorts_22 : decode cX7_takeTunnelsAndShorts 22 = .ok (.invokevirtual 68, 3) := by decide +kernel
theorem dX7_takeTunnelsAndShorts_25 : decode cX7_takeTunnelsAndShorts 25 = .ok (.istore_n 3, 1) := by decide +kernel
theorem dX7_takeTunnelsAndShorts_26 : decode cX7_takeTunnelsAndShorts 26 = .ok (.iload_n 3, 1) := by decide +kernel
theorem dX7_takeTunnelsAndShorts_27 : decode cX7_takeTunnelsAndShorts 27 = .ok (.ifCond .ne 16, 3) := by decide +kernel
theorem dX7_takeTunnelsAndShorts_30 : decode cX7_takeTunnelsAndShorts 30 = .ok (.aload_n 0, 1) := by decide +kernel
theorem dX7_takeTunnelsAndShorts_31 : decode cX7_takeTunnelsAndShorts 31 = .ok (.getfield 23, 3) := by decide +kernel
theorem dX7_takeTunnelsAndShorts_34 : decode cX7_takeTunnelsAndShorts 34 = .ok (.ldc 72, 2) := by decide +kernel
theorem dX7_takeTunnelsAndShorts_36 : decode cX7_takeTunnelsAndShorts 36 = .ok (.invokevirtual 68, 3) := by decide +kernel
theorem dX7_takeTunnelsAndShorts_39 : decode cX7_takeTunnelsAndShorts 39 = .ok (.ifCond .ne 4, 3) := by decide +kernel
theorem dX7_takeTunnelsAndShorts_42 : decode cX7_takeTunnelsAndShorts 42 = .ok (.return_, 1) := by decide +kernel
theorem dX7_takeTunnelsAndShorts_43 : decode cX7_takeTunnelsAndShorts 43 = .ok (.aload_n 0, 1) := by decide +kernel
theorem dX7_takeTunnelsAndShorts_44 : decode cX7_takeTunnelsAndShorts 44 = .ok (.getfield 23, 3) := by decide +kernel
theorem dX7_takeTunnelsAndShorts_47 : decode cX7_takeTunnelsAndShorts 47 = .ok (.invokevirtual 74, 3) := by decide +kernel
theorem dX7_takeTunnelsAndShorts_50 : decode cX7_takeTunnelsAndShorts 50 = .ok (.aload_n 0, 1) := by decide +kernel
theorem dX7_takeTunnelsAndShorts_51 : decode cX7_takeTunnelsAndShorts 51 = .ok (.iconst 0, 1) := by decide +kernel
theorem dX7_takeTunnelsAndShorts_52 : decode cX7_takeTunnelsAndShorts 52 = .ok (.aload_n 1, 1) := by decide +kernel
theorem dX7_takeTunnelsAndShorts_53 : decode cX7_takeTunnelsAndShorts 53 = .ok (.getfield 77, 3) := by decide +kernel
theorem dX7_takeTunnelsAndShorts_56 : decode cX7_takeTunnelsAndShorts 56 = .ok (.iconst 1, 1) := by decide +kernel
theorem dX7_takeTunnelsAndShorts_57 : decode cX7_takeTunnelsAndShorts 57 = .ok (.isub, 1) := by decide +kernel
theorem dX7_takeTunnelsAndShorts_58 : decode cX7_takeTunnelsAndShorts 58 = .ok (.invokevirtual 37, 3) := by decide +kernel
theorem dX7_takeTunnelsAndShorts_61 : decode cX7_takeTunnelsAndShorts 61 = .ok (.istore 4, 2) := by decide +kernel
theorem dX7_takeTunnelsAndShorts_63 : decode cX7_takeTunnelsAndShorts 63 = .ok (.aload_n 0, 1) := by decide +kernel
theorem dX7_takeTunnelsAndShorts_64 : decode cX7_takeTunnelsAndShorts 64 = .ok (.iconst 3, 1) := by decide +kernel
theorem dX7_takeTunnelsAndShorts_65 : decode cX7_takeTunnelsAndShorts 65 = .ok (.invokevirtual 41, 3) := by decide +kernel
theorem dX7_takeTunnelsAndShorts_68 : decode cX7_takeTunnelsAndShorts 68 = .ok (.iload_n 3, 1) := by decide +kernel
theorem dX7_takeTunnelsAndShorts_69 : decode cX7_takeTunnelsAndShorts 69 = .ok (.ifCond .eq 12, 3) := by decide +kernel
theorem dX7_takeTunnelsAndShorts_72 : decode cX7_takeTunnelsAndShorts 72 = .ok (.aload_n 1, 1) := by decide +kernel
theorem dX7_takeTunnelsAndShorts_73 : decode cX7_takeTunnelsAndShorts 73 = .ok (.iload 4, 2) := by decide +kernel
theorem dX7_takeTunnelsAndShorts_75 : decode cX7_takeTunnelsAndShorts 75 = .ok (.invokevirtual 80, 3) := by decide +kernel
theorem dX7_takeTunnelsAndShorts_78 : decode cX7_takeTunnelsAndShorts 78 = .ok (.goto 11, 3) := by decide +kernel
theorem dX7_takeTunnelsAndShorts_81 : decode cX7_takeTunnelsAndShorts 81 = .ok (.aload_n 1, 1) := by decide +kernel
theorem dX7_takeTunnelsAndShorts_82 : decode cX7_takeTunnelsAndShorts 82 = .ok (.iload 4, 2) := by decide +kernel
theorem dX7_takeTunnelsAndShorts_84 : decode cX7_takeTunnelsAndShorts 84 = .ok (.iconst 1, 1) := by decide +kernel
theorem dX7_takeTunnelsAndShorts_85 : decode cX7_takeTunnelsAndShorts 85 = .ok (.invokevirtual 83, 3) := by decide +kernel
theorem dX7_takeTunnelsAndShorts_88 : decode cX7_takeTunnelsAndShorts 88 = .ok (.pop, 1) := by decide +kernel
theorem dX7_takeTunnelsAndShorts_89 : decode cX7_takeTunnelsAndShorts 89 = .ok (.iinc 2 1, 3) := by decide +kernel
theorem dX7_takeTunnelsAndShorts_92 : decode cX7_takeTunnelsAndShorts 92 = .ok (.goto (-90), 3) := by decide +kernel
theorem dX7_takeTunnelsAndShorts_95 : decode cX7_takeTunnelsAndShorts 95 = .ok (.return_, 1) := by decide +kernel
theorem dX7_takeTrain_0 : decode cX7_takeTrain 0 = .ok (.aload_n 0, 1) := by decide +kernel
theorem dX7_takeTrain_1 : decode cX7_takeTrain 1 = .ok (.getfield 23, 3) := by decide +kernel
theorem dX7_takeTrain_4 : decode cX7_takeTrain 4 = .ok (.ldc 87, 2) := by decide +kernel
theorem dX7_takeTrain_6 : decode cX7_takeTrain 6 = .ok (.invokevirtual 68, 3) := by decide +kernel
theorem dX7_takeTrain_9 : decode cX7_takeTrain 9 = .ok (.ifCond .eq 25, 3) := by decide +kernel
theorem dX7_takeTrain_12 : decode cX7_takeTrain 12 = .ok (.aload_n 1, 1) := by decide +kernel
theorem dX7_takeTrain_13 : decode cX7_takeTrain 13 = .ok (.getfield 89, 3) := by decide +kernel
theorem dX7_takeTrain_16 : decode cX7_takeTrain 16 = .ok (.arraylength, 1) := by decide +kernel
theorem dX7_takeTrain_17 : decode cX7_takeTrain 17 = .ok (.bipush 6, 2) := by decide +kernel
theorem dX7_takeTrain_19 : decode cX7_takeTrain 19 = .ok (.if_icmp .lt 15, 3) := by decide +kernel
theorem dX7_takeTrain_22 : decode cX7_takeTrain 22 = .ok (.aload_n 0, 1) := by decide +kernel
theorem dX7_takeTrain_23 : decode cX7_takeTrain 23 = .ok (.iconst 4, 1) := by decide +kernel
theorem dX7_takeTrain_24 : decode cX7_takeTrain 24 = .ok (.aload_n 0, 1) := by decide +kernel
theorem dX7_takeTrain_25 : decode cX7_takeTrain 25 = .ok (.getfield 23, 3) := by decide +kernel
theorem dX7_takeTrain_28 : decode cX7_takeTrain 28 = .ok (.getfield 93, 3) := by decide +kernel
theorem dX7_takeTrain_31 : decode cX7_takeTrain 31 = .ok (.invokevirtual 96, 3) := by decide +kernel
theorem dX7_takeTrain_34 : decode cX7_takeTrain 34 = .ok (.aload_n 0, 1) := by decide +kernel
theorem dX7_takeTrain_35 : decode cX7_takeTrain 35 = .ok (.ldc 87, 2) := by decide +kernel
theorem dX7_takeTrain_37 : decode cX7_takeTrain 37 = .ok (.invokevirtual 33, 3) := by decide +kernel
theorem dX7_takeTrain_40 : decode cX7_takeTrain 40 = .ok (.aload_n 0, 1) := by decide +kernel
theorem dX7_takeTrain_41 : decode cX7_takeTrain 41 = .ok (.getfield 23, 3) := by decide +kernel
theorem dX7_takeTrain_44 : decode cX7_takeTrain 44 = .ok (.getfield 93, 3) := by decide +kernel
theorem dX7_takeTrain_47 : decode cX7_takeTrain 47 = .ok (.istore_n 2, 1) := by decide +kernel
theorem dX7_takeTrain_48 : decode cX7_takeTrain 48 = .ok (.aload_n 0, 1) := by decide +kernel
theorem dX7_takeTrain_49 : decode cX7_takeTrain 49 = .ok (.iconst 1, 1) := by decide +kernel
theorem dX7_takeTrain_50 : decode cX7_takeTrain 50 = .ok (.bipush 127, 2) := by decide +kernel
theorem dX7_takeTrain_52 : decode cX7_takeTrain 52 = .ok (.invokevirtual 37, 3) := by decide +kernel
theorem dX7_takeTrain_55 : decode cX7_takeTrain 55 = .ok (.istore_n 3, 1) := by decide +kernel
theorem dX7_takeTrain_56 : decode cX7_takeTrain 56 = .ok (.aload_n 1, 1) := by decide +kernel
theorem dX7_takeTrain_57 : decode cX7_takeTrain 57 = .ok (.iload_n 3, 1) := by decide +kernel
theorem dX7_takeTrain_58 : decode cX7_takeTrain 58 = .ok (.invokevirtual 99, 3) := by decide +kernel
theorem dX7_takeTrain_61 : decode cX7_takeTrain 61 = .ok (.ifCond .lt 9, 3) := by decide +kernel
theorem dX7_takeTrain_64 : decode cX7_takeTrain 64 = .ok (.aload_n 0, 1) := by decide +kernel
theorem dX7_takeTrain_65 : decode cX7_takeTrain 65 = .ok (.iconst 3, 1) := by decide +kernel
theorem dX7_takeTrain_66 : decode cX7_takeTrain 66 = .ok (.iload_n 2, 1) := by decide +kernel
theorem dX7_takeTrain_67 : decode cX7_takeTrain 67 = .ok (.invokevirtual 96, 3) := by decide +kernel
theorem dX7_takeTrain_70 : decode cX7_takeTrain 70 = .ok (.aload_n 0, 1) := by decide +kernel
theorem dX7_takeTrain_71 : decode cX7_takeTrain 71 = .ok (.iconst 1, 1) := by decide +kernel
theorem dX7_takeTrain_72 : decode cX7_takeTrain 72 = .ok (.iconst 5, 1) := by decide +kernel
theorem dX7_takeTrain_73 : decode cX7_takeTrain 73 = .ok (.invokevirtual 37, 3) := by decide +kernel
theorem dX7_takeTrain_76 : decode cX7_takeTrain 76 = .ok (.istore 4, 2) := by decide +kernel
theorem dX7_takeTrain_78 : decode cX7_takeTrain 78 = .ok (.aload_n 0, 1) := by decide +kernel
theorem dX7_takeTrain_79 : decode cX7_takeTrain 79 = .ok (.iconst 1, 1) := by decide +kernel
theorem dX7_takeTrain_80 : decode cX7_takeTrain 80 = .ok (.bipush 9, 2) := by decide +kernel
theorem dX7_takeTrain_82 : decode cX7_takeTrain 82 = .ok (.invokevirtual 37, 3) := by decide +kernel
theorem dX7_takeTrain_85 : decode cX7_takeTrain 85 = .ok (.istore 5, 2) := by decide +kernel
theorem dX7_takeTrain_87 : decode cX7_takeTrain 87 = .ok (.aload_n 0, 1) := by decide +kernel
theorem dX7_takeTrain_88 : decode cX7_takeTrain 88 = .ok (.getfield 23, 3) := by decide +kernel
theorem dX7_takeTrain_91 : decode cX7_takeTrain 91 = .ok (.getfield 93, 3) := by decide +kernel
theorem dX7_takeTrain_94 : decode cX7_takeTrain 94 = .ok (.istore 6, 2) := by decide +kernel
theorem dX7_takeTrain_96 : decode cX7_takeTrain 96 = .ok (.aload_n 0, 1) := by decide +kernel
theorem dX7_takeTrain_97 : decode cX7_takeTrain 97 = .ok (.iconst 0, 1) := by decide +kernel
theorem dX7_takeTrain_98 : decode cX7_takeTrain 98 = .ok (.aload_n 1, 1) := by decide +kernel
theorem dX7_takeTrain_99 : decode cX7_takeTrain 99 = .ok (.getfield 77, 3) := by decide +kernel
theorem dX7_takeTrain_102 : decode cX7_takeTrain 102 = .ok (.iconst 1, 1) := by decide +kernel
theorem dX7_takeTrain_103 : decode cX7_takeTrain 103 = .ok (.isub, 1) := by decide +kernel
theorem dX7_takeTrain_104 : decode cX7_takeTrain 104 = .ok (.invokevirtual 37, 3) := by decide +kernel
theorem dX7_takeTrain_107 : decode cX7_takeTrain 107 = .ok (.istore 7, 2) := by decide +kernel
theorem dX7_takeTrain_109 : decode cX7_takeTrain 109 = .ok (.aload_n 1, 1) := by decide +kernel
theorem dX7_takeTrain_110 : decode cX7_takeTrain 110 = .ok (.iload 7, 2) := by decide +kernel
theorem dX7_takeTrain_112 : decode cX7_takeTrain 112 = .ok (.invokevirtual 103, 3) := by decide +kernel
theorem dX7_takeTrain_115 : decode cX7_takeTrain 115 = .ok (.ifCond .lt 10, 3) := by decide +kernel
theorem dX7_takeTrain_118 : decode cX7_takeTrain 118 = .ok (.aload_n 0, 1) := by decide +kernel
theorem dX7_takeTrain_119 : decode cX7_takeTrain 119 = .ok (.iconst 3, 1) := by decide +kernel
theorem dX7_takeTrain_120 : decode cX7_takeTrain 120 = .ok (.iload 6, 2) := by decide +kernel
theorem dX7_takeTrain_122 : decode cX7_takeTrain 122 = .ok (.invokevirtual 96, 3) := by decide +kernel
theorem dX7_takeTrain_125 : decode cX7_takeTrain 125 = .ok (.aload_n 0, 1) := by decide +kernel
theorem dX7_takeTrain_126 : decode cX7_takeTrain 126 = .ok (.iconst 3, 1) := by decide +kernel
theorem dX7_takeTrain_127 : decode cX7_takeTrain 127 = .ok (.invokevirtual 41, 3) := by decide +kernel
theorem dX7_takeTrain_130 : decode cX7_takeTrain 130 = .ok (.aload_n 0, 1) := by decide +kernel
theorem dX7_takeTrain_131 : decode cX7_takeTrain 131 = .ok (.invokevirtual 61, 3) := by decide +kernel
theorem dX7_takeTrain_134 : decode cX7_takeTrain 134 = .ok (.ifCond .ne 14, 3) := by decide +kernel
theorem dX7_takeTrain_137 : decode cX7_takeTrain 137 = .ok (.aload_n 1, 1) := by decide +kernel
theorem dX7_takeTrain_138 : decode cX7_takeTrain 138 = .ok (.iload_n 3, 1) := by decide +kernel
theorem dX7_takeTrain_139 : decode cX7_takeTrain 139 = .ok (.iload 4, 2) := by decide +kernel
theorem dX7_takeTrain_141 : decode cX7_takeTrain 141 = .ok (.iload 5, 2) := by decide +kernel
theorem dX7_takeTrain_143 : decode cX7_takeTrain 143 = .ok (.iload 7, 2) := by decide +kernel
theorem dX7_takeTrain_145 : decode cX7_takeTrain 145 = .ok (.invokevirtual 106, 3) := by decide +kernel
theorem dX7_takeTrain_148 : decode cX7_takeTrain 148 = .ok (.return_, 1) := by decide +kernel
theorem dX7_begin_0 : decode cX7_begin 0 = .ok (.aload_n 0, 1) := by decide +kernel
theorem dX7_begin_1 : decode cX7_begin 1 = .ok (.iconst 0, 1) := by decide +kernel
theorem dX7_begin_2 : decode cX7_begin 2 = .ok (.putfield 11, 3) := by decide +kernel
theorem dX7_begin_5 : decode cX7_begin 5 = .ok (.aload_n 0, 1) := by decide +kernel
theorem dX7_begin_6 : decode cX7_begin 6 = .ok (.iconst (-1), 1) := by decide +kernel
theorem dX7_begin_7 : decode cX7_begin 7 = .ok (.putfield 15, 3) := by decide +kernel
theorem dX7_begin_10 : decode cX7_begin 10 = .ok (.aload_n 0, 1) := by decide +kernel
theorem dX7_begin_11 : decode cX7_begin 11 = .ok (.getfield 23, 3) := by decide +kernel
theorem dX7_begin_14 : decode cX7_begin 14 = .ok (.iload_n 1, 1) := by decide +kernel
theorem dX7_begin_15 : decode cX7_begin 15 = .ok (.invokevirtual 174, 3) := by decide +kernel
theorem dX7_begin_18 : decode cX7_begin 18 = .ok (.return_, 1) := by decide +kernel
theorem dX7_isDone_0 : decode cX7_isDone 0 = .ok (.aload_n 0, 1) := by decide +kernel
theorem dX7_isDone_1 : decode cX7_isDone 1 = .ok (.invokevirtual 61, 3) := by decide +kernel
theorem dX7_isDone_4 : decode cX7_isDone 4 = .ok (.ifCond .ne 13, 3) := by decide +kernel
theorem dX7_isDone_7 : decode cX7_isDone 7 = .ok (.aload_n 0, 1) := by decide +kernel
theorem dX7_isDone_8 : decode cX7_isDone 8 = .ok (.getfield 23, 3) := by decide +kernel
theorem dX7_isDone_11 : decode cX7_isDone 11 = .ok (.getfield 117, 3) := by decide +kernel
theorem dX7_isDone_14 : decode cX7_isDone 14 = .ok (.ifCond .ne 7, 3) := by decide +kernel
theorem dX7_isDone_17 : decode cX7_isDone 17 = .ok (.iconst 1, 1) := by decide +kernel
theorem dX7_isDone_18 : decode cX7_isDone 18 = .ok (.goto 4, 3) := by decide +kernel
theorem dX7_isDone_21 : decode cX7_isDone 21 = .ok (.iconst 0, 1) := by decide +kernel
theorem dX7_isDone_22 : decode cX7_isDone 22 = .ok (.ireturn, 1) := by decide +kernel
theorem dX7_takeWord_0 : decode cX7_takeWord 0 = .ok (.aload_n 0, 1) := by decide +kernel
theorem dX7_takeWord_1 : decode cX7_takeWord 1 = .ok (.getfield 23, 3) := by decide +kernel
theorem dX7_takeWord_4 : decode cX7_takeWord 4 = .ok (.aload_n 1, 1) := by decide +kernel
theorem dX7_takeWord_5 : decode cX7_takeWord 5 = .ok (.invokevirtual 68, 3) := by decide +kernel
theorem dX7_takeWord_8 : decode cX7_takeWord 8 = .ok (.ifCond .ne 15, 3) := by decide +kernel
theorem dX7_takeWord_11 : decode cX7_takeWord 11 = .ok (.aload_n 0, 1) := by decide +kernel
theorem dX7_takeWord_12 : decode cX7_takeWord 12 = .ok (.iconst 1, 1) := by decide +kernel
theorem dX7_takeWord_13 : decode cX7_takeWord 13 = .ok (.aload_n 0, 1) := by decide +kernel
theorem dX7_takeWord_14 : decode cX7_takeWord 14 = .ok (.getfield 23, 3) := by decide +kernel
theorem dX7_takeWord_17 : decode cX7_takeWord 17 = .ok (.getfield 93, 3) := by decide +kernel
theorem dX7_takeWord_20 : decode cX7_takeWord 20 = .ok (.invokevirtual 96, 3) := by decide +kernel
theorem dX7_takeWord_23 : decode cX7_takeWord 23 = .ok (.aload_n 0, 1) := by decide +kernel
theorem dX7_takeWord_24 : decode cX7_takeWord 24 = .ok (.iconst 1, 1) := by decide +kernel
theorem dX7_takeWord_25 : decode cX7_takeWord 25 = .ok (.invokevirtual 41, 3) := by decide +kernel
theorem dX7_takeWord_28 : decode cX7_takeWord 28 = .ok (.return_, 1) := by decide +kernel
theorem dX7_take_0 : decode cX7_take 0 = .ok (.aload_n 0, 1) := by decide +kernel
theorem dX7_take_1 : decode cX7_take 1 = .ok (.getfield 23, 3) := by decide +kernel
theorem dX7_take_4 : decode cX7_take 4 = .ok (.getfield 117, 3) := by decide +kernel
theorem dX7_take_7 : decode cX7_take 7 = .ok (.iload_n 1, 1) := by decide +kernel
theorem dX7_take_8 : decode cX7_take 8 = .ok (.if_icmp .eq 15, 3) := by decide +kernel
theorem dX7_take_11 : decode cX7_take 11 = .ok (.aload_n 0, 1) := by decide +kernel
theorem dX7_take_12 : decode cX7_take 12 = .ok (.iconst 1, 1) := by decide +kernel
theorem dX7_take_13 : decode cX7_take 13 = .ok (.aload_n 0, 1) := by decide +kernel
theorem dX7_take_14 : decode cX7_take 14 = .ok (.getfield 23, 3) := by decide +kernel
theorem dX7_take_17 : decode cX7_take 17 = .ok (.getfield 93, 3) := by decide +kernel
theorem dX7_take_20 : decode cX7_take 20 = .ok (.invokevirtual 96, 3) := by decide +kernel
theorem dX7_take_23 : decode cX7_take 23 = .ok (.aload_n 0, 1) := by decide +kernel
theorem dX7_take_24 : decode cX7_take 24 = .ok (.invokevirtual 61, 3) := by decide +kernel
theorem dX7_take_27 : decode cX7_take 27 = .ok (.ifCond .ne 10, 3) := by decide +kernel
theorem dX7_take_30 : decode cX7_take 30 = .ok (.aload_n 0, 1) := by decide +kernel
theorem dX7_take_31 : decode cX7_take 31 = .ok (.getfield 23, 3) := by decide +kernel
theorem dX7_take_34 : decode cX7_take 34 = .ok (.invokevirtual 74, 3) := by decide +kernel
theorem dX7_take_37 : decode cX7_take 37 = .ok (.return_, 1) := by decide +kernel
theorem dX7_takeNumber_0 : decode cX7_takeNumber 0 = .ok (.aload_n 0, 1) := by decide +kernel
theorem dX7_takeNumber_1 : decode cX7_takeNumber 1 = .ok (.getfield 23, 3) := by decide +kernel
theorem dX7_takeNumber_4 : decode cX7_takeNumber 4 = .ok (.getfield 175, 3) := by decide +kernel
theorem dX7_takeNumber_7 : decode cX7_takeNumber 7 = .ok (.istore_n 3, 1) := by decide +kernel
theorem dX7_takeNumber_8 : decode cX7_takeNumber 8 = .ok (.aload_n 0, 1) := by decide +kernel
theorem dX7_takeNumber_9 : decode cX7_takeNumber 9 = .ok (.getfield 23, 3) := by decide +kernel
theorem dX7_takeNumber_12 : decode cX7_takeNumber 12 = .ok (.getfield 117, 3) := by decide +kernel
theorem dX7_takeNumber_15 : decode cX7_takeNumber 15 = .ok (.iconst 2, 1) := by decide +kernel
theorem dX7_takeNumber_16 : decode cX7_takeNumber 16 = .ok (.if_icmp .eq 18, 3) := by decide +kernel
theorem dX7_takeNumber_19 : decode cX7_takeNumber 19 = .ok (.aload_n 0, 1) := by decide +kernel
theorem dX7_takeNumber_20 : decode cX7_takeNumber 20 = .ok (.iconst 1, 1) := by decide +kernel
theorem dX7_takeNumber_21 : decode cX7_takeNumber 21 = .ok (.aload_n 0, 1) := by decide +kernel
theorem dX7_takeNumber_22 : decode cX7_takeNumber 22 = .ok (.getfield 23, 3) := by decide +kernel
theorem dX7_takeNumber_25 : decode cX7_takeNumber 25 = .ok (.getfield 93, 3) := by decide +kernel
theorem dX7_takeNumber_28 : decode cX7_takeNumber 28 = .ok (.invokevirtual 96, 3) := by decide +kernel
theorem dX7_takeNumber_31 : decode cX7_takeNumber 31 = .ok (.goto 25, 3) := by decide +kernel
theorem dX7_takeNumber_34 : decode cX7_takeNumber 34 = .ok (.iload_n 3, 1) := by decide +kernel
theorem dX7_takeNumber_35 : decode cX7_takeNumber 35 = .ok (.iload_n 1, 1) := by decide +kernel
theorem dX7_takeNumber_36 : decode cX7_takeNumber 36 = .ok (.if_icmp .lt 8, 3) := by decide +kernel
theorem dX7_takeNumber_39 : decode cX7_takeNumber 39 = .ok (.iload_n 3, 1) := by decide +kernel
theorem dX7_takeNumber_40 : decode cX7_takeNumber 40 = .ok (.iload_n 2, 1) := by decide +kernel
theorem dX7_takeNumber_41 : decode cX7_takeNumber 41 = .ok (.if_icmp .le 15, 3) := by decide +kernel
theorem dX7_takeNumber_44 : decode cX7_takeNumber 44 = .ok (.aload_n 0, 1) := by decide +kernel
theorem dX7_takeNumber_45 : decode cX7_takeNumber 45 = .ok (.iconst 2, 1) := by decide +kernel
theorem dX7_takeNumber_46 : decode cX7_takeNumber 46 = .ok (.aload_n 0, 1) := by decide +kernel
theorem dX7_takeNumber_47 : decode cX7_takeNumber 47 = .ok (.getfield 23, 3) := by decide +kernel
theorem dX7_takeNumber_50 : decode cX7_takeNumber 50 = .ok (.getfield 93, 3) := by decide +kernel
theorem dX7_takeNumber_53 : decode cX7_takeNumber 53 = .ok (.invokevirtual 96, 3) := by decide +kernel
theorem dX7_takeNumber_56 : decode cX7_takeNumber 56 = .ok (.aload_n 0, 1) := by decide +kernel
theorem dX7_takeNumber_57 : decode cX7_takeNumber 57 = .ok (.invokevirtual 61, 3) := by decide +kernel
theorem dX7_takeNumber_60 : decode cX7_takeNumber 60 = .ok (.ifCond .eq 5, 3) := by decide +kernel
theorem dX7_takeNumber_63 : decode cX7_takeNumber 63 = .ok (.iload_n 1, 1) := by decide +kernel
theorem dX7_takeNumber_64 : decode cX7_takeNumber 64 = .ok (.ireturn, 1) := by decide +kernel
theorem dX7_takeNumber_65 : decode cX7_takeNumber 65 = .ok (.aload_n 0, 1) := by decide +kernel
theorem dX7_takeNumber_66 : decode cX7_takeNumber 66 = .ok (.getfield 23, 3) := by decide +kernel
theorem dX7_takeNumber_69 : decode cX7_takeNumber 69 = .ok (.invokevirtual 74, 3) := by decide +kernel
theorem dX7_takeNumber_72 : decode cX7_takeNumber 72 = .ok (.iload_n 3, 1) := by decide +kernel
theorem dX7_takeNumber_73 : decode cX7_takeNumber 73 = .ok (.ireturn, 1) := by decide +kernel
theorem dX7_fail_0 : decode cX7_fail 0 = .ok (.aload_n 0, 1) := by decide +kernel
theorem dX7_fail_1 : decode cX7_fail 1 = .ok (.invokevirtual 61, 3) := by decide +kernel
theorem dX7_fail_4 : decode cX7_fail 4 = .ok (.ifCond .ne 13, 3) := by decide +kernel
theorem dX7_fail_7 : decode cX7_fail 7 = .ok (.aload_n 0, 1) := by decide +kernel
theorem dX7_fail_8 : decode cX7_fail 8 = .ok (.iload_n 1, 1) := by decide +kernel
theorem dX7_fail_9 : decode cX7_fail 9 = .ok (.putfield 11, 3) := by decide +kernel
theorem dX7_fail_12 : decode cX7_fail 12 = .ok (.aload_n 0, 1) := by decide +kernel
theorem dX7_fail_13 : decode cX7_fail 13 = .ok (.iload_n 2, 1) := by decide +kernel
theorem dX7_fail_14 : decode cX7_fail 14 = .ok (.putfield 15, 3) := by decide +kernel
theorem dX7_fail_17 : decode cX7_fail 17 = .ok (.return_, 1) := by decide +kernel
theorem dX8_init_0 : decode cX8_init 0 = .ok (.aload_n 0, 1) := by decide +kernel
theorem dX8_init_1 : decode cX8_init 1 = .ok (.invokespecial 3, 3) := by decide +kernel
theorem dX8_init_4 : decode cX8_init 4 = .ok (.aload_n 0, 1) := by decide +kernel
theorem dX8_init_5 : decode cX8_init 5 = .ok (.iconst 0, 1) := by decide +kernel
theorem dX8_init_6 : decode cX8_init 6 = .ok (.anewarray 9, 3) := by decide +kernel
theorem dX8_init_9 : decode cX8_init 9 = .ok (.putfield 11, 3) := by decide +kernel
theorem dX8_init_12 : decode cX8_init 12 = .ok (.aload_n 0, 1) := by decide +kernel
theorem dX8_init_13 : decode cX8_init 13 = .ok (.new 17, 3) := by decide +kernel
theorem dX8_init_16 : decode cX8_init 16 = .ok (.dup, 1) := by decide +kernel
theorem dX8_init_17 : decode cX8_init 17 = .ok (.invokespecial 19, 3) := by decide +kernel
theorem dX8_init_20 : decode cX8_init 20 = .ok (.putfield 20, 3) := by decide +kernel
theorem dX8_init_23 : decode cX8_init 23 = .ok (.return_, 1) := by decide +kernel
theorem dX8_lay_0 : decode cX8_lay 0 = .ok (.aload_n 0, 1) := by decide +kernel
theorem dX8_lay_1 : decode cX8_lay 1 = .ok (.iload_n 1, 1) := by decide +kernel
theorem dX8_lay_2 : decode cX8_lay 2 = .ok (.putfield 24, 3) := by decide +kernel
theorem dX8_lay_5 : decode cX8_lay 5 = .ok (.aload_n 0, 1) := by decide +kernel
theorem dX8_lay_6 : decode cX8_lay 6 = .ok (.iload_n 2, 1) := by decide +kernel
theorem dX8_lay_7 : decode cX8_lay 7 = .ok (.putfield 28, 3) := by decide +kernel
theorem dX8_lay_10 : decode cX8_lay 10 = .ok (.aload_n 0, 1) := by decide +kernel
theorem dX8_lay_11 : decode cX8_lay 11 = .ok (.iconst 0, 1) := by decide +kernel
theorem dX8_lay_12 : decode cX8_lay 12 = .ok (.putfield 31, 3) := by decide +kernel
theorem dX8_lay_15 : decode cX8_lay 15 = .ok (.aload_n 0, 1) := by decide +kernel
theorem dX8_lay_16 : decode cX8_lay 16 = .ok (.iconst 0, 1) := by decide +kernel
theorem dX8_lay_17 : decode cX8_lay 17 = .ok (.putfield 34, 3) := by decide +kernel
theorem dX8_lay_20 : decode cX8_lay 20 = .ok (.aload_n 0, 1) := by decide +kernel
theorem dX8_lay_21 : decode cX8_lay 21 = .ok (.iconst 0, 1) := by decide +kernel
theorem dX8_lay_22 : decode cX8_lay 22 = .ok (.putfield 37, 3) := by decide +kernel
theorem dX8_lay_25 : decode cX8_lay 25 = .ok (.aload_n 0, 1) := by decide +kernel
theorem dX8_lay_26 : decode cX8_lay 26 = .ok (.iconst 0, 1) := by decide +kernel
theorem dX8_lay_27 : decode cX8_lay 27 = .ok (.putfield 40, 3) := by decide +kernel
theorem dX8_lay_30 : decode cX8_lay 30 = .ok (.aload_n 0, 1) := by decide +kernel
theorem dX8_lay_31 : decode cX8_lay 31 = .ok (.iconst 0, 1) := by decide +kernel
theorem dX8_lay_32 : decode cX8_lay 32 = .ok (.putfield 43, 3) := by decide +kernel
theorem dX8_lay_35 : decode cX8_lay 35 = .ok (.aload_n 0, 1) := by decide +kernel
theorem dX8_lay_36 : decode cX8_lay 36 = .ok (.iconst 0, 1) := by decide +kernel
theorem dX8_lay_37 : decode cX8_lay 37 = .ok (.anewarray 9, 3) := by decide +kernel
theorem dX8_lay_40 : decode cX8_lay 40 = .ok (.putfield 11, 3) := by decide +kernel
theorem dX8_lay_43 : decode cX8_lay 43 = .ok (.aload_n 0, 1) := by decide +kernel
theorem dX8_lay_44 : decode cX8_lay 44 = .ok (.getfield 20, 3) := by decide +kernel
theorem dX8_lay_47 : decode cX8_lay 47 = .ok (.invokevirtual 46, 3) := by decide +kernel
theorem dX8_lay_50 : decode cX8_lay 50 = .ok (.return_, 1) := by decide +kernel
theorem dX8_digTunnel_0 : decode cX8_digTunnel 0 = .ok (.aload_n 0, 1) := by decide +kernel
theorem dX8_digTunnel_1 : decode cX8_digTunnel 1 = .ok (.dup, 1) := by decide +kernel
theorem dX8_digTunnel_2 : decode cX8_digTunnel 2 = .ok (.getfield 31, 3) := by decide +kernel
theorem dX8_digTunnel_5 : decode cX8_digTunnel 5 = .ok (.iconst 1, 1) := by decide +kernel
theorem dX8_digTunnel_6 : decode cX8_digTunnel 6 = .ok (.iload_n 1, 1) := by decide +kernel
theorem dX8_digTunnel_7 : decode cX8_digTunnel 7 = .ok (.ishl, 1) := by decide +kernel
theorem dX8_digTunnel_8 : decode cX8_digTunnel 8 = .ok (.ior, 1) := by decide +kernel
theorem dX8_digTunnel_9 : decode cX8_digTunnel 9 = .ok (.putfield 31, 3) := by decide +kernel
theorem dX8_digTunnel_12 : decode cX8_digTunnel 12 = .ok (.return_, 1) := by decide +kernel
theorem dX8_addTrain_0 : decode cX8_addTrain 0 = .ok (.aload_n 0, 1) := by decide +kernel
theorem dX8_addTrain_1 : decode cX8_addTrain 1 = .ok (.getfield 11, 3) := by decide +kernel
theorem dX8_addTrain_4 : decode cX8_addTrain 4 = .ok (.arraylength, 1) := by decide +kernel
theorem dX8_addTrain_5 : decode cX8_addTrain 5 = .ok (.iconst 1, 1) := by decide +kernel
theorem dX8_addTrain_6 : decode cX8_addTrain 6 = .ok (.iadd, 1) := by decide +kernel
theorem dX8_addTrain_7 : decode cX8_addTrain 7 = .ok (.anewarray 9, 3) := by decide +kernel
theorem dX8_addTrain_10 : decode cX8_addTrain 10 = .ok (.astore 5, 2) := by decide +kernel
theorem dX8_addTrain_12 : decode cX8_addTrain 12 = .ok (.iconst 0, 1) := by decide +kernel
theorem dX8_addTrain_13 : decode cX8_addTrain 13 = .ok (.istore 6, 2) := by decide +kernel
theorem dX8_addTrain_15 : decode cX8_addTrain 15 = .ok (.iload 6, 2) := by decide +kernel
theorem dX8_addTrain_17 : decode cX8_addTrain 17 = .ok (.aload_n 0, 1) := by decide +kernel
theorem dX8_addTrain_18 : decode cX8_addTrain 18 = .ok (.getfield 11, 3) := by decide +kernel
theorem dX8_addTrain_21 : decode cX8_addTrain 21 = .ok (.arraylength, 1) := by decide +kernel
theorem dX8_addTrain_22 : decode cX8_addTrain 22 = .ok (.if_icmp .ge 21, 3) := by decide +kernel
theorem dX8_addTrain_25 : decode cX8_addTrain 25 = .ok (.aload 5, 2) := by decide +kernel
theorem dX8_addTrain_27 : decode cX8_addTrain 27 = .ok (.iload 6, 2) := by decide +kernel
theorem dX8_addTrain_29 : decode cX8_addTrain 29 = .ok (.aload_n 0, 1) := by decide +kernel
theorem dX8_addTrain_30 : decode cX8_addTrain 30 = .ok (.getfield 11, 3) := by decide +kernel
theorem dX8_addTrain_33 : decode cX8_addTrain 33 = .ok (.iload 6, 2) := by decide +kernel
theorem dX8_addTrain_35 : decode cX8_addTrain 35 = .ok (.aaload, 1) := by decide +kernel
theorem dX8_addTrain_36 : decode cX8_addTrain 36 = .ok (.aastore, 1) := by decide +kernel
theorem dX8_addTrain_37 : decode cX8_addTrain 37 = .ok (.iinc 6 1, 3) := by decide +kernel
theorem dX8_addTrain_40 : decode cX8_addTrain 40 = .ok (.goto (-25), 3) := by decide +kernel
theorem dX8_addTrain_43 : decode cX8_addTrain 43 = .ok (.new 9, 3) := by decide +kernel
theorem dX8_addTrain_46 : decode cX8_addTrain 46 = .ok (.dup, 1) := by decide +kernel
theorem dX8_addTrain_47 : decode cX8_addTrain 47 = .ok (.invokespecial 49, 3) := by decide +kernel
theorem dX8_addTrain_50 : decode cX8_addTrain 50 = .ok (.astore 6, 2) := by decide +kernel
theorem dX8_addTrain_52 : decode cX8_addTrain 52 = .ok (.aload 6, 2) := by decide +kernel
theorem dX8_addTrain_54 : decode cX8_addTrain 54 = .ok (.iload_n 1, 1) := by decide +kernel
theorem dX8_addTrain_55 : decode cX8_addTrain 55 = .ok (.putfield 50, 3) := by decide +kernel
theorem dX8_addTrain_58 : decode cX8_addTrain 58 = .ok (.aload 6, 2) := by decide +kernel
theorem dX8_addTrain_60 : decode cX8_addTrain 60 = .ok (.iload_n 2, 1) := by decide +kernel
theorem dX8_addTrain_61 : decode cX8_addTrain 61 = .ok (.putfield 53, 3) := by decide +kernel
theorem dX8_addTrain_64 : decode cX8_addTrain 64 = .ok (.aload 6, 2) := by decide +kernel
theorem dX8_addTrain_66 : decode cX8_addTrain 66 = .ok (.iload_n 3, 1) := by decide +kernel
theorem dX8_addTrain_67 : decode cX8_addTrain 67 = .ok (.putfield 56, 3) := by decide +kernel
theorem dX8_addTrain_70 : decode cX8_addTrain 70 = .ok (.aload 6, 2) := by decide +kernel
theorem dX8_addTrain_72 : decode cX8_addTrain 72 = .ok (.iload 4, 2) := by decide +kernel
theorem dX8_addTrain_74 : decode cX8_addTrain 74 = .ok (.putfield 59, 3) := by decide +kernel
theorem dX8_addTrain_77 : decode cX8_addTrain 77 = .ok (.aload 5, 2) := by decide +kernel
theorem dX8_addTrain_79 : decode cX8_addTrain 79 = .ok (.aload_n 0, 1) := by decide +kernel
theorem dX8_addTrain_80 : decode cX8_addTrain 80 = .ok (.getfield 11, 3) := by decide +kernel
theorem dX8_addTrain_83 : decode cX8_addTrain 83 = .ok (.arraylength, 1) := by decide +kernel
theorem dX8_addTrain_84 : decode cX8_addTrain 84 = .ok (.aload 6, 2) := by decide +kernel
theorem dX8_addTrain_86 : decode cX8_addTrain 86 = .ok (.aastore, 1) := by decide +kernel
theorem dX8_addTrain_87 : decode cX8_addTrain 87 = .ok (.aload_n 0, 1) := by decide +kernel
theorem dX8_addTrain_88 : decode cX8_addTrain 88 = .ok (.aload 5, 2) := by decide +kernel
theorem dX8_addTrain_90 : decode cX8_addTrain 90 = .ok (.putfield 11, 3) := by decide +kernel
theorem dX8_addTrain_93 : decode cX8_addTrain 93 = .ok (.return_, 1) := by decide +kernel
theorem dX8_hasSection_0 : decode cX8_hasSection 0 = .ok (.iload_n 1, 1) := by decide +kernel
theorem dX8_hasSection_1 : decode cX8_hasSection 1 = .ok (.ifCond .lt 15, 3) := by decide +kernel
theorem dX8_hasSection_4 : decode cX8_hasSection 4 = .ok (.iload_n 1, 1) := by decide +kernel
theorem dX8_hasSection_5 : decode cX8_hasSection 5 = .ok (.aload_n 0, 1) := by decide +kernel
theorem dX8_hasSection_6 : decode cX8_hasSection 6 = .ok (.getfield 24, 3) := by decide +kernel
theorem dX8_hasSection_9 : decode cX8_hasSection 9 = .ok (.if_icmp .ge 7, 3) := by decide +kernel
theorem dX8_hasSection_12 : decode cX8_hasSection 12 = .ok (.iconst 1, 1) := by decide +kernel
theorem dX8_hasSection_13 : decode cX8_hasSection 13 = .ok (.goto 4, 3) := by decide +kernel
theorem dX8_hasSection_16 : decode cX8_hasSection 16 = .ok (.iconst 0, 1) := by decide +kernel
theorem dX8_hasSection_17 : decode cX8_hasSection 17 = .ok (.ireturn, 1) := by decide +kernel
theorem dX8_isDug_0 : decode cX8_isDug 0 = .ok (.aload_n 0, 1) := by decide +kernel
theorem dX8_isDug_1 : decode cX8_isDug 1 = .ok (.getfield 31, 3) := by decide +kernel
theorem dX8_isDug_4 : decode cX8_isDug 4 = .ok (.iload_n 1, 1) := by decide +kernel
theorem dX8_isDug_5 : decode cX8_isDug 5 = .ok (.ishr, 1) := by decide +kernel
theorem dX8_isDug_6 : decode cX8_isDug 6 = .ok (.iconst 1, 1) := by decide +kernel
theorem dX8_isDug_7 : decode cX8_isDug 7 = .ok (.iand, 1) := by decide +kernel
theorem dX8_isDug_8 : decode cX8_isDug 8 = .ok (.iconst 1, 1) := by decide +kernel
theorem dX8_isDug_9 : decode cX8_isDug 9 = .ok (.if_icmp .ne 7, 3) := by decide +kernel
theorem dX8_isDug_12 : decode cX8_isDug 12 = .ok (.iconst 1, 1) := by decide +kernel
theorem dX8_isDug_13 : decode cX8_isDug 13 = .ok (.goto 4, 3) := by decide +kernel
theorem dX8_isDug_16 : decode cX8_isDug 16 = .ok (.iconst 0, 1) := by decide +kernel
theorem dX8_isDug_17 : decode cX8_isDug 17 = .ok (.ireturn, 1) := by decide +kernel
theorem dX8_isShorted_0 : decode cX8_isShorted 0 = .ok (.aload_n 0, 1) := by decide +kernel
theorem dX8_isShorted_1 : decode cX8_isShorted 1 = .ok (.getfield 34, 3) := by decide +kernel
theorem dX8_isShorted_4 : decode cX8_isShorted 4 = .ok (.iload_n 1, 1) := by decide +kernel
theorem dX8_isShorted_5 : decode cX8_isShorted 5 = .ok (.ishr, 1) := by decide +kernel
theorem dX8_isShorted_6 : decode cX8_isShorted 6 = .ok (.iconst 1, 1) := by decide +kernel
theorem dX8_isShorted_7 : decode cX8_isShorted 7 = .ok (.iand, 1) := by decide +kernel
theorem dX8_isShorted_8 : decode cX8_isShorted 8 = .ok (.iconst 1, 1) := by decide +kernel
theorem dX8_isShorted_9 : decode cX8_isShorted 9 = .ok (.if_icmp .ne 7, 3) := by decide +kernel
theorem dX8_isShorted_12 : decode cX8_isShorted 12 = .ok (.iconst 1, 1) := by decide +kernel
theorem dX8_isShorted_13 : decode cX8_isShorted 13 = .ok (.goto 4, 3) := by decide +kernel
theorem dX8_isShorted_16 : decode cX8_isShorted 16 = .ok (.iconst 0, 1) := by decide +kernel
theorem dX8_isShorted_17 : decode cX8_isShorted 17 = .ok (.ireturn, 1) := by decide +kernel
theorem dX8_changeShort_0 : decode cX8_changeShort 0 = .ok (.aload_n 0, 1) := by decide +kernel
theorem dX8_changeShort_1 : decode cX8_changeShort 1 = .ok (.iload_n 1, 1) := by decide +kernel
theorem dX8_changeShort_2 : decode cX8_changeShort 2 = .ok (.invokevirtual 62, 3) := by decide +kernel
theorem dX8_changeShort_5 : decode cX8_changeShort 5 = .ok (.ifCond .ne 5, 3) := by decide +kernel
theorem dX8_changeShort_8 : decode cX8_changeShort 8 = .ok (.iconst 0, 1) := by decide +kernel
theorem dX8_changeShort_9 : decode cX8_changeShort 9 = .ok (.ireturn, 1) := by decide +kernel
theorem dX8_changeShort_10 : decode cX8_changeShort 10 = .ok (.iconst 1, 1) := by decide +kernel
theorem dX8_changeShort_11 : decode cX8_changeShort 11 = .ok (.iload_n 1, 1) := by decide +kernel
theorem dX8_changeShort_12 : decode cX8_changeShort 12 = .ok (.ishl, 1) := by decide +kernel
theorem dX8_changeShort_13 : decode cX8_changeShort 13 = .ok (.istore_n 3, 1) := by decide +kernel
theorem dX8_changeShort_14 : decode cX8_changeShort 14 = .ok (.aload_n 0, 1) := by decide +kernel
theorem dX8_changeShort_15 : decode cX8_changeShort 15 = .ok (.iload_n 2, 1) := by decide +kernel
theorem dX8_changeShort_16 : decode cX8_changeShort 16 = .ok (.ifCond .eq 12, 3) := by decide +kernel
theorem dX8_changeShort_19 : decode cX8_changeShort 19 = .ok (.aload_n 0, 1) := by decide +kernel
theorem dX8_changeShort_20 : decode cX8_changeShort 20 = .ok (.getfield 34, 3) := by decide +kernel
theorem dX8_changeShort_23 : decode cX8_changeShort 23 = .ok (.iload_n 3, 1) := by decide +kernel
theorem dX8_changeShort_24 : decode cX8_changeShort 24 = .ok (.ior, 1) := by decide +kernel
theorem dX8_changeShort_25 : decode cX8_changeShort 25 = .ok (.goto 11, 3) := by decide +kernel
theorem dX8_changeShort_28 : decode cX8_changeShort 28 = .ok (.aload_n 0, 1) := by decide +kernel
theorem dX8_changeShort_29 : decode cX8_changeShort 29 = .ok (.getfield 34, 3) := by decide +kernel
theorem dX8_changeShort_32 : decode cX8_changeShort 32 = .ok (.iload_n 3, 1) := by decide +kernel
theorem dX8_changeShort_33 : decode cX8_changeShort 33 = .ok (.iconst (-1), 1) := by decide +kernel
theorem dX8_changeShort_34 : decode cX8_changeShort 34 = .ok (.ixor, 1) := by decide +kernel
theorem dX8_changeShort_35 : decode cX8_changeShort 35 = .ok (.iand, 1) := by decide +kernel
theorem dX8_changeShort_36 : decode cX8_changeShort 36 = .ok (.putfield 34, 3) := by decide +kernel
theorem dX8_changeShort_39 : decode cX8_changeShort 39 = .ok (.iconst 1, 1) := by decide +kernel
theorem dX8_changeShort_40 : decode cX8_changeShort 40 = .ok (.ireturn, 1) := by decide +kernel
theorem dX8_isPowered_0 : decode cX8_isPowered 0 = .ok (.aload_n 0, 1) := by decide +kernel
theorem dX8_isPowered_1 : decode cX8_isPowered 1 = .ok (.getfield 40, 3) := by decide +kernel
theorem dX8_isPowered_4 : decode cX8_isPowered 4 = .ok (.ifCond .ne 7, 3) := by decide +kernel
theorem dX8_isPowered_7 : decode cX8_isPowered 7 = .ok (.iconst 1, 1) := by decide +kernel
theorem dX8_isPowered_8 : decode cX8_isPowered 8 = .ok (.goto 4, 3) := by decide +kernel
theorem dX8_isPowered_11 : decode cX8_isPowered 11 = .ok (.iconst 0, 1) := by decide +kernel
theorem dX8_isPowered_12 : decode cX8_isPowered 12 = .ok (.ireturn, 1) := by decide +kernel
theorem dX8_hasTicksLeft_0 : decode cX8_hasTicksLeft 0 = .ok (.aload_n 0, 1) := by decide +kernel
theorem dX8_hasTicksLeft_1 : decode cX8_hasTicksLeft 1 = .ok (.getfield 37, 3) := by decide +kernel
theorem dX8_hasTicksLeft_4 : decode cX8_hasTicksLeft 4 = .ok (.iload_n 1, 1) := by decide +kernel
theorem dX8_hasTicksLeft_5 : decode cX8_hasTicksLeft 5 = .ok (.iadd, 1) := by decide +kernel
theorem dX8_hasTicksLeft_6 : decode cX8_hasTicksLeft 6 = .ok (.sipush 10000, 3) := by decide +kernel
theorem dX8_hasTicksLeft_9 : decode cX8_hasTicksLeft 9 = .ok (.if_icmp .gt 7, 3) := by decide +kernel
theorem dX8_hasTicksLeft_12 : decode cX8_hasTicksLeft 12 = .ok (.iconst 1, 1) := by decide +kernel
theorem dX8_hasTicksLeft_13 : decode cX8_hasTicksLeft 13 = .ok (.goto 4, 3) := by decide +kernel
theorem dX8_hasTicksLeft_16 : decode cX8_hasTicksLeft 16 = .ok (.iconst 0, 1) := by decide +kernel
theorem dX8_hasTicksLeft_17 : decode cX8_hasTicksLeft 17 = .ok (.ireturn, 1) := by decide +kernel
theorem dX8_trainAt_0 : decode cX8_trainAt 0 = .ok (.iload_n 1, 1) := by decide +kernel
theorem dX8_trainAt_1 : decode cX8_trainAt 1 = .ok (.ifCond .lt 12, 3) := by decide +kernel
theorem dX8_trainAt_4 : decode cX8_trainAt 4 = .ok (.iload_n 1, 1) := by decide +kernel
theorem dX8_trainAt_5 : decode cX8_trainAt 5 = .ok (.aload_n 0, 1) := by decide +kernel
theorem dX8_trainAt_6 : decode cX8_trainAt 6 = .ok (.getfield 11, 3) := by decide +kernel
theorem dX8_trainAt_9 : decode cX8_trainAt 9 = .ok (.arraylength, 1) := by decide +kernel
theorem dX8_trainAt_10 : decode cX8_trainAt 10 = .ok (.if_icmp .lt 7, 3) := by decide +kernel
theorem dX8_trainAt_13 : decode cX8_trainAt 13 = .ok (.aconst_null, 1) := by decide +kernel
theorem dX8_trainAt_14 : decode cX8_trainAt 14 = .ok (.goto 9, 3) := by decide +kernel
theorem dX8_trainAt_17 : decode cX8_trainAt 17 = .ok (.aload_n 0, 1) := by decide +kernel
theorem dX8_trainAt_18 : decode cX8_trainAt 18 = .ok (.getfield 11, 3) := by decide +kernel
theorem dX8_trainAt_21 : decode cX8_trainAt 21 = .ok (.iload_n 1, 1) := by decide +kernel
theorem dX8_trainAt_22 : decode cX8_trainAt 22 = .ok (.aaload, 1) := by decide +kernel
theorem dX8_trainAt_23 : decode cX8_trainAt 23 = .ok (.areturn, 1) := by decide +kernel
theorem dX8_numberIn_0 : decode cX8_numberIn 0 = .ok (.iconst 0, 1) := by decide +kernel
theorem dX8_numberIn_1 : decode cX8_numberIn 1 = .ok (.istore_n 2, 1) := by decide +kernel
theorem dX8_numberIn_2 : decode cX8_numberIn 2 = .ok (.iload_n 2, 1) := by decide +kernel
theorem dX8_numberIn_3 : decode cX8_numberIn 3 = .ok (.aload_n 0, 1) := by decide +kernel
theorem dX8_numberIn_4 : decode cX8_numberIn 4 = .ok (.getfield 11, 3) := by decide +kernel
theorem dX8_numberIn_7 : decode cX8_numberIn 7 = .ok (.arraylength, 1) := by decide +kernel
theorem dX8_numberIn_8 : decode cX8_numberIn 8 = .ok (.if_icmp .ge 24, 3) := by decide +kernel
theorem dX8_numberIn_11 : decode cX8_numberIn 11 = .ok (.aload_n 0, 1) := by decide +kernel
theorem dX8_numberIn_12 : decode cX8_numberIn 12 = .ok (.getfield 11, 3) := by decide +kernel
theorem dX8_numberIn_15 : decode cX8_numberIn 15 = .ok (.iload_n 2, 1) := by decide +kernel
theorem dX8_numberIn_16 : decode cX8_numberIn 16 = .ok (.aaload, 1) := by decide +kernel
theorem dX8_numberIn_17 : decode cX8_numberIn 17 = .ok (.getfield 59, 3) := by decide +kernel
theorem dX8_numberIn_20 : decode cX8_numberIn 20 = .ok (.iload_n 1, 1) := by decide +kernel
theorem dX8_numberIn_21 : decode cX8_numberIn 21 = .ok (.if_icmp .ne 5, 3) := by decide +kernel
theorem dX8_numberIn_24 : decode cX8_numberIn 24 = .ok (.iload_n 2, 1) := by decide +kernel
theorem dX8_numberIn_25 : decode cX8_numberIn 25 = .ok (.ireturn, 1) := by decide +kernel
theorem dX8_numberIn_26 : decode cX8_numberIn 26 = .ok (.iinc 2 1, 3) := by decide +kernel
theorem dX8_numberIn_29 : decode cX8_numberIn 29 = .ok (.goto (-27), 3) := by decide +kernel
theorem dX8_numberIn_32 : decode cX8_numberIn 32 = .ok (.iconst (-1), 1) := by decide +kernel
theorem dX8_numberIn_33 : decode cX8_numberIn 33 = .ok (.ireturn, 1) := by decide +kernel
theorem dX8_numberWith_0 : decode cX8_numberWith 0 = .ok (.iconst 0, 1) := by decide +kernel
theorem dX8_numberWith_1 : decode cX8_numberWith 1 = .ok (.istore_n 2, 1) := by decide +kernel
theorem dX8_numberWith_2 : decode cX8_numberWith 2 = .ok (.iload_n 2, 1) := by decide +kernel
theorem dX8_numberWith_3 : decode cX8_numberWith 3 = .ok (.aload_n 0, 1) := by decide +kernel
theorem dX8_numberWith_4 : decode cX8_numberWith 4 = .ok (.getfield 11, 3) := by decide +kernel
theorem dX8_numberWith_7 : decode cX8_numberWith 7 = .ok (.arraylength, 1) := by decide +kernel
theorem dX8_numberWith_8 : decode cX8_numberWith 8 = .ok (.if_icmp .ge 24, 3) := by decide +kernel
theorem dX8_numberWith_11 : decode cX8_numberWith 11 = .ok (.aload_n 0, 1) := by decide +kernel
theorem dX8_numberWith_12 : decode cX8_numberWith 12 = .ok (.getfield 11, 3) := by decide +kernel
theorem dX8_numberWith_15 : decode cX8_numberWith 15 = .ok (.iload_n 2, 1) := by decide +kernel
theorem dX8_numberWith_16 : decode cX8_numberWith 16 = .ok (.aaload, 1) := by decide +kernel
theorem dX8_numberWith_17 : decode cX8_numberWith 17 = .ok (.getfield 50, 3) := by decide +kernel
theorem dX8_numberWith_20 : decode cX8_numberWith 20 = .ok (.iload_n 1, 1) := by decide +kernel
theorem dX8_numberWith_21 : decode cX8_numberWith 21 = .ok (.if_icmp .ne 5, 3) := by decide +kernel
theorem dX8_numberWith_24 : decode cX8_numberWith 24 = .ok (.iload_n 2, 1) := by decide +kernel
theorem dX8_numberWith_25 : decode cX8_numberWith 25 = .ok (.ireturn, 1) := by decide +kernel
theorem dX8_numberWith_26 : decode cX8_numberWith 26 = .ok (.iinc 2 1, 3) := by decide +kernel
theorem dX8_numberWith_29 : decode cX8_numberWith 29 = .ok (.goto (-27), 3) := by decide +kernel
theorem dX8_numberWith_32 : decode cX8_numberWith 32 = .ok (.iconst (-1), 1) := by decide +kernel
theorem dX8_numberWith_33 : decode cX8_numberWith 33 = .ok (.ireturn, 1) := by decide +kernel
theorem dX8_numberOfFastest_0 : decode cX8_numberOfFastest 0 = .ok (.iconst 0, 1) := by decide +kernel
theorem dX8_numberOfFastest_1 : decode cX8_numberOfFastest 1 = .ok (.istore_n 1, 1) := by decide +kernel
theorem dX8_numberOfFastest_2 : decode cX8_numberOfFastest 2 = .ok (.iconst (-1), 1) := by decide +kernel
theorem dX8_numberOfFastest_3 : decode cX8_numberOfFastest 3 = .ok (.istore_n 2, 1) := by decide +kernel
theorem dX8_numberOfFastest_4 : decode cX8_numberOfFastest 4 = .ok (.iconst 0, 1) := by decide +kernel
theorem dX8_numberOfFastest_5 : decode cX8_numberOfFastest 5 = .ok (.istore_n 3, 1) := by decide +kernel
theorem dX8_numberOfFastest_6 : decode cX8_numberOfFastest 6 = .ok (.iload_n 3, 1) := by decide +kernel
theorem dX8_numberOfFastest_7 : decode cX8_numberOfFastest 7 = .ok (.aload_n 0, 1) := by decide +kernel
theorem dX8_numberOfFastest_8 : decode cX8_numberOfFastest 8 = .ok (.getfield 11, 3) := by decide +kernel
theorem dX8_numberOfFastest_11 : decode cX8_numberOfFastest 11 = .ok (.arraylength, 1) := by decide +kernel
theorem dX8_numberOfFastest_12 : decode cX8_numberOfFastest 12 = .ok (.if_icmp .ge 34, 3) := by decide +kernel
theorem dX8_numberOfFastest_15 : decode cX8_numberOfFastest 15 = .ok (.aload_n 0, 1) := by decide +kernel
theorem dX8_numberOfFastest_16 : decode cX8_numberOfFastest 16 = .ok (.getfield 11, 3) := by decide +kernel
theorem dX8_numberOfFastest_19 : decode cX8_numberOfFastest 19 = .ok (.iload_n 3, 1) := by decide +kernel
theorem dX8_numberOfFastest_20 : decode cX8_numberOfFastest 20 = .ok (.aaload, 1) := by decide +kernel
theorem dX8_numberOfFastest_21 : decode cX8_numberOfFastest 21 = .ok (.getfield 66, 3) := by decide +kernel
theorem dX8_numberOfFastest_24 : decode cX8_numberOfFastest 24 = .ok (.iload_n 2, 1) := by decide +kernel
theorem dX8_numberOfFastest_25 : decode cX8_numberOfFastest 25 = .ok (.if_icmp .le 15, 3) := by decide +kernel
theorem dX8_numberOfFastest_28 : decode cX8_numberOfFastest 28 = .ok (.aload_n 0, 1) := by decide +kernel
theorem dX8_numberOfFastest_29 : decode cX8_numberOfFastest 29 = .ok (.getfield 11, 3) := by decide +kernel
theorem dX8_numberOfFastest_32 : decode cX8_numberOfFastest 32 = .ok (.iload_n 3, 1) := by decide +kernel
theorem dX8_numberOfFastest_33 : decode cX8_numberOfFastest 33 = .ok (.aaload, 1) := by decide +kernel
theorem dX8_numberOfFastest_34 : decode cX8_numberOfFastest 34 = .ok (.getfield 66, 3) := by decide +kernel
theorem dX8_numberOfFastest_37 : decode cX8_numberOfFastest 37 = .ok (.istore_n 2, 1) := by decide +kernel
theorem dX8_numberOfFastest_38 : decode cX8_numberOfFastest 38 = .ok (.iload_n 3, 1) := by decide +kernel
theorem dX8_numberOfFastest_39 : decode cX8_numberOfFastest 39 = .ok (.istore_n 1, 1) := by decide +kernel
theorem dX8_numberOfFastest_40 : decode cX8_numberOfFastest 40 = .ok (.iinc 3 1, 3) := by decide +kernel
theorem dX8_numberOfFastest_43 : decode cX8_numberOfFastest 43 = .ok (.goto (-37), 3) := by decide +kernel
theorem dX8_numberOfFastest_46 : decode cX8_numberOfFastest 46 = .ok (.iload_n 1, 1) := by decide +kernel
theorem dX8_numberOfFastest_47 : decode cX8_numberOfFastest 47 = .ok (.ireturn, 1) := by decide +kernel
theorem dX8_freeBehind_0 : decode cX8_freeBehind 0 = .ok (.iconst 0, 1) := by decide +kernel
theorem dX8_freeBehind_1 : decode cX8_freeBehind 1 = .ok (.istore_n 2, 1) := by decide +kernel
theorem dX8_freeBehind_2 : decode cX8_freeBehind 2 = .ok (.aload_n 0, 1) := by decide +kernel
theorem dX8_freeBehind_3 : decode cX8_freeBehind 3 = .ok (.iload_n 1, 1) := by decide +kernel
theorem dX8_freeBehind_4 : decode cX8_freeBehind 4 = .ok (.invokevirtual 69, 3) := by decide +kernel
theorem dX8_freeBehind_7 : decode cX8_freeBehind 7 = .ok (.istore_n 3, 1) := by decide +kernel
theorem dX8_freeBehind_8 : decode cX8_freeBehind 8 = .ok (.iload_n 2, 1) := by decide +kernel
theorem dX8_freeBehind_9 : decode cX8_freeBehind 9 = .ok (.aload_n 0, 1) := by decide +kernel
theorem dX8_freeBehind_10 : decode cX8_freeBehind 10 = .ok (.getfield 24, 3) := by decide +kernel
theorem dX8_freeBehind_13 : decode cX8_freeBehind 13 = .ok (.if_icmp .ge 23, 3) := by decide +kernel
theorem dX8_freeBehind_16 : decode cX8_freeBehind 16 = .ok (.aload_n 0, 1) := by decide +kernel
theorem dX8_freeBehind_17 : decode cX8_freeBehind 17 = .ok (.iload_n 3, 1) := by decide +kernel
theorem dX8_freeBehind_18 : decode cX8_freeBehind 18 = .ok (.invokevirtual 73, 3) := by decide +kernel
theorem dX8_freeBehind_21 : decode cX8_freeBehind 21 = .ok (.ifCond .ge 15, 3) := by decide +kernel
theorem dX8_freeBehind_24 : decode cX8_freeBehind 24 = .ok (.iinc 2 1, 3) := by decide +kernel
theorem dX8_freeBehind_27 : decode cX8_freeBehind 27 = .ok (.aload_n 0, 1) := by decide +kernel
theorem dX8_freeBehind_28 : decode cX8_freeBehind 28 = .ok (.iload_n 3, 1) := by decide +kernel
theorem dX8_freeBehind_29 : decode cX8_freeBehind 29 = .ok (.invokevirtual 69, 3) := by decide +kernel
theorem dX8_freeBehind_32 : decode cX8_freeBehind 32 = .ok (.istore_n 3, 1) := by decide +kernel
theorem dX8_freeBehind_33 : decode cX8_freeBehind 33 = .ok (.goto (-25), 3) := by decide +kernel
theorem dX8_freeBehind_36 : decode cX8_freeBehind 36 = .ok (.iload_n 2, 1) := by decide +kernel
theorem dX8_freeBehind_37 : decode cX8_freeBehind 37 = .ok (.ireturn, 1) := by decide +kernel
theorem dX8_sectionBehind_0 : decode cX8_sectionBehind 0 = .ok (.iload_n 1, 1) := by decide +kernel
theorem dX8_sectionBehind_1 : decode cX8_sectionBehind 1 = .ok (.iconst 1, 1) := by decide +kernel
theorem dX8_sectionBehind_2 : decode cX8_sectionBehind 2 = .ok (.iadd, 1) := by decide +kernel
theorem dX8_sectionBehind_3 : decode cX8_sectionBehind 3 = .ok (.aload_n 0, 1) := by decide +kernel
theorem dX8_sectionBehind_4 : decode cX8_sectionBehind 4 = .ok (.getfield 24, 3) := by decide +kernel
theorem dX8_sectionBehind_7 : decode cX8_sectionBehind 7 = .ok (.if_icmp .ge 9, 3) := by decide +kernel
theorem dX8_sectionBehind_10 : decode cX8_sectionBehind 10 = .ok (.iload_n 1, 1) := by decide +kernel
theorem dX8_sectionBehind_11 : decode cX8_sectionBehind 11 = .ok (.iconst 1, 1) := by decide +kernel
theorem dX8_sectionBehind_12 : decode cX8_sectionBehind 12 = .ok (.iadd, 1) := by decide +kernel
theorem dX8_sectionBehind_13 : decode cX8_sectionBehind 13 = .ok (.goto 4, 3) := by decide +kernel
theorem dX8_sectionBehind_16 : decode cX8_sectionBehind 16 = .ok (.iconst 0, 1) := by decide +kernel
theorem dX8_sectionBehind_17 : decode cX8_sectionBehind 17 = .ok (.ireturn, 1) := by decide +kernel
theorem dX8_sumOfSpeeds_0 : decode cX8_sumOfSpeeds 0 = .ok (.iconst 0, 1) := by decide +kernel
theorem dX8_sumOfSpeeds_1 : decode cX8_sumOfSpeeds 1 = .ok (.istore_n 1, 1) := by decide +kernel
theorem dX8_sumOfSpeeds_2 : decode cX8_sumOfSpeeds 2 = .ok (.aload_n 0, 1) := by decide +kernel
theorem dX8_sumOfSpeeds_3 : decode cX8_sumOfSpeeds 3 = .ok (.getfield 11, 3) := by decide +kernel
theorem dX8_sumOfSpeeds_6 : decode cX8_sumOfSpeeds 6 = .ok (.astore_n 2, 1) := by decide +kernel
theorem dX8_sumOfSpeeds_7 : decode cX8_sumOfSpeeds 7 = .ok (.aload_n 2, 1) := by decide +kernel
theorem dX8_sumOfSpeeds_8 : decode cX8_sumOfSpeeds 8 = .ok (.arraylength, 1) := by decide +kernel
theorem dX8_sumOfSpeeds_9 : decode cX8_sumOfSpeeds 9 = .ok (.istore_n 3, 1) := by decide +kernel
theorem dX8_sumOfSpeeds_10 : decode cX8_sumOfSpeeds 10 = .ok (.iconst 0, 1) := by decide +kernel
theorem dX8_sumOfSpeeds_11 : decode cX8_sumOfSpeeds 11 = .ok (.istore 4, 2) := by decide +kernel
theorem dX8_sumOfSpeeds_13 : decode cX8_sumOfSpeeds 13 = .ok (.iload 4, 2) := by decide +kernel
theorem dX8_sumOfSpeeds_15 : decode cX8_sumOfSpeeds 15 = .ok (.iload_n 3, 1) := by decide +kernel
theorem dX8_sumOfSpeeds_16 : decode cX8_sumOfSpeeds 16 = .ok (.if_icmp .ge 23, 3) := by decide +kernel
theorem dX8_sumOfSpeeds_19 : decode cX8_sumOfSpeeds 19 = .ok (.aload_n 2, 1) := by decide +kernel
theorem dX8_sumOfSpeeds_20 : decode cX8_sumOfSpeeds 20 = .ok (.iload 4, 2) := by decide +kernel
theorem dX8_sumOfSpeeds_22 : decode cX8_sumOfSpeeds 22 = .ok (.aaload, 1) := by decide +kernel
theorem dX8_sumOfSpeeds_23 : decode cX8_sumOfSpeeds 23 = .ok (.astore 5, 2) := by decide +kernel
theorem dX8_sumOfSpeeds_25 : decode cX8_sumOfSpeeds 25 = .ok (.iload_n 1, 1) := by decide +kernel
theorem dX8_sumOfSpeeds_26 : decode cX8_sumOfSpeeds 26 = .ok (.aload 5, 2) := by decide +kernel
theorem dX8_sumOfSpeeds_28 : decode cX8_sumOfSpeeds 28 = .ok (.getfield 66, 3) := by decide +kernel
theorem dX8_sumOfSpeeds_31 : decode cX8_sumOfSpeeds 31 = .ok (.iadd, 1) := by decide +kernel
theorem dX8_sumOfSpeeds_32 : decode cX8_sumOfSpeeds 32 = .ok (.istore_n 1, 1) := by decide +kernel
theorem dX8_sumOfSpeeds_33 : decode cX8_sumOfSpeeds 33 = .ok (.iinc 4 1, 3) := by decide +kernel
theorem dX8_sumOfSpeeds_36 : decode cX8_sumOfSpeeds 36 = .ok (.goto (-23), 3) := by decide +kernel
theorem dX8_sumOfSpeeds_39 : decode cX8_sumOfSpeeds 39 = .ok (.iload_n 1, 1) := by decide +kernel
theorem dX8_sumOfSpeeds_40 : decode cX8_sumOfSpeeds 40 = .ok (.ireturn, 1) := by decide +kernel
theorem dX8_sumOfObeyed_0 : decode cX8_sumOfObeyed 0 = .ok (.iconst 0, 1) := by decide +kernel
theorem dX8_sumOfObeyed_1 : decode cX8_sumOfObeyed 1 = .ok (.istore_n 1, 1) := by decide +kernel
theorem dX8_sumOfObeyed_2 : decode cX8_sumOfObeyed 2 = .ok (.aload_n 0, 1) := by decide +kernel
theorem dX8_sumOfObeyed_3 : decode cX8_sumOfObeyed 3 = .ok (.getfield 11, 3) := by decide +kernel
theorem dX8_sumOfObeyed_6 : decode cX8_sumOfObeyed 6 = .ok (.astore_n 2, 1) := by decide +kernel
theorem dX8_sumOfObeyed_7 : decode cX8_sumOfObeyed 7 = .ok (.aload_n 2, 1) := by decide +kernel
theorem dX8_sumOfObeyed_8 : decode cX8_sumOfObeyed 8 = .ok (.arraylength, 1) := by decide +kernel
theorem dX8_sumOfObeyed_9 : decode cX8_sumOfObeyed 9 = .ok (.istore_n 3, 1) := by decide +kernel
theorem dX8_sumOfObeyed_10 : decode cX8_sumOfObeyed 10 = .ok (.iconst 0, 1) := by decide +kernel
theorem dX8_sumOfObeyed_11 : decode cX8_sumOfObeyed 11 = .ok (.istore 4, 2) := by decide +kernel
theorem dX8_sumOfObeyed_13 : decode cX8_sumOfObeyed 13 = .ok (.iload 4, 2) := by decide +kernel
theorem dX8_sumOfObeyed_15 : decode cX8_sumOfObeyed 15 = .ok (.iload_n 3, 1) := by decide +kernel
theorem dX8_sumOfObeyed_16 : decode cX8_sumOfObeyed 16 = .ok (.if_icmp .ge 23, 3) := by decide +kernel
theorem dX8_sumOfObeyed_19 : decode cX8_sumOfObeyed 19 = .ok (.aload_n 2, 1) := by decide +kernel
theorem dX8_sumOfObeyed_20 : decode cX8_sumOfObeyed 20 = .ok (.iload 4, 2) := by decide +kernel
theorem dX8_sumOfObeyed_22 : decode cX8_sumOfObeyed 22 = .ok (.aaload, 1) := by decide +kernel
theorem dX8_sumOfObeyed_23 : decode cX8_sumOfObeyed 23 = .ok (.astore 5, 2) := by decide +kernel
theorem dX8_sumOfObeyed_25 : decode cX8_sumOfObeyed 25 = .ok (.iload_n 1, 1) := by decide +kernel
theorem dX8_sumOfObeyed_26 : decode cX8_sumOfObeyed 26 = .ok (.aload 5, 2) := by decide +kernel
theorem dX8_sumOfObeyed_28 : decode cX8_sumOfObeyed 28 = .ok (.getfield 76, 3) := by decide +kernel
theorem dX8_sumOfObeyed_31 : decode cX8_sumOfObeyed 31 = .ok (.iadd, 1) := by decide +kernel
theorem dX8_sumOfObeyed_32 : decode cX8_sumOfObeyed 32 = .ok (.istore_n 1, 1) := by decide +kernel
theorem dX8_sumOfObeyed_33 : decode cX8_sumOfObeyed 33 = .ok (.iinc 4 1, 3) := by decide +kernel
theorem dX8_sumOfObeyed_36 : decode cX8_sumOfObeyed 36 = .ok (.goto (-23), 3) := by decide +kernel
theorem dX8_sumOfObeyed_39 : decode cX8_sumOfObeyed 39 = .ok (.iload_n 1, 1) := by decide +kernel
theorem dX8_sumOfObeyed_40 : decode cX8_sumOfObeyed 40 = .ok (.ireturn, 1) := by decide +kernel
theorem dX8_sumOfReceived_0 : decode cX8_sumOfReceived 0 = .ok (.iconst 0, 1) := by decide +kernel
theorem dX8_sumOfReceived_1 : decode cX8_sumOfReceived 1 = .ok (.istore_n 1, 1) := by decide +kernel
theorem dX8_sumOfReceived_2 : decode cX8_sumOfReceived 2 = .ok (.aload_n 0, 1) := by decide +kernel
theorem dX8_sumOfReceived_3 : decode cX8_sumOfReceived 3 = .ok (.getfield 11, 3) := by decide +kernel
theorem dX8_sumOfReceived_6 : decode cX8_sumOfReceived 6 = .ok (.astore_n 2, 1) := by decide +kernel
theorem dX8_sumOfReceived_7 : decode cX8_sumOfReceived 7 = .ok (.aload_n 2, 1) := by decide +kernel
theorem dX8_sumOfReceived_8 : decode cX8_sumOfReceived 8 = .ok (.arraylength, 1) := by decide +kernel
theorem dX8_sumOfReceived_9 : decode cX8_sumOfReceived 9 = .ok (.istore_n 3, 1) := by decide +kernel
theorem dX8_sumOfReceived_10 : decode cX8_sumOfReceived 10 = .ok (.iconst 0, 1) := by decide +kernel
theorem dX8_sumOfReceived_11 : decode cX8_sumOfReceived 11 = .ok (.istore 4, 2) := by decide +kernel
theorem dX8_sumOfReceived_13 : decode cX8_sumOfReceived 13 = .ok (.iload 4, 2) := by decide +kernel
theorem dX8_sumOfReceived_15 : decode cX8_sumOfReceived 15 = .ok (.iload_n 3, 1) := by decide +kernel
theorem dX8_sumOfReceived_16 : decode cX8_sumOfReceived 16 = .ok (.if_icmp .ge 23, 3) := by decide +kernel
theorem dX8_sumOfReceived_19 : decode cX8_sumOfReceived 19 = .ok (.aload_n 2, 1) := by decide +kernel
theorem dX8_sumOfReceived_20 : decode cX8_sumOfReceived 20 = .ok (.iload 4, 2) := by decide +kernel
theorem dX8_sumOfReceived_22 : decode cX8_sumOfReceived 22 = .ok (.aaload, 1) := by decide +kernel
theorem dX8_sumOfReceived_23 : decode cX8_sumOfReceived 23 = .ok (.astore 5, 2) := by decide +kernel
theorem dX8_sumOfReceived_25 : decode cX8_sumOfReceived 25 = .ok (.iload_n 1, 1) := by decide +kernel
theorem dX8_sumOfReceived_26 : decode cX8_sumOfReceived 26 = .ok (.aload 5, 2) := by decide +kernel
theorem dX8_sumOfReceived_28 : decode cX8_sumOfReceived 28 = .ok (.invokevirtual 79, 3) := by decide +kernel
theorem dX8_sumOfReceived_31 : decode cX8_sumOfReceived 31 = .ok (.iadd, 1) := by decide +kernel
theorem dX8_sumOfReceived_32 : decode cX8_sumOfReceived 32 = .ok (.istore_n 1, 1) := by decide +kernel
theorem dX8_sumOfReceived_33 : decode cX8_sumOfReceived 33 = .ok (.iinc 4 1, 3) := by decide +kernel
theorem dX8_sumOfReceived_36 : decode cX8_sumOfReceived 36 = .ok (.goto (-23), 3) := by decide +kernel
theorem dX8_sumOfReceived_39 : decode cX8_sumOfReceived 39 = .ok (.iload_n 1, 1) := by decide +kernel
theorem dX8_sumOfReceived_40 : decode cX8_sumOfReceived 40 = .ok (.ireturn, 1) := by decide +kernel
theorem dX8_pairsInOneSection_0 : decode cX8_pairsInOneSection 0 = .ok (.iconst 0, 1) := by decide +kernel
theorem dX8_pairsInOneSection_1 : decode cX8_pairsInOneSection 1 = .ok (.istore_n 1, 1) := by decide +kernel
theorem dX8_pairsInOneSection_2 : decode cX8_pairsInOneSection 2 = .ok (.iconst 0, 1) := by decide +kernel
theorem dX8_pairsInOneSection_3 : decode cX8_pairsInOneSection 3 = .ok (.istore_n 2, 1) := by decide +kernel
theorem dX8_pairsInOneSection_4 : decode cX8_pairsInOneSection 4 = .ok (.iload_n 2, 1) := by decide +kernel
theorem dX8_pairsInOneSection_5 : decode cX8_pairsInOneSection 5 = .ok (.aload_n 0, 1) := by decide +kernel
theorem dX8_pairsInOneSection_6 : decode cX8_pairsInOneSection 6 = .ok (.getfield 11, 3) := by decide +kernel
theorem dX8_pairsInOneSection_9 : decode cX8_pairsInOneSection 9 = .ok (.arraylength, 1) := by decide +kernel
theorem dX8_pairsInOneSection_10 : decode cX8_pairsInOneSection 10 = .ok (.if_icmp .ge 52, 3) := by decide +kernel
theorem dX8_pairsInOneSection_13 : decode cX8_pairsInOneSection 13 = .ok (.iload_n 2, 1) := by decide +kernel
theorem dX8_pairsInOneSection_14 : decode cX8_pairsInOneSection 14 = .ok (.iconst 1, 1) := by decide +kernel
theorem dX8_pairsInOneSection_15 : decode cX8_pairsInOneSection 15 = .ok (.iadd, 1) := by decide +kernel
theorem dX8_pairsInOneSection_16 : decode cX8_pairsInOneSection 16 = .ok (.istore_n 3, 1) := by decide +kernel
theorem dX8_pairsInOneSection_17 : decode cX8_pairsInOneSection 17 = .ok (.iload_n 3, 1) := by decide +kernel
theorem dX8_pairsInOneSection_18 : decode cX8_pairsInOneSection 18 = .ok (.aload_n 0, 1) := by decide +kernel
theorem dX8_pairsInOneSection_19 : decode cX8_pairsInOneSection 19 = .ok (.getfield 11, 3) := by decide +kernel
theorem dX8_pairsInOneSection_22 : decode cX8_pairsInOneSection 22 = .ok (.arraylength, 1) := by decide +kernel
theorem dX8_pairsInOneSection_23 : decode cX8_pairsInOneSection 23 = .ok (.if_icmp .ge 33, 3) := by decide +kernel
theorem dX8_pairsInOneSection_26 : decode cX8_pairsInOneSection 26 = .ok (.aload_n 0, 1) := by decide +kernel
theorem dX8_pairsInOneSection_27 : decode cX8_pairsInOneSection 27 = .ok (.getfield 11, 3) := by decide +kernel
theorem dX8_pairsInOneSection_30 : decode cX8_pairsInOneSection 30 = .ok (.iload_n 2, 1) := by decide +kernel
theorem dX8_pairsInOneSection_31 : decode cX8_pairsInOneSection 31 = .ok (.aaload, 1) := by decide +kernel
theorem dX8_pairsInOneSection_32 : decode cX8_pairsInOneSection 32 = .ok (.getfield 59, 3) := by decide +kernel
theorem dX8_pairsInOneSection_35 : decode cX8_pairsInOneSection 35 = .ok (.aload_n 0, 1) := by decide +kernel
theorem dX8_pairsInOneSection_36 : decode cX8_pairsInOneSection 36 = .ok (.getfield 11, 3) := by decide +kernel
theorem dX8_pairsInOneSection_39 : decode cX8_pairsInOneSection 39 = .ok (.iload_n 3, 1) := by decide +kernel
theorem dX8_pairsInOneSection_40 : decode cX8_pairsInOneSection 40 = .ok (.aaload, 1) := by decide +kernel
theorem dX8_pairsInOneSection_41 : decode cX8_pairsInOneSection 41 = .ok (.getfield 59, 3) := by decide +kernel
theorem dX8_pairsInOneSection_44 : decode cX8_pairsInOneSection 44 = .ok (.if_icmp .ne 6, 3) := by decide +kernel
theorem dX8_pairsInOneSection_47 : decode cX8_pairsInOneSection 47 = .ok (.iinc 1 1, 3) := by decide +kernel
theorem dX8_pairsInOneSection_50 : decode cX8_pairsInOneSection 50 = .ok (.iinc 3 1, 3) := by decide +kernel
theorem dX8_pairsInOneSection_53 : decode cX8_pairsInOneSection 53 = .ok (.goto (-36), 3) := by decide +kernel
theorem dX8_pairsInOneSection_56 : decode cX8_pairsInOneSection 56 = .ok (.iinc 2 1, 3) := by decide +kernel
theorem dX8_pairsInOneSection_59 : decode cX8_pairsInOneSection 59 = .ok (.goto (-55), 3) := by decide +kernel
theorem dX8_pairsInOneSection_62 : decode cX8_pairsInOneSection 62 = .ok (.iload_n 1, 1) := by decide +kernel
theorem dX8_pairsInOneSection_63 : decode cX8_pairsInOneSection 63 = .ok (.ireturn, 1) := by decide +kernel
theorem dX8_signOf_0 : decode cX8_signOf 0 = .ok (.aload_n 0, 1) := by decide +kernel
theorem dX8_signOf_1 : decode cX8_signOf 1 = .ok (.iload_n 1, 1) := by decide +kernel
theorem dX8_signOf_2 : decode cX8_signOf 2 = .ok (.invokevirtual 73, 3) := by decide +kernel
theorem dX8_signOf_5 : decode cX8_signOf 5 = .ok (.istore_n 2, 1) := by decide +kernel
theorem dX8_signOf_6 : decode cX8_signOf 6 = .ok (.iload_n 2, 1) := by decide +kernel
theorem dX8_signOf_7 : decode cX8_signOf 7 = .ok (.ifCond .lt 8, 3) := by decide +kernel
theorem dX8_signOf_10 : decode cX8_signOf 10 = .ok (.bipush 48, 2) := by decide +kernel
theorem dX8_signOf_12 : decode cX8_signOf 12 = .ok (.iload_n 2, 1) := by decide +kernel
theorem dX8_signOf_13 : decode cX8_signOf 13 = .ok (.iadd, 1) := by decide +kernel
theorem dX8_signOf_14 : decode cX8_signOf 14 = .ok (.ireturn, 1) := by decide +kernel
theorem dX8_signOf_15 : decode cX8_signOf 15 = .ok (.aload_n 0, 1) := by decide +kernel
theorem dX8_signOf_16 : decode cX8_signOf 16 = .ok (.iload_n 1, 1) := by decide +kernel
theorem dX8_signOf_17 : decode cX8_signOf 17 = .ok (.invokevirtual 83, 3) := by decide +kernel
theorem dX8_signOf_20 : decode cX8_signOf 20 = .ok (.ifCond .eq 6, 3) := by decide +kernel
theorem dX8_signOf_23 : decode cX8_signOf 23 = .ok (.bipush 33, 2) := by decide +kernel
theorem dX8_signOf_25 : decode cX8_signOf 25 = .ok (.ireturn, 1) := by decide +kernel
theorem dX8_signOf_26 : decode cX8_signOf 26 = .ok (.aload_n 0, 1) := by decide +kernel
theorem dX8_signOf_27 : decode cX8_signOf 27 = .ok (.iload_n 1, 1) := by decide +kernel
theorem dX8_signOf_28 : decode cX8_signOf 28 = .ok (.invokevirtual 86, 3) := by decide +kernel
theorem dX8_signOf_31 : decode cX8_signOf 31 = .ok (.ifCond .eq 8, 3) := by decide +kernel
theorem dX8_signOf_34 : decode cX8_signOf 34 = .ok (.bipush 110, 2) := by decide +kernel
theorem dX8_signOf_36 : decode cX8_signOf 36 = .ok (.goto 5, 3) := by decide +kernel
theorem dX8_signOf_39 : decode cX8_signOf 39 = .ok (.bipush 45, 2) := by decide +kernel
theorem dX8_signOf_41 : decode cX8_signOf 41 = .ok (.ireturn, 1) := by decide +kernel
theorem dX8_pass_0 : decode cX8_pass 0 = .ok (.aload_n 0, 1) := by decide +kernel
theorem dX8_pass_1 : decode cX8_pass 1 = .ok (.iload_n 1, 1) := by decide +kernel
theorem dX8_pass_2 : decode cX8_pass 2 = .ok (.invokevirtual 89, 3) := by decide +kernel
theorem dX8_pass_5 : decode cX8_pass 5 = .ok (.ifCond .ne 5, 3) := by decide +kernel
theorem dX8_pass_8 : decode cX8_pass 8 = .ok (.iconst 0, 1) := by decide +kernel
theorem dX8_pass_9 : decode cX8_pass 9 = .ok (.ireturn, 1) := by decide +kernel
theorem dX8_pass_10 : decode cX8_pass 10 = .ok (.iconst 0, 1) := by decide +kernel
theorem dX8_pass_11 : decode cX8_pass 11 = .ok (.istore_n 2, 1) := by decide +kernel
theorem dX8_pass_12 : decode cX8_pass 12 = .ok (.iload_n 2, 1) := by decide +kernel
theorem dX8_pass_13 : decode cX8_pass 13 = .ok (.iload_n 1, 1) := by decide +kernel
theorem dX8_pass_14 : decode cX8_pass 14 = .ok (.if_icmp .ge 82, 3) := by decide +kernel
theorem dX8_pass_17 : decode cX8_pass 17 = .ok (.aload_n 0, 1) := by decide +kernel
theorem dX8_pass_18 : decode cX8_pass 18 = .ok (.aload_n 0, 1) := by decide +kernel
theorem dX8_pass_19 : decode cX8_pass 19 = .ok (.invokevirtual 92, 3) := by decide +kernel
theorem dX8_pass_22 : decode cX8_pass 22 = .ok (.ifCond .eq 13, 3) := by decide +kernel
theorem dX8_pass_25 : decode cX8_pass 25 = .ok (.aload_n 0, 1) := by decide +kernel
theorem dX8_pass_26 : decode cX8_pass 26 = .ok (.getfield 20, 3) := by decide +kernel
theorem dX8_pass_29 : decode cX8_pass 29 = .ok (.invokevirtual 96, 3) := by decide +kernel
theorem dX8_pass_32 : decode cX8_pass 32 = .ok (.goto 4, 3) := by decide +kernel
theorem dX8_pass_35 : decode cX8_pass 35 = .ok (.iconst (-1), 1) := by decide +kernel
theorem dX8_pass_36 : decode cX8_pass 36 = .ok (.invokevirtual 101, 3) := by decide +kernel
theorem dX8_pass_39 : decode cX8_pass 39 = .ok (.aload_n 0, 1) := by decide +kernel
theorem dX8_pass_40 : decode cX8_pass 40 = .ok (.getfield 11, 3) := by decide +kernel
theorem dX8_pass_43 : decode cX8_pass 43 = .ok (.astore_n 3, 1) := by decide +kernel
theorem dX8_pass_44 : decode cX8_pass 44 = .ok (.aload_n 3, 1) := by decide +kernel
theorem dX8_pass_45 : decode cX8_pass 45 = .ok (.arraylength, 1) := by decide +kernel
theorem dX8_pass_46 : decode cX8_pass 46 = .ok (.istore 4, 2) := by decide +kernel
theorem dX8_pass_48 : decode cX8_pass 48 = .ok (.iconst 0, 1) := by decide +kernel
theorem dX8_pass_49 : decode cX8_pass 49 = .ok (.istore 5, 2) := by decide +kernel
theorem dX8_pass_51 : decode cX8_pass 51 = .ok (.iload 5, 2) := by decide +kernel
theorem dX8_pass_53 : decode cX8_pass 53 = .ok (.iload 4, 2) := by decide +kernel
theorem dX8_pass_55 : decode cX8_pass 55 = .ok (.if_icmp .ge 21, 3) := by decide +kernel
theorem dX8_pass_58 : decode cX8_pass 58 = .ok (.aload_n 3, 1) := by decide +kernel
theorem dX8_pass_59 : decode cX8_pass 59 = .ok (.iload 5, 2) := by decide +kernel
theorem dX8_pass_61 : decode cX8_pass 61 = .ok (.aaload, 1) := by decide +kernel
theorem dX8_pass_62 : decode cX8_pass 62 = .ok (.astore 6, 2) := by decide +kernel
theorem dX8_pass_64 : decode cX8_pass 64 = .ok (.aload_n 0, 1) := by decide +kernel
theorem dX8_pass_65 : decode cX8_pass 65 = .ok (.aload 6, 2) := by decide +kernel
theorem dX8_pass_67 : decode cX8_pass 67 = .ok (.invokevirtual 105, 3) := by decide +kernel
theorem dX8_pass_70 : decode cX8_pass 70 = .ok (.iinc 5 1, 3) := by decide +kernel
theorem dX8_pass_73 : decode cX8_pass 73 = .ok (.goto (-22), 3) := by decide +kernel
theorem dX8_pass_76 : decode cX8_pass 76 = .ok (.aload_n 0, 1) := by decide +kernel
theorem dX8_pass_77 : decode cX8_pass 77 = .ok (.invokevirtual 109, 3) := by decide +kernel
theorem dX8_pass_80 : decode cX8_pass 80 = .ok (.aload_n 0, 1) := by decide +kernel
theorem dX8_pass_81 : decode cX8_pass 81 = .ok (.dup, 1) := by decide +kernel
theorem dX8_pass_82 : decode cX8_pass 82 = .ok (.getfield 37, 3) := by decide +kernel
theorem dX8_pass_85 : decode cX8_pass 85 = .ok (.iconst 1, 1) := by decide +kernel
theorem dX8_pass_86 : decode cX8_pass 86 = .ok (.iadd, 1) := by decide +kernel
theorem dX8_pass_87 : decode cX8_pass 87 = .ok (.putfield 37, 3) := by decide +kernel
theorem dX8_pass_90 : decode cX8_pass 90 = .ok (.iinc 2 1, 3) := by decide +kernel
theorem dX8_pass_93 : decode cX8_pass 93 = .ok (.goto (-81), 3) := by decide +kernel
theorem dX8_pass_96 : decode cX8_pass 96 = .ok (.iconst 1, 1) := by decide +kernel
theorem dX8_pass_97 : decode cX8_pass 97 = .ok (.ireturn, 1) := by decide +kernel
theorem dX8_driveTrains_0 : decode cX8_driveTrains 0 = .ok (.iload_n 1, 1) := by decide +kernel
theorem dX8_driveTrains_1 : decode cX8_driveTrains 1 = .ok (.iconst (-1), 1) := by decide +kernel
theorem dX8_driveTrains_2 : decode cX8_driveTrains 2 = .ok (.if_icmp .eq 7, 3) := by decide +kernel
theorem dX8_driveTrains_5 : decode cX8_driveTrains 5 = .ok (.iconst 1, 1) := by decide +kernel
theorem dX8_driveTrains_6 : decode cX8_driveTrains 6 = .ok (.goto 4, 3) := by decide +kernel
theorem dX8_driveTrains_9 : decode cX8_driveTrains 9 = .ok (.iconst 0, 1) := by decide +kernel
theorem dX8_driveTrains_10 : decode cX8_driveTrains 10 = .ok (.istore_n 2, 1) := by decide +kernel
theorem dX8_driveTrains_11 : decode cX8_driveTrains 11 = .ok (.aload_n 0, 1) := by decide +kernel
theorem dX8_driveTrains_12 : decode cX8_driveTrains 12 = .ok (.invokevirtual 92, 3) := by decide +kernel
theorem dX8_driveTrains_15 : decode cX8_driveTrains 15 = .ok (.istore_n 3, 1) := by decide +kernel
theorem dX8_driveTrains_16 : decode cX8_driveTrains 16 = .ok (.aload_n 0, 1) := by decide +kernel
theorem dX8_driveTrains_17 : decode cX8_driveTrains 17 = .ok (.getfield 11, 3) := by decide +kernel
theorem dX8_driveTrains_20 : decode cX8_driveTrains 20 = .ok (.astore 4, 2) := by decide +kernel
theorem dX8_driveTrains_22 : decode cX8_driveTrains 22 = .ok (.aload 4, 2) := by decide +kernel
theorem dX8_driveTrains_24 : decode cX8_driveTrains 24 = .ok (.arraylength, 1) := by decide +kernel
theorem dX8_driveTrains_25 : decode cX8_driveTrains 25 = .ok (.istore 5, 2) := by decide +kernel
theorem dX8_driveTrains_27 : decode cX8_driveTrains 27 = .ok (.iconst 0, 1) := by decide +kernel
theorem dX8_driveTrains_28 : decode cX8_driveTrains 28 = .ok (.istore 6, 2) := by decide +kernel
theorem dX8_driveTrains_30 : decode cX8_driveTrains 30 = .ok (.iload 6, 2) := by decide +kernel
theorem dX8_driveTrains_32 : decode cX8_driveTrains 32 = .ok (.iload 5, 2) := by decide +kernel
theorem dX8_driveTrains_34 : decode cX8_driveTrains 34 = .ok (.if_icmp .ge 64, 3) := by decide +kernel
theorem dX8_driveTrains_37 : decode cX8_driveTrains 37 = .ok (.aload 4, 2) := by decide +kernel
theorem dX8_driveTrains_39 : decode cX8_driveTrains 39 = .ok (.iload 6, 2) := by decide +kernel
theorem dX8_driveTrains_41 : decode cX8_driveTrains 41 = .ok (.aaload, 1) := by decide +kernel
theorem dX8_driveTrains_42 : decode cX8_driveTrains 42 = .ok (.astore 7, 2) := by decide +kernel
theorem dX8_driveTrains_44 : decode cX8_driveTrains 44 = .ok (.iload_n 2, 1) := by decide +kernel
theorem dX8_driveTrains_45 : decode cX8_driveTrains 45 = .ok (.ifCond .eq 25, 3) := by decide +kernel
theorem dX8_driveTrains_48 : decode cX8_driveTrains 48 = .ok (.aload 7, 2) := by decide +kernel
theorem dX8_driveTrains_50 : decode cX8_driveTrains 50 = .ok (.iload_n 1, 1) := by decide +kernel
theorem dX8_driveTrains_51 : decode cX8_driveTrains 51 = .ok (.aload_n 0, 1) := by decide +kernel
theorem dX8_driveTrains_52 : decode cX8_driveTrains 52 = .ok (.aload 7, 2) := by decide +kernel
theorem dX8_driveTrains_54 : decode cX8_driveTrains 54 = .ok (.getfield 59, 3) := by decide +kernel
theorem dX8_driveTrains_57 : decode cX8_driveTrains 57 = .ok (.invokevirtual 86, 3) := by decide +kernel
theorem dX8_driveTrains_60 : decode cX8_driveTrains 60 = .ok (.invokevirtual 112, 3) := by decide +kernel
theorem dX8_driveTrains_63 : decode cX8_driveTrains 63 = .ok (.ifCond .eq 7, 3) := by decide +kernel
theorem dX8_driveTrains_66 : decode cX8_driveTrains 66 = .ok (.iconst 1, 1) := by decide +kernel
theorem dX8_driveTrains_67 : decode cX8_driveTrains 67 = .ok (.goto 4, 3) := by decide +kernel
theorem dX8_driveTrains_70 : decode cX8_driveTrains 70 = .ok (.iconst 0, 1) := by decide +kernel
theorem dX8_driveTrains_71 : decode cX8_driveTrains 71 = .ok (.istore 8, 2) := by decide +kernel
theorem dX8_driveTrains_73 : decode cX8_driveTrains 73 = .ok (.aload 7, 2) := by decide +kernel
theorem dX8_driveTrains_75 : decode cX8_driveTrains 75 = .ok (.iload 8, 2) := by decide +kernel
theorem dX8_driveTrains_77 : decode cX8_driveTrains 77 = .ok (.invokevirtual 116, 3) := by decide +kernel
theorem dX8_driveTrains_80 : decode cX8_driveTrains 80 = .ok (.aload 7, 2) := by decide +kernel
theorem dX8_driveTrains_82 : decode cX8_driveTrains 82 = .ok (.iload_n 3, 1) := by decide +kernel
theorem dX8_driveTrains_83 : decode cX8_driveTrains 83 = .ok (.invokevirtual 120, 3) := by decide +kernel
theorem dX8_driveTrains_86 : decode cX8_driveTrains 86 = .ok (.aload 7, 2) := by decide +kernel
theorem dX8_driveTrains_88 : decode cX8_driveTrains 88 = .ok (.iload_n 3, 1) := by decide +kernel
theorem dX8_driveTrains_89 : decode cX8_driveTrains 89 = .ok (.invokevirtual 123, 3) := by decide +kernel
theorem dX8_driveTrains_92 : decode cX8_driveTrains 92 = .ok (.iinc 6 1, 3) := by decide +kernel
theorem dX8_driveTrains_95 : decode cX8_driveTrains 95 = .ok (.goto (-65), 3) := by decide +kernel
theorem dX8_driveTrains_98 : decode cX8_driveTrains 98 = .ok (.return_, 1) := by decide +kernel
theorem dX8_move_0 : decode cX8_move 0 = .ok (.aload_n 1, 1) := by decide +kernel
theorem dX8_move_1 : decode cX8_move 1 = .ok (.dup, 1) := by decide +kernel
theorem dX8_move_2 : decode cX8_move 2 = .ok (.getfield 126, 3) := by decide +kernel
theorem dX8_move_5 : decode cX8_move 5 = .ok (.aload_n 1, 1) := by decide +kernel
theorem dX8_move_6 : decode cX8_move 6 = .ok (.getfield 66, 3) := by decide +kernel
theorem dX8_move_9 : decode cX8_move 9 = .ok (.iadd, 1) := by decide +kernel
theorem dX8_move_10 : decode cX8_move 10 = .ok (.putfield 126, 3) := by decide +kernel
theorem dX8_move_13 : decode cX8_move 13 = .ok (.aload_n 1, 1) := by decide +kernel
theorem dX8_move_14 : decode cX8_move 14 = .ok (.invokevirtual 129, 3) := by decide +kernel
theorem dX8_move_17 : decode cX8_move 17 = .ok (.ifCond .ne 4, 3) := by decide +kernel
theorem dX8_move_20 : decode cX8_move 20 = .ok (.return_, 1) := by decide +kernel
theorem dX8_move_21 : decode cX8_move 21 = .ok (.aload_n 0, 1) := by decide +kernel
theorem dX8_move_22 : decode cX8_move 22 = .ok (.aload_n 1, 1) := by decide +kernel
theorem dX8_move_23 : decode cX8_move 23 = .ok (.getfield 59, 3) := by decide +kernel
theorem dX8_move_26 : decode cX8_move 26 = .ok (.invokevirtual 69, 3) := by decide +kernel
theorem dX8_move_29 : decode cX8_move 29 = .ok (.istore_n 2, 1) := by decide +kernel
theorem dX8_move_30 : decode cX8_move 30 = .ok (.aload_n 0, 1) := by decide +kernel
theorem dX8_move_31 : decode cX8_move 31 = .ok (.iload_n 2, 1) := by decide +kernel
theorem dX8_move_32 : decode cX8_move 32 = .ok (.invokevirtual 73, 3) := by decide +kernel
theorem dX8_move_35 : decode cX8_move 35 = .ok (.ifCond .ge 11, 3) := by decide +kernel
theorem dX8_move_38 : decode cX8_move 38 = .ok (.aload_n 1, 1) := by decide +kernel
theorem dX8_move_39 : decode cX8_move 39 = .ok (.iload_n 2, 1) := by decide +kernel
theorem dX8_move_40 : decode cX8_move 40 = .ok (.invokevirtual 132, 3) := by decide +kernel
theorem dX8_move_43 : decode cX8_move 43 = .ok (.goto 7, 3) := by decide +kernel
theorem dX8_move_46 : decode cX8_move 46 = .ok (.aload_n 1, 1) := by decide +kernel
theorem dX8_move_47 : decode cX8_move 47 = .ok (.invokevirtual 135, 3) := by decide +kernel
theorem dX8_move_50 : decode cX8_move 50 = .ok (.return_, 1) := by decide +kernel
theorem dX8_changePower_0 : decode cX8_changePower 0 = .ok (.aload_n 0, 1) := by decide +kernel
theorem dX8_changePower_1 : decode cX8_changePower 1 = .ok (.invokevirtual 92, 3) := by decide +kernel
theorem dX8_changePower_4 : decode cX8_changePower 4 = .ok (.ifCond .ne 16, 3) := by decide +kernel
theorem dX8_changePower_7 : decode cX8_changePower 7 = .ok (.aload_n 0, 1) := by decide +kernel
theorem dX8_changePower_8 : decode cX8_changePower 8 = .ok (.dup, 1) := by decide +kernel
theorem dX8_changePower_9 : decode cX8_changePower 9 = .ok (.getfield 40, 3) := by decide +kernel
theorem dX8_changePower_12 : decode cX8_changePower 12 = .ok (.iconst 1, 1) := by decide +kernel
theorem dX8_changePower_13 : decode cX8_changePower 13 = .ok (.isub, 1) := by decide +kernel
theorem dX8_changePower_14 : decode cX8_changePower 14 = .ok (.putfield 40, 3) := by decide +kernel
theorem dX8_changePower_17 : decode cX8_changePower 17 = .ok (.goto 28, 3) := by decide +kernel
theorem dX8_changePower_20 : decode cX8_changePower 20 = .ok (.aload_n 0, 1) := by decide +kernel
theorem dX8_changePower_21 : decode cX8_changePower 21 = .ok (.invokevirtual 138, 3) := by decide +kernel
theorem dX8_changePower_24 : decode cX8_changePower 24 = .ok (.ifCond .eq 21, 3) := by decide +kernel
theorem dX8_changePower_27 : decode cX8_changePower 27 = .ok (.aload_n 0, 1) := by decide +kernel
theorem dX8_changePower_28 : decode cX8_changePower 28 = .ok (.aload_n 0, 1) := by decide +kernel
theorem dX8_changePower_29 : decode cX8_changePower 29 = .ok (.getfield 28, 3) := by decide +kernel
theorem dX8_changePower_32 : decode cX8_changePower 32 = .ok (.putfield 40, 3) := by decide +kernel
theorem dX8_changePower_35 : decode cX8_changePower 35 = .ok (.aload_n 0, 1) := by decide +kernel
theorem dX8_changePower_36 : decode cX8_changePower 36 = .ok (.dup, 1) := by decide +kernel
theorem dX8_changePower_37 : decode cX8_changePower 37 = .ok (.getfield 43, 3) := by decide +kernel
theorem dX8_changePower_40 : decode cX8_changePower 40 = .ok (.iconst 1, 1) := by decide +kernel
theorem dX8_changePower_41 : decode cX8_changePower 41 = .ok (.iadd, 1) := by decide +kernel
theorem dX8_changePower_42 : decode cX8_changePower 42 = .ok (.putfield 43, 3) := by decide +kernel
theorem dX8_changePower_45 : decode cX8_changePower 45 = .ok (.return_, 1) := by decide +kernel
theorem dX8_isShortMet_0 : decode cX8_isShortMet 0 = .ok (.aload_n 0, 1) := by decide +kernel
theorem dX8_isShortMet_1 : decode cX8_isShortMet 1 = .ok (.getfield 11, 3) := by decide +kernel
theorem dX8_isShortMet_4 : decode cX8_isShortMet 4 = .ok (.astore_n 1, 1) := by decide +kernel
theorem dX8_isShortMet_5 : decode cX8_isShortMet 5 = .ok (.aload_n 1, 1) := by decide +kernel
theorem dX8_isShortMet_6 : decode cX8_isShortMet 6 = .ok (.arraylength, 1) := by decide +kernel
theorem dX8_isShortMet_7 : decode cX8_isShortMet 7 = .ok (.istore_n 2, 1) := by decide +kernel
theorem dX8_isShortMet_8 : decode cX8_isShortMet 8 = .ok (.iconst 0, 1) := by decide +kernel
theorem dX8_isShortMet_9 : decode cX8_isShortMet 9 = .ok (.istore_n 3, 1) := by decide +kernel
theorem dX8_isShortMet_10 : decode cX8_isShortMet 10 = .ok (.iload_n 3, 1) := by decide +kernel
theorem dX8_isShortMet_11 : decode cX8_isShortMet 11 = .ok (.iload_n 2, 1) := by decide +kernel
theorem dX8_isShortMet_12 : decode cX8_isShortMet 12 = .ok (.if_icmp .ge 28, 3) := by decide +kernel
theorem dX8_isShortMet_15 : decode cX8_isShortMet 15 = .ok (.aload_n 1, 1) := by decide +kernel
theorem dX8_isShortMet_16 : decode cX8_isShortMet 16 = .ok (.iload_n 3, 1) := by decide +kernel
theorem dX8_isShortMet_17 : decode cX8_isShortMet 17 = .ok (.aaload, 1) := by decide +kernel
theorem dX8_isShortMet_18 : decode cX8_isShortMet 18 = .ok (.astore 4, 2) := by decide +kernel
theorem dX8_isShortMet_20 : decode cX8_isShortMet 20 = .ok (.aload_n 0, 1) := by decide +kernel
theorem dX8_isShortMet_21 : decode cX8_isShortMet 21 = .ok (.aload 4, 2) := by decide +kernel
theorem dX8_isShortMet_23 : decode cX8_isShortMet 23 = .ok (.getfield 59, 3) := by decide +kernel
theorem dX8_isShortMet_26 : decode cX8_isShortMet 26 = .ok (.invokevirtual 83, 3) := by decide +kernel
theorem dX8_isShortMet_29 : decode cX8_isShortMet 29 = .ok (.ifCond .eq 5, 3) := by decide +kernel
theorem dX8_isShortMet_32 : decode cX8_isShortMet 32 = .ok (.iconst 1, 1) := by decide +kernel
theorem dX8_isShortMet_33 : decode cX8_isShortMet 33 = .ok (.ireturn, 1) := by decide +kernel
theorem dX8_isShortMet_34 : decode cX8_isShortMet 34 = .ok (.iinc 3 1, 3) := by decide +kernel
theorem dX8_isShortMet_37 : decode cX8_isShortMet 37 = .ok (.goto (-27), 3) := by decide +kernel
theorem dX8_isShortMet_40 : decode cX8_isShortMet 40 = .ok (.iconst 0, 1) := by decide +kernel
theorem dX8_isShortMet_41 : decode cX8_isShortMet 41 = .ok (.ireturn, 1) := by decide +kernel
theorem dX8_copyFrom_0 : decode cX8_copyFrom 0 = .ok (.aload_n 0, 1) := by decide +kernel
theorem dX8_copyFrom_1 : decode cX8_copyFrom 1 = .ok (.aload_n 1, 1) := by decide +kernel
theorem dX8_copyFrom_2 : decode cX8_copyFrom 2 = .ok (.getfield 24, 3) := by decide +kernel
theorem dX8_copyFrom_5 : decode cX8_copyFrom 5 = .ok (.putfield 24, 3) := by decide +kernel
theorem dX8_copyFrom_8 : decode cX8_copyFrom 8 = .ok (.aload_n 0, 1) := by decide +kernel
theorem dX8_copyFrom_9 : decode cX8_copyFrom 9 = .ok (.aload_n 1, 1) := by decide +kernel
theorem dX8_copyFrom_10 : decode cX8_copyFrom 10 = .ok (.getfield 28, 3) := by decide +kernel
theorem dX8_copyFrom_13 : decode cX8_copyFrom 13 = .ok (.putfield 28, 3) := by decide +kernel
theorem dX8_copyFrom_16 : decode cX8_copyFrom 16 = .ok (.aload_n 0, 1) := by decide +kernel
theorem dX8_copyFrom_17 : decode cX8_copyFrom 17 = .ok (.aload_n 1, 1) := by decide +kernel
theorem dX8_copyFrom_18 : decode cX8_copyFrom 18 = .ok (.getfield 31, 3) := by decide +kernel
theorem dX8_copyFrom_21 : decode cX8_copyFrom 21 = .ok (.putfield 31, 3) := by decide +kernel
theorem dX8_copyFrom_24 : decode cX8_copyFrom 24 = .ok (.aload_n 0, 1) := by decide +kernel
theorem dX8_copyFrom_25 : decode cX8_copyFrom 25 = .ok (.aload_n 1, 1) := by decide +kernel
theorem dX8_copyFrom_26 : decode cX8_copyFrom 26 = .ok (.getfield 34, 3) := by decide +kernel
theorem dX8_copyFrom_29 : decode cX8_copyFrom 29 = .ok (.putfield 34, 3) := by decide +kernel
theorem dX8_copyFrom_32 : decode cX8_copyFrom 32 = .ok (.aload_n 0, 1) := by decide +kernel
theorem dX8_copyFrom_33 : decode cX8_copyFrom 33 = .ok (.aload_n 1, 1) := by decide +kernel
theorem dX8_copyFrom_34 : decode cX8_copyFrom 34 = .ok (.getfield 37, 3) := by decide +kernel
theorem dX8_copyFrom_37 : decode cX8_copyFrom 37 = .ok (.putfield 37, 3) := by decide +kernel
theorem dX8_copyFrom_40 : decode cX8_copyFrom 40 = .ok (.aload_n 0, 1) := by decide +kernel
theorem dX8_copyFrom_41 : decode cX8_copyFrom 41 = .ok (.aload_n 1, 1) := by decide +kernel
theorem dX8_copyFrom_42 : decode cX8_copyFrom 42 = .ok (.getfield 40, 3) := by decide +kernel
theorem dX8_copyFrom_45 : decode cX8_copyFrom 45 = .ok (.putfield 40, 3) := by decide +kernel
theorem dX8_copyFrom_48 : decode cX8_copyFrom 48 = .ok (.aload_n 0, 1) := by decide +kernel
theorem dX8_copyFrom_49 : decode cX8_copyFrom 49 = .ok (.aload_n 1, 1) := by decide +kernel
theorem dX8_copyFrom_50 : decode cX8_copyFrom 50 = .ok (.getfield 43, 3) := by decide +kernel
theorem dX8_copyFrom_53 : decode cX8_copyFrom 53 = .ok (.putfield 43, 3) := by decide +kernel
theorem dX8_copyFrom_56 : decode cX8_copyFrom 56 = .ok (.aload_n 0, 1) := by decide +kernel
theorem dX8_copyFrom_57 : decode cX8_copyFrom 57 = .ok (.aload_n 1, 1) := by decide +kernel
theorem dX8_copyFrom_58 : decode cX8_copyFrom 58 = .ok (.getfield 11, 3) := by decide +kernel
theorem dX8_copyFrom_61 : decode cX8_copyFrom 61 = .ok (.invokevirtual 141, 3) := by decide +kernel
theorem dX8_copyFrom_64 : decode cX8_copyFrom 64 = .ok (.aload_n 0, 1) := by decide +kernel
theorem dX8_copyFrom_65 : decode cX8_copyFrom 65 = .ok (.getfield 20, 3) := by decide +kernel
theorem dX8_copyFrom_68 : decode cX8_copyFrom 68 = .ok (.aload_n 1, 1) := by decide +kernel
theorem dX8_copyFrom_69 : decode cX8_copyFrom 69 = .ok (.getfield 20, 3) := by decide +kernel
theorem dX8_copyFrom_72 : decode cX8_copyFrom 72 = .ok (.invokevirtual 145, 3) := by decide +kernel
theorem dX8_copyFrom_75 : decode cX8_copyFrom 75 = .ok (.return_, 1) := by decide +kernel
theorem dX8_copyTrains_0 : decode cX8_copyTrains 0 = .ok (.aload_n 0, 1) := by decide +kernel
theorem dX8_copyTrains_1 : decode cX8_copyTrains 1 = .ok (.getfield 11, 3) := by decide +kernel
theorem dX8_copyTrains_4 : decode cX8_copyTrains 4 = .ok (.arraylength, 1) := by decide +kernel
theorem dX8_copyTrains_5 : decode cX8_copyTrains 5 = .ok (.aload_n 1, 1) := by decide +kernel
theorem dX8_copyTrains_6 : decode cX8_copyTrains 6 = .ok (.arraylength, 1) := by decide +kernel
theorem dX8_copyTrains_7 : decode cX8_copyTrains 7 = .ok (.if_icmp .eq 42, 3) := by decide +kernel
theorem dX8_copyTrains_10 : decode cX8_copyTrains 10 = .ok (.aload_n 0, 1) := by decide +kernel
theorem dX8_copyTrains_11 : decode cX8_copyTrains 11 = .ok (.aload_n 1, 1) := by decide +kernel
theorem dX8_copyTrains_12 : decode cX8_copyTrains 12 = .ok (.arraylength, 1) := by decide +kernel
theorem dX8_copyTrains_13 : decode cX8_copyTrains 13 = .ok (.anewarray 9, 3) := by decide +kernel
theorem dX8_copyTrains_16 : decode cX8_copyTrains 16 = .ok (.putfield 11, 3) := by decide +kernel
theorem dX8_copyTrains_19 : decode cX8_copyTrains 19 = .ok (.iconst 0, 1) := by decide +kernel
theorem dX8_copyTrains_20 : decode cX8_copyTrains 20 = .ok (.istore_n 2, 1) := by decide +kernel
theorem dX8_copyTrains_21 : decode cX8_copyTrains 21 = .ok (.iload_n 2, 1) := by decide +kernel
theorem dX8_copyTrains_22 : decode cX8_copyTrains 22 = .ok (.aload_n 0, 1) := by decide +kernel
theorem dX8_copyTrains_23 : decode cX8_copyTrains 23 = .ok (.getfield 11, 3) := by decide +kernel
theorem dX8_copyTrains_26 : decode cX8_copyTrains 26 = .ok (.arraylength, 1) := by decide +kernel
theorem dX8_copyTrains_27 : decode cX8_copyTrains 27 = .ok (.if_icmp .ge 22, 3) := by decide +kernel
theorem dX8_copyTrains_30 : decode cX8_copyTrains 30 = .ok (.aload_n 0, 1) := by decide +kernel
theorem dX8_copyTrains_31 : decode cX8_copyTrains 31 = .ok (.getfield 11, 3) := by decide +kernel
theorem dX8_copyTrains_34 : decode cX8_copyTrains 34 = .ok (.iload_n 2, 1) := by decide +kernel
theorem dX8_copyTrains_35 : decode cX8_copyTrains 35 = .ok (.new 9, 3) := by decide +kernel
theorem dX8_copyTrains_38 : decode cX8_copyTrains 38 = .ok (.dup, 1) := by decide +kernel
theorem dX8_copyTrains_39 : decode cX8_copyTrains 39 = .ok (.invokespecial 49, 3) := by decide +kernel
theorem dX8_copyTrains_42 : decode cX8_copyTrains 42 = .ok (.aastore, 1) := by decide +kernel
theorem dX8_copyTrains_43 : decode cX8_copyTrains 43 = .ok (.iinc 2 1, 3) := by decide +kernel
theorem dX8_copyTrains_46 : decode cX8_copyTrains 46 = .ok (.goto (-25), 3) := by decide +kernel
theorem dX8_copyTrains_49 : decode cX8_copyTrains 49 = .ok (.iconst 0, 1) := by decide +kernel
theorem dX8_copyTrains_50 : decode cX8_copyTrains 50 = .ok (.istore_n 2, 1) := by decide +kernel
theorem dX8_copyTrains_51 : decode cX8_copyTrains 51 = .ok (.iload_n 2, 1) := by decide +kernel
theorem dX8_copyTrains_52 : decode cX8_copyTrains 52 = .ok (.aload_n 0, 1) := by decide +kernel
theorem dX8_copyTrains_53 : decode cX8_copyTrains 53 = .ok (.getfield 11, 3) := by decide +kernel
theorem dX8_copyTrains_56 : decode cX8_copyTrains 56 = .ok (.arraylength, 1) := by decide +kernel
theorem dX8_copyTrains_57 : decode cX8_copyTrains 57 = .ok (.if_icmp .ge 27, 3) := by decide +kernel
theorem dX8_copyTrains_60 : decode cX8_copyTrains 60 = .ok (.iload_n 2, 1) := by decide +kernel
theorem dX8_copyTrains_61 : decode cX8_copyTrains 61 = .ok (.aload_n 1, 1) := by decide +kernel
theorem dX8_copyTrains_62 : decode cX8_copyTrains 62 = .ok (.arraylength, 1) := by decide +kernel
theorem dX8_copyTrains_63 : decode cX8_copyTrains 63 = .ok (.if_icmp .ge 21, 3) := by decide +kernel
theorem dX8_copyTrains_66 : decode cX8_copyTrains 66 = .ok (.aload_n 0, 1) := by decide +kernel
theorem dX8_copyTrains_67 : decode cX8_copyTrains 67 = .ok (.getfield 11, 3) := by decide +kernel
theorem dX8_copyTrains_70 : decode cX8_copyTrains 70 = .ok (.iload_n 2, 1) := by decide +kernel
theorem dX8_copyTrains_71 : decode cX8_copyTrains 71 = .ok (.aaload, 1) := by decide +kernel
theorem dX8_copyTrains_72 : decode cX8_copyTrains 72 = .ok (.aload_n 1, 1) := by decide +kernel
theorem dX8_copyTrains_73 : decode cX8_copyTrains 73 = .ok (.iload_n 2, 1) := by decide +kernel
theorem dX8_copyTrains_74 : decode cX8_copyTrains 74 = .ok (.aaload, 1) := by decide +kernel
theorem dX8_copyTrains_75 : decode cX8_copyTrains 75 = .ok (.invokevirtual 149, 3) := by decide +kernel
theorem dX8_copyTrains_78 : decode cX8_copyTrains 78 = .ok (.iinc 2 1, 3) := by decide +kernel
theorem dX8_copyTrains_81 : decode cX8_copyTrains 81 = .ok (.goto (-30), 3) := by decide +kernel
theorem dX8_copyTrains_84 : decode cX8_copyTrains 84 = .ok (.return_, 1) := by decide +kernel
theorem dX9_init_0 : decode cX9_init 0 = .ok (.aload_n 0, 1) := by decide +kernel
theorem dX9_init_1 : decode cX9_init 1 = .ok (.invokespecial 1, 3) := by decide +kernel
theorem dX9_init_4 : decode cX9_init 4 = .ok (.aload_n 0, 1) := by decide +kernel
theorem dX9_init_5 : decode cX9_init 5 = .ok (.aload_n 1, 1) := by decide +kernel
theorem dX9_init_6 : decode cX9_init 6 = .ok (.putfield 7, 3) := by decide +kernel
theorem dX9_init_9 : decode cX9_init 9 = .ok (.return_, 1) := by decide +kernel
theorem dX10_init_0 : decode cX10_init 0 = .ok (.aload_n 0, 1) := by decide +kernel
theorem dX10_init_1 : decode cX10_init 1 = .ok (.invokespecial 1, 3) := by decide +kernel
theorem dX10_init_4 : decode cX10_init 4 = .ok (.aload_n 0, 1) := by decide +kernel
theorem dX10_init_5 : decode cX10_init 5 = .ok (.aload_n 1, 1) := by decide +kernel
theorem dX10_init_6 : decode cX10_init 6 = .ok (.putfield 7, 3) := by decide +kernel
theorem dX10_init_9 : decode cX10_init 9 = .ok (.return_, 1) := by decide +kernel
theorem dX10_begin_0 : decode cX10_begin 0 = .ok (.aload_n 0, 1) := by decide +kernel
theorem dX10_begin_1 : decode cX10_begin 1 = .ok (.iload_n 1, 1) := by decide +kernel
theorem dX10_begin_2 : decode cX10_begin 2 = .ok (.putfield 13, 3) := by decide +kernel
theorem dX10_begin_5 : decode cX10_begin 5 = .ok (.aload_n 0, 1) := by decide +kernel
theorem dX10_begin_6 : decode cX10_begin 6 = .ok (.iconst 0, 1) := by decide +kernel
theorem dX10_begin_7 : decode cX10_begin 7 = .ok (.putfield 17, 3) := by decide +kernel
theorem dX10_begin_10 : decode cX10_begin 10 = .ok (.aload_n 0, 1) := by decide +kernel
theorem dX10_begin_11 : decode cX10_begin 11 = .ok (.invokevirtual 20, 3) := by decide +kernel
theorem dX10_begin_14 : decode cX10_begin 14 = .ok (.return_, 1) := by decide +kernel
theorem dX10_step_0 : decode cX10_step 0 = .ok (.aload_n 0, 1) := by decide +kernel
theorem dX10_step_1 : decode cX10_step 1 = .ok (.aload_n 0, 1) := by decide +kernel
theorem dX10_step_2 : decode cX10_step 2 = .ok (.getfield 17, 3) := by decide +kernel
theorem dX10_step_5 : decode cX10_step 5 = .ok (.putfield 23, 3) := by decide +kernel
theorem dX10_step_8 : decode cX10_step 8 = .ok (.aload_n 0, 1) := by decide +kernel
theorem dX10_step_9 : decode cX10_step 9 = .ok (.getfield 23, 3) := by decide +kernel
theorem dX10_step_12 : decode cX10_step 12 = .ok (.aload_n 0, 1) := by decide +kernel
theorem dX10_step_13 : decode cX10_step 13 = .ok (.getfield 13, 3) := by decide +kernel
theorem dX10_step_16 : decode cX10_step 16 = .ok (.if_icmp .ge 30, 3) := by decide +kernel
theorem dX10_step_19 : decode cX10_step 19 = .ok (.aload_n 0, 1) := by decide +kernel
theorem dX10_step_20 : decode cX10_step 20 = .ok (.aload_n 0, 1) := by decide +kernel
theorem dX10_step_21 : decode cX10_step 21 = .ok (.getfield 23, 3) := by decide +kernel
theorem dX10_step_24 : decode cX10_step 24 = .ok (.invokevirtual 26, 3) := by decide +kernel
theorem dX10_step_27 : decode cX10_step 27 = .ok (.invokestatic 30, 3) := by decide +kernel
theorem dX10_step_30 : decode cX10_step 30 = .ok (.ifCond .eq 16, 3) := by decide +kernel
theorem dX10_step_33 : decode cX10_step 33 = .ok (.aload_n 0, 1) := by decide +kernel
theorem dX10_step_34 : decode cX10_step 34 = .ok (.dup, 1) := by decide +kernel
theorem dX10_step_35 : decode cX10_step 35 = .ok (.getfield 23, 3) := by decide +kernel
theorem dX10_step_38 : decode cX10_step 38 = .ok (.iconst 1, 1) := by decide +kernel
theorem dX10_step_39 : decode cX10_step 39 = .ok (.iadd, 1) := by decide +kernel
theorem dX10_step_40 : decode cX10_step 40 = .ok (.putfield 23, 3) := by decide +kernel
theorem dX10_step_43 : decode cX10_step 43 = .ok (.goto (-35), 3) := by decide +kernel
theorem dX10_step_46 : decode cX10_step 46 = .ok (.aload_n 0, 1) := by decide +kernel
theorem dX10_step_47 : decode cX10_step 47 = .ok (.aload_n 0, 1) := by decide +kernel
theorem dX10_step_48 : decode cX10_step 48 = .ok (.getfield 23, 3) := by decide +kernel
theorem dX10_step_51 : decode cX10_step 51 = .ok (.putfield 17, 3) := by decide +kernel
theorem dX10_step_54 : decode cX10_step 54 = .ok (.aload_n 0, 1) := by decide +kernel
theorem dX10_step_55 : decode cX10_step 55 = .ok (.iconst 0, 1) := by decide +kernel
theorem dX10_step_56 : decode cX10_step 56 = .ok (.putfield 34, 3) := by decide +kernel
theorem dX10_step_59 : decode cX10_step 59 = .ok (.aload_n 0, 1) := by decide +kernel
theorem dX10_step_60 : decode cX10_step 60 = .ok (.aload_n 0, 1) := by decide +kernel
theorem dX10_step_61 : decode cX10_step 61 = .ok (.aload_n 0, 1) := by decide +kernel
theorem dX10_step_62 : decode cX10_step 62 = .ok (.getfield 23, 3) := by decide +kernel
theorem dX10_step_65 : decode cX10_step 65 = .ok (.invokevirtual 26, 3) := by decide +kernel
theorem dX10_step_68 : decode cX10_step 68 = .ok (.invokestatic 37, 3) := by decide +kernel
theorem dX10_step_71 : decode cX10_step 71 = .ok (.putfield 40, 3) := by decide +kernel
theorem dX10_step_74 : decode cX10_step 74 = .ok (.aload_n 0, 1) := by decide +kernel
theorem dX10_step_75 : decode cX10_step 75 = .ok (.getfield 40, 3) := by decide +kernel
theorem dX10_step_78 : decode cX10_step 78 = .ok (.iconst 1, 1) := by decide +kernel
theorem dX10_step_79 : decode cX10_step 79 = .ok (.if_icmp .ne 41, 3) := by decide +kernel
theorem dX10_step_82 : decode cX10_step 82 = .ok (.aload_n 0, 1) := by decide +kernel
theorem dX10_step_83 : decode cX10_step 83 = .ok (.getfield 17, 3) := by decide +kernel
theorem dX10_step_86 : decode cX10_step 86 = .ok (.aload_n 0, 1) := by decide +kernel
theorem dX10_step_87 : decode cX10_step 87 = .ok (.getfield 13, 3) := by decide +kernel
theorem dX10_step_90 : decode cX10_step 90 = .ok (.if_icmp .ge 122, 3) := by decide +kernel
theorem dX10_step_93 : decode cX10_step 93 = .ok (.aload_n 0, 1) := by decide +kernel
theorem dX10_step_94 : decode cX10_step 94 = .ok (.aload_n 0, 1) := by decide +kernel
theorem dX10_step_95 : decode cX10_step 95 = .ok (.getfield 17, 3) := by decide +kernel
theorem dX10_step_98 : decode cX10_step 98 = .ok (.invokevirtual 26, 3) := by decide +kernel
theorem dX10_step_101 : decode cX10_step 101 = .ok (.invokestatic 43, 3) := by decide +kernel
theorem dX10_step_104 : decode cX10_step 104 = .ok (.ifCond .eq 108, 3) := by decide +kernel
theorem dX10_step_107 : decode cX10_step 107 = .ok (.aload_n 0, 1) := by decide +kernel
theorem dX10_step_108 : decode cX10_step 108 = .ok (.dup, 1) := by decide +kernel
theorem dX10_step_109 : decode cX10_step 109 = .ok (.getfield 17, 3) := by decide +kernel
theorem dX10_step_112 : decode cX10_step 112 = .ok (.iconst 1, 1) := by decide +kernel
theorem dX10_step_113 : decode cX10_step 113 = .ok (.iadd, 1) := by decide +kernel
theorem dX10_step_114 : decode cX10_step 114 = .ok (.putfield 17, 3) := by decide +kernel
theorem dX10_step_117 : decode cX10_step 117 = .ok (.goto (-35), 3) := by decide +kernel
theorem dX10_step_120 : decode cX10_step 120 = .ok (.aload_n 0, 1) := by decide +kernel
theorem dX10_step_121 : decode cX10_step 121 = .ok (.getfield 40, 3) := by decide +kernel
theorem dX10_step_124 : decode cX10_step 124 = .ok (.iconst 2, 1) := by decide +kernel
theorem dX10_step_125 : decode cX10_step 125 = .ok (.if_icmp .ne 70, 3) := by decide +kernel
theorem dX10_step_128 : decode cX10_step 128 = .ok (.aload_n 0, 1) := by decide +kernel
theorem dX10_step_129 : decode cX10_step 129 = .ok (.getfield 17, 3) := by decide +kernel
theorem dX10_step_132 : decode cX10_step 132 = .ok (.aload_n 0, 1) := by decide +kernel
theorem dX10_step_133 : decode cX10_step 133 = .ok (.getfield 13, 3) := by decide +kernel
theorem dX10_step_136 : decode cX10_step 136 = .ok (.if_icmp .ge 76, 3) := by decide +kernel
theorem dX10_step_139 : decode cX10_step 139 = .ok (.aload_n 0, 1) := by decide +kernel
theorem dX10_step_140 : decode cX10_step 140 = .ok (.aload_n 0, 1) := by decide +kernel
theorem dX10_step_141 : decode cX10_step 141 = .ok (.getfield 17, 3) := by decide +kernel
theorem dX10_step_144 : decode cX10_step 144 = .ok (.invokevirtual 26, 3) := by decide +kernel
theorem dX10_step_147 : decode cX10_step 147 = .ok (.invokestatic 46, 3) := by decide +kernel
theorem dX10_step_150 : decode cX10_step 150 = .ok (.ifCond .eq 62, 3) := by decide +kernel
theorem dX10_step_153 : decode cX10_step 153 = .ok (.aload_n 0, 1) := by decide +kernel
theorem dX10_step_154 : decode cX10_step 154 = .ok (.aload_n 0, 1) := by decide +kernel
theorem dX10_step_155 : decode cX10_step 155 = .ok (.getfield 34, 3) := by decide +kernel
theorem dX10_step_158 : decode cX10_step 158 = .ok (.bipush 10, 2) := by decide +kernel
theorem dX10_step_160 : decode cX10_step 160 = .ok (.imul, 1) := by decide +kernel
theorem dX10_step_161 : decode cX10_step 161 = .ok (.aload_n 0, 1) := by decide +kernel
theorem dX10_step_162 : decode cX10_step 162 = .ok (.aload_n 0, 1) := by decide +kernel
theorem dX10_step_163 : decode cX10_step 163 = .ok (.getfield 17, 3) := by decide +kernel
theorem dX10_step_166 : decode cX10_step 166 = .ok (.invokevirtual 26, 3) := by decide +kernel
theorem dX10_step_169 : decode cX10_step 169 = .ok (.iadd, 1) := by decide +kernel
theorem dX10_step_170 : decode cX10_step 170 = .ok (.bipush 48, 2) := by decide +kernel
theorem dX10_step_172 : decode cX10_step 172 = .ok (.isub, 1) := by decide +kernel
theorem dX10_step_173 : decode cX10_step 173 = .ok (.sipush 1000, 3) := by decide +kernel
theorem dX10_step_176 : decode cX10_step 176 = .ok (.invokestatic 49, 3) := by decide +kernel
theorem dX10_step_179 : decode cX10_step 179 = .ok (.putfield 34, 3) := by decide +kernel
theorem dX10_step_182 : decode cX10_step 182 = .ok (.aload_n 0, 1) := by decide +kernel
theorem dX10_step_183 : decode cX10_step 183 = .ok (.dup, 1) := by decide +kernel
theorem dX10_step_184 : decode cX10_step 184 = .ok (.getfield 17, 3) := by decide +kernel
theorem dX10_step_187 : decode cX10_step 187 = .ok (.iconst 1, 1) := by decide +kernel
theorem dX10_step_188 : decode cX10_step 188 = .ok (.iadd, 1) := by decide +kernel
theorem dX10_step_189 : decode cX10_step 189 = .ok (.putfield 17, 3) := by decide +kernel
theorem dX10_step_192 : decode cX10_step 192 = .ok (.goto (-64), 3) := by decide +kernel
theorem dX10_step_195 : decode cX10_step 195 = .ok (.aload_n 0, 1) := by decide +kernel
theorem dX10_step_196 : decode cX10_step 196 = .ok (.getfield 40, 3) := by decide +kernel
theorem dX10_step_199 : decode cX10_step 199 = .ok (.ifCond .eq 13, 3) := by decide +kernel
theorem dX10_step_202 : decode cX10_step 202 = .ok (.aload_n 0, 1) := by decide +kernel
theorem dX10_step_203 : decode cX10_step 203 = .ok (.dup, 1) := by decide +kernel
theorem dX10_step_204 : decode cX10_step 204 = .ok (.getfield 17, 3) := by decide +kernel
theorem dX10_step_207 : decode cX10_step 207 = .ok (.iconst 1, 1) := by decide +kernel
theorem dX10_step_208 : decode cX10_step 208 = .ok (.iadd, 1) := by decide +kernel
theorem dX10_step_209 : decode cX10_step 209 = .ok (.putfield 17, 3) := by decide +kernel
theorem dX10_step_212 : decode cX10_step 212 = .ok (.return_, 1) := by decide +kernel
theorem dX10_isWord_0 : decode cX10_isWord 0 = .ok (.aload_n 0, 1) := by decide +kernel
theorem dX10_isWord_1 : decode cX10_isWord 1 = .ok (.getfield 40, 3) := by decide +kernel
theorem dX10_isWord_4 : decode cX10_isWord 4 = .ok (.iconst 1, 1) := by decide +kernel
theorem dX10_isWord_5 : decode cX10_isWord 5 = .ok (.if_icmp .ne 19, 3) := by decide +kernel
theorem dX10_isWord_8 : decode cX10_isWord 8 = .ok (.aload_n 1, 1) := by decide +kernel
theorem dX10_isWord_9 : decode cX10_isWord 9 = .ok (.invokevirtual 55, 3) := by decide +kernel
theorem dX10_isWord_12 : decode cX10_isWord 12 = .ok (.aload_n 0, 1) := by decide +kernel
theorem dX10_isWord_13 : decode cX10_isWord 13 = .ok (.getfield 17, 3) := by decide +kernel
theorem dX10_isWord_16 : decode cX10_isWord 16 = .ok (.aload_n 0, 1) := by decide +kernel
theorem dX10_isWord_17 : decode cX10_isWord 17 = .ok (.getfield 23, 3) := by decide +kernel
theorem dX10_isWord_20 : decode cX10_isWord 20 = .ok (.isub, 1) := by decide +kernel
theorem dX10_isWord_21 : decode cX10_isWord 21 = .ok (.if_icmp .eq 5, 3) := by decide +kernel
theorem dX10_isWord_24 : decode cX10_isWord 24 = .ok (.iconst 0, 1) := by decide +kernel
theorem dX10_isWord_25 : decode cX10_isWord 25 = .ok (.ireturn, 1) := by decide +kernel
theorem dX10_isWord_26 : decode cX10_isWord 26 = .ok (.iconst 0, 1) := by decide +kernel
theorem dX10_isWord_27 : decode cX10_isWord 27 = .ok (.istore_n 2, 1) := by decide +kernel
theorem dX10_isWord_28 : decode cX10_isWord 28 = .ok (.iload_n 2, 1) := by decide +kernel
theorem dX10_isWord_29 : decode cX10_isWord 29 = .ok (.aload_n 1, 1) := by decide +kernel
theorem dX10_isWord_30 : decode cX10_isWord 30 = .ok (.invokevirtual 55, 3) := by decide +kernel
theorem dX10_isWord_33 : decode cX10_isWord 33 = .ok (.if_icmp .ge 29, 3) := by decide +kernel
theorem dX10_isWord_36 : decode cX10_isWord 36 = .ok (.aload_n 1, 1) := by decide +kernel
theorem dX10_isWord_37 : decode cX10_isWord 37 = .ok (.iload_n 2, 1) := by decide +kernel
theorem dX10_isWord_38 : decode cX10_isWord 38 = .ok (.invokevirtual 61, 3) := by decide +kernel
theorem dX10_isWord_41 : decode cX10_isWord 41 = .ok (.aload_n 0, 1) := by decide +kernel
theorem dX10_isWord_42 : decode cX10_isWord 42 = .ok (.aload_n 0, 1) := by decide +kernel
theorem dX10_isWord_43 : decode cX10_isWord 43 = .ok (.getfield 23, 3) := by decide +kernel
theorem dX10_isWord_46 : decode cX10_isWord 46 = .ok (.iload_n 2, 1) := by decide +kernel
theorem dX10_isWord_47 : decode cX10_isWord 47 = .ok (.iadd, 1) := by decide +kernel
theorem dX10_isWord_48 : decode cX10_isWord 48 = .ok (.invokevirtual 26, 3) := by decide +kernel
theorem dX10_isWord_51 : decode cX10_isWord 51 = .ok (.if_icmp .eq 5, 3) := by decide +kernel
theorem dX10_isWord_54 : decode cX10_isWord 54 = .ok (.iconst 0, 1) := by decide +kernel
theorem dX10_isWord_55 : decode cX10_isWord 55 = .ok (.ireturn, 1) := by decide +kernel
theorem dX10_isWord_56 : decode cX10_isWord 56 = .ok (.iinc 2 1, 3) := by decide +kernel
theorem dX10_isWord_59 : decode cX10_isWord 59 = .ok (.goto (-31), 3) := by decide +kernel
theorem dX10_isWord_62 : decode cX10_isWord 62 = .ok (.iconst 1, 1) := by decide +kernel
theorem dX10_isWord_63 : decode cX10_isWord 63 = .ok (.ireturn, 1) := by decide +kernel
theorem dX10_byteAt_0 : decode cX10_byteAt 0 = .ok (.iload_n 1, 1) := by decide +kernel
theorem dX10_byteAt_1 : decode cX10_byteAt 1 = .ok (.ifCond .lt 35, 3) := by decide +kernel
theorem dX10_byteAt_4 : decode cX10_byteAt 4 = .ok (.iload_n 1, 1) := by decide +kernel
theorem dX10_byteAt_5 : decode cX10_byteAt 5 = .ok (.aload_n 0, 1) := by decide +kernel
theorem dX10_byteAt_6 : decode cX10_byteAt 6 = .ok (.getfield 13, 3) := by decide +kernel
theorem dX10_byteAt_9 : decode cX10_byteAt 9 = .ok (.if_icmp .ge 27, 3) := by decide +kernel
theorem dX10_byteAt_12 : decode cX10_byteAt 12 = .ok (.iload_n 1, 1) := by decide +kernel
theorem dX10_byteAt_13 : decode cX10_byteAt 13 = .ok (.aload_n 0, 1) := by decide +kernel
theorem dX10_byteAt_14 : decode cX10_byteAt 14 = .ok (.getfield 7, 3) := by decide +kernel
theorem dX10_byteAt_17 : decode cX10_byteAt 17 = .ok (.getfield 65, 3) := by decide +kernel
theorem dX10_byteAt_20 : decode cX10_byteAt 20 = .ok (.arraylength, 1) := by decide +kernel
theorem dX10_byteAt_21 : decode cX10_byteAt 21 = .ok (.if_icmp .ge 15, 3) := by decide +kernel
theorem dX10_byteAt_24 : decode cX10_byteAt 24 = .ok (.aload_n 0, 1) := by decide +kernel
theorem dX10_byteAt_25 : decode cX10_byteAt 25 = .ok (.getfield 7, 3) := by decide +kernel
theorem dX10_byteAt_28 : decode cX10_byteAt 28 = .ok (.getfield 65, 3) := by decide +kernel
theorem dX10_byteAt_31 : decode cX10_byteAt 31 = .ok (.iload_n 1, 1) := by decide +kernel
theorem dX10_byteAt_32 : decode cX10_byteAt 32 = .ok (.iaload, 1) := by decide +kernel
theorem dX10_byteAt_33 : decode cX10_byteAt 33 = .ok (.goto 4, 3) := by decide +kernel
theorem dX10_byteAt_36 : decode cX10_byteAt 36 = .ok (.iconst (-1), 1) := by decide +kernel
theorem dX10_byteAt_37 : decode cX10_byteAt 37 = .ok (.ireturn, 1) := by decide +kernel
theorem dX10_kindOf_0 : decode cX10_kindOf 0 = .ok (.iload_n 0, 1) := by decide +kernel
theorem dX10_kindOf_1 : decode cX10_kindOf 1 = .ok (.invokestatic 43, 3) := by decide +kernel
theorem dX10_kindOf_4 : decode cX10_kindOf 4 = .ok (.ifCond .eq 5, 3) := by decide +kernel
theorem dX10_kindOf_7 : decode cX10_kindOf 7 = .ok (.iconst 1, 1) := by decide +kernel
theorem dX10_kindOf_8 : decode cX10_kindOf 8 = .ok (.ireturn, 1) := by decide +kernel
theorem dX10_kindOf_9 : decode cX10_kindOf 9 = .ok (.iload_n 0, 1) := by decide +kernel
theorem dX10_kindOf_10 : decode cX10_kindOf 10 = .ok (.invokestatic 46, 3) := by decide +kernel
theorem dX10_kindOf_13 : decode cX10_kindOf 13 = .ok (.ifCond .eq 5, 3) := by decide +kernel
theorem dX10_kindOf_16 : decode cX10_kindOf 16 = .ok (.iconst 2, 1) := by decide +kernel
theorem dX10_kindOf_17 : decode cX10_kindOf 17 = .ok (.ireturn, 1) := by decide +kernel
theorem dX10_kindOf_18 : decode cX10_kindOf 18 = .ok (.iload_n 0, 1) := by decide +kernel
theorem dX10_kindOf_19 : decode cX10_kindOf 19 = .ok (.lookupswitch 49 #[(-1, 41), (40, 45), (41, 47), (59, 43)], 41) := by decide +kernel
theorem dX10_kindOf_60 : decode cX10_kindOf 60 = .ok (.iconst 0, 1) := by decide +kernel
theorem dX10_kindOf_61 : decode cX10_kindOf 61 = .ok (.ireturn, 1) := by decide +kernel
theorem dX10_kindOf_62 : decode cX10_kindOf 62 = .ok (.iconst 3, 1) := by decide +kernel
theorem dX10_kindOf_63 : decode cX10_kindOf 63 = .ok (.ireturn, 1) := by decide +kernel
theorem dX10_kindOf_64 : decode cX10_kindOf 64 = .ok (.iconst 4, 1) := by decide +kernel
theorem dX10_kindOf_65 : decode cX10_kindOf 65 = .ok (.ireturn, 1) := by decide +kernel
theorem dX10_kindOf_66 : decode cX10_kindOf 66 = .ok (.iconst 5, 1) := by decide +kernel
theorem dX10_kindOf_67 : decode cX10_kindOf 67 = .ok (.ireturn, 1) := by decide +kernel
theorem dX10_kindOf_68 : decode cX10_kindOf 68 = .ok (.bipush 6, 2) := by decide +kernel
theorem dX10_kindOf_70 : decode cX10_kindOf 70 = .ok (.ireturn, 1) := by decide +kernel
theorem dX10_isSeparator_0 : decode cX10_isSeparator 0 = .ok (.iload_n 0, 1) := by decide +kernel
theorem dX10_isSeparator_1 : decode cX10_isSeparator 1 = .ok (.bipush 32, 2) := by decide +kernel
theorem dX10_isSeparator_3 : decode cX10_isSeparator 3 = .ok (.if_icmp .eq 9, 3) := by decide +kernel
theorem dX10_isSeparator_6 : decode cX10_isSeparator 6 = .ok (.iload_n 0, 1) := by decide +kernel
theorem dX10_isSeparator_7 : decode cX10_isSeparator 7 = .ok (.bipush 10, 2) := by decide +kernel
theorem dX10_isSeparator_9 : decode cX10_isSeparator 9 = .ok (.if_icmp .ne 7, 3) := by decide +kernel
theorem dX10_isSeparator_12 : decode cX10_isSeparator 12 = .ok (.iconst 1, 1) := by decide +kernel
theorem dX10_isSeparator_13 : decode cX10_isSeparator 13 = .ok (.goto 4, 3) := by decide +kernel
theorem dX10_isSeparator_16 : decode cX10_isSeparator 16 = .ok (.iconst 0, 1) := by decide +kernel
theorem dX10_isSeparator_17 : decode cX10_isSeparator 17 = .ok (.ireturn, 1) := by decide +kernel
theorem dX10_isLetter_0 : decode cX10_isLetter 0 = .ok (.iload_n 0, 1) := by decide +kernel
theorem dX10_isLetter_1 : decode cX10_isLetter 1 = .ok (.bipush 97, 2) := by decide +kernel
theorem dX10_isLetter_3 : decode cX10_isLetter 3 = .ok (.if_icmp .lt 13, 3) := by decide +kernel
theorem dX10_isLetter_6 : decode cX10_isLetter 6 = .ok (.iload_n 0, 1) := by decide +kernel
theorem dX10_isLetter_7 : decode cX10_isLetter 7 = .ok (.bipush 122, 2) := by decide +kernel
theorem dX10_isLetter_9 : decode cX10_isLetter 9 = .ok (.if_icmp .gt 7, 3) := by decide +kernel
theorem dX10_isLetter_12 : decode cX10_isLetter 12 = .ok (.iconst 1, 1) := by decide +kernel
theorem dX10_isLetter_13 : decode cX10_isLetter 13 = .ok (.goto 4, 3) := by decide +kernel
theorem dX10_isLetter_16 : decode cX10_isLetter 16 = .ok (.iconst 0, 1) := by decide +kernel
theorem dX10_isLetter_17 : decode cX10_isLetter 17 = .ok (.ireturn, 1) := by decide +kernel
theorem dX10_isDigit_0 : decode cX10_isDigit 0 = .ok (.iload_n 0, 1) := by decide +kernel
theorem dX10_isDigit_1 : decode cX10_isDigit 1 = .ok (.bipush 48, 2) := by decide +kernel
theorem dX10_isDigit_3 : decode cX10_isDigit 3 = .ok (.if_icmp .lt 13, 3) := by decide +kernel
theorem dX10_isDigit_6 : decode cX10_isDigit 6 = .ok (.iload_n 0, 1) := by decide +kernel
theorem dX10_isDigit_7 : decode cX10_isDigit 7 = .ok (.bipush 57, 2) := by decide +kernel
theorem dX10_isDigit_9 : decode cX10_isDigit 9 = .ok (.if_icmp .gt 7, 3) := by decide +kernel
theorem dX10_isDigit_12 : decode cX10_isDigit 12 = .ok (.iconst 1, 1) := by decide +kernel
theorem dX10_isDigit_13 : decode cX10_isDigit 13 = .ok (.goto 4, 3) := by decide +kernel
theorem dX10_isDigit_16 : decode cX10_isDigit 16 = .ok (.iconst 0, 1) := by decide +kernel
theorem dX10_isDigit_17 : decode cX10_isDigit 17 = .ok (.ireturn, 1) := by decide +kernel
theorem dX11_init_0 : decode cX11_init 0 = .ok (.aload_n 0, 1) := by decide +kernel
theorem dX11_init_1 : decode cX11_init 1 = .ok (.invokespecial 3, 3) := by decide +kernel
theorem dX11_init_4 : decode cX11_init 4 = .ok (.return_, 1) := by decide +kernel
theorem dX11_receive_0 : decode cX11_receive 0 = .ok (.iload_n 1, 1) := by decide +kernel
theorem dX11_receive_1 : decode cX11_receive 1 = .ok (.aload_n 0, 1) := by decide +kernel
theorem dX11_receive_2 : decode cX11_receive 2 = .ok (.getfield 9, 3) := by decide +kernel
theorem dX11_receive_5 : decode cX11_receive 5 = .ok (.invokestatic 15, 3) := by decide +kernel
theorem dX11_receive_8 : decode cX11_receive 8 = .ok (.ifCond .ne 5, 3) := by decide +kernel
theorem dX11_receive_11 : decode cX11_receive 11 = .ok (.iconst 0, 1) := by decide +kernel
theorem dX11_receive_12 : decode cX11_receive 12 = .ok (.ireturn, 1) := by decide +kernel
theorem dX11_receive_13 : decode cX11_receive 13 = .ok (.iload_n 2, 1) := by decide +kernel
theorem dX11_receive_14 : decode cX11_receive 14 = .ok (.ifCond .eq 15, 3) := by decide +kernel
theorem dX11_receive_17 : decode cX11_receive 17 = .ok (.aload_n 0, 1) := by decide +kernel
theorem dX11_receive_18 : decode cX11_receive 18 = .ok (.dup, 1) := by decide +kernel
theorem dX11_receive_19 : decode cX11_receive 19 = .ok (.getfield 21, 3) := by decide +kernel
theorem dX11_receive_22 : decode cX11_receive 22 = .ok (.iconst 1, 1) := by decide +kernel
theorem dX11_receive_23 : decode cX11_receive 23 = .ok (.iadd, 1) := by decide +kernel
theorem dX11_receive_24 : decode cX11_receive 24 = .ok (.putfield 21, 3) := by decide +kernel
theorem dX11_receive_27 : decode cX11_receive 27 = .ok (.iconst 0, 1) := by decide +kernel
theorem dX11_receive_28 : decode cX11_receive 28 = .ok (.ireturn, 1) := by decide +kernel
theorem dX11_receive_29 : decode cX11_receive 29 = .ok (.iload_n 1, 1) := by decide +kernel
theorem dX11_receive_30 : decode cX11_receive 30 = .ok (.invokestatic 24, 3) := by decide +kernel
theorem dX11_receive_33 : decode cX11_receive 33 = .ok (.ifCond .ne 15, 3) := by decide +kernel
theorem dX11_receive_36 : decode cX11_receive 36 = .ok (.aload_n 0, 1) := by decide +kernel
theorem dX11_receive_37 : decode cX11_receive 37 = .ok (.dup, 1) := by decide +kernel
theorem dX11_receive_38 : decode cX11_receive 38 = .ok (.getfield 28, 3) := by decide +kernel
theorem dX11_receive_41 : decode cX11_receive 41 = .ok (.iconst 1, 1) := by decide +kernel
theorem dX11_receive_42 : decode cX11_receive 42 = .ok (.iadd, 1) := by decide +kernel
theorem dX11_receive_43 : decode cX11_receive 43 = .ok (.putfield 28, 3) := by decide +kernel
theorem dX11_receive_46 : decode cX11_receive 46 = .ok (.iconst 0, 1) := by decide +kernel
theorem dX11_receive_47 : decode cX11_receive 47 = .ok (.ireturn, 1) := by decide +kernel
theorem dX11_receive_48 : decode cX11_receive 48 = .ok (.aload_n 0, 1) := by decide +kernel
theorem dX11_receive_49 : decode cX11_receive 49 = .ok (.dup, 1) := by decide +kernel
theorem dX11_receive_50 : decode cX11_receive 50 = .ok (.getfield 31, 3) := by decide +kernel
theorem dX11_receive_53 : decode cX11_receive 53 = .ok (.iconst 1, 1) := by decide +kernel
theorem dX11_receive_54 : decode cX11_receive 54 = .ok (.iadd, 1) := by decide +kernel
theorem dX11_receive_55 : decode cX11_receive 55 = .ok (.putfield 31, 3) := by decide +kernel
theorem dX11_receive_58 : decode cX11_receive 58 = .ok (.aload_n 0, 1) := by decide +kernel
theorem dX11_receive_59 : decode cX11_receive 59 = .ok (.iload_n 1, 1) := by decide +kernel
theorem dX11_receive_60 : decode cX11_receive 60 = .ok (.invokestatic 34, 3) := by decide +kernel
theorem dX11_receive_63 : decode cX11_receive 63 = .ok (.invokevirtual 38, 3) := by decide +kernel
theorem dX11_receive_66 : decode cX11_receive 66 = .ok (.iconst 1, 1) := by decide +kernel
theorem dX11_receive_67 : decode cX11_receive 67 = .ok (.ireturn, 1) := by decide +kernel
theorem dX11_obey_0 : decode cX11_obey 0 = .ok (.iload_n 1, 1) := by decide +kernel
theorem dX11_obey_1 : decode cX11_obey 1 = .ok (.bipush 6, 2) := by decide +kernel
theorem dX11_obey_3 : decode cX11_obey 3 = .ok (.ishr, 1) := by decide +kernel
theorem dX11_obey_4 : decode cX11_obey 4 = .ok (.istore_n 2, 1) := by decide +kernel
theorem dX11_obey_5 : decode cX11_obey 5 = .ok (.iload_n 1, 1) := by decide +kernel
theorem dX11_obey_6 : decode cX11_obey 6 = .ok (.bipush 63, 2) := by decide +kernel
theorem dX11_obey_8 : decode cX11_obey 8 = .ok (.iand, 1) := by decide +kernel
theorem dX11_obey_9 : decode cX11_obey 9 = .ok (.istore_n 3, 1) := by decide +kernel
theorem dX11_obey_10 : decode cX11_obey 10 = .ok (.iload_n 2, 1) := by decide +kernel
theorem dX11_obey_11 : decode cX11_obey 11 = .ok (.ifCond .ne 22, 3) := by decide +kernel
theorem dX11_obey_14 : decode cX11_obey 14 = .ok (.aload_n 0, 1) := by decide +kernel
theorem dX11_obey_15 : decode cX11_obey 15 = .ok (.iload_n 3, 1) := by decide +kernel
theorem dX11_obey_16 : decode cX11_obey 16 = .ok (.bipush 28, 2) := by decide +kernel
theorem dX11_obey_18 : decode cX11_obey 18 = .ok (.if_icmp .ge 7, 3) := by decide +kernel
theorem dX11_obey_21 : decode cX11_obey 21 = .ok (.iload_n 3, 1) := by decide +kernel
theorem dX11_obey_22 : decode cX11_obey 22 = .ok (.goto 5, 3) := by decide +kernel
theorem dX11_obey_25 : decode cX11_obey 25 = .ok (.bipush 28, 2) := by decide +kernel
theorem dX11_obey_27 : decode cX11_obey 27 = .ok (.putfield 42, 3) := by decide +kernel
theorem dX11_obey_30 : decode cX11_obey 30 = .ok (.goto 34, 3) := by decide +kernel
theorem dX11_obey_33 : decode cX11_obey 33 = .ok (.iload_n 2, 1) := by decide +kernel
theorem dX11_obey_34 : decode cX11_obey 34 = .ok (.iconst 1, 1) := by decide +kernel
theorem dX11_obey_35 : decode cX11_obey 35 = .ok (.if_icmp .ne 14, 3) := by decide +kernel
theorem dX11_obey_38 : decode cX11_obey 38 = .ok (.aload_n 0, 1) := by decide +kernel
theorem dX11_obey_39 : decode cX11_obey 39 = .ok (.iload_n 3, 1) := by decide +kernel
theorem dX11_obey_40 : decode cX11_obey 40 = .ok (.bipush 16, 2) := by decide +kernel
theorem dX11_obey_42 : decode cX11_obey 42 = .ok (.irem, 1) := by decide +kernel
theorem dX11_obey_43 : decode cX11_obey 43 = .ok (.putfield 45, 3) := by decide +kernel
theorem dX11_obey_46 : decode cX11_obey 46 = .ok (.goto 18, 3) := by decide +kernel
theorem dX11_obey_49 : decode cX11_obey 49 = .ok (.iload_n 2, 1) := by decide +kernel
theorem dX11_obey_50 : decode cX11_obey 50 = .ok (.iconst 2, 1) := by decide +kernel
theorem dX11_obey_51 : decode cX11_obey 51 = .ok (.if_icmp .ne 13, 3) := by decide +kernel
theorem dX11_obey_54 : decode cX11_obey 54 = .ok (.aload_n 0, 1) := by decide +kernel
theorem dX11_obey_55 : decode cX11_obey 55 = .ok (.iconst 0, 1) := by decide +kernel
theorem dX11_obey_56 : decode cX11_obey 56 = .ok (.putfield 48, 3) := by decide +kernel
theorem dX11_obey_59 : decode cX11_obey 59 = .ok (.aload_n 0, 1) := by decide +kernel
theorem dX11_obey_60 : decode cX11_obey 60 = .ok (.iconst 0, 1) := by decide +kernel
theorem dX11_obey_61 : decode cX11_obey 61 = .ok (.putfield 42, 3) := by decide +kernel
theorem dX11_obey_64 : decode cX11_obey 64 = .ok (.return_, 1) := by decide +kernel
theorem dX11_countSilence_0 : decode cX11_countSilence 0 = .ok (.iload_n 1, 1) := by decide +kernel
theorem dX11_countSilence_1 : decode cX11_countSilence 1 = .ok (.ifCond .eq 9, 3) := by decide +kernel
theorem dX11_countSilence_4 : decode cX11_countSilence 4 = .ok (.aload_n 0, 1) := by decide +kernel
theorem dX11_countSilence_5 : decode cX11_countSilence 5 = .ok (.iconst 0, 1) := by decide +kernel
theorem dX11_countSilence_6 : decode cX11_countSilence 6 = .ok (.putfield 51, 3) := by decide +kernel
theorem dX11_countSilence_9 : decode cX11_countSilence 9 = .ok (.return_, 1) := by decide +kernel
theorem dX11_countSilence_10 : decode cX11_countSilence 10 = .ok (.aload_n 0, 1) := by decide +kernel
theorem dX11_countSilence_11 : decode cX11_countSilence 11 = .ok (.dup, 1) := by decide +kernel
theorem dX11_countSilence_12 : decode cX11_countSilence 12 = .ok (.getfield 51, 3) := by decide +kernel
theorem dX11_countSilence_15 : decode cX11_countSilence 15 = .ok (.iconst 1, 1) := by decide +kernel
theorem dX11_countSilence_16 : decode cX11_countSilence 16 = .ok (.iadd, 1) := by decide +kernel
theorem dX11_countSilence_17 : decode cX11_countSilence 17 = .ok (.putfield 51, 3) := by decide +kernel
theorem dX11_countSilence_20 : decode cX11_countSilence 20 = .ok (.aload_n 0, 1) := by decide +kernel
theorem dX11_countSilence_21 : decode cX11_countSilence 21 = .ok (.getfield 51, 3) := by decide +kernel
theorem dX11_countSilence_24 : decode cX11_countSilence 24 = .ok (.bipush 40, 2) := by decide +kernel
theorem dX11_countSilence_26 : decode cX11_countSilence 26 = .ok (.if_icmp .lt 8, 3) := by decide +kernel
theorem dX11_countSilence_29 : decode cX11_countSilence 29 = .ok (.aload_n 0, 1) := by decide +kernel
theorem dX11_countSilence_30 : decode cX11_countSilence 30 = .ok (.iconst 0, 1) := by decide +kernel
theorem dX11_countSilence_31 : decode cX11_countSilence 31 = .ok (.putfield 42, 3) := by decide +kernel
theorem dX11_countSilence_34 : decode cX11_countSilence 34 = .ok (.return_, 1) := by decide +kernel
theorem dX11_changeSpeed_0 : decode cX11_changeSpeed 0 = .ok (.iload_n 1, 1) := by decide +kernel
theorem dX11_changeSpeed_1 : decode cX11_changeSpeed 1 = .ok (.ifCond .ne 20, 3) := by decide +kernel
theorem dX11_changeSpeed_4 : decode cX11_changeSpeed 4 = .ok (.aload_n 0, 1) := by decide +kernel
theorem dX11_changeSpeed_5 : decode cX11_changeSpeed 5 = .ok (.aload_n 0, 1) := by decide +kernel
theorem dX11_changeSpeed_6 : decode cX11_changeSpeed 6 = .ok (.getfield 48, 3) := by decide +kernel
theorem dX11_changeSpeed_9 : decode cX11_changeSpeed 9 = .ok (.iconst 5, 1) := by decide +kernel
theorem dX11_changeSpeed_10 : decode cX11_changeSpeed 10 = .ok (.isub, 1) := by decide +kernel
theorem dX11_changeSpeed_11 : decode cX11_changeSpeed 11 = .ok (.iconst 0, 1) := by decide +kernel
theorem dX11_changeSpeed_12 : decode cX11_changeSpeed 12 = .ok (.invokestatic 54, 3) := by decide +kernel
theorem dX11_changeSpeed_15 : decode cX11_changeSpeed 15 = .ok (.putfield 48, 3) := by decide +kernel
theorem dX11_changeSpeed_18 : decode cX11_changeSpeed 18 = .ok (.goto 67, 3) := by decide +kernel
theorem dX11_changeSpeed_21 : decode cX11_changeSpeed 21 = .ok (.aload_n 0, 1) := by decide +kernel
theorem dX11_changeSpeed_22 : decode cX11_changeSpeed 22 = .ok (.getfield 48, 3) := by decide +kernel
theorem dX11_changeSpeed_25 : decode cX11_changeSpeed 25 = .ok (.aload_n 0, 1) := by decide +kernel
theorem dX11_changeSpeed_26 : decode cX11_changeSpeed 26 = .ok (.getfield 42, 3) := by decide +kernel
theorem dX11_changeSpeed_29 : decode cX11_changeSpeed 29 = .ok (.if_icmp .ge 26, 3) := by decide +kernel
theorem dX11_changeSpeed_32 : decode cX11_changeSpeed 32 = .ok (.aload_n 0, 1) := by decide +kernel
theorem dX11_changeSpeed_33 : decode cX11_changeSpeed 33 = .ok (.aload_n 0, 1) := by decide +kernel
theorem dX11_changeSpeed_34 : decode cX11_changeSpeed 34 = .ok (.getfield 48, 3) := by decide +kernel
theorem dX11_changeSpeed_37 : decode cX11_changeSpeed 37 = .ok (.aload_n 0, 1) := by decide +kernel
theorem dX11_changeSpeed_38 : decode cX11_changeSpeed 38 = .ok (.getfield 60, 3) := by decide +kernel
theorem dX11_changeSpeed_41 : decode cX11_changeSpeed 41 = .ok (.iadd, 1) := by decide +kernel
theorem dX11_changeSpeed_42 : decode cX11_changeSpeed 42 = .ok (.aload_n 0, 1) := by decide +kernel
theorem dX11_changeSpeed_43 : decode cX11_changeSpeed 43 = .ok (.getfield 42, 3) := by decide +kernel
theorem dX11_changeSpeed_46 : decode cX11_changeSpeed 46 = .ok (.invokestatic 63, 3) := by decide +kernel
theorem dX11_changeSpeed_49 : decode cX11_changeSpeed 49 = .ok (.putfield 48, 3) := by decide +kernel
theorem dX11_changeSpeed_52 : decode cX11_changeSpeed 52 = .ok (.goto 33, 3) := by decide +kernel
theorem dX11_changeSpeed_55 : decode cX11_changeSpeed 55 = .ok (.aload_n 0, 1) := by decide +kernel
theorem dX11_changeSpeed_56 : decode cX11_changeSpeed 56 = .ok (.getfield 48, 3) := by decide +kernel
theorem dX11_changeSpeed_59 : decode cX11_changeSpeed 59 = .ok (.aload_n 0, 1) := by decide +kernel
theorem dX11_changeSpeed_60 : decode cX11_changeSpeed 60 = .ok (.getfield 42, 3) := by decide +kernel
theorem dX11_changeSpeed_63 : decode cX11_changeSpeed 63 = .ok (.if_icmp .le 22, 3) := by decide +kernel
theorem dX11_changeSpeed_66 : decode cX11_changeSpeed 66 = .ok (.aload_n 0, 1) := by decide +kernel
theorem dX11_changeSpeed_67 : decode cX11_changeSpeed 67 = .ok (.aload_n 0, 1) := by decide +kernel
theorem dX11_changeSpeed_68 : decode cX11_changeSpeed 68 = .ok (.aload_n 0, 1) := by decide +kernel
theorem dX11_changeSpeed_69 : decode cX11_changeSpeed 69 = .ok (.getfield 48, 3) := by decide +kernel
theorem dX11_changeSpeed_72 : decode cX11_changeSpeed 72 = .ok (.invokevirtual 66, 3) := by decide +kernel
theorem dX11_changeSpeed_75 : decode cX11_changeSpeed 75 = .ok (.aload_n 0, 1) := by decide +kernel
theorem dX11_changeSpeed_76 : decode cX11_changeSpeed 76 = .ok (.getfield 42, 3) := by decide +kernel
theorem dX11_changeSpeed_79 : decode cX11_changeSpeed 79 = .ok (.invokestatic 54, 3) := by decide +kernel
theorem dX11_changeSpeed_82 : decode cX11_changeSpeed 82 = .ok (.putfield 48, 3) := by decide +kernel
theorem dX11_changeSpeed_85 : decode cX11_changeSpeed 85 = .ok (.return_, 1) := by decide +kernel
theorem dX11_changeBrightness_0 : decode cX11_changeBrightness 0 = .ok (.iload_n 1, 1) := by decide +kernel
theorem dX11_changeBrightness_1 : decode cX11_changeBrightness 1 = .ok (.ifCond .ne 11, 3) := by decide +kernel
theorem dX11_changeBrightness_4 : decode cX11_changeBrightness 4 = .ok (.aload_n 0, 1) := by decide +kernel
theorem dX11_changeBrightness_5 : decode cX11_changeBrightness 5 = .ok (.iconst 0, 1) := by decide +kernel
theorem dX11_changeBrightness_6 : decode cX11_changeBrightness 6 = .ok (.putfield 69, 3) := by decide +kernel
theorem dX11_changeBrightness_9 : decode cX11_changeBrightness 9 = .ok (.goto 48, 3) := by decide +kernel
theorem dX11_changeBrightness_12 : decode cX11_changeBrightness 12 = .ok (.aload_n 0, 1) := by decide +kernel
theorem dX11_changeBrightness_13 : decode cX11_changeBrightness 13 = .ok (.getfield 69, 3) := by decide +kernel
theorem dX11_changeBrightness_16 : decode cX11_changeBrightness 16 = .ok (.aload_n 0, 1) := by decide +kernel
theorem dX11_changeBrightness_17 : decode cX11_changeBrightness 17 = .ok (.getfield 45, 3) := by decide +kernel
theorem dX11_changeBrightness_20 : decode cX11_changeBrightness 20 = .ok (.if_icmp .ge 16, 3) := by decide +kernel
theorem dX11_changeBrightness_23 : decode cX11_changeBrightness 23 = .ok (.aload_n 0, 1) := by decide +kernel
theorem dX11_changeBrightness_24 : decode cX11_changeBrightness 24 = .ok (.dup, 1) := by decide +kernel
theorem dX11_changeBrightness_25 : decode cX11_changeBrightness 25 = .ok (.getfield 69, 3) := by decide +kernel
theorem dX11_changeBrightness_28 : decode cX11_changeBrightness 28 = .ok (.iconst 1, 1) := by decide +kernel
theorem dX11_changeBrightness_29 : decode cX11_changeBrightness 29 = .ok (.iadd, 1) := by decide +kernel
theorem dX11_changeBrightness_30 : decode cX11_changeBrightness 30 = .ok (.putfield 69, 3) := by decide +kernel
theorem dX11_changeBrightness_33 : decode cX11_changeBrightness 33 = .ok (.goto 24, 3) := by decide +kernel
theorem dX11_changeBrightness_36 : decode cX11_changeBrightness 36 = .ok (.aload_n 0, 1) := by decide +kernel
theorem dX11_changeBrightness_37 : decode cX11_changeBrightness 37 = .ok (.getfield 69, 3) := by decide +kernel
theorem dX11_changeBrightness_40 : decode cX11_changeBrightness 40 = .ok (.aload_n 0, 1) := by decide +kernel
theorem dX11_changeBrightness_41 : decode cX11_changeBrightness 41 = .ok (.getfield 45, 3) := by decide +kernel
theorem dX11_changeBrightness_44 : decode cX11_changeBrightness 44 = .ok (.if_icmp .le 13, 3) := by decide +kernel
theorem dX11_changeBrightness_47 : decode cX11_changeBrightness 47 = .ok (.aload_n 0, 1) := by decide +kernel
theorem dX11_changeBrightness_48 : decode cX11_changeBrightness 48 = .ok (.dup, 1) := by decide +kernel
theorem dX11_changeBrightness_49 : decode cX11_changeBrightness 49 = .ok (.getfield 69, 3) := by decide +kernel
theorem dX11_changeBrightness_52 : decode cX11_changeBrightness 52 = .ok (.iconst 1, 1) := by decide +kernel
theorem dX11_changeBrightness_53 : decode cX11_changeBrightness 53 = .ok (.isub, 1) := by decide +kernel
theorem dX11_changeBrightness_54 : decode cX11_changeBrightness 54 = .ok (.putfield 69, 3) := by decide +kernel
theorem dX11_changeBrightness_57 : decode cX11_changeBrightness 57 = .ok (.return_, 1) := by decide +kernel
theorem dX11_isAtSectionEnd_0 : decode cX11_isAtSectionEnd 0 = .ok (.aload_n 0, 1) := by decide +kernel
theorem dX11_isAtSectionEnd_1 : decode cX11_isAtSectionEnd 1 = .ok (.getfield 72, 3) := by decide +kernel
theorem dX11_isAtSectionEnd_4 : decode cX11_isAtSectionEnd 4 = .ok (.bipush 100, 2) := by decide +kernel
theorem dX11_isAtSectionEnd_6 : decode cX11_isAtSectionEnd 6 = .ok (.if_icmp .lt 7, 3) := by decide +kernel
theorem dX11_isAtSectionEnd_9 : decode cX11_isAtSectionEnd 9 = .ok (.iconst 1, 1) := by decide +kernel
theorem dX11_isAtSectionEnd_10 : decode cX11_isAtSectionEnd 10 = .ok (.goto 4, 3) := by decide +kernel
theorem dX11_isAtSectionEnd_13 : decode cX11_isAtSectionEnd 13 = .ok (.iconst 0, 1) := by decide +kernel
theorem dX11_isAtSectionEnd_14 : decode cX11_isAtSectionEnd 14 = .ok (.ireturn, 1) := by decide +kernel
theorem dX11_enter_0 : decode cX11_enter 0 = .ok (.aload_n 0, 1) := by decide +kernel
theorem dX11_enter_1 : decode cX11_enter 1 = .ok (.iload_n 1, 1) := by decide +kernel
theorem dX11_enter_2 : decode cX11_enter 2 = .ok (.putfield 75, 3) := by decide +kernel
theorem dX11_enter_5 : decode cX11_enter 5 = .ok (.aload_n 0, 1) := by decide +kernel
theorem dX11_enter_6 : decode cX11_enter 6 = .ok (.dup, 1) := by decide +kernel
theorem dX11_enter_7 : decode cX11_enter 7 = .ok (.getfield 72, 3) := by decide +kernel
theorem dX11_enter_10 : decode cX11_enter 10 = .ok (.bipush 100, 2) := by decide +kernel
theorem dX11_enter_12 : decode cX11_enter 12 = .ok (.isub, 1) := by decide +kernel
theorem dX11_enter_13 : decode cX11_enter 13 = .ok (.putfield 72, 3) := by decide +kernel
theorem dX11_enter_16 : decode cX11_enter 16 = .ok (.aload_n 0, 1) := by decide +kernel
theorem dX11_enter_17 : decode cX11_enter 17 = .ok (.dup, 1) := by decide +kernel
theorem dX11_enter_18 : decode cX11_enter 18 = .ok (.getfield 78, 3) := by decide +kernel
theorem dX11_enter_21 : decode cX11_enter 21 = .ok (.iconst 1, 1) := by decide +kernel
theorem dX11_enter_22 : decode cX11_enter 22 = .ok (.iadd, 1) := by decide +kernel
theorem dX11_enter_23 : decode cX11_enter 23 = .ok (.putfield 78, 3) := by decide +kernel
theorem dX11_enter_26 : decode cX11_enter 26 = .ok (.return_, 1) := by decide +kernel
theorem dX11_block_0 : decode cX11_block 0 = .ok (.aload_n 0, 1) := by decide +kernel
theorem dX11_block_1 : decode cX11_block 1 = .ok (.bipush 99, 2) := by decide +kernel
theorem dX11_block_3 : decode cX11_block 3 = .ok (.putfield 72, 3) := by decide +kernel
theorem dX11_block_6 : decode cX11_block 6 = .ok (.aload_n 0, 1) := by decide +kernel
theorem dX11_block_7 : decode cX11_block 7 = .ok (.iconst 0, 1) := by decide +kernel
theorem dX11_block_8 : decode cX11_block 8 = .ok (.putfield 48, 3) := by decide +kernel
theorem dX11_block_11 : decode cX11_block 11 = .ok (.aload_n 0, 1) := by decide +kernel
theorem dX11_block_12 : decode cX11_block 12 = .ok (.dup, 1) := by decide +kernel
theorem dX11_block_13 : decode cX11_block 13 = .ok (.getfield 81, 3) := by decide +kernel
theorem dX11_block_16 : decode cX11_block 16 = .ok (.iconst 1, 1) := by decide +kernel
theorem dX11_block_17 : decode cX11_block 17 = .ok (.iadd, 1) := by decide +kernel
theorem dX11_block_18 : decode cX11_block 18 = .ok (.putfield 81, 3) := by decide +kernel
theorem dX11_block_21 : decode cX11_block 21 = .ok (.return_, 1) := by decide +kernel
theorem dX11_afterBraking_0 : decode cX11_afterBraking 0 = .ok (.aload_n 0, 1) := by decide +kernel
theorem dX11_afterBraking_1 : decode cX11_afterBraking 1 = .ok (.getfield 84, 3) := by decide +kernel
theorem dX11_afterBraking_4 : decode cX11_afterBraking 4 = .ok (.iconst 1, 1) := by decide +kernel
theorem dX11_afterBraking_5 : decode cX11_afterBraking 5 = .ok (.if_icmp .ge 7, 3) := by decide +kernel
theorem dX11_afterBraking_8 : decode cX11_afterBraking 8 = .ok (.iconst 0, 1) := by decide +kernel
theorem dX11_afterBraking_9 : decode cX11_afterBraking 9 = .ok (.goto 9, 3) := by decide +kernel
theorem dX11_afterBraking_12 : decode cX11_afterBraking 12 = .ok (.iload_n 1, 1) := by decide +kernel
theorem dX11_afterBraking_13 : decode cX11_afterBraking 13 = .ok (.aload_n 0, 1) := by decide +kernel
theorem dX11_afterBraking_14 : decode cX11_afterBraking 14 = .ok (.getfield 84, 3) := by decide +kernel
theorem dX11_afterBraking_17 : decode cX11_afterBraking 17 = .ok (.idiv, 1) := by decide +kernel
theorem dX11_afterBraking_18 : decode cX11_afterBraking 18 = .ok (.istore_n 2, 1) := by decide +kernel
theorem dX11_afterBraking_19 : decode cX11_afterBraking 19 = .ok (.iload_n 2, 1) := by decide +kernel
theorem dX11_afterBraking_20 : decode cX11_afterBraking 20 = .ok (.iconst 1, 1) := by decide +kernel
theorem dX11_afterBraking_21 : decode cX11_afterBraking 21 = .ok (.if_icmp .ge 9, 3) := by decide +kernel
theorem dX11_afterBraking_24 : decode cX11_afterBraking 24 = .ok (.iload_n 1, 1) := by decide +kernel
theorem dX11_afterBraking_25 : decode cX11_afterBraking 25 = .ok (.iconst 1, 1) := by decide +kernel
theorem dX11_afterBraking_26 : decode cX11_afterBraking 26 = .ok (.isub, 1) := by decide +kernel
theorem dX11_afterBraking_27 : decode cX11_afterBraking 27 = .ok (.goto 6, 3) := by decide +kernel
theorem dX11_afterBraking_30 : decode cX11_afterBraking 30 = .ok (.iload_n 1, 1) := by decide +kernel
theorem dX11_afterBraking_31 : decode cX11_afterBraking 31 = .ok (.iload_n 2, 1) := by decide +kernel
theorem dX11_afterBraking_32 : decode cX11_afterBraking 32 = .ok (.isub, 1) := by decide +kernel
theorem dX11_afterBraking_33 : decode cX11_afterBraking 33 = .ok (.ireturn, 1) := by decide +kernel
theorem dX11_decreasesToStop_0 : decode cX11_decreasesToStop 0 = .ok (.iconst 0, 1) := by decide +kernel
theorem dX11_decreasesToStop_1 : decode cX11_decreasesToStop 1 = .ok (.istore_n 1, 1) := by decide +kernel
theorem dX11_decreasesToStop_2 : decode cX11_decreasesToStop 2 = .ok (.aload_n 0, 1) := by decide +kernel
theorem dX11_decreasesToStop_3 : decode cX11_decreasesToStop 3 = .ok (.getfield 48, 3) := by decide +kernel
theorem dX11_decreasesToStop_6 : decode cX11_decreasesToStop 6 = .ok (.istore_n 2, 1) := by decide +kernel
theorem dX11_decreasesToStop_7 : decode cX11_decreasesToStop 7 = .ok (.iload_n 2, 1) := by decide +kernel
theorem dX11_decreasesToStop_8 : decode cX11_decreasesToStop 8 = .ok (.ifCond .le 21, 3) := by decide +kernel
theorem dX11_decreasesToStop_11 : decode cX11_decreasesToStop 11 = .ok (.iload_n 1, 1) := by decide +kernel
theorem dX11_decreasesToStop_12 : decode cX11_decreasesToStop 12 = .ok (.bipush 28, 2) := by decide +kernel
theorem dX11_decreasesToStop_14 : decode cX11_decreasesToStop 14 = .ok (.if_icmp .ge 15, 3) := by decide +kernel
theorem dX11_decreasesToStop_17 : decode cX11_decreasesToStop 17 = .ok (.iinc 1 1, 3) := by decide +kernel
theorem dX11_decreasesToStop_20 : decode cX11_decreasesToStop 20 = .ok (.aload_n 0, 1) := by decide +kernel
theorem dX11_decreasesToStop_21 : decode cX11_decreasesToStop 21 = .ok (.iload_n 2, 1) := by decide +kernel
theorem dX11_decreasesToStop_22 : decode cX11_decreasesToStop 22 = .ok (.invokevirtual 66, 3) := by decide +kernel
theorem dX11_decreasesToStop_25 : decode cX11_decreasesToStop 25 = .ok (.istore_n 2, 1) := by decide +kernel
theorem dX11_decreasesToStop_26 : decode cX11_decreasesToStop 26 = .ok (.goto (-19), 3) := by decide +kernel
theorem dX11_decreasesToStop_29 : decode cX11_decreasesToStop 29 = .ok (.iload_n 1, 1) := by decide +kernel
theorem dX11_decreasesToStop_30 : decode cX11_decreasesToStop 30 = .ok (.ireturn, 1) := by decide +kernel
theorem dX11_distanceToStop_0 : decode cX11_distanceToStop 0 = .ok (.iconst 0, 1) := by decide +kernel
theorem dX11_distanceToStop_1 : decode cX11_distanceToStop 1 = .ok (.istore_n 1, 1) := by decide +kernel
theorem dX11_distanceToStop_2 : decode cX11_distanceToStop 2 = .ok (.aload_n 0, 1) := by decide +kernel
theorem dX11_distanceToStop_3 : decode cX11_distanceToStop 3 = .ok (.getfield 48, 3) := by decide +kernel
theorem dX11_distanceToStop_6 : decode cX11_distanceToStop 6 = .ok (.istore_n 2, 1) := by decide +kernel
theorem dX11_distanceToStop_7 : decode cX11_distanceToStop 7 = .ok (.iconst 0, 1) := by decide +kernel
theorem dX11_distanceToStop_8 : decode cX11_distanceToStop 8 = .ok (.istore_n 3, 1) := by decide +kernel
theorem dX11_distanceToStop_9 : decode cX11_distanceToStop 9 = .ok (.iload_n 2, 1) := by decide +kernel
theorem dX11_distanceToStop_10 : decode cX11_distanceToStop 10 = .ok (.ifCond .le 25, 3) := by decide +kernel
theorem dX11_distanceToStop_13 : decode cX11_distanceToStop 13 = .ok (.iload_n 3, 1) := by decide +kernel
theorem dX11_distanceToStop_14 : decode cX11_distanceToStop 14 = .ok (.bipush 28, 2) := by decide +kernel
theorem dX11_distanceToStop_16 : decode cX11_distanceToStop 16 = .ok (.if_icmp .ge 19, 3) := by decide +kernel
theorem dX11_distanceToStop_19 : decode cX11_distanceToStop 19 = .ok (.aload_n 0, 1) := by decide +kernel
theorem dX11_distanceToStop_20 : decode cX11_distanceToStop 20 = .ok (.iload_n 2, 1) := by decide +kernel
theorem dX11_distanceToStop_21 : decode cX11_distanceToStop 21 = .ok (.invokevirtual 66, 3) := by decide +kernel
theorem dX11_distanceToStop_24 : decode cX11_distanceToStop 24 = .ok (.istore_n 2, 1) := by decide +kernel
theorem dX11_distanceToStop_25 : decode cX11_distanceToStop 25 = .ok (.iload_n 1, 1) := by decide +kernel
theorem dX11_distanceToStop_26 : decode cX11_distanceToStop 26 = .ok (.iload_n 2, 1) := by decide +kernel
theorem dX11_distanceToStop_27 : decode cX11_distanceToStop 27 = .ok (.iadd, 1) := by decide +kernel
theorem dX11_distanceToStop_28 : decode cX11_distanceToStop 28 = .ok (.istore_n 1, 1) := by decide +kernel
theorem dX11_distanceToStop_29 : decode cX11_distanceToStop 29 = .ok (.iinc 3 1, 3) := by decide +kernel
theorem dX11_distanceToStop_32 : decode cX11_distanceToStop 32 = .ok (.goto (-23), 3) := by decide +kernel
theorem dX11_distanceToStop_35 : decode cX11_distanceToStop 35 = .ok (.iload_n 1, 1) := by decide +kernel
theorem dX11_distanceToStop_36 : decode cX11_distanceToStop 36 = .ok (.ireturn, 1) := by decide +kernel
theorem dX11_received_0 : decode cX11_received 0 = .ok (.aload_n 0, 1) := by decide +kernel
theorem dX11_received_1 : decode cX11_received 1 = .ok (.getfield 31, 3) := by decide +kernel
theorem dX11_received_4 : decode cX11_received 4 = .ok (.aload_n 0, 1) := by decide +kernel
theorem dX11_received_5 : decode cX11_received 5 = .ok (.getfield 28, 3) := by decide +kernel
theorem dX11_received_8 : decode cX11_received 8 = .ok (.iadd, 1) := by decide +kernel
theorem dX11_received_9 : decode cX11_received 9 = .ok (.aload_n 0, 1) := by decide +kernel
theorem dX11_received_10 : decode cX11_received 10 = .ok (.getfield 21, 3) := by decide +kernel
theorem dX11_received_13 : decode cX11_received 13 = .ok (.iadd, 1) := by decide +kernel
theorem dX11_received_14 : decode cX11_received 14 = .ok (.ireturn, 1) := by decide +kernel
theorem dX11_copyFrom_0 : decode cX11_copyFrom 0 = .ok (.aload_n 0, 1) := by decide +kernel
theorem dX11_copyFrom_1 : decode cX11_copyFrom 1 = .ok (.aload_n 1, 1) := by decide +kernel
theorem dX11_copyFrom_2 : decode cX11_copyFrom 2 = .ok (.getfield 9, 3) := by decide +kernel
theorem dX11_copyFrom_5 : decode cX11_copyFrom 5 = .ok (.putfield 9, 3) := by decide +kernel
theorem dX11_copyFrom_8 : decode cX11_copyFrom 8 = .ok (.aload_n 0, 1) := by decide +kernel
theorem dX11_copyFrom_9 : decode cX11_copyFrom 9 = .ok (.aload_n 1, 1) := by decide +kernel
theorem dX11_copyFrom_10 : decode cX11_copyFrom 10 = .ok (.getfield 60, 3) := by decide +kernel
theorem dX11_copyFrom_13 : decode cX11_copyFrom 13 = .ok (.putfield 60, 3) := by decide +kernel
theorem dX11_copyFrom_16 : decode cX11_copyFrom 16 = .ok (.aload_n 0, 1) := by decide +kernel
theorem dX11_copyFrom_17 : decode cX11_copyFrom 17 = .ok (.aload_n 1, 1) := by decide +kernel
theorem dX11_copyFrom_18 : decode cX11_copyFrom 18 = .ok (.getfield 84, 3) := by decide +kernel
theorem dX11_copyFrom_21 : decode cX11_copyFrom 21 = .ok (.putfield 84, 3) := by decide +kernel
theorem dX11_copyFrom_24 : decode cX11_copyFrom 24 = .ok (.aload_n 0, 1) := by decide +kernel
theorem dX11_copyFrom_25 : decode cX11_copyFrom 25 = .ok (.aload_n 1, 1) := by decide +kernel
theorem dX11_copyFrom_26 : decode cX11_copyFrom 26 = .ok (.getfield 75, 3) := by decide +kernel
theorem dX11_copyFrom_29 : decode cX11_copyFrom 29 = .ok (.putfield 75, 3) := by decide +kernel
theorem dX11_copyFrom_32 : decode cX11_copyFrom 32 = .ok (.aload_n 0, 1) := by decide +kernel
theorem dX11_copyFrom_33 : decode cX11_copyFrom 33 = .ok (.aload_n 1, 1) := by decide +kernel
theorem dX11_copyFrom_34 : decode cX11_copyFrom 34 = .ok (.getfield 72, 3) := by decide +kernel
theorem dX11_copyFrom_37 : decode cX11_copyFrom 37 = .ok (.putfield 72, 3) := by decide +kernel
theorem dX11_copyFrom_40 : decode cX11_copyFrom 40 = .ok (.aload_n 0, 1) := by decide +kernel
theorem dX11_copyFrom_41 : decode cX11_copyFrom 41 = .ok (.aload_n 1, 1) := by decide +kernel
theorem dX11_copyFrom_42 : decode cX11_copyFrom 42 = .ok (.getfield 48, 3) := by decide +kernel
theorem dX11_copyFrom_45 : decode cX11_copyFrom 45 = .ok (.putfield 48, 3) := by decide +kernel
theorem dX11_copyFrom_48 : decode cX11_copyFrom 48 = .ok (.aload_n 0, 1) := by decide +kernel
theorem dX11_copyFrom_49 : decode cX11_copyFrom 49 = .ok (.aload_n 1, 1) := by decide +kernel
theorem dX11_copyFrom_50 : decode cX11_copyFrom 50 = .ok (.getfield 42, 3) := by decide +kernel
theorem dX11_copyFrom_53 : decode cX11_copyFrom 53 = .ok (.putfield 42, 3) := by decide +kernel
theorem dX11_copyFrom_56 : decode cX11_copyFrom 56 = .ok (.aload_n 0, 1) := by decide +kernel
theorem dX11_copyFrom_57 : decode cX11_copyFrom 57 = .ok (.aload_n 1, 1) := by decide +kernel
theorem dX11_copyFrom_58 : decode cX11_copyFrom 58 = .ok (.getfield 69, 3) := by decide +kernel
theorem dX11_copyFrom_61 : decode cX11_copyFrom 61 = .ok (.putfield 69, 3) := by decide +kernel
theorem dX11_copyFrom_64 : decode cX11_copyFrom 64 = .ok (.aload_n 0, 1) := by decide +kernel
theorem dX11_copyFrom_65 : decode cX11_copyFrom 65 = .ok (.aload_n 1, 1) := by decide +kernel
theorem dX11_copyFrom_66 : decode cX11_copyFrom 66 = .ok (.getfield 45, 3) := by decide +kernel
theorem dX11_copyFrom_69 : decode cX11_copyFrom 69 = .ok (.putfield 45, 3) := by decide +kernel
theorem dX11_copyFrom_72 : decode cX11_copyFrom 72 = .ok (.aload_n 0, 1) := by decide +kernel
theorem dX11_copyFrom_73 : decode cX11_copyFrom 73 = .ok (.aload_n 1, 1) := by decide +kernel
theorem dX11_copyFrom_74 : decode cX11_copyFrom 74 = .ok (.getfield 51, 3) := by decide +kernel
theorem dX11_copyFrom_77 : decode cX11_copyFrom 77 = .ok (.putfield 51, 3) := by decide +kernel
theorem dX11_copyFrom_80 : decode cX11_copyFrom 80 = .ok (.aload_n 0, 1) := by decide +kernel
theorem dX11_copyFrom_81 : decode cX11_copyFrom 81 = .ok (.aload_n 1, 1) := by decide +kernel
theorem dX11_copyFrom_82 : decode cX11_copyFrom 82 = .ok (.getfield 78, 3) := by decide +kernel
theorem dX11_copyFrom_85 : decode cX11_copyFrom 85 = .ok (.putfield 78, 3) := by decide +kernel
theorem dX11_copyFrom_88 : decode cX11_copyFrom 88 = .ok (.aload_n 0, 1) := by decide +kernel
theorem dX11_copyFrom_89 : decode cX11_copyFrom 89 = .ok (.aload_n 1, 1) := by decide +kernel
theorem dX11_copyFrom_90 : decode cX11_copyFrom 90 = .ok (.getfield 31, 3) := by decide +kernel
theorem dX11_copyFrom_93 : decode cX11_copyFrom 93 = .ok (.putfield 31, 3) := by decide +kernel
theorem dX11_copyFrom_96 : decode cX11_copyFrom 96 = .ok (.aload_n 0, 1) := by decide +kernel
theorem dX11_copyFrom_97 : decode cX11_copyFrom 97 = .ok (.aload_n 1, 1) := by decide +kernel
theorem dX11_copyFrom_98 : decode cX11_copyFrom 98 = .ok (.getfield 28, 3) := by decide +kernel
theorem dX11_copyFrom_101 : decode cX11_copyFrom 101 = .ok (.putfield 28, 3) := by decide +kernel
theorem dX11_copyFrom_104 : decode cX11_copyFrom 104 = .ok (.aload_n 0, 1) := by decide +kernel
theorem dX11_copyFrom_105 : decode cX11_copyFrom 105 = .ok (.aload_n 1, 1) := by decide +kernel
theorem dX11_copyFrom_106 : decode cX11_copyFrom 106 = .ok (.getfield 21, 3) := by decide +kernel
theorem dX11_copyFrom_109 : decode cX11_copyFrom 109 = .ok (.putfield 21, 3) := by decide +kernel
theorem dX11_copyFrom_112 : decode cX11_copyFrom 112 = .ok (.aload_n 0, 1) := by decide +kernel
theorem dX11_copyFrom_113 : decode cX11_copyFrom 113 = .ok (.aload_n 1, 1) := by decide +kernel
theorem dX11_copyFrom_114 : decode cX11_copyFrom 114 = .ok (.getfield 81, 3) := by decide +kernel
theorem dX11_copyFrom_117 : decode cX11_copyFrom 117 = .ok (.putfield 81, 3) := by decide +kernel
theorem dX11_copyFrom_120 : decode cX11_copyFrom 120 = .ok (.return_, 1) := by decide +kernel
theorem dX12_init_0 : decode cX12_init 0 = .ok (.aload_n 0, 1) := by decide +kernel
theorem dX12_init_1 : decode cX12_init 1 = .ok (.invokespecial 1, 3) := by decide +kernel
theorem dX12_init_4 : decode cX12_init 4 = .ok (.aload_n 0, 1) := by decide +kernel
theorem dX12_init_5 : decode cX12_init 5 = .ok (.new 7, 3) := by decide +kernel
theorem dX12_init_8 : decode cX12_init 8 = .ok (.dup, 1) := by decide +kernel
theorem dX12_init_9 : decode cX12_init 9 = .ok (.invokespecial 9, 3) := by decide +kernel
theorem dX12_init_12 : decode cX12_init 12 = .ok (.putfield 10, 3) := by decide +kernel
theorem dX12_init_15 : decode cX12_init 15 = .ok (.aload_n 0, 1) := by decide +kernel
theorem dX12_init_16 : decode cX12_init 16 = .ok (.new 7, 3) := by decide +kernel
theorem dX12_init_19 : decode cX12_init 19 = .ok (.dup, 1) := by decide +kernel
theorem dX12_init_20 : decode cX12_init 20 = .ok (.invokespecial 9, 3) := by decide +kernel
theorem dX12_init_23 : decode cX12_init 23 = .ok (.putfield 16, 3) := by decide +kernel
theorem dX12_init_26 : decode cX12_init 26 = .ok (.aload_n 0, 1) := by decide +kernel
theorem dX12_init_27 : decode cX12_init 27 = .ok (.new 7, 3) := by decide +kernel
theorem dX12_init_30 : decode cX12_init 30 = .ok (.dup, 1) := by decide +kernel
theorem dX12_init_31 : decode cX12_init 31 = .ok (.invokespecial 9, 3) := by decide +kernel
theorem dX12_init_34 : decode cX12_init 34 = .ok (.putfield 19, 3) := by decide +kernel
theorem dX12_init_37 : decode cX12_init 37 = .ok (.aload_n 0, 1) := by decide +kernel
theorem dX12_init_38 : decode cX12_init 38 = .ok (.new 22, 3) := by decide +kernel
theorem dX12_init_41 : decode cX12_init 41 = .ok (.dup, 1) := by decide +kernel
theorem dX12_init_42 : decode cX12_init 42 = .ok (.invokespecial 24, 3) := by decide +kernel
theorem dX12_init_45 : decode cX12_init 45 = .ok (.putfield 25, 3) := by decide +kernel
theorem dX12_init_48 : decode cX12_init 48 = .ok (.aload_n 0, 1) := by decide +kernel
theorem dX12_init_49 : decode cX12_init 49 = .ok (.new 29, 3) := by decide +kernel
theorem dX12_init_52 : decode cX12_init 52 = .ok (.dup, 1) := by decide +kernel
theorem dX12_init_53 : decode cX12_init 53 = .ok (.invokespecial 31, 3) := by decide +kernel
theorem dX12_init_56 : decode cX12_init 56 = .ok (.putfield 32, 3) := by decide +kernel
theorem dX12_init_59 : decode cX12_init 59 = .ok (.aload_n 0, 1) := by decide +kernel
theorem dX12_init_60 : decode cX12_init 60 = .ok (.new 36, 3) := by decide +kernel
theorem dX12_init_63 : decode cX12_init 63 = .ok (.dup, 1) := by decide +kernel
theorem dX12_init_64 : decode cX12_init 64 = .ok (.aload_n 0, 1) := by decide +kernel
theorem dX12_init_65 : decode cX12_init 65 = .ok (.getfield 32, 3) := by decide +kernel
theorem dX12_init_68 : decode cX12_init 68 = .ok (.invokespecial 38, 3) := by decide +kernel
theorem dX12_init_71 : decode cX12_init 71 = .ok (.putfield 41, 3) := by decide +kernel
theorem dX12_init_74 : decode cX12_init 74 = .ok (.aload_n 0, 1) := by decide +kernel
theorem dX12_init_75 : decode cX12_init 75 = .ok (.new 45, 3) := by decide +kernel
theorem dX12_init_78 : decode cX12_init 78 = .ok (.dup, 1) := by decide +kernel
theorem dX12_init_79 : decode cX12_init 79 = .ok (.aload_n 0, 1) := by decide +kernel
theorem dX12_init_80 : decode cX12_init 80 = .ok (.getfield 10, 3) := by decide +kernel
theorem dX12_init_83 : decode cX12_init 83 = .ok (.invokespecial 47, 3) := by decide +kernel
theorem dX12_init_86 : decode cX12_init 86 = .ok (.putfield 50, 3) := by decide +kernel
theorem dX12_init_89 : decode cX12_init 89 = .ok (.aload_n 0, 1) := by decide +kernel
theorem dX12_init_90 : decode cX12_init 90 = .ok (.bipush 24, 2) := by decide +kernel
theorem dX12_init_92 : decode cX12_init 92 = .ok (.newarray .int, 2) := by decide +kernel
theorem dX12_init_94 : decode cX12_init 94 = .ok (.putfield 54, 3) := by decide +kernel
theorem dX12_init_97 : decode cX12_init 97 = .ok (.aload_n 0, 1) := by decide +kernel
theorem dX12_init_98 : decode cX12_init 98 = .ok (.getfield 10, 3) := by decide +kernel
theorem dX12_init_101 : decode cX12_init 101 = .ok (.bipush 8, 2) := by decide +kernel
theorem dX12_init_103 : decode cX12_init 103 = .ok (.iconst 4, 1) := by decide +kernel
theorem dX12_init_104 : decode cX12_init 104 = .ok (.invokevirtual 58, 3) := by decide +kernel
theorem dX12_init_107 : decode cX12_init 107 = .ok (.aload_n 0, 1) := by decide +kernel
theorem dX12_init_108 : decode cX12_init 108 = .ok (.getfield 10, 3) := by decide +kernel
theorem dX12_init_111 : decode cX12_init 111 = .ok (.iconst 3, 1) := by decide +kernel
theorem dX12_init_112 : decode cX12_init 112 = .ok (.invokevirtual 62, 3) := by decide +kernel
theorem dX12_init_115 : decode cX12_init 115 = .ok (.aload_n 0, 1) := by decide +kernel
theorem dX12_init_116 : decode cX12_init 116 = .ok (.getfield 10, 3) := by decide +kernel
theorem dX12_init_119 : decode cX12_init 119 = .ok (.iconst 4, 1) := by decide +kernel
theorem dX12_init_120 : decode cX12_init 120 = .ok (.invokevirtual 62, 3) := by decide +kernel
theorem dX12_init_123 : decode cX12_init 123 = .ok (.aload_n 0, 1) := by decide +kernel
theorem dX12_init_124 : decode cX12_init 124 = .ok (.getfield 10, 3) := by decide +kernel
theorem dX12_init_127 : decode cX12_init 127 = .ok (.bipush 6, 2) := by decide +kernel
theorem dX12_init_129 : decode cX12_init 129 = .ok (.iconst 1, 1) := by decide +kernel
theorem dX12_init_130 : decode cX12_init 130 = .ok (.invokevirtual 66, 3) := by decide +kernel
theorem dX12_init_133 : decode cX12_init 133 = .ok (.pop, 1) := by decide +kernel
theorem dX12_init_134 : decode cX12_init 134 = .ok (.aload_n 0, 1) := by decide +kernel
theorem dX12_init_135 : decode cX12_init 135 = .ok (.getfield 10, 3) := by decide +kernel
theorem dX12_init_138 : decode cX12_init 138 = .ok (.iconst 3, 1) := by decide +kernel
theorem dX12_init_139 : decode cX12_init 139 = .ok (.iconst 2, 1) := by decide +kernel
theorem dX12_init_140 : decode cX12_init 140 = .ok (.iconst 4, 1) := by decide +kernel
theorem dX12_init_141 : decode cX12_init 141 = .ok (.iconst 0, 1) := by decide +kernel
theorem dX12_init_142 : decode cX12_init 142 = .ok (.invokevirtual 70, 3) := by decide +kernel
theorem dX12_init_145 : decode cX12_init 145 = .ok (.aload_n 0, 1) := by decide +kernel
theorem dX12_init_146 : decode cX12_init 146 = .ok (.getfield 10, 3) := by decide +kernel
theorem dX12_init_149 : decode cX12_init 149 = .ok (.iconst 5, 1) := by decide +kernel
theorem dX12_init_150 : decode cX12_init 150 = .ok (.iconst 1, 1) := by decide +kernel
theorem dX12_init_151 : decode cX12_init 151 = .ok (.iconst 2, 1) := by decide +kernel
theorem dX12_init_152 : decode cX12_init 152 = .ok (.iconst 2, 1) := by decide +kernel
theorem dX12_init_153 : decode cX12_init 153 = .ok (.invokevirtual 70, 3) := by decide +kernel
theorem dX12_init_156 : decode cX12_init 156 = .ok (.return_, 1) := by decide +kernel
theorem dX12_appendText_0 : decode cX12_appendText 0 = .ok (.aload_n 0, 1) := by decide +kernel
theorem dX12_appendText_1 : decode cX12_appendText 1 = .ok (.getfield 32, 3) := by decide +kernel
theorem dX12_appendText_4 : decode cX12_appendText 4 = .ok (.bipush 20, 2) := by decide +kernel
theorem dX12_appendText_6 : decode cX12_appendText 6 = .ok (.invokevirtual 74, 3) := by decide +kernel
theorem dX12_appendText_9 : decode cX12_appendText 9 = .ok (.ifCond .ne 5, 3) := by decide +kernel
theorem dX12_appendText_12 : decode cX12_appendText 12 = .ok (.iconst (-1), 1) := by decide +kernel
theorem dX12_appendText_13 : decode cX12_appendText 13 = .ok (.ireturn, 1) := by decide +kernel
theorem dX12_appendText_14 : decode cX12_appendText 14 = .ok (.aload_n 0, 1) := by decide +kernel
theorem dX12_appendText_15 : decode cX12_appendText 15 = .ok (.getfield 32, 3) := by decide +kernel
theorem dX12_appendText_18 : decode cX12_appendText 18 = .ok (.iload_n 1, 1) := by decide +kernel
theorem dX12_appendText_19 : decode cX12_appendText 19 = .ok (.invokevirtual 78, 3) := by decide +kernel
theorem dX12_appendText_22 : decode cX12_appendText 22 = .ok (.aload_n 0, 1) := by decide +kernel
theorem dX12_appendText_23 : decode cX12_appendText 23 = .ok (.getfield 32, 3) := by decide +kernel
theorem dX12_appendText_26 : decode cX12_appendText 26 = .ok (.iload_n 2, 1) := by decide +kernel
theorem dX12_appendText_27 : decode cX12_appendText 27 = .ok (.invokevirtual 78, 3) := by decide +kernel
theorem dX12_appendText_30 : decode cX12_appendText 30 = .ok (.aload_n 0, 1) := by decide +kernel
theorem dX12_appendText_31 : decode cX12_appendText 31 = .ok (.getfield 32, 3) := by decide +kernel
theorem dX12_appendText_34 : decode cX12_appendText 34 = .ok (.iload_n 3, 1) := by decide +kernel
theorem dX12_appendText_35 : decode cX12_appendText 35 = .ok (.invokevirtual 78, 3) := by decide +kernel
theorem dX12_appendText_38 : decode cX12_appendText 38 = .ok (.aload_n 0, 1) := by decide +kernel
theorem dX12_appendText_39 : decode cX12_appendText 39 = .ok (.getfield 32, 3) := by decide +kernel
theorem dX12_appendText_42 : decode cX12_appendText 42 = .ok (.iload 4, 2) := by decide +kernel
theorem dX12_appendText_44 : decode cX12_appendText 44 = .ok (.invokevirtual 78, 3) := by decide +kernel
theorem dX12_appendText_47 : decode cX12_appendText 47 = .ok (.aload_n 0, 1) := by decide +kernel
theorem dX12_appendText_48 : decode cX12_appendText 48 = .ok (.getfield 32, 3) := by decide +kernel
theorem dX12_appendText_51 : decode cX12_appendText 51 = .ok (.iload 5, 2) := by decide +kernel
theorem dX12_appendText_53 : decode cX12_appendText 53 = .ok (.invokevirtual 78, 3) := by decide +kernel
theorem dX12_appendText_56 : decode cX12_appendText 56 = .ok (.aload_n 0, 1) := by decide +kernel
theorem dX12_appendText_57 : decode cX12_appendText 57 = .ok (.getfield 32, 3) := by decide +kernel
theorem dX12_appendText_60 : decode cX12_appendText 60 = .ok (.getfield 81, 3) := by decide +kernel
theorem dX12_appendText_63 : decode cX12_appendText 63 = .ok (.ireturn, 1) := by decide +kernel
theorem dX12_loadRailway_0 : decode cX12_loadRailway 0 = .ok (.aload_n 0, 1) := by decide +kernel
theorem dX12_loadRailway_1 : decode cX12_loadRailway 1 = .ok (.iload_n 1, 1) := by decide +kernel
theorem dX12_loadRailway_2 : decode cX12_loadRailway 2 = .ok (.invokevirtual 85, 3) := by decide +kernel
theorem dX12_loadRailway_5 : decode cX12_loadRailway 5 = .ok (.aload_n 0, 1) := by decide +kernel
theorem dX12_loadRailway_6 : decode cX12_loadRailway 6 = .ok (.getfield 41, 3) := by decide +kernel
theorem dX12_loadRailway_9 : decode cX12_loadRailway 9 = .ok (.iload_n 1, 1) := by decide +kernel
theorem dX12_loadRailway_10 : decode cX12_loadRailway 10 = .ok (.aload_n 0, 1) := by decide +kernel
theorem dX12_loadRailway_11 : decode cX12_loadRailway 11 = .ok (.getfield 16, 3) := by decide +kernel
theorem dX12_loadRailway_14 : decode cX12_loadRailway 14 = .ok (.invokevirtual 88, 3) := by decide +kernel
theorem dX12_loadRailway_17 : decode cX12_loadRailway 17 = .ok (.istore_n 2, 1) := by decide +kernel
theorem dX12_loadRailway_18 : decode cX12_loadRailway 18 = .ok (.aload_n 0, 1) := by decide +kernel
theorem dX12_loadRailway_19 : decode cX12_loadRailway 19 = .ok (.getfield 32, 3) := by decide +kernel
theorem dX12_loadRailway_22 : decode cX12_loadRailway 22 = .ok (.invokevirtual 92, 3) := by decide +kernel
theorem dX12_loadRailway_25 : decode cX12_loadRailway 25 = .ok (.iload_n 2, 1) := by decide +kernel
theorem dX12_loadRailway_26 : decode cX12_loadRailway 26 = .ok (.ifCond .ne 5, 3) := by decide +kernel
theorem dX12_loadRailway_29 : decode cX12_loadRailway 29 = .ok (.iconst (-1), 1) := by decide +kernel
theorem dX12_loadRailway_30 : decode cX12_loadRailway 30 = .ok (.ireturn, 1) := by decide +kernel
theorem dX12_loadRailway_31 : decode cX12_loadRailway 31 = .ok (.aload_n 0, 1) := by decide +kernel
theorem dX12_loadRailway_32 : decode cX12_loadRailway 32 = .ok (.getfield 10, 3) := by decide +kernel
theorem dX12_loadRailway_35 : decode cX12_loadRailway 35 = .ok (.aload_n 0, 1) := by decide +kernel
theorem dX12_loadRailway_36 : decode cX12_loadRailway 36 = .ok (.getfield 16, 3) := by decide +kernel
theorem dX12_loadRailway_39 : decode cX12_loadRailway 39 = .ok (.invokevirtual 95, 3) := by decide +kernel
theorem dX12_loadRailway_42 : decode cX12_loadRailway 42 = .ok (.aload_n 0, 1) := by decide +kernel
theorem dX12_loadRailway_43 : decode cX12_loadRailway 43 = .ok (.getfield 25, 3) := by decide +kernel
theorem dX12_loadRailway_46 : decode cX12_loadRailway 46 = .ok (.invokevirtual 98, 3) := by decide +kernel
theorem dX12_loadRailway_49 : decode cX12_loadRailway 49 = .ok (.aload_n 0, 1) := by decide +kernel
theorem dX12_loadRailway_50 : decode cX12_loadRailway 50 = .ok (.iconst 0, 1) := by decide +kernel
theorem dX12_loadRailway_51 : decode cX12_loadRailway 51 = .ok (.putfield 99, 3) := by decide +kernel
theorem dX12_loadRailway_54 : decode cX12_loadRailway 54 = .ok (.aload_n 0, 1) := by decide +kernel
theorem dX12_loadRailway_55 : decode cX12_loadRailway 55 = .ok (.getfield 10, 3) := by decide +kernel
theorem dX12_loadRailway_58 : decode cX12_loadRailway 58 = .ok (.getfield 103, 3) := by decide +kernel
theorem dX12_loadRailway_61 : decode cX12_loadRailway 61 = .ok (.arraylength, 1) := by decide +kernel
theorem dX12_loadRailway_62 : decode cX12_loadRailway 62 = .ok (.ireturn, 1) := by decide +kernel
theorem dX12_tick_0 : decode cX12_tick 0 = .ok (.aload_n 0, 1) := by decide +kernel
theorem dX12_tick_1 : decode cX12_tick 1 = .ok (.getfield 10, 3) := by decide +kernel
theorem dX12_tick_4 : decode cX12_tick 4 = .ok (.getfield 113, 3) := by decide +kernel
theorem dX12_tick_7 : decode cX12_tick 7 = .ok (.ireturn, 1) := by decide +kernel
theorem dX12_sectionCount_0 : decode cX12_sectionCount 0 = .ok (.aload_n 0, 1) := by decide +kernel
theorem dX12_sectionCount_1 : decode cX12_sectionCount 1 = .ok (.getfield 10, 3) := by decide +kernel
theorem dX12_sectionCount_4 : decode cX12_sectionCount 4 = .ok (.getfield 116, 3) := by decide +kernel
theorem dX12_sectionCount_7 : decode cX12_sectionCount 7 = .ok (.ireturn, 1) := by decide +kernel
theorem dX12_isTunnel_0 : decode cX12_isTunnel 0 = .ok (.aload_n 0, 1) := by decide +kernel
theorem dX12_isTunnel_1 : decode cX12_isTunnel 1 = .ok (.iload_n 1, 1) := by decide +kernel
theorem dX12_isTunnel_2 : decode cX12_isTunnel 2 = .ok (.invokevirtual 119, 3) := by decide +kernel
theorem dX12_isTunnel_5 : decode cX12_isTunnel 5 = .ok (.aload_n 0, 1) := by decide +kernel
theorem dX12_isTunnel_6 : decode cX12_isTunnel 6 = .ok (.getfield 10, 3) := by decide +kernel
theorem dX12_isTunnel_9 : decode cX12_isTunnel 9 = .ok (.iload_n 1, 1) := by decide +kernel
theorem dX12_isTunnel_10 : decode cX12_isTunnel 10 = .ok (.invokevirtual 122, 3) := by decide +kernel
theorem dX12_isTunnel_13 : decode cX12_isTunnel 13 = .ok (.ireturn, 1) := by decide +kernel
theorem dX12_hasShort_0 : decode cX12_hasShort 0 = .ok (.aload_n 0, 1) := by decide +kernel
theorem dX12_hasShort_1 : decode cX12_hasShort 1 = .ok (.iload_n 1, 1) := by decide +kernel
theorem dX12_hasShort_2 : decode cX12_hasShort 2 = .ok (.invokevirtual 119, 3) := by decide +kernel
theorem dX12_hasShort_5 : decode cX12_hasShort 5 = .ok (.aload_n 0, 1) := by decide +kernel
theorem dX12_hasShort_6 : decode cX12_hasShort 6 = .ok (.getfield 10, 3) := by decide +kernel
theorem dX12_hasShort_9 : decode cX12_hasShort 9 = .ok (.iload_n 1, 1) := by decide +kernel
theorem dX12_hasShort_10 : decode cX12_hasShort 10 = .ok (.invokevirtual 125, 3) := by decide +kernel
theorem dX12_hasShort_13 : decode cX12_hasShort 13 = .ok (.ireturn, 1) := by decide +kernel
theorem dX12_trainIn_0 : decode cX12_trainIn 0 = .ok (.aload_n 0, 1) := by decide +kernel
theorem dX12_trainIn_1 : decode cX12_trainIn 1 = .ok (.iload_n 1, 1) := by decide +kernel
theorem dX12_trainIn_2 : decode cX12_trainIn 2 = .ok (.invokevirtual 119, 3) := by decide +kernel
theorem dX12_trainIn_5 : decode cX12_trainIn 5 = .ok (.aload_n 0, 1) := by decide +kernel
theorem dX12_trainIn_6 : decode cX12_trainIn 6 = .ok (.getfield 10, 3) := by decide +kernel
theorem dX12_trainIn_9 : decode cX12_trainIn 9 = .ok (.iload_n 1, 1) := by decide +kernel
theorem dX12_trainIn_10 : decode cX12_trainIn 10 = .ok (.invokevirtual 128, 3) := by decide +kernel
theorem dX12_trainIn_13 : decode cX12_trainIn 13 = .ok (.ireturn, 1) := by decide +kernel
theorem dX12_tunnelCount_0 : decode cX12_tunnelCount 0 = .ok (.aload_n 0, 1) := by decide +kernel
theorem dX12_tunnelCount_1 : decode cX12_tunnelCount 1 = .ok (.getfield 10, 3) := by decide +kernel
theorem dX12_tunnelCount_4 : decode cX12_tunnelCount 4 = .ok (.getfield 132, 3) := by decide +kernel
theorem dX12_tunnelCount_7 : decode cX12_tunnelCount 7 = .ok (.invokestatic 135, 3) := by decide +kernel
theorem dX12_tunnelCount_10 : decode cX12_tunnelCount 10 = .ok (.ireturn, 1) := by decide +kernel
theorem dX12_isPowerOn_0 : decode cX12_isPowerOn 0 = .ok (.aload_n 0, 1) := by decide +kernel
theorem dX12_isPowerOn_1 : decode cX12_isPowerOn 1 = .ok (.getfield 10, 3) := by decide +kernel
theorem dX12_isPowerOn_4 : decode cX12_isPowerOn 4 = .ok (.invokevirtual 140, 3) := by decide +kernel
theorem dX12_isPowerOn_7 : decode cX12_isPowerOn 7 = .ok (.ireturn, 1) := by decide +kernel
theorem dX12_remainingCutoff_0 : decode cX12_remainingCutoff 0 = .ok (.aload_n 0, 1) := by decide +kernel
theorem dX12_remainingCutoff_1 : decode cX12_remainingCutoff 1 = .ok (.getfield 10, 3) := by decide +kernel
theorem dX12_remainingCutoff_4 : decode cX12_remainingCutoff 4 = .ok (.getfield 144, 3) := by decide +kernel
theorem dX12_remainingCutoff_7 : decode cX12_remainingCutoff 7 = .ok (.ireturn, 1) := by decide +kernel
theorem dX12_cutoffs_0 : decode cX12_cutoffs 0 = .ok (.aload_n 0, 1) := by decide +kernel
theorem dX12_cutoffs_1 : decode cX12_cutoffs 1 = .ok (.getfield 10, 3) := by decide +kernel
theorem dX12_cutoffs_4 : decode cX12_cutoffs 4 = .ok (.getfield 147, 3) := by decide +kernel
theorem dX12_cutoffs_7 : decode cX12_cutoffs 7 = .ok (.ireturn, 1) := by decide +kernel
theorem dX12_trainCount_0 : decode cX12_trainCount 0 = .ok (.aload_n 0, 1) := by decide +kernel
theorem dX12_trainCount_1 : decode cX12_trainCount 1 = .ok (.getfield 10, 3) := by decide +kernel
theorem dX12_trainCount_4 : decode cX12_trainCount 4 = .ok (.getfield 103, 3) := by decide +kernel
theorem dX12_trainCount_7 : decode cX12_trainCount 7 = .ok (.arraylength, 1) := by decide +kernel
theorem dX12_trainCount_8 : decode cX12_trainCount 8 = .ok (.ireturn, 1) := by decide +kernel
theorem dX12_address_0 : decode cX12_address 0 = .ok (.aload_n 0, 1) := by decide +kernel
theorem dX12_address_1 : decode cX12_address 1 = .ok (.iload_n 1, 1) := by decide +kernel
theorem dX12_address_2 : decode cX12_address 2 = .ok (.invokevirtual 150, 3) := by decide +kernel
theorem dX12_address_5 : decode cX12_address 5 = .ok (.getfield 154, 3) := by decide +kernel
theorem dX12_address_8 : decode cX12_address 8 = .ok (.ireturn, 1) := by decide +kernel
theorem dX12_trainWith_0 : decode cX12_trainWith 0 = .ok (.aload_n 0, 1) := by decide +kernel
theorem dX12_trainWith_1 : decode cX12_trainWith 1 = .ok (.getfield 10, 3) := by decide +kernel
theorem dX12_trainWith_4 : decode cX12_trainWith 4 = .ok (.iload_n 1, 1) := by decide +kernel
theorem dX12_trainWith_5 : decode cX12_trainWith 5 = .ok (.invokevirtual 159, 3) := by decide +kernel
theorem dX12_trainWith_8 : decode cX12_trainWith 8 = .ok (.ireturn, 1) := by decide +kernel
theorem dX12_sectionOf_0 : decode cX12_sectionOf 0 = .ok (.aload_n 0, 1) := by decide +kernel
theorem dX12_sectionOf_1 : decode cX12_sectionOf 1 = .ok (.iload_n 1, 1) := by decide +kernel
theorem dX12_sectionOf_2 : decode cX12_sectionOf 2 = .ok (.invokevirtual 150, 3) := by decide +kernel
theorem dX12_sectionOf_5 : decode cX12_sectionOf 5 = .ok (.getfield 162, 3) := by decide +kernel
theorem dX12_sectionOf_8 : decode cX12_sectionOf 8 = .ok (.ireturn, 1) := by decide +kernel
theorem dX12_advance_0 : decode cX12_advance 0 = .ok (.aload_n 0, 1) := by decide +kernel
theorem dX12_advance_1 : decode cX12_advance 1 = .ok (.iload_n 1, 1) := by decide +kernel
theorem dX12_advance_2 : decode cX12_advance 2 = .ok (.invokevirtual 150, 3) := by decide +kernel
theorem dX12_advance_5 : decode cX12_advance 5 = .ok (.getfield 165, 3) := by decide +kernel
theorem dX12_advance_8 : decode cX12_advance 8 = .ok (.ireturn, 1) := by decide +kernel
theorem dX12_speed_0 : decode cX12_speed 0 = .ok (.aload_n 0, 1) := by decide +kernel
theorem dX12_speed_1 : decode cX12_speed 1 = .ok (.iload_n 1, 1) := by decide +kernel
theorem dX12_speed_2 : decode cX12_speed 2 = .ok (.invokevirtual 150, 3) := by decide +kernel
theorem dX12_speed_5 : decode cX12_speed 5 = .ok (.getfield 168, 3) := by decide +kernel
theorem dX12_speed_8 : decode cX12_speed 8 = .ok (.ireturn, 1) := by decide +kernel
theorem dX12_targetSpeed_0 : decode cX12_targetSpeed 0 = .ok (.aload_n 0, 1) := by decide +kernel
theorem dX12_targetSpeed_1 : decode cX12_targetSpeed 1 = .ok (.iload_n 1, 1) := by decide +kernel
theorem dX12_targetSpeed_2 : decode cX12_targetSpeed 2 = .ok (.invokevirtual 150, 3) := by decide +kernel
theorem dX12_targetSpeed_5 : decode cX12_targetSpeed 5 = .ok (.getfield 171, 3) := by decide +kernel
theorem dX12_targetSpeed_8 : decode cX12_targetSpeed 8 = .ok (.ireturn, 1) := by decide +kernel
theorem dX12_brightness_0 : decode cX12_brightness 0 = .ok (.aload_n 0, 1) := by decide +kernel
theorem dX12_brightness_1 : decode cX12_brightness 1 = .ok (.iload_n 1, 1) := by decide +kernel
theorem dX12_brightness_2 : decode cX12_brightness 2 = .ok (.invokevirtual 150, 3) := by decide +kernel
theorem dX12_brightness_5 : decode cX12_brightness 5 = .ok (.getfield 174, 3) := by decide +kernel
theorem dX12_brightness_8 : decode cX12_brightness 8 = .ok (.ireturn, 1) := by decide +kernel
theorem dX12_duty_0 : decode cX12_duty 0 = .ok (.aload_n 0, 1) := by decide +kernel
theorem dX12_duty_1 : decode cX12_duty 1 = .ok (.iload_n 1, 1) := by decide +kernel
theorem dX12_duty_2 : decode cX12_duty 2 = .ok (.invokevirtual 150, 3) := by decide +kernel
theorem dX12_duty_5 : decode cX12_duty 5 = .ok (.getfield 177, 3) := by decide +kernel
theorem dX12_duty_8 : decode cX12_duty 8 = .ok (.ireturn, 1) := by decide +kernel
theorem dX12_silence_0 : decode cX12_silence 0 = .ok (.aload_n 0, 1) := by decide +kernel
theorem dX12_silence_1 : decode cX12_silence 1 = .ok (.iload_n 1, 1) := by decide +kernel
theorem dX12_silence_2 : decode cX12_silence 2 = .ok (.invokevirtual 150, 3) := by decide +kernel
theorem dX12_silence_5 : decode cX12_silence 5 = .ok (.getfield 180, 3) := by decide +kernel
theorem dX12_silence_8 : decode cX12_silence 8 = .ok (.ireturn, 1) := by decide +kernel
theorem dX12_sectionsEntered_0 : decode cX12_sectionsEntered 0 = .ok (.aload_n 0, 1) := by decide +kernel
theorem dX12_sectionsEntered_1 : decode cX12_sectionsEntered 1 = .ok (.iload_n 1, 1) := by decide +kernel
theorem dX12_sectionsEntered_2 : decode cX12_sectionsEntered 2 = .ok (.invokevirtual 150, 3) := by decide +kernel
theorem dX12_sectionsEntered_5 : decode cX12_sectionsEntered 5 = .ok (.getfield 183, 3) := by decide +kernel
theorem dX12_sectionsEntered_8 : decode cX12_sectionsEntered 8 = .ok (.ireturn, 1) := by decide +kernel
theorem dX12_obeyed_0 : decode cX12_obeyed 0 = .ok (.aload_n 0, 1) := by decide +kernel
theorem dX12_obeyed_1 : decode cX12_obeyed 1 = .ok (.iload_n 1, 1) := by decide +kernel
theorem dX12_obeyed_2 : decode cX12_obeyed 2 = .ok (.invokevirtual 150, 3) := by decide +kernel
theorem dX12_obeyed_5 : decode cX12_obeyed 5 = .ok (.getfield 186, 3) := by decide +kernel
theorem dX12_obeyed_8 : decode cX12_obeyed 8 = .ok (.ireturn, 1) := by decide +kernel
theorem dX12_rejected_0 : decode cX12_rejected 0 = .ok (.aload_n 0, 1) := by decide +kernel
theorem dX12_rejected_1 : decode cX12_rejected 1 = .ok (.iload_n 1, 1) := by decide +kernel
theorem dX12_rejected_2 : decode cX12_rejected 2 = .ok (.invokevirtual 150, 3) := by decide +kernel
theorem dX12_rejected_5 : decode cX12_rejected 5 = .ok (.getfield 189, 3) := by decide +kernel
theorem dX12_rejected_8 : decode cX12_rejected 8 = .ok (.ireturn, 1) := by decide +kernel
theorem dX12_unheard_0 : decode cX12_unheard 0 = .ok (.aload_n 0, 1) := by decide +kernel
theorem dX12_unheard_1 : decode cX12_unheard 1 = .ok (.iload_n 1, 1) := by decide +kernel
theorem dX12_unheard_2 : decode cX12_unheard 2 = .ok (.invokevirtual 150, 3) := by decide +kernel
theorem dX12_unheard_5 : decode cX12_unheard 5 = .ok (.getfield 192, 3) := by decide +kernel
theorem dX12_unheard_8 : decode cX12_unheard 8 = .ok (.ireturn, 1) := by decide +kernel
theorem dX12_blockedTicks_0 : decode cX12_blockedTicks 0 = .ok (.aload_n 0, 1) := by decide +kernel
theorem dX12_blockedTicks_1 : decode cX12_blockedTicks 1 = .ok (.iload_n 1, 1) := by decide +kernel
theorem dX12_blockedTicks_2 : decode cX12_blockedTicks 2 = .ok (.invokevirtual 150, 3) := by decide +kernel
theorem dX12_blockedTicks_5 : decode cX12_blockedTicks 5 = .ok (.getfield 195, 3) := by decide +kernel
theorem dX12_blockedTicks_8 : decode cX12_blockedTicks 8 = .ok (.ireturn, 1) := by decide +kernel
theorem dX12_fastestTrain_0 : decode cX12_fastestTrain 0 = .ok (.aload_n 0, 1) := by decide +kernel
theorem dX12_fastestTrain_1 : decode cX12_fastestTrain 1 = .ok (.getfield 10, 3) := by decide +kernel
theorem dX12_fastestTrain_4 : decode cX12_fastestTrain 4 = .ok (.invokevirtual 198, 3) := by decide +kernel
theorem dX12_fastestTrain_7 : decode cX12_fastestTrain 7 = .ok (.ireturn, 1) := by decide +kernel
theorem dX12_freeAhead_0 : decode cX12_freeAhead 0 = .ok (.aload_n 0, 1) := by decide +kernel
theorem dX12_freeAhead_1 : decode cX12_freeAhead 1 = .ok (.getfield 10, 3) := by decide +kernel
theorem dX12_freeAhead_4 : decode cX12_freeAhead 4 = .ok (.aload_n 0, 1) := by decide +kernel
theorem dX12_freeAhead_5 : decode cX12_freeAhead 5 = .ok (.iload_n 1, 1) := by decide +kernel
theorem dX12_freeAhead_6 : decode cX12_freeAhead 6 = .ok (.invokevirtual 150, 3) := by decide +kernel
theorem dX12_freeAhead_9 : decode cX12_freeAhead 9 = .ok (.getfield 162, 3) := by decide +kernel
theorem dX12_freeAhead_12 : decode cX12_freeAhead 12 = .ok (.invokevirtual 202, 3) := by decide +kernel
theorem dX12_freeAhead_15 : decode cX12_freeAhead 15 = .ok (.ireturn, 1) := by decide +kernel
theorem dX12_meanSpeed_0 : decode cX12_meanSpeed 0 = .ok (.aload_n 0, 1) := by decide +kernel
theorem dX12_meanSpeed_1 : decode cX12_meanSpeed 1 = .ok (.getfield 10, 3) := by decide +kernel
theorem dX12_meanSpeed_4 : decode cX12_meanSpeed 4 = .ok (.getfield 103, 3) := by decide +kernel
theorem dX12_meanSpeed_7 : decode cX12_meanSpeed 7 = .ok (.arraylength, 1) := by decide +kernel
theorem dX12_meanSpeed_8 : decode cX12_meanSpeed 8 = .ok (.istore_n 1, 1) := by decide +kernel
theorem dX12_meanSpeed_9 : decode cX12_meanSpeed 9 = .ok (.iload_n 1, 1) := by decide +kernel
theorem dX12_meanSpeed_10 : decode cX12_meanSpeed 10 = .ok (.ifCond .ne 7, 3) := by decide +kernel
theorem dX12_meanSpeed_13 : decode cX12_meanSpeed 13 = .ok (.dconst 0, 1) := by decide +kernel
theorem dX12_meanSpeed_14 : decode cX12_meanSpeed 14 = .ok (.goto 14, 3) := by decide +kernel
theorem dX12_meanSpeed_17 : decode cX12_meanSpeed 17 = .ok (.aload_n 0, 1) := by decide +kernel
theorem dX12_meanSpeed_18 : decode cX12_meanSpeed 18 = .ok (.getfield 10, 3) := by decide +kernel
theorem dX12_meanSpeed_21 : decode cX12_meanSpeed 21 = .ok (.invokevirtual 205, 3) := by decide +kernel
theorem dX12_meanSpeed_24 : decode cX12_meanSpeed 24 = .ok (.i2d, 1) := by decide +kernel
theorem dX12_meanSpeed_25 : decode cX12_meanSpeed 25 = .ok (.iload_n 1, 1) := by decide +kernel
theorem dX12_meanSpeed_26 : decode cX12_meanSpeed 26 = .ok (.i2d, 1) := by decide +kernel
theorem dX12_meanSpeed_27 : decode cX12_meanSpeed 27 = .ok (.ddiv, 1) := by decide +kernel
theorem dX12_meanSpeed_28 : decode cX12_meanSpeed 28 = .ok (.dreturn, 1) := by decide +kernel
theorem dX12_obeyedShare_0 : decode cX12_obeyedShare 0 = .ok (.aload_n 0, 1) := by decide +kernel
theorem dX12_obeyedShare_1 : decode cX12_obeyedShare 1 = .ok (.getfield 10, 3) := by decide +kernel
theorem dX12_obeyedShare_4 : decode cX12_obeyedShare 4 = .ok (.invokevirtual 208, 3) := by decide +kernel
theorem dX12_obeyedShare_7 : decode cX12_obeyedShare 7 = .ok (.istore_n 1, 1) := by decide +kernel
theorem dX12_obeyedShare_8 : decode cX12_obeyedShare 8 = .ok (.iload_n 1, 1) := by decide +kernel
theorem dX12_obeyedShare_9 : decode cX12_obeyedShare 9 = .ok (.ifCond .ne 7, 3) := by decide +kernel
theorem dX12_obeyedShare_12 : decode cX12_obeyedShare 12 = .ok (.fconst 0, 1) := by decide +kernel
theorem dX12_obeyedShare_13 : decode cX12_obeyedShare 13 = .ok (.goto 14, 3) := by decide +kernel
theorem dX12_obeyedShare_16 : decode cX12_obeyedShare 16 = .ok (.aload_n 0, 1) := by decide +kernel
theorem dX12_obeyedShare_17 : decode cX12_obeyedShare 17 = .ok (.getfield 10, 3) := by decide +kernel
theorem dX12_obeyedShare_20 : decode cX12_obeyedShare 20 = .ok (.invokevirtual 211, 3) := by decide +kernel
theorem dX12_obeyedShare_23 : decode cX12_obeyedShare 23 = .ok (.i2f, 1) := by decide +kernel
theorem dX12_obeyedShare_24 : decode cX12_obeyedShare 24 = .ok (.iload_n 1, 1) := by decide +kernel
theorem dX12_obeyedShare_25 : decode cX12_obeyedShare 25 = .ok (.i2f, 1) := by decide +kernel
theorem dX12_obeyedShare_26 : decode cX12_obeyedShare 26 = .ok (.fdiv, 1) := by decide +kernel
theorem dX12_obeyedShare_27 : decode cX12_obeyedShare 27 = .ok (.freturn, 1) := by decide +kernel
theorem dX12_queueLength_0 : decode cX12_queueLength 0 = .ok (.aload_n 0, 1) := by decide +kernel
theorem dX12_queueLength_1 : decode cX12_queueLength 1 = .ok (.getfield 10, 3) := by decide +kernel
theorem dX12_queueLength_4 : decode cX12_queueLength 4 = .ok (.getfield 214, 3) := by decide +kernel
theorem dX12_queueLength_7 : decode cX12_queueLength 7 = .ok (.getfield 218, 3) := by decide +kernel
theorem dX12_queueLength_10 : decode cX12_queueLength 10 = .ok (.ireturn, 1) := by decide +kernel
theorem dX12_packetAddress_0 : decode cX12_packetAddress 0 = .ok (.aload_n 0, 1) := by decide +kernel
theorem dX12_packetAddress_1 : decode cX12_packetAddress 1 = .ok (.iload_n 1, 1) := by decide +kernel
theorem dX12_packetAddress_2 : decode cX12_packetAddress 2 = .ok (.invokevirtual 221, 3) := by decide +kernel
theorem dX12_packetAddress_5 : decode cX12_packetAddress 5 = .ok (.invokestatic 224, 3) := by decide +kernel
theorem dX12_packetAddress_8 : decode cX12_packetAddress 8 = .ok (.ireturn, 1) := by decide +kernel
theorem dX12_packetCommand_0 : decode cX12_packetCommand 0 = .ok (.aload_n 0, 1) := by decide +kernel
theorem dX12_packetCommand_1 : decode cX12_packetCommand 1 = .ok (.iload_n 1, 1) := by decide +kernel
theorem dX12_packetCommand_2 : decode cX12_packetCommand 2 = .ok (.invokevirtual 221, 3) := by decide +kernel
theorem dX12_packetCommand_5 : decode cX12_packetCommand 5 = .ok (.invokestatic 229, 3) := by decide +kernel
theorem dX12_packetCommand_8 : decode cX12_packetCommand 8 = .ok (.ireturn, 1) := by decide +kernel
theorem dX12_isIntact_0 : decode cX12_isIntact 0 = .ok (.aload_n 0, 1) := by decide +kernel
theorem dX12_isIntact_1 : decode cX12_isIntact 1 = .ok (.iload_n 1, 1) := by decide +kernel
theorem dX12_isIntact_2 : decode cX12_isIntact 2 = .ok (.invokevirtual 221, 3) := by decide +kernel
theorem dX12_isIntact_5 : decode cX12_isIntact 5 = .ok (.invokestatic 232, 3) := by decide +kernel
theorem dX12_isIntact_8 : decode cX12_isIntact 8 = .ok (.ireturn, 1) := by decide +kernel
theorem dX12_packetsFor_0 : decode cX12_packetsFor 0 = .ok (.aload_n 0, 1) := by decide +kernel
theorem dX12_packetsFor_1 : decode cX12_packetsFor 1 = .ok (.getfield 10, 3) := by decide +kernel
theorem dX12_packetsFor_4 : decode cX12_packetsFor 4 = .ok (.getfield 214, 3) := by decide +kernel
theorem dX12_packetsFor_7 : decode cX12_packetsFor 7 = .ok (.aload_n 0, 1) := by decide +kernel
theorem dX12_packetsFor_8 : decode cX12_packetsFor 8 = .ok (.iload_n 1, 1) := by decide +kernel
theorem dX12_packetsFor_9 : decode cX12_packetsFor 9 = .ok (.invokevirtual 150, 3) := by decide +kernel
theorem dX12_packetsFor_12 : decode cX12_packetsFor 12 = .ok (.getfield 154, 3) := by decide +kernel
theorem dX12_packetsFor_15 : decode cX12_packetsFor 15 = .ok (.invokevirtual 235, 3) := by decide +kernel
theorem dX12_packetsFor_18 : decode cX12_packetsFor 18 = .ok (.ireturn, 1) := by decide +kernel
theorem dX12_sentPackets_0 : decode cX12_sentPackets 0 = .ok (.aload_n 0, 1) := by decide +kernel
theorem dX12_sentPackets_1 : decode cX12_sentPackets 1 = .ok (.getfield 10, 3) := by decide +kernel
theorem dX12_sentPackets_4 : decode cX12_sentPackets 4 = .ok (.getfield 214, 3) := by decide +kernel
theorem dX12_sentPackets_7 : decode cX12_sentPackets 7 = .ok (.getfield 238, 3) := by decide +kernel
theorem dX12_sentPackets_10 : decode cX12_sentPackets 10 = .ok (.ireturn, 1) := by decide +kernel
theorem dX12_checkOf_0 : decode cX12_checkOf 0 = .ok (.iload_n 1, 1) := by decide +kernel
theorem dX12_checkOf_1 : decode cX12_checkOf 1 = .ok (.iconst 0, 1) := by decide +kernel
theorem dX12_checkOf_2 : decode cX12_checkOf 2 = .ok (.sipush 255, 3) := by decide +kernel
theorem dX12_checkOf_5 : decode cX12_checkOf 5 = .ok (.invokestatic 241, 3) := by decide +kernel
theorem dX12_checkOf_8 : decode cX12_checkOf 8 = .ok (.iload_n 2, 1) := by decide +kernel
theorem dX12_checkOf_9 : decode cX12_checkOf 9 = .ok (.iconst 0, 1) := by decide +kernel
theorem dX12_checkOf_10 : decode cX12_checkOf 10 = .ok (.sipush 255, 3) := by decide +kernel
theorem dX12_checkOf_13 : decode cX12_checkOf 13 = .ok (.invokestatic 241, 3) := by decide +kernel
theorem dX12_checkOf_16 : decode cX12_checkOf 16 = .ok (.iload_n 1, 1) := by decide +kernel
theorem dX12_checkOf_17 : decode cX12_checkOf 17 = .ok (.iload_n 2, 1) := by decide +kernel
theorem dX12_checkOf_18 : decode cX12_checkOf 18 = .ok (.invokestatic 245, 3) := by decide +kernel
theorem dX12_checkOf_21 : decode cX12_checkOf 21 = .ok (.ireturn, 1) := by decide +kernel
theorem dX12_gap_0 : decode cX12_gap 0 = .ok (.aload_n 0, 1) := by decide +kernel
theorem dX12_gap_1 : decode cX12_gap 1 = .ok (.getfield 10, 3) := by decide +kernel
theorem dX12_gap_4 : decode cX12_gap 4 = .ok (.getfield 214, 3) := by decide +kernel
theorem dX12_gap_7 : decode cX12_gap 7 = .ok (.invokevirtual 249, 3) := by decide +kernel
theorem dX12_gap_10 : decode cX12_gap 10 = .ok (.invokestatic 252, 3) := by decide +kernel
theorem dX12_gap_13 : decode cX12_gap 13 = .ok (.aload_n 0, 1) := by decide +kernel
theorem dX12_gap_14 : decode cX12_gap 14 = .ok (.getfield 10, 3) := by decide +kernel
theorem dX12_gap_17 : decode cX12_gap 17 = .ok (.invokevirtual 257, 3) := by decide +kernel
theorem dX12_gap_20 : decode cX12_gap 20 = .ok (.iadd, 1) := by decide +kernel
theorem dX12_gap_21 : decode cX12_gap 21 = .ok (.ireturn, 1) := by decide +kernel
theorem dX12_brakingTicks_0 : decode cX12_brakingTicks 0 = .ok (.aload_n 0, 1) := by decide +kernel
theorem dX12_brakingTicks_1 : decode cX12_brakingTicks 1 = .ok (.iload_n 1, 1) := by decide +kernel
theorem dX12_brakingTicks_2 : decode cX12_brakingTicks 2 = .ok (.invokevirtual 150, 3) := by decide +kernel
theorem dX12_brakingTicks_5 : decode cX12_brakingTicks 5 = .ok (.invokevirtual 260, 3) := by decide +kernel
theorem dX12_brakingTicks_8 : decode cX12_brakingTicks 8 = .ok (.ireturn, 1) := by decide +kernel
theorem dX12_brakingDistance_0 : decode cX12_brakingDistance 0 = .ok (.aload_n 0, 1) := by decide +kernel
theorem dX12_brakingDistance_1 : decode cX12_brakingDistance 1 = .ok (.iload_n 1, 1) := by decide +kernel
theorem dX12_brakingDistance_2 : decode cX12_brakingDistance 2 = .ok (.invokevirtual 150, 3) := by decide +kernel
theorem dX12_brakingDistance_5 : decode cX12_brakingDistance 5 = .ok (.invokevirtual 263, 3) := by decide +kernel
theorem dX12_brakingDistance_8 : decode cX12_brakingDistance 8 = .ok (.ireturn, 1) := by decide +kernel
theorem dX12_sectionAfter_0 : decode cX12_sectionAfter 0 = .ok (.aload_n 0, 1) := by decide +kernel
theorem dX12_sectionAfter_1 : decode cX12_sectionAfter 1 = .ok (.iload_n 1, 1) := by decide +kernel
theorem dX12_sectionAfter_2 : decode cX12_sectionAfter 2 = .ok (.iload_n 2, 1) := by decide +kernel
theorem dX12_sectionAfter_3 : decode cX12_sectionAfter 3 = .ok (.invokevirtual 266, 3) := by decide +kernel
theorem dX12_sectionAfter_6 : decode cX12_sectionAfter 6 = .ok (.getfield 162, 3) := by decide +kernel
theorem dX12_sectionAfter_9 : decode cX12_sectionAfter 9 = .ok (.ireturn, 1) := by decide +kernel
theorem dX12_speedAfter_0 : decode cX12_speedAfter 0 = .ok (.aload_n 0, 1) := by decide +kernel
theorem dX12_speedAfter_1 : decode cX12_speedAfter 1 = .ok (.iload_n 1, 1) := by decide +kernel
theorem dX12_speedAfter_2 : decode cX12_speedAfter 2 = .ok (.iload_n 2, 1) := by decide +kernel
theorem dX12_speedAfter_3 : decode cX12_speedAfter 3 = .ok (.invokevirtual 266, 3) := by decide +kernel
theorem dX12_speedAfter_6 : decode cX12_speedAfter 6 = .ok (.getfield 168, 3) := by decide +kernel
theorem dX12_speedAfter_9 : decode cX12_speedAfter 9 = .ok (.ireturn, 1) := by decide +kernel
theorem dX12_ticksToCutoff_0 : decode cX12_ticksToCutoff 0 = .ok (.aload_n 0, 1) := by decide +kernel
theorem dX12_ticksToCutoff_1 : decode cX12_ticksToCutoff 1 = .ok (.getfield 16, 3) := by decide +kernel
theorem dX12_ticksToCutoff_4 : decode cX12_ticksToCutoff 4 = .ok (.aload_n 0, 1) := by decide +kernel
theorem dX12_ticksToCutoff_5 : decode cX12_ticksToCutoff 5 = .ok (.getfield 10, 3) := by decide +kernel
theorem dX12_ticksToCutoff_8 : decode cX12_ticksToCutoff 8 = .ok (.invokevirtual 95, 3) := by decide +kernel
theorem dX12_ticksToCutoff_11 : decode cX12_ticksToCutoff 11 = .ok (.iconst 1, 1) := by decide +kernel
theorem dX12_ticksToCutoff_12 : decode cX12_ticksToCutoff 12 = .ok (.istore_n 1, 1) := by decide +kernel
theorem dX12_ticksToCutoff_13 : decode cX12_ticksToCutoff 13 = .ok (.iload_n 1, 1) := by decide +kernel
theorem dX12_ticksToCutoff_14 : decode cX12_ticksToCutoff 14 = .ok (.sipush 200, 3) := by decide +kernel
theorem dX12_ticksToCutoff_17 : decode cX12_ticksToCutoff 17 = .ok (.if_icmp .gt 39, 3) := by decide +kernel
theorem dX12_ticksToCutoff_20 : decode cX12_ticksToCutoff 20 = .ok (.aload_n 0, 1) := by decide +kernel
theorem dX12_ticksToCutoff_21 : decode cX12_ticksToCutoff 21 = .ok (.getfield 16, 3) := by decide +kernel
theorem dX12_ticksToCutoff_24 : decode cX12_ticksToCutoff 24 = .ok (.iconst 1, 1) := by decide +kernel
theorem dX12_ticksToCutoff_25 : decode cX12_ticksToCutoff 25 = .ok (.invokevirtual 270, 3) := by decide +kernel
theorem dX12_ticksToCutoff_28 : decode cX12_ticksToCutoff 28 = .ok (.ifCond .eq 28, 3) := by decide +kernel
theorem dX12_ticksToCutoff_31 : decode cX12_ticksToCutoff 31 = .ok (.aload_n 0, 1) := by decide +kernel
theorem dX12_ticksToCutoff_32 : decode cX12_ticksToCutoff 32 = .ok (.getfield 16, 3) := by decide +kernel
theorem dX12_ticksToCutoff_35 : decode cX12_ticksToCutoff 35 = .ok (.getfield 147, 3) := by decide +kernel
theorem dX12_ticksToCutoff_38 : decode cX12_ticksToCutoff 38 = .ok (.aload_n 0, 1) := by decide +kernel
theorem dX12_ticksToCutoff_39 : decode cX12_ticksToCutoff 39 = .ok (.getfield 10, 3) := by decide +kernel
theorem dX12_ticksToCutoff_42 : decode cX12_ticksToCutoff 42 = .ok (.getfield 147, 3) := by decide +kernel
theorem dX12_ticksToCutoff_45 : decode cX12_ticksToCutoff 45 = .ok (.if_icmp .le 5, 3) := by decide +kernel
theorem dX12_ticksToCutoff_48 : decode cX12_ticksToCutoff 48 = .ok (.iload_n 1, 1) := by decide +kernel
theorem dX12_ticksToCutoff_49 : decode cX12_ticksToCutoff 49 = .ok (.ireturn, 1) := by decide +kernel
theorem dX12_ticksToCutoff_50 : decode cX12_ticksToCutoff 50 = .ok (.iinc 1 1, 3) := by decide +kernel
theorem dX12_ticksToCutoff_53 : decode cX12_ticksToCutoff 53 = .ok (.goto (-40), 3) := by decide +kernel
theorem dX12_ticksToCutoff_56 : decode cX12_ticksToCutoff 56 = .ok (.iconst (-1), 1) := by decide +kernel
theorem dX12_ticksToCutoff_57 : decode cX12_ticksToCutoff 57 = .ok (.ireturn, 1) := by decide +kernel
theorem dX12_trainAfter_0 : decode cX12_trainAfter 0 = .ok (.aload_n 0, 1) := by decide +kernel
theorem dX12_trainAfter_1 : decode cX12_trainAfter 1 = .ok (.iload_n 1, 1) := by decide +kernel
theorem dX12_trainAfter_2 : decode cX12_trainAfter 2 = .ok (.invokevirtual 150, 3) := by decide +kernel
theorem dX12_trainAfter_5 : decode cX12_trainAfter 5 = .ok (.astore_n 3, 1) := by decide +kernel
theorem dX12_trainAfter_6 : decode cX12_trainAfter 6 = .ok (.iload_n 2, 1) := by decide +kernel
theorem dX12_trainAfter_7 : decode cX12_trainAfter 7 = .ok (.iconst 0, 1) := by decide +kernel
theorem dX12_trainAfter_8 : decode cX12_trainAfter 8 = .ok (.sipush 200, 3) := by decide +kernel
theorem dX12_trainAfter_11 : decode cX12_trainAfter 11 = .ok (.invokestatic 241, 3) := by decide +kernel
theorem dX12_trainAfter_14 : decode cX12_trainAfter 14 = .ok (.aload_n 0, 1) := by decide +kernel
theorem dX12_trainAfter_15 : decode cX12_trainAfter 15 = .ok (.getfield 16, 3) := by decide +kernel
theorem dX12_trainAfter_18 : decode cX12_trainAfter 18 = .ok (.aload_n 0, 1) := by decide +kernel
theorem dX12_trainAfter_19 : decode cX12_trainAfter 19 = .ok (.getfield 10, 3) := by decide +kernel
theorem dX12_trainAfter_22 : decode cX12_trainAfter 22 = .ok (.invokevirtual 95, 3) := by decide +kernel
theorem dX12_trainAfter_25 : decode cX12_trainAfter 25 = .ok (.aload_n 0, 1) := by decide +kernel
theorem dX12_trainAfter_26 : decode cX12_trainAfter 26 = .ok (.getfield 16, 3) := by decide +kernel
theorem dX12_trainAfter_29 : decode cX12_trainAfter 29 = .ok (.iload_n 2, 1) := by decide +kernel
theorem dX12_trainAfter_30 : decode cX12_trainAfter 30 = .ok (.sipush 10000, 3) := by decide +kernel
theorem dX12_trainAfter_33 : decode cX12_trainAfter 33 = .ok (.aload_n 0, 1) := by decide +kernel
theorem dX12_trainAfter_34 : decode cX12_trainAfter 34 = .ok (.getfield 16, 3) := by decide +kernel
theorem dX12_trainAfter_37 : decode cX12_trainAfter 37 = .ok (.getfield 113, 3) := by decide +kernel
theorem dX12_trainAfter_40 : decode cX12_trainAfter 40 = .ok (.isub, 1) := by decide +kernel
theorem dX12_trainAfter_41 : decode cX12_trainAfter 41 = .ok (.invokestatic 273, 3) := by decide +kernel
theorem dX12_trainAfter_44 : decode cX12_trainAfter 44 = .ok (.invokevirtual 270, 3) := by decide +kernel
theorem dX12_trainAfter_47 : decode cX12_trainAfter 47 = .ok (.pop, 1) := by decide +kernel
theorem dX12_trainAfter_48 : decode cX12_trainAfter 48 = .ok (.aload_n 0, 1) := by decide +kernel
theorem dX12_trainAfter_49 : decode cX12_trainAfter 49 = .ok (.getfield 16, 3) := by decide +kernel
theorem dX12_trainAfter_52 : decode cX12_trainAfter 52 = .ok (.iload_n 1, 1) := by decide +kernel
theorem dX12_trainAfter_53 : decode cX12_trainAfter 53 = .ok (.invokevirtual 276, 3) := by decide +kernel
theorem dX12_trainAfter_56 : decode cX12_trainAfter 56 = .ok (.astore 4, 2) := by decide +kernel
theorem dX12_trainAfter_58 : decode cX12_trainAfter 58 = .ok (.aload 4, 2) := by decide +kernel
theorem dX12_trainAfter_60 : decode cX12_trainAfter 60 = .ok (.ifnonnull 7, 3) := by decide +kernel
theorem dX12_trainAfter_63 : decode cX12_trainAfter 63 = .ok (.aload_n 3, 1) := by decide +kernel
theorem dX12_trainAfter_64 : decode cX12_trainAfter 64 = .ok (.goto 5, 3) := by decide +kernel
theorem dX12_trainAfter_67 : decode cX12_trainAfter 67 = .ok (.aload 4, 2) := by decide +kernel
theorem dX12_trainAfter_69 : decode cX12_trainAfter 69 = .ok (.areturn, 1) := by decide +kernel
theorem dX12_sendPacket_0 : decode cX12_sendPacket 0 = .ok (.iload_n 1, 1) := by decide +kernel
theorem dX12_sendPacket_1 : decode cX12_sendPacket 1 = .ok (.iconst 0, 1) := by decide +kernel
theorem dX12_sendPacket_2 : decode cX12_sendPacket 2 = .ok (.sipush 255, 3) := by decide +kernel
theorem dX12_sendPacket_5 : decode cX12_sendPacket 5 = .ok (.invokestatic 241, 3) := by decide +kernel
theorem dX12_sendPacket_8 : decode cX12_sendPacket 8 = .ok (.iload_n 2, 1) := by decide +kernel
theorem dX12_sendPacket_9 : decode cX12_sendPacket 9 = .ok (.iconst 0, 1) := by decide +kernel
theorem dX12_sendPacket_10 : decode cX12_sendPacket 10 = .ok (.sipush 255, 3) := by decide +kernel
theorem dX12_sendPacket_13 : decode cX12_sendPacket 13 = .ok (.invokestatic 241, 3) := by decide +kernel
theorem dX12_sendPacket_16 : decode cX12_sendPacket 16 = .ok (.iload_n 3, 1) := by decide +kernel
theorem dX12_sendPacket_17 : decode cX12_sendPacket 17 = .ok (.iconst 0, 1) := by decide +kernel
theorem dX12_sendPacket_18 : decode cX12_sendPacket 18 = .ok (.sipush 255, 3) := by decide +kernel
theorem dX12_sendPacket_21 : decode cX12_sendPacket 21 = .ok (.invokestatic 241, 3) := by decide +kernel
theorem dX12_sendPacket_24 : decode cX12_sendPacket 24 = .ok (.aload_n 0, 1) := by decide +kernel
theorem dX12_sendPacket_25 : decode cX12_sendPacket 25 = .ok (.iload_n 1, 1) := by decide +kernel
theorem dX12_sendPacket_26 : decode cX12_sendPacket 26 = .ok (.iload_n 2, 1) := by decide +kernel
theorem dX12_sendPacket_27 : decode cX12_sendPacket 27 = .ok (.iload_n 3, 1) := by decide +kernel
theorem dX12_sendPacket_28 : decode cX12_sendPacket 28 = .ok (.invokestatic 279, 3) := by decide +kernel
theorem dX12_sendPacket_31 : decode cX12_sendPacket 31 = .ok (.invokevirtual 283, 3) := by decide +kernel
theorem dX12_sendPacket_34 : decode cX12_sendPacket 34 = .ok (.ireturn, 1) := by decide +kernel
theorem dX12_setSpeed_0 : decode cX12_setSpeed 0 = .ok (.iload_n 1, 1) := by decide +kernel
theorem dX12_setSpeed_1 : decode cX12_setSpeed 1 = .ok (.iconst 0, 1) := by decide +kernel
theorem dX12_setSpeed_2 : decode cX12_setSpeed 2 = .ok (.bipush 127, 2) := by decide +kernel
theorem dX12_setSpeed_4 : decode cX12_setSpeed 4 = .ok (.invokestatic 241, 3) := by decide +kernel
theorem dX12_setSpeed_7 : decode cX12_setSpeed 7 = .ok (.iload_n 2, 1) := by decide +kernel
theorem dX12_setSpeed_8 : decode cX12_setSpeed 8 = .ok (.iconst 0, 1) := by decide +kernel
theorem dX12_setSpeed_9 : decode cX12_setSpeed 9 = .ok (.bipush 28, 2) := by decide +kernel
theorem dX12_setSpeed_11 : decode cX12_setSpeed 11 = .ok (.invokestatic 241, 3) := by decide +kernel
theorem dX12_setSpeed_14 : decode cX12_setSpeed 14 = .ok (.aload_n 0, 1) := by decide +kernel
theorem dX12_setSpeed_15 : decode cX12_setSpeed 15 = .ok (.iload_n 1, 1) := by decide +kernel
theorem dX12_setSpeed_16 : decode cX12_setSpeed 16 = .ok (.iconst 0, 1) := by decide +kernel
theorem dX12_setSpeed_17 : decode cX12_setSpeed 17 = .ok (.iload_n 2, 1) := by decide +kernel
theorem dX12_setSpeed_18 : decode cX12_setSpeed 18 = .ok (.invokestatic 286, 3) := by decide +kernel
theorem dX12_setSpeed_21 : decode cX12_setSpeed 21 = .ok (.invokevirtual 283, 3) := by decide +kernel
theorem dX12_setSpeed_24 : decode cX12_setSpeed 24 = .ok (.ireturn, 1) := by decide +kernel
theorem dX12_setLamp_0 : decode cX12_setLamp 0 = .ok (.iload_n 1, 1) := by decide +kernel
theorem dX12_setLamp_1 : decode cX12_setLamp 1 = .ok (.iconst 0, 1) := by decide +kernel
theorem dX12_setLamp_2 : decode cX12_setLamp 2 = .ok (.bipush 127, 2) := by decide +kernel
theorem dX12_setLamp_4 : decode cX12_setLamp 4 = .ok (.invokestatic 241, 3) := by decide +kernel
theorem dX12_setLamp_7 : decode cX12_setLamp 7 = .ok (.iload_n 2, 1) := by decide +kernel
theorem dX12_setLamp_8 : decode cX12_setLamp 8 = .ok (.iconst 0, 1) := by decide +kernel
theorem dX12_setLamp_9 : decode cX12_setLamp 9 = .ok (.bipush 15, 2) := by decide +kernel
theorem dX12_setLamp_11 : decode cX12_setLamp 11 = .ok (.invokestatic 241, 3) := by decide +kernel
theorem dX12_setLamp_14 : decode cX12_setLamp 14 = .ok (.aload_n 0, 1) := by decide +kernel
theorem dX12_setLamp_15 : decode cX12_setLamp 15 = .ok (.iload_n 1, 1) := by decide +kernel
theorem dX12_setLamp_16 : decode cX12_setLamp 16 = .ok (.iconst 1, 1) := by decide +kernel
theorem dX12_setLamp_17 : decode cX12_setLamp 17 = .ok (.iload_n 2, 1) := by decide +kernel
theorem dX12_setLamp_18 : decode cX12_setLamp 18 = .ok (.invokestatic 286, 3) := by decide +kernel
theorem dX12_setLamp_21 : decode cX12_setLamp 21 = .ok (.invokevirtual 283, 3) := by decide +kernel
theorem dX12_setLamp_24 : decode cX12_setLamp 24 = .ok (.ireturn, 1) := by decide +kernel
theorem dX12_stop_0 : decode cX12_stop 0 = .ok (.iload_n 1, 1) := by decide +kernel
theorem dX12_stop_1 : decode cX12_stop 1 = .ok (.iconst 0, 1) := by decide +kernel
theorem dX12_stop_2 : decode cX12_stop 2 = .ok (.bipush 127, 2) := by decide +kernel
theorem dX12_stop_4 : decode cX12_stop 4 = .ok (.invokestatic 241, 3) := by decide +kernel
theorem dX12_stop_7 : decode cX12_stop 7 = .ok (.aload_n 0, 1) := by decide +kernel
theorem dX12_stop_8 : decode cX12_stop 8 = .ok (.invokevirtual 289, 3) := by decide +kernel
theorem dX12_stop_11 : decode cX12_stop 11 = .ok (.aload_n 0, 1) := by decide +kernel
theorem dX12_stop_12 : decode cX12_stop 12 = .ok (.getfield 25, 3) := by decide +kernel
theorem dX12_stop_15 : decode cX12_stop 15 = .ok (.aload_n 0, 1) := by decide +kernel
theorem dX12_stop_16 : decode cX12_stop 16 = .ok (.getfield 10, 3) := by decide +kernel
theorem dX12_stop_19 : decode cX12_stop 19 = .ok (.invokevirtual 292, 3) := by decide +kernel
theorem dX12_stop_22 : decode cX12_stop 22 = .ok (.aload_n 0, 1) := by decide +kernel
theorem dX12_stop_23 : decode cX12_stop 23 = .ok (.getfield 10, 3) := by decide +kernel
theorem dX12_stop_26 : decode cX12_stop 26 = .ok (.getfield 214, 3) := by decide +kernel
theorem dX12_stop_29 : decode cX12_stop 29 = .ok (.iload_n 1, 1) := by decide +kernel
theorem dX12_stop_30 : decode cX12_stop 30 = .ok (.iconst 2, 1) := by decide +kernel
theorem dX12_stop_31 : decode cX12_stop 31 = .ok (.iconst 0, 1) := by decide +kernel
theorem dX12_stop_32 : decode cX12_stop 32 = .ok (.invokestatic 286, 3) := by decide +kernel
theorem dX12_stop_35 : decode cX12_stop 35 = .ok (.invokevirtual 295, 3) := by decide +kernel
theorem dX12_stop_38 : decode cX12_stop 38 = .ok (.pop, 1) := by decide +kernel
theorem dX12_stop_39 : decode cX12_stop 39 = .ok (.aload_n 0, 1) := by decide +kernel
theorem dX12_stop_40 : decode cX12_stop 40 = .ok (.getfield 10, 3) := by decide +kernel
theorem dX12_stop_43 : decode cX12_stop 43 = .ok (.getfield 214, 3) := by decide +kernel
theorem dX12_stop_46 : decode cX12_stop 46 = .ok (.getfield 218, 3) := by decide +kernel
theorem dX12_stop_49 : decode cX12_stop 49 = .ok (.ireturn, 1) := by decide +kernel
theorem dX12_setShort_0 : decode cX12_setShort 0 = .ok (.aload_n 0, 1) := by decide +kernel
theorem dX12_setShort_1 : decode cX12_setShort 1 = .ok (.iload_n 1, 1) := by decide +kernel
theorem dX12_setShort_2 : decode cX12_setShort 2 = .ok (.invokevirtual 119, 3) := by decide +kernel
theorem dX12_setShort_5 : decode cX12_setShort 5 = .ok (.aload_n 0, 1) := by decide +kernel
theorem dX12_setShort_6 : decode cX12_setShort 6 = .ok (.getfield 25, 3) := by decide +kernel
theorem dX12_setShort_9 : decode cX12_setShort 9 = .ok (.aload_n 0, 1) := by decide +kernel
theorem dX12_setShort_10 : decode cX12_setShort 10 = .ok (.getfield 10, 3) := by decide +kernel
theorem dX12_setShort_13 : decode cX12_setShort 13 = .ok (.invokevirtual 292, 3) := by decide +kernel
theorem dX12_setShort_16 : decode cX12_setShort 16 = .ok (.aload_n 0, 1) := by decide +kernel
theorem dX12_setShort_17 : decode cX12_setShort 17 = .ok (.getfield 10, 3) := by decide +kernel
theorem dX12_setShort_20 : decode cX12_setShort 20 = .ok (.iload_n 1, 1) := by decide +kernel
theorem dX12_setShort_21 : decode cX12_setShort 21 = .ok (.iload_n 2, 1) := by decide +kernel
theorem dX12_setShort_22 : decode cX12_setShort 22 = .ok (.invokevirtual 66, 3) := by decide +kernel
theorem dX12_setShort_25 : decode cX12_setShort 25 = .ok (.pop, 1) := by decide +kernel
theorem dX12_setShort_26 : decode cX12_setShort 26 = .ok (.aload_n 0, 1) := by decide +kernel
theorem dX12_setShort_27 : decode cX12_setShort 27 = .ok (.getfield 10, 3) := by decide +kernel
theorem dX12_setShort_30 : decode cX12_setShort 30 = .ok (.getfield 298, 3) := by decide +kernel
theorem dX12_setShort_33 : decode cX12_setShort 33 = .ok (.invokestatic 135, 3) := by decide +kernel
theorem dX12_setShort_36 : decode cX12_setShort 36 = .ok (.ireturn, 1) := by decide +kernel
theorem dX12_clearQueue_0 : decode cX12_clearQueue 0 = .ok (.aload_n 0, 1) := by decide +kernel
theorem dX12_clearQueue_1 : decode cX12_clearQueue 1 = .ok (.getfield 25, 3) := by decide +kernel
theorem dX12_clearQueue_4 : decode cX12_clearQueue 4 = .ok (.aload_n 0, 1) := by decide +kernel
theorem dX12_clearQueue_5 : decode cX12_clearQueue 5 = .ok (.getfield 10, 3) := by decide +kernel
theorem dX12_clearQueue_8 : decode cX12_clearQueue 8 = .ok (.invokevirtual 292, 3) := by decide +kernel
theorem dX12_clearQueue_11 : decode cX12_clearQueue 11 = .ok (.aload_n 0, 1) := by decide +kernel
theorem dX12_clearQueue_12 : decode cX12_clearQueue 12 = .ok (.getfield 10, 3) := by decide +kernel
theorem dX12_clearQueue_15 : decode cX12_clearQueue 15 = .ok (.getfield 214, 3) := by decide +kernel
theorem dX12_clearQueue_18 : decode cX12_clearQueue 18 = .ok (.invokevirtual 301, 3) := by decide +kernel
theorem dX12_clearQueue_21 : decode cX12_clearQueue 21 = .ok (.ireturn, 1) := by decide +kernel
theorem dX12_readdress_0 : decode cX12_readdress 0 = .ok (.aload_n 0, 1) := by decide +kernel
theorem dX12_readdress_1 : decode cX12_readdress 1 = .ok (.iload_n 1, 1) := by decide +kernel
theorem dX12_readdress_2 : decode cX12_readdress 2 = .ok (.invokevirtual 150, 3) := by decide +kernel
theorem dX12_readdress_5 : decode cX12_readdress 5 = .ok (.astore_n 3, 1) := by decide +kernel
theorem dX12_readdress_6 : decode cX12_readdress 6 = .ok (.iload_n 2, 1) := by decide +kernel
theorem dX12_readdress_7 : decode cX12_readdress 7 = .ok (.iconst 1, 1) := by decide +kernel
theorem dX12_readdress_8 : decode cX12_readdress 8 = .ok (.bipush 127, 2) := by decide +kernel
theorem dX12_readdress_10 : decode cX12_readdress 10 = .ok (.invokestatic 241, 3) := by decide +kernel
theorem dX12_readdress_13 : decode cX12_readdress 13 = .ok (.aload_n 3, 1) := by decide +kernel
theorem dX12_readdress_14 : decode cX12_readdress 14 = .ok (.getfield 168, 3) := by decide +kernel
theorem dX12_readdress_17 : decode cX12_readdress 17 = .ok (.ifCond .eq 14, 3) := by decide +kernel
theorem dX12_readdress_20 : decode cX12_readdress 20 = .ok (.new 303, 3) := by decide +kernel
theorem dX12_readdress_23 : decode cX12_readdress 23 = .ok (.dup, 1) := by decide +kernel
theorem dX12_readdress_24 : decode cX12_readdress 24 = .ok (.ldc_w 305, 3) := by decide +kernel
theorem dX12_readdress_27 : decode cX12_readdress 27 = .ok (.invokespecial 307, 3) := by decide +kernel
theorem dX12_readdress_30 : decode cX12_readdress 30 = .ok (.athrow, 1) := by decide +kernel
theorem dX12_readdress_31 : decode cX12_readdress 31 = .ok (.aload_n 0, 1) := by decide +kernel
theorem dX12_readdress_32 : decode cX12_readdress 32 = .ok (.getfield 10, 3) := by decide +kernel
theorem dX12_readdress_35 : decode cX12_readdress 35 = .ok (.iload_n 2, 1) := by decide +kernel
theorem dX12_readdress_36 : decode cX12_readdress 36 = .ok (.invokevirtual 159, 3) := by decide +kernel
theorem dX12_readdress_39 : decode cX12_readdress 39 = .ok (.ifCond .lt 14, 3) := by decide +kernel
theorem dX12_readdress_42 : decode cX12_readdress 42 = .ok (.new 303, 3) := by decide +kernel
theorem dX12_readdress_45 : decode cX12_readdress 45 = .ok (.dup, 1) := by decide +kernel
theorem dX12_readdress_46 : decode cX12_readdress 46 = .ok (.ldc_w 310, 3) := by decide +kernel
theorem dX12_readdress_49 : decode cX12_readdress 49 = .ok (.invokespecial 307, 3) := by decide +kernel
theorem dX12_readdress_52 : decode cX12_readdress 52 = .ok (.athrow, 1) := by decide +kernel
theorem dX12_readdress_53 : decode cX12_readdress 53 = .ok (.aload_n 0, 1) := by decide +kernel
theorem dX12_readdress_54 : decode cX12_readdress 54 = .ok (.getfield 25, 3) := by decide +kernel
theorem dX12_readdress_57 : decode cX12_readdress 57 = .ok (.aload_n 0, 1) := by decide +kernel
theorem dX12_readdress_58 : decode cX12_readdress 58 = .ok (.getfield 10, 3) := by decide +kernel
theorem dX12_readdress_61 : decode cX12_readdress 61 = .ok (.invokevirtual 292, 3) := by decide +kernel
theorem dX12_readdress_64 : decode cX12_readdress 64 = .ok (.aload_n 3, 1) := by decide +kernel
theorem dX12_readdress_65 : decode cX12_readdress 65 = .ok (.getfield 154, 3) := by decide +kernel
theorem dX12_readdress_68 : decode cX12_readdress 68 = .ok (.istore 4, 2) := by decide +kernel
theorem dX12_readdress_70 : decode cX12_readdress 70 = .ok (.aload_n 3, 1) := by decide +kernel
theorem dX12_readdress_71 : decode cX12_readdress 71 = .ok (.iload_n 2, 1) := by decide +kernel
theorem dX12_readdress_72 : decode cX12_readdress 72 = .ok (.putfield 154, 3) := by decide +kernel
theorem dX12_readdress_75 : decode cX12_readdress 75 = .ok (.iload 4, 2) := by decide +kernel
theorem dX12_readdress_77 : decode cX12_readdress 77 = .ok (.ireturn, 1) := by decide +kernel
theorem dX12_passTicks_0 : decode cX12_passTicks 0 = .ok (.iload_n 1, 1) := by decide +kernel
theorem dX12_passTicks_1 : decode cX12_passTicks 1 = .ok (.iconst 1, 1) := by decide +kernel
theorem dX12_passTicks_2 : decode cX12_passTicks 2 = .ok (.bipush 60, 2) := by decide +kernel
theorem dX12_passTicks_4 : decode cX12_passTicks 4 = .ok (.invokestatic 241, 3) := by decide +kernel
theorem dX12_passTicks_7 : decode cX12_passTicks 7 = .ok (.aload_n 0, 1) := by decide +kernel
theorem dX12_passTicks_8 : decode cX12_passTicks 8 = .ok (.getfield 10, 3) := by decide +kernel
theorem dX12_passTicks_11 : decode cX12_passTicks 11 = .ok (.iload_n 1, 1) := by decide +kernel
theorem dX12_passTicks_12 : decode cX12_passTicks 12 = .ok (.invokevirtual 312, 3) := by decide +kernel
theorem dX12_passTicks_15 : decode cX12_passTicks 15 = .ok (.ifCond .ne 14, 3) := by decide +kernel
theorem dX12_passTicks_18 : decode cX12_passTicks 18 = .ok (.new 303, 3) := by decide +kernel
theorem dX12_passTicks_21 : decode cX12_passTicks 21 = .ok (.dup, 1) := by decide +kernel
theorem dX12_passTicks_22 : decode cX12_passTicks 22 = .ok (.ldc_w 315, 3) := by decide +kernel
theorem dX12_passTicks_25 : decode cX12_passTicks 25 = .ok (.invokespecial 307, 3) := by decide +kernel
theorem dX12_passTicks_28 : decode cX12_passTicks 28 = .ok (.athrow, 1) := by decide +kernel
theorem dX12_passTicks_29 : decode cX12_passTicks 29 = .ok (.aload_n 0, 1) := by decide +kernel
theorem dX12_passTicks_30 : decode cX12_passTicks 30 = .ok (.getfield 25, 3) := by decide +kernel
theorem dX12_passTicks_33 : decode cX12_passTicks 33 = .ok (.aload_n 0, 1) := by decide +kernel
theorem dX12_passTicks_34 : decode cX12_passTicks 34 = .ok (.getfield 10, 3) := by decide +kernel
theorem dX12_passTicks_37 : decode cX12_passTicks 37 = .ok (.invokevirtual 292, 3) := by decide +kernel
theorem dX12_passTicks_40 : decode cX12_passTicks 40 = .ok (.aload_n 0, 1) := by decide +kernel
theorem dX12_passTicks_41 : decode cX12_passTicks 41 = .ok (.getfield 10, 3) := by decide +kernel
theorem dX12_passTicks_44 : decode cX12_passTicks 44 = .ok (.getfield 214, 3) := by decide +kernel
theorem dX12_passTicks_47 : decode cX12_passTicks 47 = .ok (.getfield 238, 3) := by decide +kernel
theorem dX12_passTicks_50 : decode cX12_passTicks 50 = .ok (.istore_n 2, 1) := by decide +kernel
theorem dX12_passTicks_51 : decode cX12_passTicks 51 = .ok (.aload_n 0, 1) := by decide +kernel
theorem dX12_passTicks_52 : decode cX12_passTicks 52 = .ok (.getfield 10, 3) := by decide +kernel
theorem dX12_passTicks_55 : decode cX12_passTicks 55 = .ok (.iload_n 1, 1) := by decide +kernel
theorem dX12_passTicks_56 : decode cX12_passTicks 56 = .ok (.invokevirtual 270, 3) := by decide +kernel
theorem dX12_passTicks_59 : decode cX12_passTicks 59 = .ok (.pop, 1) := by decide +kernel
theorem dX12_passTicks_60 : decode cX12_passTicks 60 = .ok (.aload_n 0, 1) := by decide +kernel
theorem dX12_passTicks_61 : decode cX12_passTicks 61 = .ok (.getfield 10, 3) := by decide +kernel
theorem dX12_passTicks_64 : decode cX12_passTicks 64 = .ok (.getfield 214, 3) := by decide +kernel
theorem dX12_passTicks_67 : decode cX12_passTicks 67 = .ok (.getfield 238, 3) := by decide +kernel
theorem dX12_passTicks_70 : decode cX12_passTicks 70 = .ok (.iload_n 2, 1) := by decide +kernel
theorem dX12_passTicks_71 : decode cX12_passTicks 71 = .ok (.isub, 1) := by decide +kernel
theorem dX12_passTicks_72 : decode cX12_passTicks 72 = .ok (.ireturn, 1) := by decide +kernel
theorem dX12_enqueue_0 : decode cX12_enqueue 0 = .ok (.aload_n 0, 1) := by decide +kernel
theorem dX12_enqueue_1 : decode cX12_enqueue 1 = .ok (.invokevirtual 289, 3) := by decide +kernel
theorem dX12_enqueue_4 : decode cX12_enqueue 4 = .ok (.aload_n 0, 1) := by decide +kernel
theorem dX12_enqueue_5 : decode cX12_enqueue 5 = .ok (.getfield 25, 3) := by decide +kernel
theorem dX12_enqueue_8 : decode cX12_enqueue 8 = .ok (.aload_n 0, 1) := by decide +kernel
theorem dX12_enqueue_9 : decode cX12_enqueue 9 = .ok (.getfield 10, 3) := by decide +kernel
theorem dX12_enqueue_12 : decode cX12_enqueue 12 = .ok (.invokevirtual 292, 3) := by decide +kernel
theorem dX12_enqueue_15 : decode cX12_enqueue 15 = .ok (.aload_n 0, 1) := by decide +kernel
theorem dX12_enqueue_16 : decode cX12_enqueue 16 = .ok (.getfield 10, 3) := by decide +kernel
theorem dX12_enqueue_19 : decode cX12_enqueue 19 = .ok (.getfield 214, 3) := by decide +kernel
theorem dX12_enqueue_22 : decode cX12_enqueue 22 = .ok (.iload_n 1, 1) := by decide +kernel
theorem dX12_enqueue_23 : decode cX12_enqueue 23 = .ok (.invokevirtual 331, 3) := by decide +kernel
theorem dX12_enqueue_26 : decode cX12_enqueue 26 = .ok (.pop, 1) := by decide +kernel
theorem dX12_enqueue_27 : decode cX12_enqueue 27 = .ok (.aload_n 0, 1) := by decide +kernel
theorem dX12_enqueue_28 : decode cX12_enqueue 28 = .ok (.getfield 10, 3) := by decide +kernel
theorem dX12_enqueue_31 : decode cX12_enqueue 31 = .ok (.getfield 214, 3) := by decide +kernel
theorem dX12_enqueue_34 : decode cX12_enqueue 34 = .ok (.getfield 218, 3) := by decide +kernel
theorem dX12_enqueue_37 : decode cX12_enqueue 37 = .ok (.ireturn, 1) := by decide +kernel
theorem dX12_writeTrack_0 : decode cX12_writeTrack 0 = .ok (.aload_n 0, 1) := by decide +kernel
theorem dX12_writeTrack_1 : decode cX12_writeTrack 1 = .ok (.aload_n 0, 1) := by decide +kernel
theorem dX12_writeTrack_2 : decode cX12_writeTrack 2 = .ok (.getfield 10, 3) := by decide +kernel
theorem dX12_writeTrack_5 : decode cX12_writeTrack 5 = .ok (.getfield 116, 3) := by decide +kernel
theorem dX12_writeTrack_8 : decode cX12_writeTrack 8 = .ok (.aload_n 0, 1) := by decide +kernel
theorem dX12_writeTrack_9 : decode cX12_writeTrack 9 = .ok (.getfield 54, 3) := by decide +kernel
theorem dX12_writeTrack_12 : decode cX12_writeTrack 12 = .ok (.arraylength, 1) := by decide +kernel
theorem dX12_writeTrack_13 : decode cX12_writeTrack 13 = .ok (.invokestatic 273, 3) := by decide +kernel
theorem dX12_writeTrack_16 : decode cX12_writeTrack 16 = .ok (.putfield 334, 3) := by decide +kernel
theorem dX12_writeTrack_19 : decode cX12_writeTrack 19 = .ok (.iconst 0, 1) := by decide +kernel
theorem dX12_writeTrack_20 : decode cX12_writeTrack 20 = .ok (.istore_n 1, 1) := by decide +kernel
theorem dX12_writeTrack_21 : decode cX12_writeTrack 21 = .ok (.iload_n 1, 1) := by decide +kernel
theorem dX12_writeTrack_22 : decode cX12_writeTrack 22 = .ok (.aload_n 0, 1) := by decide +kernel
theorem dX12_writeTrack_23 : decode cX12_writeTrack 23 = .ok (.getfield 334, 3) := by decide +kernel
theorem dX12_writeTrack_26 : decode cX12_writeTrack 26 = .ok (.if_icmp .ge 32, 3) := by decide +kernel
theorem dX12_writeTrack_29 : decode cX12_writeTrack 29 = .ok (.iload_n 1, 1) := by decide +kernel
theorem dX12_writeTrack_30 : decode cX12_writeTrack 30 = .ok (.aload_n 0, 1) := by decide +kernel
theorem dX12_writeTrack_31 : decode cX12_writeTrack 31 = .ok (.getfield 54, 3) := by decide +kernel
theorem dX12_writeTrack_34 : decode cX12_writeTrack 34 = .ok (.arraylength, 1) := by decide +kernel
theorem dX12_writeTrack_35 : decode cX12_writeTrack 35 = .ok (.if_icmp .ge 23, 3) := by decide +kernel
theorem dX12_writeTrack_38 : decode cX12_writeTrack 38 = .ok (.aload_n 0, 1) := by decide +kernel
theorem dX12_writeTrack_39 : decode cX12_writeTrack 39 = .ok (.getfield 54, 3) := by decide +kernel
theorem dX12_writeTrack_42 : decode cX12_writeTrack 42 = .ok (.iload_n 1, 1) := by decide +kernel
theorem dX12_writeTrack_43 : decode cX12_writeTrack 43 = .ok (.aload_n 0, 1) := by decide +kernel
theorem dX12_writeTrack_44 : decode cX12_writeTrack 44 = .ok (.getfield 10, 3) := by decide +kernel
theorem dX12_writeTrack_47 : decode cX12_writeTrack 47 = .ok (.iload_n 1, 1) := by decide +kernel
theorem dX12_writeTrack_48 : decode cX12_writeTrack 48 = .ok (.invokevirtual 337, 3) := by decide +kernel
theorem dX12_writeTrack_51 : decode cX12_writeTrack 51 = .ok (.iastore, 1) := by decide +kernel
theorem dX12_writeTrack_52 : decode cX12_writeTrack 52 = .ok (.iinc 1 1, 3) := by decide +kernel
theorem dX12_writeTrack_55 : decode cX12_writeTrack 55 = .ok (.goto (-34), 3) := by decide +kernel
theorem dX12_writeTrack_58 : decode cX12_writeTrack 58 = .ok (.aload_n 0, 1) := by decide +kernel
theorem dX12_writeTrack_59 : decode cX12_writeTrack 59 = .ok (.getfield 334, 3) := by decide +kernel
theorem dX12_writeTrack_62 : decode cX12_writeTrack 62 = .ok (.ireturn, 1) := by decide +kernel
theorem dX12_undoableCount_0 : decode cX12_undoableCount 0 = .ok (.aload_n 0, 1) := by decide +kernel
theorem dX12_undoableCount_1 : decode cX12_undoableCount 1 = .ok (.getfield 25, 3) := by decide +kernel
theorem dX12_undoableCount_4 : decode cX12_undoableCount 4 = .ok (.getfield 345, 3) := by decide +kernel
theorem dX12_undoableCount_7 : decode cX12_undoableCount 7 = .ok (.ireturn, 1) := by decide +kernel
theorem dX12_undo_0 : decode cX12_undo 0 = .ok (.aload_n 0, 1) := by decide +kernel
theorem dX12_undo_1 : decode cX12_undo 1 = .ok (.getfield 25, 3) := by decide +kernel
theorem dX12_undo_4 : decode cX12_undo 4 = .ok (.getfield 345, 3) := by decide +kernel
theorem dX12_undo_7 : decode cX12_undo 7 = .ok (.ifCond .ne 14, 3) := by decide +kernel
theorem dX12_undo_10 : decode cX12_undo 10 = .ok (.new 303, 3) := by decide +kernel
theorem dX12_undo_13 : decode cX12_undo 13 = .ok (.dup, 1) := by decide +kernel
theorem dX12_undo_14 : decode cX12_undo 14 = .ok (.ldc_w 348, 3) := by decide +kernel
theorem dX12_undo_17 : decode cX12_undo 17 = .ok (.invokespecial 307, 3) := by decide +kernel
theorem dX12_undo_20 : decode cX12_undo 20 = .ok (.athrow, 1) := by decide +kernel
theorem dX12_undo_21 : decode cX12_undo 21 = .ok (.aload_n 0, 1) := by decide +kernel
theorem dX12_undo_22 : decode cX12_undo 22 = .ok (.getfield 25, 3) := by decide +kernel
theorem dX12_undo_25 : decode cX12_undo 25 = .ok (.aload_n 0, 1) := by decide +kernel
theorem dX12_undo_26 : decode cX12_undo 26 = .ok (.getfield 10, 3) := by decide +kernel
theorem dX12_undo_29 : decode cX12_undo 29 = .ok (.invokevirtual 350, 3) := by decide +kernel
theorem dX12_undo_32 : decode cX12_undo 32 = .ok (.aload_n 0, 1) := by decide +kernel
theorem dX12_undo_33 : decode cX12_undo 33 = .ok (.getfield 25, 3) := by decide +kernel
theorem dX12_undo_36 : decode cX12_undo 36 = .ok (.getfield 345, 3) := by decide +kernel
theorem dX12_undo_39 : decode cX12_undo 39 = .ok (.ireturn, 1) := by decide +kernel
theorem dX12_saveSnapshot_0 : decode cX12_saveSnapshot 0 = .ok (.aload_n 0, 1) := by decide +kernel
theorem dX12_saveSnapshot_1 : decode cX12_saveSnapshot 1 = .ok (.getfield 19, 3) := by decide +kernel
theorem dX12_saveSnapshot_4 : decode cX12_saveSnapshot 4 = .ok (.aload_n 0, 1) := by decide +kernel
theorem dX12_saveSnapshot_5 : decode cX12_saveSnapshot 5 = .ok (.getfield 10, 3) := by decide +kernel
theorem dX12_saveSnapshot_8 : decode cX12_saveSnapshot 8 = .ok (.invokevirtual 95, 3) := by decide +kernel
theorem dX12_saveSnapshot_11 : decode cX12_saveSnapshot 11 = .ok (.aload_n 0, 1) := by decide +kernel
theorem dX12_saveSnapshot_12 : decode cX12_saveSnapshot 12 = .ok (.iconst 1, 1) := by decide +kernel
theorem dX12_saveSnapshot_13 : decode cX12_saveSnapshot 13 = .ok (.putfield 99, 3) := by decide +kernel
theorem dX12_saveSnapshot_16 : decode cX12_saveSnapshot 16 = .ok (.return_, 1) := by decide +kernel
theorem dX12_restoreSnapshot_0 : decode cX12_restoreSnapshot 0 = .ok (.aload_n 0, 1) := by decide +kernel
theorem dX12_restoreSnapshot_1 : decode cX12_restoreSnapshot 1 = .ok (.getfield 99, 3) := by decide +kernel
theorem dX12_restoreSnapshot_4 : decode cX12_restoreSnapshot 4 = .ok (.ifCond .ne 14, 3) := by decide +kernel
theorem dX12_restoreSnapshot_7 : decode cX12_restoreSnapshot 7 = .ok (.new 303, 3) := by decide +kernel
theorem dX12_restoreSnapshot_10 : decode cX12_restoreSnapshot 10 = .ok (.dup, 1) := by decide +kernel
theorem dX12_restoreSnapshot_11 : decode cX12_restoreSnapshot 11 = .ok (.ldc_w 353, 3) := by decide +kernel
theorem dX12_restoreSnapshot_14 : decode cX12_restoreSnapshot 14 = .ok (.invokespecial 307, 3) := by decide +kernel
theorem dX12_restoreSnapshot_17 : decode cX12_restoreSnapshot 17 = .ok (.athrow, 1) := by decide +kernel
theorem dX12_restoreSnapshot_18 : decode cX12_restoreSnapshot 18 = .ok (.aload_n 0, 1) := by decide +kernel
theorem dX12_restoreSnapshot_19 : decode cX12_restoreSnapshot 19 = .ok (.getfield 10, 3) := by decide +kernel
theorem dX12_restoreSnapshot_22 : decode cX12_restoreSnapshot 22 = .ok (.aload_n 0, 1) := by decide +kernel
theorem dX12_restoreSnapshot_23 : decode cX12_restoreSnapshot 23 = .ok (.getfield 19, 3) := by decide +kernel
theorem dX12_restoreSnapshot_26 : decode cX12_restoreSnapshot 26 = .ok (.invokevirtual 95, 3) := by decide +kernel
theorem dX12_restoreSnapshot_29 : decode cX12_restoreSnapshot 29 = .ok (.aload_n 0, 1) := by decide +kernel
theorem dX12_restoreSnapshot_30 : decode cX12_restoreSnapshot 30 = .ok (.getfield 25, 3) := by decide +kernel
theorem dX12_restoreSnapshot_33 : decode cX12_restoreSnapshot 33 = .ok (.invokevirtual 98, 3) := by decide +kernel
theorem dX12_restoreSnapshot_36 : decode cX12_restoreSnapshot 36 = .ok (.aload_n 0, 1) := by decide +kernel
theorem dX12_restoreSnapshot_37 : decode cX12_restoreSnapshot 37 = .ok (.getfield 10, 3) := by decide +kernel
theorem dX12_restoreSnapshot_40 : decode cX12_restoreSnapshot 40 = .ok (.getfield 113, 3) := by decide +kernel
theorem dX12_restoreSnapshot_43 : decode cX12_restoreSnapshot 43 = .ok (.ireturn, 1) := by decide +kernel
theorem dX12_requireText_0 : decode cX12_requireText 0 = .ok (.iload_n 1, 1) := by decide +kernel
theorem dX12_requireText_1 : decode cX12_requireText 1 = .ok (.ifCond .lt 14, 3) := by decide +kernel
theorem dX12_requireText_4 : decode cX12_requireText 4 = .ok (.iload_n 1, 1) := by decide +kernel
theorem dX12_requireText_5 : decode cX12_requireText 5 = .ok (.aload_n 0, 1) := by decide +kernel
theorem dX12_requireText_6 : decode cX12_requireText 6 = .ok (.getfield 32, 3) := by decide +kernel
theorem dX12_requireText_9 : decode cX12_requireText 9 = .ok (.getfield 81, 3) := by decide +kernel
theorem dX12_requireText_12 : decode cX12_requireText 12 = .ok (.if_icmp .le 14, 3) := by decide +kernel
theorem dX12_requireText_15 : decode cX12_requireText 15 = .ok (.new 355, 3) := by decide +kernel
theorem dX12_requireText_18 : decode cX12_requireText 18 = .ok (.dup, 1) := by decide +kernel
theorem dX12_requireText_19 : decode cX12_requireText 19 = .ok (.ldc_w 357, 3) := by decide +kernel
theorem dX12_requireText_22 : decode cX12_requireText 22 = .ok (.invokespecial 359, 3) := by decide +kernel
theorem dX12_requireText_25 : decode cX12_requireText 25 = .ok (.athrow, 1) := by decide +kernel
theorem dX12_requireText_26 : decode cX12_requireText 26 = .ok (.return_, 1) := by decide +kernel
theorem dX12_requireSection_0 : decode cX12_requireSection 0 = .ok (.aload_n 0, 1) := by decide +kernel
theorem dX12_requireSection_1 : decode cX12_requireSection 1 = .ok (.getfield 10, 3) := by decide +kernel
theorem dX12_requireSection_4 : decode cX12_requireSection 4 = .ok (.iload_n 1, 1) := by decide +kernel
theorem dX12_requireSection_5 : decode cX12_requireSection 5 = .ok (.invokevirtual 360, 3) := by decide +kernel
theorem dX12_requireSection_8 : decode cX12_requireSection 8 = .ok (.ifCond .ne 14, 3) := by decide +kernel
theorem dX12_requireSection_11 : decode cX12_requireSection 11 = .ok (.new 340, 3) := by decide +kernel
theorem dX12_requireSection_14 : decode cX12_requireSection 14 = .ok (.dup, 1) := by decide +kernel
theorem dX12_requireSection_15 : decode cX12_requireSection 15 = .ok (.ldc_w 363, 3) := by decide +kernel
theorem dX12_requireSection_18 : decode cX12_requireSection 18 = .ok (.invokespecial 344, 3) := by decide +kernel
theorem dX12_requireSection_21 : decode cX12_requireSection 21 = .ok (.athrow, 1) := by decide +kernel
theorem dX12_requireSection_22 : decode cX12_requireSection 22 = .ok (.return_, 1) := by decide +kernel
theorem dX12_requireTrain_0 : decode cX12_requireTrain 0 = .ok (.aload_n 0, 1) := by decide +kernel
theorem dX12_requireTrain_1 : decode cX12_requireTrain 1 = .ok (.getfield 10, 3) := by decide +kernel
theorem dX12_requireTrain_4 : decode cX12_requireTrain 4 = .ok (.iload_n 1, 1) := by decide +kernel
theorem dX12_requireTrain_5 : decode cX12_requireTrain 5 = .ok (.invokevirtual 276, 3) := by decide +kernel
theorem dX12_requireTrain_8 : decode cX12_requireTrain 8 = .ok (.astore_n 2, 1) := by decide +kernel
theorem dX12_requireTrain_9 : decode cX12_requireTrain 9 = .ok (.aload_n 2, 1) := by decide +kernel
theorem dX12_requireTrain_10 : decode cX12_requireTrain 10 = .ok (.ifnonnull 14, 3) := by decide +kernel
theorem dX12_requireTrain_13 : decode cX12_requireTrain 13 = .ok (.new 340, 3) := by decide +kernel
theorem dX12_requireTrain_16 : decode cX12_requireTrain 16 = .ok (.dup, 1) := by decide +kernel
theorem dX12_requireTrain_17 : decode cX12_requireTrain 17 = .ok (.ldc_w 365, 3) := by decide +kernel
theorem dX12_requireTrain_20 : decode cX12_requireTrain 20 = .ok (.invokespecial 344, 3) := by decide +kernel
theorem dX12_requireTrain_23 : decode cX12_requireTrain 23 = .ok (.athrow, 1) := by decide +kernel
theorem dX12_requireTrain_24 : decode cX12_requireTrain 24 = .ok (.aload_n 2, 1) := by decide +kernel
theorem dX12_requireTrain_25 : decode cX12_requireTrain 25 = .ok (.areturn, 1) := by decide +kernel
theorem dX12_requirePacket_0 : decode cX12_requirePacket 0 = .ok (.aload_n 0, 1) := by decide +kernel
theorem dX12_requirePacket_1 : decode cX12_requirePacket 1 = .ok (.getfield 10, 3) := by decide +kernel
theorem dX12_requirePacket_4 : decode cX12_requirePacket 4 = .ok (.getfield 214, 3) := by decide +kernel
theorem dX12_requirePacket_7 : decode cX12_requirePacket 7 = .ok (.iload_n 1, 1) := by decide +kernel
theorem dX12_requirePacket_8 : decode cX12_requirePacket 8 = .ok (.invokevirtual 367, 3) := by decide +kernel
theorem dX12_requirePacket_11 : decode cX12_requirePacket 11 = .ok (.istore_n 2, 1) := by decide +kernel
theorem dX12_requirePacket_12 : decode cX12_requirePacket 12 = .ok (.iload_n 2, 1) := by decide +kernel
theorem dX12_requirePacket_13 : decode cX12_requirePacket 13 = .ok (.iconst (-1), 1) := by decide +kernel
theorem dX12_requirePacket_14 : decode cX12_requirePacket 14 = .ok (.if_icmp .ne 14, 3) := by decide +kernel
theorem dX12_requirePacket_17 : decode cX12_requirePacket 17 = .ok (.new 340, 3) := by decide +kernel
theorem dX12_requirePacket_20 : decode cX12_requirePacket 20 = .ok (.dup, 1) := by decide +kernel
theorem dX12_requirePacket_21 : decode cX12_requirePacket 21 = .ok (.ldc_w 370, 3) := by decide +kernel
theorem dX12_requirePacket_24 : decode cX12_requirePacket 24 = .ok (.invokespecial 344, 3) := by decide +kernel
theorem dX12_requirePacket_27 : decode cX12_requirePacket 27 = .ok (.athrow, 1) := by decide +kernel
theorem dX12_requirePacket_28 : decode cX12_requirePacket 28 = .ok (.iload_n 2, 1) := by decide +kernel
theorem dX12_requirePacket_29 : decode cX12_requirePacket 29 = .ok (.ireturn, 1) := by decide +kernel
theorem dX12_requireRoomInQueue_0 : decode cX12_requireRoomInQueue 0 = .ok (.aload_n 0, 1) := by decide +kernel
theorem dX12_requireRoomInQueue_1 : decode cX12_requireRoomInQueue 1 = .ok (.getfield 10, 3) := by decide +kernel
theorem dX12_requireRoomInQueue_4 : decode cX12_requireRoomInQueue 4 = .ok (.getfield 214, 3) := by decide +kernel
theorem dX12_requireRoomInQueue_7 : decode cX12_requireRoomInQueue 7 = .ok (.invokevirtual 372, 3) := by decide +kernel
theorem dX12_requireRoomInQueue_10 : decode cX12_requireRoomInQueue 10 = .ok (.ifCond .eq 14, 3) := by decide +kernel
theorem dX12_requireRoomInQueue_13 : decode cX12_requireRoomInQueue 13 = .ok (.new 303, 3) := by decide +kernel
theorem dX12_requireRoomInQueue_16 : decode cX12_requireRoomInQueue 16 = .ok (.dup, 1) := by decide +kernel
theorem dX12_requireRoomInQueue_17 : decode cX12_requireRoomInQueue 17 = .ok (.ldc_w 375, 3) := by decide +kernel
theorem dX12_requireRoomInQueue_20 : decode cX12_requireRoomInQueue 20 = .ok (.invokespecial 307, 3) := by decide +kernel
theorem dX12_requireRoomInQueue_23 : decode cX12_requireRoomInQueue 23 = .ok (.athrow, 1) := by decide +kernel
theorem dX12_requireRoomInQueue_24 : decode cX12_requireRoomInQueue 24 = .ok (.return_, 1) := by decide +kernel
theorem dX12_requireRange_0 : decode cX12_requireRange 0 = .ok (.iload_n 0, 1) := by decide +kernel
theorem dX12_requireRange_1 : decode cX12_requireRange 1 = .ok (.iload_n 1, 1) := by decide +kernel
theorem dX12_requireRange_2 : decode cX12_requireRange 2 = .ok (.if_icmp .lt 8, 3) := by decide +kernel
theorem dX12_requireRange_5 : decode cX12_requireRange 5 = .ok (.iload_n 0, 1) := by decide +kernel
theorem dX12_requireRange_6 : decode cX12_requireRange 6 = .ok (.iload_n 2, 1) := by decide +kernel
theorem dX12_requireRange_7 : decode cX12_requireRange 7 = .ok (.if_icmp .le 14, 3) := by decide +kernel
theorem dX12_requireRange_10 : decode cX12_requireRange 10 = .ok (.new 355, 3) := by decide +kernel
theorem dX12_requireRange_13 : decode cX12_requireRange 13 = .ok (.dup, 1) := by decide +kernel
theorem dX12_requireRange_14 : decode cX12_requireRange 14 = .ok (.ldc_w 377, 3) := by decide +kernel
theorem dX12_requireRange_17 : decode cX12_requireRange 17 = .ok (.invokespecial 359, 3) := by decide +kernel
theorem dX12_requireRange_20 : decode cX12_requireRange 20 = .ok (.athrow, 1) := by decide +kernel
theorem dX12_requireRange_21 : decode cX12_requireRange 21 = .ok (.return_, 1) := by decide +kernel
