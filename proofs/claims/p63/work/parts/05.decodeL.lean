theorem dJ5_init_a7421_0 : decode cJ5_init_a7421 0 = .ok (.aload_n 0, 1) := by decide +kernel
theorem dJ5_init_a7421_1 : decode cJ5_init_a7421 1 = .ok (.invokespecial 3, 3) := by decide +kernel
theorem dJ5_init_a7421_4 : decode cJ5_init_a7421 4 = .ok (.aload_n 1, 1) := by decide +kernel
theorem dJ5_init_a7421_5 : decode cJ5_init_a7421 5 = .ok (.invokevirtual 32, 3) := by decide +kernel
theorem dJ5_init_a7421_8 : decode cJ5_init_a7421 8 = .ok (.istore_n 2, 1) := by decide +kernel
theorem dJ5_init_a7421_9 : decode cJ5_init_a7421 9 = .ok (.iload_n 2, 1) := by decide +kernel
theorem dJ5_init_a7421_10 : decode cJ5_init_a7421 10 = .ok (.ldc 38, 2) := by decide +kernel
theorem dJ5_init_a7421_12 : decode cJ5_init_a7421 12 = .ok (.if_icmp .ge 10, 3) := by decide +kernel
theorem dJ5_init_a7421_15 : decode cJ5_init_a7421 15 = .ok (.iload_n 2, 1) := by decide +kernel
theorem dJ5_init_a7421_16 : decode cJ5_init_a7421 16 = .ok (.bipush 16, 2) := by decide +kernel
theorem dJ5_init_a7421_18 : decode cJ5_init_a7421 18 = .ok (.iadd, 1) := by decide +kernel
theorem dJ5_init_a7421_19 : decode cJ5_init_a7421 19 = .ok (.goto 5, 3) := by decide +kernel
theorem dJ5_init_a7421_22 : decode cJ5_init_a7421 22 = .ok (.ldc 39, 2) := by decide +kernel
theorem dJ5_init_a7421_24 : decode cJ5_init_a7421 24 = .ok (.istore_n 3, 1) := by decide +kernel
theorem dJ5_init_a7421_25 : decode cJ5_init_a7421 25 = .ok (.aload_n 1, 1) := by decide +kernel
theorem dJ5_init_a7421_26 : decode cJ5_init_a7421 26 = .ok (.invokevirtual 40, 3) := by decide +kernel
theorem dJ5_init_a7421_29 : decode cJ5_init_a7421 29 = .ok (.istore 4, 2) := by decide +kernel
theorem dJ5_init_a7421_31 : decode cJ5_init_a7421 31 = .ok (.aload_n 0, 1) := by decide +kernel
theorem dJ5_init_a7421_32 : decode cJ5_init_a7421 32 = .ok (.iload 4, 2) := by decide +kernel
theorem dJ5_init_a7421_34 : decode cJ5_init_a7421 34 = .ok (.putfield 22, 3) := by decide +kernel
theorem dJ5_init_a7421_37 : decode cJ5_init_a7421 37 = .ok (.aload_n 0, 1) := by decide +kernel
theorem dJ5_init_a7421_38 : decode cJ5_init_a7421 38 = .ok (.iload 4, 2) := by decide +kernel
theorem dJ5_init_a7421_40 : decode cJ5_init_a7421 40 = .ok (.ifCond .ne 9, 3) := by decide +kernel
theorem dJ5_init_a7421_43 : decode cJ5_init_a7421 43 = .ok (.iload_n 3, 1) := by decide +kernel
theorem dJ5_init_a7421_44 : decode cJ5_init_a7421 44 = .ok (.newarray .byte, 2) := by decide +kernel
theorem dJ5_init_a7421_46 : decode cJ5_init_a7421 46 = .ok (.goto 7, 3) := by decide +kernel
theorem dJ5_init_a7421_49 : decode cJ5_init_a7421 49 = .ok (.iload_n 3, 1) := by decide +kernel
theorem dJ5_init_a7421_50 : decode cJ5_init_a7421 50 = .ok (.invokestatic 26, 3) := by decide +kernel
theorem dJ5_init_a7421_53 : decode cJ5_init_a7421 53 = .ok (.putfield 15, 3) := by decide +kernel
theorem dJ5_init_a7421_56 : decode cJ5_init_a7421 56 = .ok (.aload_n 0, 1) := by decide +kernel
theorem dJ5_init_a7421_57 : decode cJ5_init_a7421 57 = .ok (.aload_n 1, 1) := by decide +kernel
theorem dJ5_init_a7421_58 : decode cJ5_init_a7421 58 = .ok (.invokevirtual 43, 3) := by decide +kernel
theorem dJ5_init_a7421_61 : decode cJ5_init_a7421 61 = .ok (.pop, 1) := by decide +kernel
theorem dJ5_init_a7421_62 : decode cJ5_init_a7421 62 = .ok (.return_, 1) := by decide +kernel
theorem dJ5_length_8abf5_0 : decode cJ5_length_8abf5 0 = .ok (.aload_n 0, 1) := by decide +kernel
theorem dJ5_length_8abf5_1 : decode cJ5_length_8abf5 1 = .ok (.getfield 79, 3) := by decide +kernel
theorem dJ5_length_8abf5_4 : decode cJ5_length_8abf5 4 = .ok (.ireturn, 1) := by decide +kernel
theorem dJ5_ensureCapacityInternal_d00df_0 : decode cJ5_ensureCapacityInternal_d00df 0 = .ok (.aload_n 0, 1) := by decide +kernel
theorem dJ5_ensureCapacityInternal_d00df_1 : decode cJ5_ensureCapacityInternal_d00df 1 = .ok (.getfield 15, 3) := by decide +kernel
theorem dJ5_ensureCapacityInternal_d00df_4 : decode cJ5_ensureCapacityInternal_d00df 4 = .ok (.arraylength, 1) := by decide +kernel
theorem dJ5_ensureCapacityInternal_d00df_5 : decode cJ5_ensureCapacityInternal_d00df 5 = .ok (.aload_n 0, 1) := by decide +kernel
theorem dJ5_ensureCapacityInternal_d00df_6 : decode cJ5_ensureCapacityInternal_d00df 6 = .ok (.getfield 22, 3) := by decide +kernel
theorem dJ5_ensureCapacityInternal_d00df_9 : decode cJ5_ensureCapacityInternal_d00df 9 = .ok (.ishr, 1) := by decide +kernel
theorem dJ5_ensureCapacityInternal_d00df_10 : decode cJ5_ensureCapacityInternal_d00df 10 = .ok (.istore_n 2, 1) := by decide +kernel
theorem dJ5_ensureCapacityInternal_d00df_11 : decode cJ5_ensureCapacityInternal_d00df 11 = .ok (.iload_n 1, 1) := by decide +kernel
theorem dJ5_ensureCapacityInternal_d00df_12 : decode cJ5_ensureCapacityInternal_d00df 12 = .ok (.iload_n 2, 1) := by decide +kernel
theorem dJ5_ensureCapacityInternal_d00df_13 : decode cJ5_ensureCapacityInternal_d00df 13 = .ok (.isub, 1) := by decide +kernel
theorem dJ5_ensureCapacityInternal_d00df_14 : decode cJ5_ensureCapacityInternal_d00df 14 = .ok (.ifCond .le 24, 3) := by decide +kernel
theorem dJ5_ensureCapacityInternal_d00df_17 : decode cJ5_ensureCapacityInternal_d00df 17 = .ok (.aload_n 0, 1) := by decide +kernel
theorem dJ5_ensureCapacityInternal_d00df_18 : decode cJ5_ensureCapacityInternal_d00df 18 = .ok (.aload_n 0, 1) := by decide +kernel
theorem dJ5_ensureCapacityInternal_d00df_19 : decode cJ5_ensureCapacityInternal_d00df 19 = .ok (.getfield 15, 3) := by decide +kernel
theorem dJ5_ensureCapacityInternal_d00df_22 : decode cJ5_ensureCapacityInternal_d00df 22 = .ok (.aload_n 0, 1) := by decide +kernel
theorem dJ5_ensureCapacityInternal_d00df_23 : decode cJ5_ensureCapacityInternal_d00df 23 = .ok (.iload_n 1, 1) := by decide +kernel
theorem dJ5_ensureCapacityInternal_d00df_24 : decode cJ5_ensureCapacityInternal_d00df 24 = .ok (.invokevirtual 104, 3) := by decide +kernel
theorem dJ5_ensureCapacityInternal_d00df_27 : decode cJ5_ensureCapacityInternal_d00df 27 = .ok (.aload_n 0, 1) := by decide +kernel
theorem dJ5_ensureCapacityInternal_d00df_28 : decode cJ5_ensureCapacityInternal_d00df 28 = .ok (.getfield 22, 3) := by decide +kernel
theorem dJ5_ensureCapacityInternal_d00df_31 : decode cJ5_ensureCapacityInternal_d00df 31 = .ok (.ishl, 1) := by decide +kernel
theorem dJ5_ensureCapacityInternal_d00df_32 : decode cJ5_ensureCapacityInternal_d00df 32 = .ok (.invokestatic 108, 3) := by decide +kernel
theorem dJ5_ensureCapacityInternal_d00df_35 : decode cJ5_ensureCapacityInternal_d00df 35 = .ok (.putfield 15, 3) := by decide +kernel
theorem dJ5_ensureCapacityInternal_d00df_38 : decode cJ5_ensureCapacityInternal_d00df 38 = .ok (.return_, 1) := by decide +kernel
theorem dJ5_newCapacity_0f7a4_0 : decode cJ5_newCapacity_0f7a4 0 = .ok (.aload_n 0, 1) := by decide +kernel
theorem dJ5_newCapacity_0f7a4_1 : decode cJ5_newCapacity_0f7a4 1 = .ok (.getfield 15, 3) := by decide +kernel
theorem dJ5_newCapacity_0f7a4_4 : decode cJ5_newCapacity_0f7a4 4 = .ok (.arraylength, 1) := by decide +kernel
theorem dJ5_newCapacity_0f7a4_5 : decode cJ5_newCapacity_0f7a4 5 = .ok (.istore_n 2, 1) := by decide +kernel
theorem dJ5_newCapacity_0f7a4_6 : decode cJ5_newCapacity_0f7a4 6 = .ok (.iload_n 1, 1) := by decide +kernel
theorem dJ5_newCapacity_0f7a4_7 : decode cJ5_newCapacity_0f7a4 7 = .ok (.aload_n 0, 1) := by decide +kernel
theorem dJ5_newCapacity_0f7a4_8 : decode cJ5_newCapacity_0f7a4 8 = .ok (.getfield 22, 3) := by decide +kernel
theorem dJ5_newCapacity_0f7a4_11 : decode cJ5_newCapacity_0f7a4 11 = .ok (.ishl, 1) := by decide +kernel
theorem dJ5_newCapacity_0f7a4_12 : decode cJ5_newCapacity_0f7a4 12 = .ok (.istore_n 3, 1) := by decide +kernel
theorem dJ5_newCapacity_0f7a4_13 : decode cJ5_newCapacity_0f7a4 13 = .ok (.iload_n 3, 1) := by decide +kernel
theorem dJ5_newCapacity_0f7a4_14 : decode cJ5_newCapacity_0f7a4 14 = .ok (.iload_n 2, 1) := by decide +kernel
theorem dJ5_newCapacity_0f7a4_15 : decode cJ5_newCapacity_0f7a4 15 = .ok (.isub, 1) := by decide +kernel
theorem dJ5_newCapacity_0f7a4_16 : decode cJ5_newCapacity_0f7a4 16 = .ok (.istore 4, 2) := by decide +kernel
theorem dJ5_newCapacity_0f7a4_18 : decode cJ5_newCapacity_0f7a4 18 = .ok (.iload_n 2, 1) := by decide +kernel
theorem dJ5_newCapacity_0f7a4_19 : decode cJ5_newCapacity_0f7a4 19 = .ok (.iload 4, 2) := by decide +kernel
theorem dJ5_newCapacity_0f7a4_21 : decode cJ5_newCapacity_0f7a4 21 = .ok (.iload_n 2, 1) := by decide +kernel
theorem dJ5_newCapacity_0f7a4_22 : decode cJ5_newCapacity_0f7a4 22 = .ok (.iconst 2, 1) := by decide +kernel
theorem dJ5_newCapacity_0f7a4_23 : decode cJ5_newCapacity_0f7a4 23 = .ok (.aload_n 0, 1) := by decide +kernel
theorem dJ5_newCapacity_0f7a4_24 : decode cJ5_newCapacity_0f7a4 24 = .ok (.getfield 22, 3) := by decide +kernel
theorem dJ5_newCapacity_0f7a4_27 : decode cJ5_newCapacity_0f7a4 27 = .ok (.ishl, 1) := by decide +kernel
theorem dJ5_newCapacity_0f7a4_28 : decode cJ5_newCapacity_0f7a4 28 = .ok (.iadd, 1) := by decide +kernel
theorem dJ5_newCapacity_0f7a4_29 : decode cJ5_newCapacity_0f7a4 29 = .ok (.invokestatic 114, 3) := by decide +kernel
theorem dJ5_newCapacity_0f7a4_32 : decode cJ5_newCapacity_0f7a4 32 = .ok (.istore 5, 2) := by decide +kernel
theorem dJ5_newCapacity_0f7a4_34 : decode cJ5_newCapacity_0f7a4 34 = .ok (.iload 5, 2) := by decide +kernel
theorem dJ5_newCapacity_0f7a4_36 : decode cJ5_newCapacity_0f7a4 36 = .ok (.ldc 39, 2) := by decide +kernel
theorem dJ5_newCapacity_0f7a4_38 : decode cJ5_newCapacity_0f7a4 38 = .ok (.if_icmp .ne 13, 3) := by decide +kernel
theorem dJ5_newCapacity_0f7a4_41 : decode cJ5_newCapacity_0f7a4 41 = .ok (.new 120, 3) := by decide +kernel
theorem dJ5_newCapacity_0f7a4_44 : decode cJ5_newCapacity_0f7a4 44 = .ok (.dup, 1) := by decide +kernel
theorem dJ5_newCapacity_0f7a4_45 : decode cJ5_newCapacity_0f7a4 45 = .ok (.ldc 122, 2) := by decide +kernel
theorem dJ5_newCapacity_0f7a4_47 : decode cJ5_newCapacity_0f7a4 47 = .ok (.invokespecial 124, 3) := by decide +kernel
theorem dJ5_newCapacity_0f7a4_50 : decode cJ5_newCapacity_0f7a4 50 = .ok (.athrow, 1) := by decide +kernel
theorem dJ5_newCapacity_0f7a4_51 : decode cJ5_newCapacity_0f7a4 51 = .ok (.iload 5, 2) := by decide +kernel
theorem dJ5_newCapacity_0f7a4_53 : decode cJ5_newCapacity_0f7a4 53 = .ok (.aload_n 0, 1) := by decide +kernel
theorem dJ5_newCapacity_0f7a4_54 : decode cJ5_newCapacity_0f7a4 54 = .ok (.getfield 22, 3) := by decide +kernel
theorem dJ5_newCapacity_0f7a4_57 : decode cJ5_newCapacity_0f7a4 57 = .ok (.ishr, 1) := by decide +kernel
theorem dJ5_newCapacity_0f7a4_58 : decode cJ5_newCapacity_0f7a4 58 = .ok (.ireturn, 1) := by decide +kernel
theorem dJ5_inflate_da8c8_0 : decode cJ5_inflate_da8c8 0 = .ok (.aload_n 0, 1) := by decide +kernel
theorem dJ5_inflate_da8c8_1 : decode cJ5_inflate_da8c8 1 = .ok (.invokevirtual 83, 3) := by decide +kernel
theorem dJ5_inflate_da8c8_4 : decode cJ5_inflate_da8c8 4 = .ok (.ifCond .ne 4, 3) := by decide +kernel
theorem dJ5_inflate_da8c8_7 : decode cJ5_inflate_da8c8 7 = .ok (.return_, 1) := by decide +kernel
theorem dJ5_inflate_da8c8_8 : decode cJ5_inflate_da8c8 8 = .ok (.aload_n 0, 1) := by decide +kernel
theorem dJ5_inflate_da8c8_9 : decode cJ5_inflate_da8c8 9 = .ok (.getfield 15, 3) := by decide +kernel
theorem dJ5_inflate_da8c8_12 : decode cJ5_inflate_da8c8 12 = .ok (.arraylength, 1) := by decide +kernel
theorem dJ5_inflate_da8c8_13 : decode cJ5_inflate_da8c8 13 = .ok (.invokestatic 26, 3) := by decide +kernel
theorem dJ5_inflate_da8c8_16 : decode cJ5_inflate_da8c8 16 = .ok (.astore_n 1, 1) := by decide +kernel
theorem dJ5_inflate_da8c8_17 : decode cJ5_inflate_da8c8 17 = .ok (.aload_n 0, 1) := by decide +kernel
theorem dJ5_inflate_da8c8_18 : decode cJ5_inflate_da8c8 18 = .ok (.getfield 15, 3) := by decide +kernel
theorem dJ5_inflate_da8c8_21 : decode cJ5_inflate_da8c8 21 = .ok (.iconst 0, 1) := by decide +kernel
theorem dJ5_inflate_da8c8_22 : decode cJ5_inflate_da8c8 22 = .ok (.aload_n 1, 1) := by decide +kernel
theorem dJ5_inflate_da8c8_23 : decode cJ5_inflate_da8c8 23 = .ok (.iconst 0, 1) := by decide +kernel
theorem dJ5_inflate_da8c8_24 : decode cJ5_inflate_da8c8 24 = .ok (.aload_n 0, 1) := by decide +kernel
theorem dJ5_inflate_da8c8_25 : decode cJ5_inflate_da8c8 25 = .ok (.getfield 79, 3) := by decide +kernel
theorem dJ5_inflate_da8c8_28 : decode cJ5_inflate_da8c8 28 = .ok (.invokestatic 125, 3) := by decide +kernel
theorem dJ5_inflate_da8c8_31 : decode cJ5_inflate_da8c8 31 = .ok (.aload_n 0, 1) := by decide +kernel
theorem dJ5_inflate_da8c8_32 : decode cJ5_inflate_da8c8 32 = .ok (.aload_n 1, 1) := by decide +kernel
theorem dJ5_inflate_da8c8_33 : decode cJ5_inflate_da8c8 33 = .ok (.putfield 15, 3) := by decide +kernel
theorem dJ5_inflate_da8c8_36 : decode cJ5_inflate_da8c8 36 = .ok (.aload_n 0, 1) := by decide +kernel
theorem dJ5_inflate_da8c8_37 : decode cJ5_inflate_da8c8 37 = .ok (.iconst 1, 1) := by decide +kernel
theorem dJ5_inflate_da8c8_38 : decode cJ5_inflate_da8c8 38 = .ok (.putfield 22, 3) := by decide +kernel
theorem dJ5_inflate_da8c8_41 : decode cJ5_inflate_da8c8 41 = .ok (.return_, 1) := by decide +kernel
theorem dJ5_append_cf1ce_0 : decode cJ5_append_cf1ce 0 = .ok (.aload_n 1, 1) := by decide +kernel
theorem dJ5_append_cf1ce_1 : decode cJ5_append_cf1ce 1 = .ok (.ifnonnull 8, 3) := by decide +kernel
theorem dJ5_append_cf1ce_4 : decode cJ5_append_cf1ce 4 = .ok (.aload_n 0, 1) := by decide +kernel
theorem dJ5_append_cf1ce_5 : decode cJ5_append_cf1ce 5 = .ok (.invokevirtual 204, 3) := by decide +kernel
theorem dJ5_append_cf1ce_8 : decode cJ5_append_cf1ce 8 = .ok (.areturn, 1) := by decide +kernel
theorem dJ5_append_cf1ce_9 : decode cJ5_append_cf1ce 9 = .ok (.aload_n 1, 1) := by decide +kernel
theorem dJ5_append_cf1ce_10 : decode cJ5_append_cf1ce 10 = .ok (.invokevirtual 32, 3) := by decide +kernel
theorem dJ5_append_cf1ce_13 : decode cJ5_append_cf1ce 13 = .ok (.istore_n 2, 1) := by decide +kernel
theorem dJ5_append_cf1ce_14 : decode cJ5_append_cf1ce 14 = .ok (.aload_n 0, 1) := by decide +kernel
theorem dJ5_append_cf1ce_15 : decode cJ5_append_cf1ce 15 = .ok (.aload_n 0, 1) := by decide +kernel
theorem dJ5_append_cf1ce_16 : decode cJ5_append_cf1ce 16 = .ok (.getfield 79, 3) := by decide +kernel
theorem dJ5_append_cf1ce_19 : decode cJ5_append_cf1ce 19 = .ok (.iload_n 2, 1) := by decide +kernel
theorem dJ5_append_cf1ce_20 : decode cJ5_append_cf1ce 20 = .ok (.iadd, 1) := by decide +kernel
theorem dJ5_append_cf1ce_21 : decode cJ5_append_cf1ce 21 = .ok (.invokevirtual 100, 3) := by decide +kernel
theorem dJ5_append_cf1ce_24 : decode cJ5_append_cf1ce 24 = .ok (.aload_n 0, 1) := by decide +kernel
theorem dJ5_append_cf1ce_25 : decode cJ5_append_cf1ce 25 = .ok (.aload_n 0, 1) := by decide +kernel
theorem dJ5_append_cf1ce_26 : decode cJ5_append_cf1ce 26 = .ok (.getfield 79, 3) := by decide +kernel
theorem dJ5_append_cf1ce_29 : decode cJ5_append_cf1ce 29 = .ok (.aload_n 1, 1) := by decide +kernel
theorem dJ5_append_cf1ce_30 : decode cJ5_append_cf1ce 30 = .ok (.invokevirtual 208, 3) := by decide +kernel
theorem dJ5_append_cf1ce_33 : decode cJ5_append_cf1ce 33 = .ok (.aload_n 0, 1) := by decide +kernel
theorem dJ5_append_cf1ce_34 : decode cJ5_append_cf1ce 34 = .ok (.dup, 1) := by decide +kernel
theorem dJ5_append_cf1ce_35 : decode cJ5_append_cf1ce 35 = .ok (.getfield 79, 3) := by decide +kernel
theorem dJ5_append_cf1ce_38 : decode cJ5_append_cf1ce 38 = .ok (.iload_n 2, 1) := by decide +kernel
theorem dJ5_append_cf1ce_39 : decode cJ5_append_cf1ce 39 = .ok (.iadd, 1) := by decide +kernel
theorem dJ5_append_cf1ce_40 : decode cJ5_append_cf1ce 40 = .ok (.putfield 79, 3) := by decide +kernel
theorem dJ5_append_cf1ce_43 : decode cJ5_append_cf1ce 43 = .ok (.aload_n 0, 1) := by decide +kernel
theorem dJ5_append_cf1ce_44 : decode cJ5_append_cf1ce 44 = .ok (.areturn, 1) := by decide +kernel
theorem dJ5_appendNull_278bc_0 : decode cJ5_appendNull_278bc 0 = .ok (.aload_n 0, 1) := by decide +kernel
theorem dJ5_appendNull_278bc_1 : decode cJ5_appendNull_278bc 1 = .ok (.aload_n 0, 1) := by decide +kernel
theorem dJ5_appendNull_278bc_2 : decode cJ5_appendNull_278bc 2 = .ok (.getfield 79, 3) := by decide +kernel
theorem dJ5_appendNull_278bc_5 : decode cJ5_appendNull_278bc 5 = .ok (.iconst 4, 1) := by decide +kernel
theorem dJ5_appendNull_278bc_6 : decode cJ5_appendNull_278bc 6 = .ok (.iadd, 1) := by decide +kernel
theorem dJ5_appendNull_278bc_7 : decode cJ5_appendNull_278bc 7 = .ok (.invokevirtual 100, 3) := by decide +kernel
theorem dJ5_appendNull_278bc_10 : decode cJ5_appendNull_278bc 10 = .ok (.aload_n 0, 1) := by decide +kernel
theorem dJ5_appendNull_278bc_11 : decode cJ5_appendNull_278bc 11 = .ok (.getfield 79, 3) := by decide +kernel
theorem dJ5_appendNull_278bc_14 : decode cJ5_appendNull_278bc 14 = .ok (.istore_n 1, 1) := by decide +kernel
theorem dJ5_appendNull_278bc_15 : decode cJ5_appendNull_278bc 15 = .ok (.aload_n 0, 1) := by decide +kernel
theorem dJ5_appendNull_278bc_16 : decode cJ5_appendNull_278bc 16 = .ok (.getfield 15, 3) := by decide +kernel
theorem dJ5_appendNull_278bc_19 : decode cJ5_appendNull_278bc 19 = .ok (.astore_n 2, 1) := by decide +kernel
theorem dJ5_appendNull_278bc_20 : decode cJ5_appendNull_278bc 20 = .ok (.aload_n 0, 1) := by decide +kernel
theorem dJ5_appendNull_278bc_21 : decode cJ5_appendNull_278bc 21 = .ok (.invokevirtual 83, 3) := by decide +kernel
theorem dJ5_appendNull_278bc_24 : decode cJ5_appendNull_278bc 24 = .ok (.ifCond .eq 38, 3) := by decide +kernel
theorem dJ5_appendNull_278bc_27 : decode cJ5_appendNull_278bc 27 = .ok (.aload_n 2, 1) := by decide +kernel
theorem dJ5_appendNull_278bc_28 : decode cJ5_appendNull_278bc 28 = .ok (.iload_n 1, 1) := by decide +kernel
theorem dJ5_appendNull_278bc_29 : decode cJ5_appendNull_278bc 29 = .ok (.iinc 1 1, 3) := by decide +kernel
theorem dJ5_appendNull_278bc_32 : decode cJ5_appendNull_278bc 32 = .ok (.bipush 110, 2) := by decide +kernel
theorem dJ5_appendNull_278bc_34 : decode cJ5_appendNull_278bc 34 = .ok (.bastore, 1) := by decide +kernel
theorem dJ5_appendNull_278bc_35 : decode cJ5_appendNull_278bc 35 = .ok (.aload_n 2, 1) := by decide +kernel
theorem dJ5_appendNull_278bc_36 : decode cJ5_appendNull_278bc 36 = .ok (.iload_n 1, 1) := by decide +kernel
theorem dJ5_appendNull_278bc_37 : decode cJ5_appendNull_278bc 37 = .ok (.iinc 1 1, 3) := by decide +kernel
theorem dJ5_appendNull_278bc_40 : decode cJ5_appendNull_278bc 40 = .ok (.bipush 117, 2) := by decide +kernel
theorem dJ5_appendNull_278bc_42 : decode cJ5_appendNull_278bc 42 = .ok (.bastore, 1) := by decide +kernel
theorem dJ5_appendNull_278bc_43 : decode cJ5_appendNull_278bc 43 = .ok (.aload_n 2, 1) := by decide +kernel
theorem dJ5_appendNull_278bc_44 : decode cJ5_appendNull_278bc 44 = .ok (.iload_n 1, 1) := by decide +kernel
theorem dJ5_appendNull_278bc_45 : decode cJ5_appendNull_278bc 45 = .ok (.iinc 1 1, 3) := by decide +kernel
theorem dJ5_appendNull_278bc_48 : decode cJ5_appendNull_278bc 48 = .ok (.bipush 108, 2) := by decide +kernel
theorem dJ5_appendNull_278bc_50 : decode cJ5_appendNull_278bc 50 = .ok (.bastore, 1) := by decide +kernel
theorem dJ5_appendNull_278bc_51 : decode cJ5_appendNull_278bc 51 = .ok (.aload_n 2, 1) := by decide +kernel
theorem dJ5_appendNull_278bc_52 : decode cJ5_appendNull_278bc 52 = .ok (.iload_n 1, 1) := by decide +kernel
theorem dJ5_appendNull_278bc_53 : decode cJ5_appendNull_278bc 53 = .ok (.iinc 1 1, 3) := by decide +kernel
theorem dJ5_appendNull_278bc_56 : decode cJ5_appendNull_278bc 56 = .ok (.bipush 108, 2) := by decide +kernel
theorem dJ5_appendNull_278bc_58 : decode cJ5_appendNull_278bc 58 = .ok (.bastore, 1) := by decide +kernel
theorem dJ5_appendNull_278bc_59 : decode cJ5_appendNull_278bc 59 = .ok (.goto 17, 3) := by decide +kernel
theorem dJ5_appendNull_278bc_62 : decode cJ5_appendNull_278bc 62 = .ok (.aload_n 2, 1) := by decide +kernel
theorem dJ5_appendNull_278bc_63 : decode cJ5_appendNull_278bc 63 = .ok (.iload_n 1, 1) := by decide +kernel
theorem dJ5_appendNull_278bc_64 : decode cJ5_appendNull_278bc 64 = .ok (.bipush 110, 2) := by decide +kernel
theorem dJ5_appendNull_278bc_66 : decode cJ5_appendNull_278bc 66 = .ok (.bipush 117, 2) := by decide +kernel
theorem dJ5_appendNull_278bc_68 : decode cJ5_appendNull_278bc 68 = .ok (.bipush 108, 2) := by decide +kernel
theorem dJ5_appendNull_278bc_70 : decode cJ5_appendNull_278bc 70 = .ok (.bipush 108, 2) := by decide +kernel
theorem dJ5_appendNull_278bc_72 : decode cJ5_appendNull_278bc 72 = .ok (.invokestatic 226, 3) := by decide +kernel
theorem dJ5_appendNull_278bc_75 : decode cJ5_appendNull_278bc 75 = .ok (.istore_n 1, 1) := by decide +kernel
theorem dJ5_appendNull_278bc_76 : decode cJ5_appendNull_278bc 76 = .ok (.aload_n 0, 1) := by decide +kernel
theorem dJ5_appendNull_278bc_77 : decode cJ5_appendNull_278bc 77 = .ok (.iload_n 1, 1) := by decide +kernel
theorem dJ5_appendNull_278bc_78 : decode cJ5_appendNull_278bc 78 = .ok (.putfield 79, 3) := by decide +kernel
theorem dJ5_appendNull_278bc_81 : decode cJ5_appendNull_278bc 81 = .ok (.aload_n 0, 1) := by decide +kernel
theorem dJ5_appendNull_278bc_82 : decode cJ5_appendNull_278bc 82 = .ok (.areturn, 1) := by decide +kernel
theorem dJ5_append_3fe6f_0 : decode cJ5_append_3fe6f 0 = .ok (.aload_n 0, 1) := by decide +kernel
theorem dJ5_append_3fe6f_1 : decode cJ5_append_3fe6f 1 = .ok (.aload_n 0, 1) := by decide +kernel
theorem dJ5_append_3fe6f_2 : decode cJ5_append_3fe6f 2 = .ok (.getfield 79, 3) := by decide +kernel
theorem dJ5_append_3fe6f_5 : decode cJ5_append_3fe6f 5 = .ok (.iconst 1, 1) := by decide +kernel
theorem dJ5_append_3fe6f_6 : decode cJ5_append_3fe6f 6 = .ok (.iadd, 1) := by decide +kernel
theorem dJ5_append_3fe6f_7 : decode cJ5_append_3fe6f 7 = .ok (.invokevirtual 100, 3) := by decide +kernel
theorem dJ5_append_3fe6f_10 : decode cJ5_append_3fe6f 10 = .ok (.aload_n 0, 1) := by decide +kernel
theorem dJ5_append_3fe6f_11 : decode cJ5_append_3fe6f 11 = .ok (.invokevirtual 83, 3) := by decide +kernel
theorem dJ5_append_3fe6f_14 : decode cJ5_append_3fe6f 14 = .ok (.ifCond .eq 31, 3) := by decide +kernel
theorem dJ5_append_3fe6f_17 : decode cJ5_append_3fe6f 17 = .ok (.iload_n 1, 1) := by decide +kernel
theorem dJ5_append_3fe6f_18 : decode cJ5_append_3fe6f 18 = .ok (.invokestatic 191, 3) := by decide +kernel
theorem dJ5_append_3fe6f_21 : decode cJ5_append_3fe6f 21 = .ok (.ifCond .eq 24, 3) := by decide +kernel
theorem dJ5_append_3fe6f_24 : decode cJ5_append_3fe6f 24 = .ok (.aload_n 0, 1) := by decide +kernel
theorem dJ5_append_3fe6f_25 : decode cJ5_append_3fe6f 25 = .ok (.getfield 15, 3) := by decide +kernel
theorem dJ5_append_3fe6f_28 : decode cJ5_append_3fe6f 28 = .ok (.aload_n 0, 1) := by decide +kernel
theorem dJ5_append_3fe6f_29 : decode cJ5_append_3fe6f 29 = .ok (.dup, 1) := by decide +kernel
theorem dJ5_append_3fe6f_30 : decode cJ5_append_3fe6f 30 = .ok (.getfield 79, 3) := by decide +kernel
theorem dJ5_append_3fe6f_33 : decode cJ5_append_3fe6f 33 = .ok (.dup_x1, 1) := by decide +kernel
theorem dJ5_append_3fe6f_34 : decode cJ5_append_3fe6f 34 = .ok (.iconst 1, 1) := by decide +kernel
theorem dJ5_append_3fe6f_35 : decode cJ5_append_3fe6f 35 = .ok (.iadd, 1) := by decide +kernel
theorem dJ5_append_3fe6f_36 : decode cJ5_append_3fe6f 36 = .ok (.putfield 79, 3) := by decide +kernel
theorem dJ5_append_3fe6f_39 : decode cJ5_append_3fe6f 39 = .ok (.iload_n 1, 1) := by decide +kernel
theorem dJ5_append_3fe6f_40 : decode cJ5_append_3fe6f 40 = .ok (.i2b, 1) := by decide +kernel
theorem dJ5_append_3fe6f_41 : decode cJ5_append_3fe6f 41 = .ok (.bastore, 1) := by decide +kernel
theorem dJ5_append_3fe6f_42 : decode cJ5_append_3fe6f 42 = .ok (.goto 33, 3) := by decide +kernel
theorem dJ5_append_3fe6f_45 : decode cJ5_append_3fe6f 45 = .ok (.aload_n 0, 1) := by decide +kernel
theorem dJ5_append_3fe6f_46 : decode cJ5_append_3fe6f 46 = .ok (.invokevirtual 83, 3) := by decide +kernel
theorem dJ5_append_3fe6f_49 : decode cJ5_append_3fe6f 49 = .ok (.ifCond .eq 7, 3) := by decide +kernel
theorem dJ5_append_3fe6f_52 : decode cJ5_append_3fe6f 52 = .ok (.aload_n 0, 1) := by decide +kernel
theorem dJ5_append_3fe6f_53 : decode cJ5_append_3fe6f 53 = .ok (.invokevirtual 195, 3) := by decide +kernel
theorem dJ5_append_3fe6f_56 : decode cJ5_append_3fe6f 56 = .ok (.aload_n 0, 1) := by decide +kernel
theorem dJ5_append_3fe6f_57 : decode cJ5_append_3fe6f 57 = .ok (.getfield 15, 3) := by decide +kernel
theorem dJ5_append_3fe6f_60 : decode cJ5_append_3fe6f 60 = .ok (.aload_n 0, 1) := by decide +kernel
theorem dJ5_append_3fe6f_61 : decode cJ5_append_3fe6f 61 = .ok (.dup, 1) := by decide +kernel
theorem dJ5_append_3fe6f_62 : decode cJ5_append_3fe6f 62 = .ok (.getfield 79, 3) := by decide +kernel
theorem dJ5_append_3fe6f_65 : decode cJ5_append_3fe6f 65 = .ok (.dup_x1, 1) := by decide +kernel
theorem dJ5_append_3fe6f_66 : decode cJ5_append_3fe6f 66 = .ok (.iconst 1, 1) := by decide +kernel
theorem dJ5_append_3fe6f_67 : decode cJ5_append_3fe6f 67 = .ok (.iadd, 1) := by decide +kernel
theorem dJ5_append_3fe6f_68 : decode cJ5_append_3fe6f 68 = .ok (.putfield 79, 3) := by decide +kernel
theorem dJ5_append_3fe6f_71 : decode cJ5_append_3fe6f 71 = .ok (.iload_n 1, 1) := by decide +kernel
theorem dJ5_append_3fe6f_72 : decode cJ5_append_3fe6f 72 = .ok (.invokestatic 197, 3) := by decide +kernel
theorem dJ5_append_3fe6f_75 : decode cJ5_append_3fe6f 75 = .ok (.aload_n 0, 1) := by decide +kernel
theorem dJ5_append_3fe6f_76 : decode cJ5_append_3fe6f 76 = .ok (.areturn, 1) := by decide +kernel
theorem dJ5_append_c97b9_0 : decode cJ5_append_c97b9 0 = .ok (.aload_n 0, 1) := by decide +kernel
theorem dJ5_append_c97b9_1 : decode cJ5_append_c97b9 1 = .ok (.getfield 79, 3) := by decide +kernel
theorem dJ5_append_c97b9_4 : decode cJ5_append_c97b9 4 = .ok (.istore_n 2, 1) := by decide +kernel
theorem dJ5_append_c97b9_5 : decode cJ5_append_c97b9 5 = .ok (.iload_n 2, 1) := by decide +kernel
theorem dJ5_append_c97b9_6 : decode cJ5_append_c97b9 6 = .ok (.iload_n 1, 1) := by decide +kernel
theorem dJ5_append_c97b9_7 : decode cJ5_append_c97b9 7 = .ok (.invokestatic 245, 3) := by decide +kernel
theorem dJ5_append_c97b9_10 : decode cJ5_append_c97b9 10 = .ok (.iadd, 1) := by decide +kernel
theorem dJ5_append_c97b9_11 : decode cJ5_append_c97b9 11 = .ok (.istore_n 3, 1) := by decide +kernel
theorem dJ5_append_c97b9_12 : decode cJ5_append_c97b9 12 = .ok (.aload_n 0, 1) := by decide +kernel
theorem dJ5_append_c97b9_13 : decode cJ5_append_c97b9 13 = .ok (.iload_n 3, 1) := by decide +kernel
theorem dJ5_append_c97b9_14 : decode cJ5_append_c97b9 14 = .ok (.invokevirtual 100, 3) := by decide +kernel
theorem dJ5_append_c97b9_17 : decode cJ5_append_c97b9 17 = .ok (.aload_n 0, 1) := by decide +kernel
theorem dJ5_append_c97b9_18 : decode cJ5_append_c97b9 18 = .ok (.invokevirtual 83, 3) := by decide +kernel
theorem dJ5_append_c97b9_21 : decode cJ5_append_c97b9 21 = .ok (.ifCond .eq 16, 3) := by decide +kernel
theorem dJ5_append_c97b9_24 : decode cJ5_append_c97b9 24 = .ok (.iload_n 1, 1) := by decide +kernel
theorem dJ5_append_c97b9_25 : decode cJ5_append_c97b9 25 = .ok (.iload_n 3, 1) := by decide +kernel
theorem dJ5_append_c97b9_26 : decode cJ5_append_c97b9 26 = .ok (.aload_n 0, 1) := by decide +kernel
theorem dJ5_append_c97b9_27 : decode cJ5_append_c97b9 27 = .ok (.getfield 15, 3) := by decide +kernel
theorem dJ5_append_c97b9_30 : decode cJ5_append_c97b9 30 = .ok (.invokestatic 248, 3) := by decide +kernel
theorem dJ5_append_c97b9_33 : decode cJ5_append_c97b9 33 = .ok (.pop, 1) := by decide +kernel
theorem dJ5_append_c97b9_34 : decode cJ5_append_c97b9 34 = .ok (.goto 14, 3) := by decide +kernel
theorem dJ5_append_c97b9_37 : decode cJ5_append_c97b9 37 = .ok (.iload_n 1, 1) := by decide +kernel
theorem dJ5_append_c97b9_38 : decode cJ5_append_c97b9 38 = .ok (.iload_n 2, 1) := by decide +kernel
theorem dJ5_append_c97b9_39 : decode cJ5_append_c97b9 39 = .ok (.iload_n 3, 1) := by decide +kernel
theorem dJ5_append_c97b9_40 : decode cJ5_append_c97b9 40 = .ok (.aload_n 0, 1) := by decide +kernel
theorem dJ5_append_c97b9_41 : decode cJ5_append_c97b9 41 = .ok (.getfield 15, 3) := by decide +kernel
theorem dJ5_append_c97b9_44 : decode cJ5_append_c97b9 44 = .ok (.invokestatic 251, 3) := by decide +kernel
theorem dJ5_append_c97b9_47 : decode cJ5_append_c97b9 47 = .ok (.pop, 1) := by decide +kernel
theorem dJ5_append_c97b9_48 : decode cJ5_append_c97b9 48 = .ok (.aload_n 0, 1) := by decide +kernel
theorem dJ5_append_c97b9_49 : decode cJ5_append_c97b9 49 = .ok (.iload_n 3, 1) := by decide +kernel
theorem dJ5_append_c97b9_50 : decode cJ5_append_c97b9 50 = .ok (.putfield 79, 3) := by decide +kernel
theorem dJ5_append_c97b9_53 : decode cJ5_append_c97b9 53 = .ok (.aload_n 0, 1) := by decide +kernel
theorem dJ5_append_c97b9_54 : decode cJ5_append_c97b9 54 = .ok (.areturn, 1) := by decide +kernel
theorem dJ5_getValue_6d5f1_0 : decode cJ5_getValue_6d5f1 0 = .ok (.aload_n 0, 1) := by decide +kernel
theorem dJ5_getValue_6d5f1_1 : decode cJ5_getValue_6d5f1 1 = .ok (.getfield 15, 3) := by decide +kernel
theorem dJ5_getValue_6d5f1_4 : decode cJ5_getValue_6d5f1 4 = .ok (.areturn, 1) := by decide +kernel
theorem dJ5_isLatin1_aae02_0 : decode cJ5_isLatin1_aae02 0 = .ok (.getstatic 18, 3) := by decide +kernel
theorem dJ5_isLatin1_aae02_3 : decode cJ5_isLatin1_aae02 3 = .ok (.ifCond .eq 14, 3) := by decide +kernel
theorem dJ5_isLatin1_aae02_6 : decode cJ5_isLatin1_aae02 6 = .ok (.aload_n 0, 1) := by decide +kernel
theorem dJ5_isLatin1_aae02_7 : decode cJ5_isLatin1_aae02 7 = .ok (.getfield 22, 3) := by decide +kernel
theorem dJ5_isLatin1_aae02_10 : decode cJ5_isLatin1_aae02 10 = .ok (.ifCond .ne 7, 3) := by decide +kernel
theorem dJ5_isLatin1_aae02_13 : decode cJ5_isLatin1_aae02 13 = .ok (.iconst 1, 1) := by decide +kernel
theorem dJ5_isLatin1_aae02_14 : decode cJ5_isLatin1_aae02 14 = .ok (.goto 4, 3) := by decide +kernel
theorem dJ5_isLatin1_aae02_17 : decode cJ5_isLatin1_aae02 17 = .ok (.iconst 0, 1) := by decide +kernel
theorem dJ5_isLatin1_aae02_18 : decode cJ5_isLatin1_aae02 18 = .ok (.ireturn, 1) := by decide +kernel
theorem dJ5_inflateIfNeededFor_a7421_0 : decode cJ5_inflateIfNeededFor_a7421 0 = .ok (.getstatic 18, 3) := by decide +kernel
theorem dJ5_inflateIfNeededFor_a7421_3 : decode cJ5_inflateIfNeededFor_a7421 3 = .ok (.ifCond .eq 18, 3) := by decide +kernel
theorem dJ5_inflateIfNeededFor_a7421_6 : decode cJ5_inflateIfNeededFor_a7421 6 = .ok (.aload_n 0, 1) := by decide +kernel
theorem dJ5_inflateIfNeededFor_a7421_7 : decode cJ5_inflateIfNeededFor_a7421 7 = .ok (.getfield 22, 3) := by decide +kernel
theorem dJ5_inflateIfNeededFor_a7421_10 : decode cJ5_inflateIfNeededFor_a7421 10 = .ok (.aload_n 1, 1) := by decide +kernel
theorem dJ5_inflateIfNeededFor_a7421_11 : decode cJ5_inflateIfNeededFor_a7421 11 = .ok (.invokevirtual 40, 3) := by decide +kernel
theorem dJ5_inflateIfNeededFor_a7421_14 : decode cJ5_inflateIfNeededFor_a7421 14 = .ok (.if_icmp .eq 7, 3) := by decide +kernel
theorem dJ5_inflateIfNeededFor_a7421_17 : decode cJ5_inflateIfNeededFor_a7421 17 = .ok (.aload_n 0, 1) := by decide +kernel
theorem dJ5_inflateIfNeededFor_a7421_18 : decode cJ5_inflateIfNeededFor_a7421 18 = .ok (.invokevirtual 195, 3) := by decide +kernel
theorem dJ5_inflateIfNeededFor_a7421_21 : decode cJ5_inflateIfNeededFor_a7421 21 = .ok (.return_, 1) := by decide +kernel
theorem dJ5_putStringAt_47b60_0 : decode cJ5_putStringAt_47b60 0 = .ok (.aload_n 0, 1) := by decide +kernel
theorem dJ5_putStringAt_47b60_1 : decode cJ5_putStringAt_47b60 1 = .ok (.aload_n 2, 1) := by decide +kernel
theorem dJ5_putStringAt_47b60_2 : decode cJ5_putStringAt_47b60 2 = .ok (.invokevirtual 397, 3) := by decide +kernel
theorem dJ5_putStringAt_47b60_5 : decode cJ5_putStringAt_47b60 5 = .ok (.aload_n 2, 1) := by decide +kernel
theorem dJ5_putStringAt_47b60_6 : decode cJ5_putStringAt_47b60 6 = .ok (.aload_n 0, 1) := by decide +kernel
theorem dJ5_putStringAt_47b60_7 : decode cJ5_putStringAt_47b60 7 = .ok (.getfield 15, 3) := by decide +kernel
theorem dJ5_putStringAt_47b60_10 : decode cJ5_putStringAt_47b60 10 = .ok (.iload_n 1, 1) := by decide +kernel
theorem dJ5_putStringAt_47b60_11 : decode cJ5_putStringAt_47b60 11 = .ok (.aload_n 0, 1) := by decide +kernel
theorem dJ5_putStringAt_47b60_12 : decode cJ5_putStringAt_47b60 12 = .ok (.getfield 22, 3) := by decide +kernel
theorem dJ5_putStringAt_47b60_15 : decode cJ5_putStringAt_47b60 15 = .ok (.invokevirtual 399, 3) := by decide +kernel
theorem dJ5_putStringAt_47b60_18 : decode cJ5_putStringAt_47b60 18 = .ok (.return_, 1) := by decide +kernel
theorem dJ6_getChars_ba4f3_0 : decode cJ6_getChars_ba4f3 0 = .ok (.iload_n 1, 1) := by decide +kernel
theorem dJ6_getChars_ba4f3_1 : decode cJ6_getChars_ba4f3 1 = .ok (.istore 5, 2) := by decide +kernel
theorem dJ6_getChars_ba4f3_3 : decode cJ6_getChars_ba4f3 3 = .ok (.iload_n 0, 1) := by decide +kernel
theorem dJ6_getChars_ba4f3_4 : decode cJ6_getChars_ba4f3 4 = .ok (.ifCond .ge 7, 3) := by decide +kernel
theorem dJ6_getChars_ba4f3_7 : decode cJ6_getChars_ba4f3 7 = .ok (.iconst 1, 1) := by decide +kernel
theorem dJ6_getChars_ba4f3_8 : decode cJ6_getChars_ba4f3 8 = .ok (.goto 4, 3) := by decide +kernel
theorem dJ6_getChars_ba4f3_11 : decode cJ6_getChars_ba4f3 11 = .ok (.iconst 0, 1) := by decide +kernel
theorem dJ6_getChars_ba4f3_12 : decode cJ6_getChars_ba4f3 12 = .ok (.istore 6, 2) := by decide +kernel
theorem dJ6_getChars_ba4f3_14 : decode cJ6_getChars_ba4f3 14 = .ok (.iload 6, 2) := by decide +kernel
theorem dJ6_getChars_ba4f3_16 : decode cJ6_getChars_ba4f3 16 = .ok (.ifCond .ne 6, 3) := by decide +kernel
theorem dJ6_getChars_ba4f3_19 : decode cJ6_getChars_ba4f3 19 = .ok (.iload_n 0, 1) := by decide +kernel
theorem dJ6_getChars_ba4f3_20 : decode cJ6_getChars_ba4f3 20 = .ok (.ineg, 1) := by decide +kernel
theorem dJ6_getChars_ba4f3_21 : decode cJ6_getChars_ba4f3 21 = .ok (.istore_n 0, 1) := by decide +kernel
theorem dJ6_getChars_ba4f3_22 : decode cJ6_getChars_ba4f3 22 = .ok (.iload_n 0, 1) := by decide +kernel
theorem dJ6_getChars_ba4f3_23 : decode cJ6_getChars_ba4f3 23 = .ok (.bipush (-100), 2) := by decide +kernel
theorem dJ6_getChars_ba4f3_25 : decode cJ6_getChars_ba4f3 25 = .ok (.if_icmp .gt 47, 3) := by decide +kernel
theorem dJ6_getChars_ba4f3_28 : decode cJ6_getChars_ba4f3 28 = .ok (.iload_n 0, 1) := by decide +kernel
theorem dJ6_getChars_ba4f3_29 : decode cJ6_getChars_ba4f3 29 = .ok (.bipush 100, 2) := by decide +kernel
theorem dJ6_getChars_ba4f3_31 : decode cJ6_getChars_ba4f3 31 = .ok (.idiv, 1) := by decide +kernel
theorem dJ6_getChars_ba4f3_32 : decode cJ6_getChars_ba4f3 32 = .ok (.istore_n 3, 1) := by decide +kernel
theorem dJ6_getChars_ba4f3_33 : decode cJ6_getChars_ba4f3 33 = .ok (.iload_n 3, 1) := by decide +kernel
theorem dJ6_getChars_ba4f3_34 : decode cJ6_getChars_ba4f3 34 = .ok (.bipush 100, 2) := by decide +kernel
theorem dJ6_getChars_ba4f3_36 : decode cJ6_getChars_ba4f3 36 = .ok (.imul, 1) := by decide +kernel
theorem dJ6_getChars_ba4f3_37 : decode cJ6_getChars_ba4f3 37 = .ok (.iload_n 0, 1) := by decide +kernel
theorem dJ6_getChars_ba4f3_38 : decode cJ6_getChars_ba4f3 38 = .ok (.isub, 1) := by decide +kernel
theorem dJ6_getChars_ba4f3_39 : decode cJ6_getChars_ba4f3 39 = .ok (.istore 4, 2) := by decide +kernel
theorem dJ6_getChars_ba4f3_41 : decode cJ6_getChars_ba4f3 41 = .ok (.iload_n 3, 1) := by decide +kernel
theorem dJ6_getChars_ba4f3_42 : decode cJ6_getChars_ba4f3 42 = .ok (.istore_n 0, 1) := by decide +kernel
theorem dJ6_getChars_ba4f3_43 : decode cJ6_getChars_ba4f3 43 = .ok (.aload_n 2, 1) := by decide +kernel
theorem dJ6_getChars_ba4f3_44 : decode cJ6_getChars_ba4f3 44 = .ok (.iinc 5 (-1), 3) := by decide +kernel
theorem dJ6_getChars_ba4f3_47 : decode cJ6_getChars_ba4f3 47 = .ok (.iload 5, 2) := by decide +kernel
theorem dJ6_getChars_ba4f3_49 : decode cJ6_getChars_ba4f3 49 = .ok (.getstatic 83, 3) := by decide +kernel
theorem dJ6_getChars_ba4f3_52 : decode cJ6_getChars_ba4f3 52 = .ok (.iload 4, 2) := by decide +kernel
theorem dJ6_getChars_ba4f3_54 : decode cJ6_getChars_ba4f3 54 = .ok (.baload, 1) := by decide +kernel
theorem dJ6_getChars_ba4f3_55 : decode cJ6_getChars_ba4f3 55 = .ok (.bastore, 1) := by decide +kernel
theorem dJ6_getChars_ba4f3_56 : decode cJ6_getChars_ba4f3 56 = .ok (.aload_n 2, 1) := by decide +kernel
theorem dJ6_getChars_ba4f3_57 : decode cJ6_getChars_ba4f3 57 = .ok (.iinc 5 (-1), 3) := by decide +kernel
theorem dJ6_getChars_ba4f3_60 : decode cJ6_getChars_ba4f3 60 = .ok (.iload 5, 2) := by decide +kernel
theorem dJ6_getChars_ba4f3_62 : decode cJ6_getChars_ba4f3 62 = .ok (.getstatic 87, 3) := by decide +kernel
theorem dJ6_getChars_ba4f3_65 : decode cJ6_getChars_ba4f3 65 = .ok (.iload 4, 2) := by decide +kernel
theorem dJ6_getChars_ba4f3_67 : decode cJ6_getChars_ba4f3 67 = .ok (.baload, 1) := by decide +kernel
theorem dJ6_getChars_ba4f3_68 : decode cJ6_getChars_ba4f3 68 = .ok (.bastore, 1) := by decide +kernel
theorem dJ6_getChars_ba4f3_69 : decode cJ6_getChars_ba4f3 69 = .ok (.goto (-47), 3) := by decide +kernel
theorem dJ6_getChars_ba4f3_72 : decode cJ6_getChars_ba4f3 72 = .ok (.aload_n 2, 1) := by decide +kernel
theorem dJ6_getChars_ba4f3_73 : decode cJ6_getChars_ba4f3 73 = .ok (.iinc 5 (-1), 3) := by decide +kernel
theorem dJ6_getChars_ba4f3_76 : decode cJ6_getChars_ba4f3 76 = .ok (.iload 5, 2) := by decide +kernel
theorem dJ6_getChars_ba4f3_78 : decode cJ6_getChars_ba4f3 78 = .ok (.getstatic 83, 3) := by decide +kernel
theorem dJ6_getChars_ba4f3_81 : decode cJ6_getChars_ba4f3 81 = .ok (.iload_n 0, 1) := by decide +kernel
theorem dJ6_getChars_ba4f3_82 : decode cJ6_getChars_ba4f3 82 = .ok (.ineg, 1) := by decide +kernel
theorem dJ6_getChars_ba4f3_83 : decode cJ6_getChars_ba4f3 83 = .ok (.baload, 1) := by decide +kernel
theorem dJ6_getChars_ba4f3_84 : decode cJ6_getChars_ba4f3 84 = .ok (.bastore, 1) := by decide +kernel
theorem dJ6_getChars_ba4f3_85 : decode cJ6_getChars_ba4f3 85 = .ok (.iload_n 0, 1) := by decide +kernel
theorem dJ6_getChars_ba4f3_86 : decode cJ6_getChars_ba4f3 86 = .ok (.bipush (-9), 2) := by decide +kernel
theorem dJ6_getChars_ba4f3_88 : decode cJ6_getChars_ba4f3 88 = .ok (.if_icmp .ge 16, 3) := by decide +kernel
theorem dJ6_getChars_ba4f3_91 : decode cJ6_getChars_ba4f3 91 = .ok (.aload_n 2, 1) := by decide +kernel
theorem dJ6_getChars_ba4f3_92 : decode cJ6_getChars_ba4f3 92 = .ok (.iinc 5 (-1), 3) := by decide +kernel
theorem dJ6_getChars_ba4f3_95 : decode cJ6_getChars_ba4f3 95 = .ok (.iload 5, 2) := by decide +kernel
theorem dJ6_getChars_ba4f3_97 : decode cJ6_getChars_ba4f3 97 = .ok (.getstatic 87, 3) := by decide +kernel
theorem dJ6_getChars_ba4f3_100 : decode cJ6_getChars_ba4f3 100 = .ok (.iload_n 0, 1) := by decide +kernel
theorem dJ6_getChars_ba4f3_101 : decode cJ6_getChars_ba4f3 101 = .ok (.ineg, 1) := by decide +kernel
theorem dJ6_getChars_ba4f3_102 : decode cJ6_getChars_ba4f3 102 = .ok (.baload, 1) := by decide +kernel
theorem dJ6_getChars_ba4f3_103 : decode cJ6_getChars_ba4f3 103 = .ok (.bastore, 1) := by decide +kernel
theorem dJ6_getChars_ba4f3_104 : decode cJ6_getChars_ba4f3 104 = .ok (.iload 6, 2) := by decide +kernel
theorem dJ6_getChars_ba4f3_106 : decode cJ6_getChars_ba4f3 106 = .ok (.ifCond .eq 12, 3) := by decide +kernel
theorem dJ6_getChars_ba4f3_109 : decode cJ6_getChars_ba4f3 109 = .ok (.aload_n 2, 1) := by decide +kernel
theorem dJ6_getChars_ba4f3_110 : decode cJ6_getChars_ba4f3 110 = .ok (.iinc 5 (-1), 3) := by decide +kernel
theorem dJ6_getChars_ba4f3_113 : decode cJ6_getChars_ba4f3 113 = .ok (.iload 5, 2) := by decide +kernel
theorem dJ6_getChars_ba4f3_115 : decode cJ6_getChars_ba4f3 115 = .ok (.bipush 45, 2) := by decide +kernel
theorem dJ6_getChars_ba4f3_117 : decode cJ6_getChars_ba4f3 117 = .ok (.bastore, 1) := by decide +kernel
theorem dJ6_getChars_ba4f3_118 : decode cJ6_getChars_ba4f3 118 = .ok (.iload 5, 2) := by decide +kernel
theorem dJ6_getChars_ba4f3_120 : decode cJ6_getChars_ba4f3 120 = .ok (.ireturn, 1) := by decide +kernel
theorem dJ6_stringSize_0f7a4_0 : decode cJ6_stringSize_0f7a4 0 = .ok (.iconst 1, 1) := by decide +kernel
theorem dJ6_stringSize_0f7a4_1 : decode cJ6_stringSize_0f7a4 1 = .ok (.istore_n 1, 1) := by decide +kernel
theorem dJ6_stringSize_0f7a4_2 : decode cJ6_stringSize_0f7a4 2 = .ok (.iload_n 0, 1) := by decide +kernel
theorem dJ6_stringSize_0f7a4_3 : decode cJ6_stringSize_0f7a4 3 = .ok (.ifCond .lt 8, 3) := by decide +kernel
theorem dJ6_stringSize_0f7a4_6 : decode cJ6_stringSize_0f7a4 6 = .ok (.iconst 0, 1) := by decide +kernel
theorem dJ6_stringSize_0f7a4_7 : decode cJ6_stringSize_0f7a4 7 = .ok (.istore_n 1, 1) := by decide +kernel
theorem dJ6_stringSize_0f7a4_8 : decode cJ6_stringSize_0f7a4 8 = .ok (.iload_n 0, 1) := by decide +kernel
theorem dJ6_stringSize_0f7a4_9 : decode cJ6_stringSize_0f7a4 9 = .ok (.ineg, 1) := by decide +kernel
theorem dJ6_stringSize_0f7a4_10 : decode cJ6_stringSize_0f7a4 10 = .ok (.istore_n 0, 1) := by decide +kernel
theorem dJ6_stringSize_0f7a4_11 : decode cJ6_stringSize_0f7a4 11 = .ok (.bipush (-10), 2) := by decide +kernel
theorem dJ6_stringSize_0f7a4_13 : decode cJ6_stringSize_0f7a4 13 = .ok (.istore_n 2, 1) := by decide +kernel
theorem dJ6_stringSize_0f7a4_14 : decode cJ6_stringSize_0f7a4 14 = .ok (.iconst 1, 1) := by decide +kernel
theorem dJ6_stringSize_0f7a4_15 : decode cJ6_stringSize_0f7a4 15 = .ok (.istore_n 3, 1) := by decide +kernel
theorem dJ6_stringSize_0f7a4_16 : decode cJ6_stringSize_0f7a4 16 = .ok (.iload_n 3, 1) := by decide +kernel
theorem dJ6_stringSize_0f7a4_17 : decode cJ6_stringSize_0f7a4 17 = .ok (.bipush 10, 2) := by decide +kernel
theorem dJ6_stringSize_0f7a4_19 : decode cJ6_stringSize_0f7a4 19 = .ok (.if_icmp .ge 23, 3) := by decide +kernel
theorem dJ6_stringSize_0f7a4_22 : decode cJ6_stringSize_0f7a4 22 = .ok (.iload_n 0, 1) := by decide +kernel
theorem dJ6_stringSize_0f7a4_23 : decode cJ6_stringSize_0f7a4 23 = .ok (.iload_n 2, 1) := by decide +kernel
theorem dJ6_stringSize_0f7a4_24 : decode cJ6_stringSize_0f7a4 24 = .ok (.if_icmp .le 7, 3) := by decide +kernel
theorem dJ6_stringSize_0f7a4_27 : decode cJ6_stringSize_0f7a4 27 = .ok (.iload_n 3, 1) := by decide +kernel
theorem dJ6_stringSize_0f7a4_28 : decode cJ6_stringSize_0f7a4 28 = .ok (.iload_n 1, 1) := by decide +kernel
theorem dJ6_stringSize_0f7a4_29 : decode cJ6_stringSize_0f7a4 29 = .ok (.iadd, 1) := by decide +kernel
theorem dJ6_stringSize_0f7a4_30 : decode cJ6_stringSize_0f7a4 30 = .ok (.ireturn, 1) := by decide +kernel
theorem dJ6_stringSize_0f7a4_31 : decode cJ6_stringSize_0f7a4 31 = .ok (.bipush 10, 2) := by decide +kernel
theorem dJ6_stringSize_0f7a4_33 : decode cJ6_stringSize_0f7a4 33 = .ok (.iload_n 2, 1) := by decide +kernel
theorem dJ6_stringSize_0f7a4_34 : decode cJ6_stringSize_0f7a4 34 = .ok (.imul, 1) := by decide +kernel
theorem dJ6_stringSize_0f7a4_35 : decode cJ6_stringSize_0f7a4 35 = .ok (.istore_n 2, 1) := by decide +kernel
theorem dJ6_stringSize_0f7a4_36 : decode cJ6_stringSize_0f7a4 36 = .ok (.iinc 3 1, 3) := by decide +kernel
theorem dJ6_stringSize_0f7a4_39 : decode cJ6_stringSize_0f7a4 39 = .ok (.goto (-23), 3) := by decide +kernel
theorem dJ6_stringSize_0f7a4_42 : decode cJ6_stringSize_0f7a4 42 = .ok (.bipush 10, 2) := by decide +kernel
theorem dJ6_stringSize_0f7a4_44 : decode cJ6_stringSize_0f7a4 44 = .ok (.iload_n 1, 1) := by decide +kernel
theorem dJ6_stringSize_0f7a4_45 : decode cJ6_stringSize_0f7a4 45 = .ok (.iadd, 1) := by decide +kernel
theorem dJ6_stringSize_0f7a4_46 : decode cJ6_stringSize_0f7a4 46 = .ok (.ireturn, 1) := by decide +kernel
theorem dJ6_bitCount_0f7a4_0 : decode cJ6_bitCount_0f7a4 0 = .ok (.iload_n 0, 1) := by decide +kernel
theorem dJ6_bitCount_0f7a4_1 : decode cJ6_bitCount_0f7a4 1 = .ok (.iload_n 0, 1) := by decide +kernel
theorem dJ6_bitCount_0f7a4_2 : decode cJ6_bitCount_0f7a4 2 = .ok (.iconst 1, 1) := by decide +kernel
theorem dJ6_bitCount_0f7a4_3 : decode cJ6_bitCount_0f7a4 3 = .ok (.iushr, 1) := by decide +kernel
theorem dJ6_bitCount_0f7a4_4 : decode cJ6_bitCount_0f7a4 4 = .ok (.ldc_w 265, 3) := by decide +kernel
theorem dJ6_bitCount_0f7a4_7 : decode cJ6_bitCount_0f7a4 7 = .ok (.iand, 1) := by decide +kernel
theorem dJ6_bitCount_0f7a4_8 : decode cJ6_bitCount_0f7a4 8 = .ok (.isub, 1) := by decide +kernel
theorem dJ6_bitCount_0f7a4_9 : decode cJ6_bitCount_0f7a4 9 = .ok (.istore_n 0, 1) := by decide +kernel
theorem dJ6_bitCount_0f7a4_10 : decode cJ6_bitCount_0f7a4 10 = .ok (.iload_n 0, 1) := by decide +kernel
theorem dJ6_bitCount_0f7a4_11 : decode cJ6_bitCount_0f7a4 11 = .ok (.ldc_w 266, 3) := by decide +kernel
theorem dJ6_bitCount_0f7a4_14 : decode cJ6_bitCount_0f7a4 14 = .ok (.iand, 1) := by decide +kernel
theorem dJ6_bitCount_0f7a4_15 : decode cJ6_bitCount_0f7a4 15 = .ok (.iload_n 0, 1) := by decide +kernel
theorem dJ6_bitCount_0f7a4_16 : decode cJ6_bitCount_0f7a4 16 = .ok (.iconst 2, 1) := by decide +kernel
theorem dJ6_bitCount_0f7a4_17 : decode cJ6_bitCount_0f7a4 17 = .ok (.iushr, 1) := by decide +kernel
theorem dJ6_bitCount_0f7a4_18 : decode cJ6_bitCount_0f7a4 18 = .ok (.ldc_w 266, 3) := by decide +kernel
theorem dJ6_bitCount_0f7a4_21 : decode cJ6_bitCount_0f7a4 21 = .ok (.iand, 1) := by decide +kernel
theorem dJ6_bitCount_0f7a4_22 : decode cJ6_bitCount_0f7a4 22 = .ok (.iadd, 1) := by decide +kernel
theorem dJ6_bitCount_0f7a4_23 : decode cJ6_bitCount_0f7a4 23 = .ok (.istore_n 0, 1) := by decide +kernel
theorem dJ6_bitCount_0f7a4_24 : decode cJ6_bitCount_0f7a4 24 = .ok (.iload_n 0, 1) := by decide +kernel
theorem dJ6_bitCount_0f7a4_25 : decode cJ6_bitCount_0f7a4 25 = .ok (.iload_n 0, 1) := by decide +kernel
theorem dJ6_bitCount_0f7a4_26 : decode cJ6_bitCount_0f7a4 26 = .ok (.iconst 4, 1) := by decide +kernel
theorem dJ6_bitCount_0f7a4_27 : decode cJ6_bitCount_0f7a4 27 = .ok (.iushr, 1) := by decide +kernel
theorem dJ6_bitCount_0f7a4_28 : decode cJ6_bitCount_0f7a4 28 = .ok (.iadd, 1) := by decide +kernel
theorem dJ6_bitCount_0f7a4_29 : decode cJ6_bitCount_0f7a4 29 = .ok (.ldc_w 267, 3) := by decide +kernel
theorem dJ6_bitCount_0f7a4_32 : decode cJ6_bitCount_0f7a4 32 = .ok (.iand, 1) := by decide +kernel
theorem dJ6_bitCount_0f7a4_33 : decode cJ6_bitCount_0f7a4 33 = .ok (.istore_n 0, 1) := by decide +kernel
theorem dJ6_bitCount_0f7a4_34 : decode cJ6_bitCount_0f7a4 34 = .ok (.iload_n 0, 1) := by decide +kernel
theorem dJ6_bitCount_0f7a4_35 : decode cJ6_bitCount_0f7a4 35 = .ok (.iload_n 0, 1) := by decide +kernel
theorem dJ6_bitCount_0f7a4_36 : decode cJ6_bitCount_0f7a4 36 = .ok (.bipush 8, 2) := by decide +kernel
theorem dJ6_bitCount_0f7a4_38 : decode cJ6_bitCount_0f7a4 38 = .ok (.iushr, 1) := by decide +kernel
theorem dJ6_bitCount_0f7a4_39 : decode cJ6_bitCount_0f7a4 39 = .ok (.iadd, 1) := by decide +kernel
theorem dJ6_bitCount_0f7a4_40 : decode cJ6_bitCount_0f7a4 40 = .ok (.istore_n 0, 1) := by decide +kernel
theorem dJ6_bitCount_0f7a4_41 : decode cJ6_bitCount_0f7a4 41 = .ok (.iload_n 0, 1) := by decide +kernel
theorem dJ6_bitCount_0f7a4_42 : decode cJ6_bitCount_0f7a4 42 = .ok (.iload_n 0, 1) := by decide +kernel
theorem dJ6_bitCount_0f7a4_43 : decode cJ6_bitCount_0f7a4 43 = .ok (.bipush 16, 2) := by decide +kernel
theorem dJ6_bitCount_0f7a4_45 : decode cJ6_bitCount_0f7a4 45 = .ok (.iushr, 1) := by decide +kernel
theorem dJ6_bitCount_0f7a4_46 : decode cJ6_bitCount_0f7a4 46 = .ok (.iadd, 1) := by decide +kernel
theorem dJ6_bitCount_0f7a4_47 : decode cJ6_bitCount_0f7a4 47 = .ok (.istore_n 0, 1) := by decide +kernel
theorem dJ6_bitCount_0f7a4_48 : decode cJ6_bitCount_0f7a4 48 = .ok (.iload_n 0, 1) := by decide +kernel
theorem dJ6_bitCount_0f7a4_49 : decode cJ6_bitCount_0f7a4 49 = .ok (.bipush 63, 2) := by decide +kernel
theorem dJ6_bitCount_0f7a4_51 : decode cJ6_bitCount_0f7a4 51 = .ok (.iand, 1) := by decide +kernel
theorem dJ6_bitCount_0f7a4_52 : decode cJ6_bitCount_0f7a4 52 = .ok (.ireturn, 1) := by decide +kernel
theorem dJ9_abs_0f7a4_0 : decode cJ9_abs_0f7a4 0 = .ok (.iload_n 0, 1) := by decide +kernel
theorem dJ9_abs_0f7a4_1 : decode cJ9_abs_0f7a4 1 = .ok (.ifCond .ge 8, 3) := by decide +kernel
theorem dJ9_abs_0f7a4_4 : decode cJ9_abs_0f7a4 4 = .ok (.iload_n 0, 1) := by decide +kernel
theorem dJ9_abs_0f7a4_5 : decode cJ9_abs_0f7a4 5 = .ok (.ineg, 1) := by decide +kernel
theorem dJ9_abs_0f7a4_6 : decode cJ9_abs_0f7a4 6 = .ok (.goto 4, 3) := by decide +kernel
theorem dJ9_abs_0f7a4_9 : decode cJ9_abs_0f7a4 9 = .ok (.iload_n 0, 1) := by decide +kernel
theorem dJ9_abs_0f7a4_10 : decode cJ9_abs_0f7a4 10 = .ok (.ireturn, 1) := by decide +kernel
theorem dJ9_max_7cf53_0 : decode cJ9_max_7cf53 0 = .ok (.iload_n 0, 1) := by decide +kernel
theorem dJ9_max_7cf53_1 : decode cJ9_max_7cf53 1 = .ok (.iload_n 1, 1) := by decide +kernel
theorem dJ9_max_7cf53_2 : decode cJ9_max_7cf53 2 = .ok (.if_icmp .lt 7, 3) := by decide +kernel
theorem dJ9_max_7cf53_5 : decode cJ9_max_7cf53 5 = .ok (.iload_n 0, 1) := by decide +kernel
theorem dJ9_max_7cf53_6 : decode cJ9_max_7cf53 6 = .ok (.goto 4, 3) := by decide +kernel
theorem dJ9_max_7cf53_9 : decode cJ9_max_7cf53 9 = .ok (.iload_n 1, 1) := by decide +kernel
theorem dJ9_max_7cf53_10 : decode cJ9_max_7cf53 10 = .ok (.ireturn, 1) := by decide +kernel
theorem dJ9_min_7cf53_0 : decode cJ9_min_7cf53 0 = .ok (.iload_n 0, 1) := by decide +kernel
theorem dJ9_min_7cf53_1 : decode cJ9_min_7cf53 1 = .ok (.iload_n 1, 1) := by decide +kernel
theorem dJ9_min_7cf53_2 : decode cJ9_min_7cf53 2 = .ok (.if_icmp .gt 7, 3) := by decide +kernel
theorem dJ9_min_7cf53_5 : decode cJ9_min_7cf53 5 = .ok (.iload_n 0, 1) := by decide +kernel
theorem dJ9_min_7cf53_6 : decode cJ9_min_7cf53 6 = .ok (.goto 4, 3) := by decide +kernel
theorem dJ9_min_7cf53_9 : decode cJ9_min_7cf53 9 = .ok (.iload_n 1, 1) := by decide +kernel
theorem dJ9_min_7cf53_10 : decode cJ9_min_7cf53 10 = .ok (.ireturn, 1) := by decide +kernel
theorem dJ0_init_81219_0 : decode cJ0_init_81219 0 = .ok (.aload_n 0, 1) := by decide +kernel
theorem dJ0_init_81219_1 : decode cJ0_init_81219 1 = .ok (.aload_n 1, 1) := by decide +kernel
theorem dJ0_init_81219_2 : decode cJ0_init_81219 2 = .ok (.aconst_null, 1) := by decide +kernel
theorem dJ0_init_81219_3 : decode cJ0_init_81219 3 = .ok (.invokespecial 489, 3) := by decide +kernel
theorem dJ0_init_81219_6 : decode cJ0_init_81219 6 = .ok (.return_, 1) := by decide +kernel
theorem dJ0_length_8abf5_0 : decode cJ0_length_8abf5 0 = .ok (.aload_n 0, 1) := by decide +kernel
theorem dJ0_length_8abf5_1 : decode cJ0_length_8abf5 1 = .ok (.getfield 9, 3) := by decide +kernel
theorem dJ0_length_8abf5_4 : decode cJ0_length_8abf5 4 = .ok (.arraylength, 1) := by decide +kernel
theorem dJ0_length_8abf5_5 : decode cJ0_length_8abf5 5 = .ok (.aload_n 0, 1) := by decide +kernel
theorem dJ0_length_8abf5_6 : decode cJ0_length_8abf5 6 = .ok (.invokevirtual 335, 3) := by decide +kernel
theorem dJ0_length_8abf5_9 : decode cJ0_length_8abf5 9 = .ok (.ishr, 1) := by decide +kernel
theorem dJ0_length_8abf5_10 : decode cJ0_length_8abf5 10 = .ok (.ireturn, 1) := by decide +kernel
theorem dJ0_charAt_5068e_0 : decode cJ0_charAt_5068e 0 = .ok (.aload_n 0, 1) := by decide +kernel
theorem dJ0_charAt_5068e_1 : decode cJ0_charAt_5068e 1 = .ok (.invokevirtual 492, 3) := by decide +kernel
theorem dJ0_charAt_5068e_4 : decode cJ0_charAt_5068e 4 = .ok (.ifCond .eq 12, 3) := by decide +kernel
theorem dJ0_charAt_5068e_7 : decode cJ0_charAt_5068e 7 = .ok (.aload_n 0, 1) := by decide +kernel
theorem dJ0_charAt_5068e_8 : decode cJ0_charAt_5068e 8 = .ok (.getfield 9, 3) := by decide +kernel
theorem dJ0_charAt_5068e_11 : decode cJ0_charAt_5068e 11 = .ok (.iload_n 1, 1) := by decide +kernel
theorem dJ0_charAt_5068e_12 : decode cJ0_charAt_5068e 12 = .ok (.invokestatic 495, 3) := by decide +kernel
theorem dJ0_charAt_5068e_15 : decode cJ0_charAt_5068e 15 = .ok (.ireturn, 1) := by decide +kernel
theorem dJ0_charAt_5068e_16 : decode cJ0_charAt_5068e 16 = .ok (.aload_n 0, 1) := by decide +kernel
theorem dJ0_charAt_5068e_17 : decode cJ0_charAt_5068e 17 = .ok (.getfield 9, 3) := by decide +kernel
theorem dJ0_charAt_5068e_20 : decode cJ0_charAt_5068e 20 = .ok (.iload_n 1, 1) := by decide +kernel
theorem dJ0_charAt_5068e_21 : decode cJ0_charAt_5068e 21 = .ok (.invokestatic 498, 3) := by decide +kernel
theorem dJ0_charAt_5068e_24 : decode cJ0_charAt_5068e 24 = .ok (.ireturn, 1) := by decide +kernel
theorem dJ0_getBytes_840e7_0 : decode cJ0_getBytes_840e7 0 = .ok (.aload_n 0, 1) := by decide +kernel
theorem dJ0_getBytes_840e7_1 : decode cJ0_getBytes_840e7 1 = .ok (.invokevirtual 335, 3) := by decide +kernel
theorem dJ0_getBytes_840e7_4 : decode cJ0_getBytes_840e7 4 = .ok (.iload_n 3, 1) := by decide +kernel
theorem dJ0_getBytes_840e7_5 : decode cJ0_getBytes_840e7 5 = .ok (.if_icmp .ne 23, 3) := by decide +kernel
theorem dJ0_getBytes_840e7_8 : decode cJ0_getBytes_840e7 8 = .ok (.aload_n 0, 1) := by decide +kernel
theorem dJ0_getBytes_840e7_9 : decode cJ0_getBytes_840e7 9 = .ok (.getfield 9, 3) := by decide +kernel
theorem dJ0_getBytes_840e7_12 : decode cJ0_getBytes_840e7 12 = .ok (.iconst 0, 1) := by decide +kernel
theorem dJ0_getBytes_840e7_13 : decode cJ0_getBytes_840e7 13 = .ok (.aload_n 1, 1) := by decide +kernel
theorem dJ0_getBytes_840e7_14 : decode cJ0_getBytes_840e7 14 = .ok (.iload_n 2, 1) := by decide +kernel
theorem dJ0_getBytes_840e7_15 : decode cJ0_getBytes_840e7 15 = .ok (.iload_n 3, 1) := by decide +kernel
theorem dJ0_getBytes_840e7_16 : decode cJ0_getBytes_840e7 16 = .ok (.ishl, 1) := by decide +kernel
theorem dJ0_getBytes_840e7_17 : decode cJ0_getBytes_840e7 17 = .ok (.aload_n 0, 1) := by decide +kernel
theorem dJ0_getBytes_840e7_18 : decode cJ0_getBytes_840e7 18 = .ok (.getfield 9, 3) := by decide +kernel
theorem dJ0_getBytes_840e7_21 : decode cJ0_getBytes_840e7 21 = .ok (.arraylength, 1) := by decide +kernel
theorem dJ0_getBytes_840e7_22 : decode cJ0_getBytes_840e7 22 = .ok (.invokestatic 212, 3) := by decide +kernel
theorem dJ0_getBytes_840e7_25 : decode cJ0_getBytes_840e7 25 = .ok (.goto 18, 3) := by decide +kernel
theorem dJ0_getBytes_840e7_28 : decode cJ0_getBytes_840e7 28 = .ok (.aload_n 0, 1) := by decide +kernel
theorem dJ0_getBytes_840e7_29 : decode cJ0_getBytes_840e7 29 = .ok (.getfield 9, 3) := by decide +kernel
theorem dJ0_getBytes_840e7_32 : decode cJ0_getBytes_840e7 32 = .ok (.iconst 0, 1) := by decide +kernel
theorem dJ0_getBytes_840e7_33 : decode cJ0_getBytes_840e7 33 = .ok (.aload_n 1, 1) := by decide +kernel
theorem dJ0_getBytes_840e7_34 : decode cJ0_getBytes_840e7 34 = .ok (.iload_n 2, 1) := by decide +kernel
theorem dJ0_getBytes_840e7_35 : decode cJ0_getBytes_840e7 35 = .ok (.aload_n 0, 1) := by decide +kernel
theorem dJ0_getBytes_840e7_36 : decode cJ0_getBytes_840e7 36 = .ok (.getfield 9, 3) := by decide +kernel
theorem dJ0_getBytes_840e7_39 : decode cJ0_getBytes_840e7 39 = .ok (.arraylength, 1) := by decide +kernel
theorem dJ0_getBytes_840e7_40 : decode cJ0_getBytes_840e7 40 = .ok (.invokestatic 106, 3) := by decide +kernel
theorem dJ0_getBytes_840e7_43 : decode cJ0_getBytes_840e7 43 = .ok (.return_, 1) := by decide +kernel
theorem dJ0_init_db425_0 : decode cJ0_init_db425 0 = .ok (.aload_n 0, 1) := by decide +kernel
theorem dJ0_init_db425_1 : decode cJ0_init_db425 1 = .ok (.invokespecial 1, 3) := by decide +kernel
theorem dJ0_init_db425_4 : decode cJ0_init_db425 4 = .ok (.aload_n 1, 1) := by decide +kernel
theorem dJ0_init_db425_5 : decode cJ0_init_db425 5 = .ok (.invokevirtual 552, 3) := by decide +kernel
theorem dJ0_init_db425_8 : decode cJ0_init_db425 8 = .ok (.astore_n 3, 1) := by decide +kernel
theorem dJ0_init_db425_9 : decode cJ0_init_db425 9 = .ok (.aload_n 1, 1) := by decide +kernel
theorem dJ0_init_db425_10 : decode cJ0_init_db425 10 = .ok (.invokevirtual 549, 3) := by decide +kernel
theorem dJ0_init_db425_13 : decode cJ0_init_db425 13 = .ok (.istore 4, 2) := by decide +kernel
theorem dJ0_init_db425_15 : decode cJ0_init_db425 15 = .ok (.aload_n 1, 1) := by decide +kernel
theorem dJ0_init_db425_16 : decode cJ0_init_db425 16 = .ok (.invokevirtual 1047, 3) := by decide +kernel
theorem dJ0_init_db425_19 : decode cJ0_init_db425 19 = .ok (.ifCond .eq 22, 3) := by decide +kernel
theorem dJ0_init_db425_22 : decode cJ0_init_db425 22 = .ok (.aload_n 0, 1) := by decide +kernel
theorem dJ0_init_db425_23 : decode cJ0_init_db425 23 = .ok (.iconst 0, 1) := by decide +kernel
theorem dJ0_init_db425_24 : decode cJ0_init_db425 24 = .ok (.putfield 15, 3) := by decide +kernel
theorem dJ0_init_db425_27 : decode cJ0_init_db425 27 = .ok (.aload_n 0, 1) := by decide +kernel
theorem dJ0_init_db425_28 : decode cJ0_init_db425 28 = .ok (.aload_n 3, 1) := by decide +kernel
theorem dJ0_init_db425_29 : decode cJ0_init_db425 29 = .ok (.iconst 0, 1) := by decide +kernel
theorem dJ0_init_db425_30 : decode cJ0_init_db425 30 = .ok (.iload 4, 2) := by decide +kernel
theorem dJ0_init_db425_32 : decode cJ0_init_db425 32 = .ok (.invokestatic 54, 3) := by decide +kernel
theorem dJ0_init_db425_35 : decode cJ0_init_db425 35 = .ok (.putfield 9, 3) := by decide +kernel
theorem dJ0_init_db425_38 : decode cJ0_init_db425 38 = .ok (.goto 59, 3) := by decide +kernel
theorem dJ0_init_db425_41 : decode cJ0_init_db425 41 = .ok (.getstatic 38, 3) := by decide +kernel
theorem dJ0_init_db425_44 : decode cJ0_init_db425 44 = .ok (.ifCond .eq 35, 3) := by decide +kernel
theorem dJ0_init_db425_47 : decode cJ0_init_db425 47 = .ok (.aload_n 1, 1) := by decide +kernel
theorem dJ0_init_db425_48 : decode cJ0_init_db425 48 = .ok (.getfield 1048, 3) := by decide +kernel
theorem dJ0_init_db425_51 : decode cJ0_init_db425 51 = .ok (.ifCond .eq 28, 3) := by decide +kernel
theorem dJ0_init_db425_54 : decode cJ0_init_db425 54 = .ok (.aload_n 0, 1) := by decide +kernel
theorem dJ0_init_db425_55 : decode cJ0_init_db425 55 = .ok (.aload_n 3, 1) := by decide +kernel
theorem dJ0_init_db425_56 : decode cJ0_init_db425 56 = .ok (.iconst 0, 1) := by decide +kernel
theorem dJ0_init_db425_57 : decode cJ0_init_db425 57 = .ok (.iload 4, 2) := by decide +kernel
theorem dJ0_init_db425_59 : decode cJ0_init_db425 59 = .ok (.invokestatic 1051, 3) := by decide +kernel
theorem dJ0_init_db425_62 : decode cJ0_init_db425 62 = .ok (.putfield 9, 3) := by decide +kernel
theorem dJ0_init_db425_65 : decode cJ0_init_db425 65 = .ok (.aload_n 0, 1) := by decide +kernel
theorem dJ0_init_db425_66 : decode cJ0_init_db425 66 = .ok (.aload_n 0, 1) := by decide +kernel
theorem dJ0_init_db425_67 : decode cJ0_init_db425 67 = .ok (.getfield 9, 3) := by decide +kernel
theorem dJ0_init_db425_70 : decode cJ0_init_db425 70 = .ok (.iload 4, 2) := by decide +kernel
theorem dJ0_init_db425_72 : decode cJ0_init_db425 72 = .ok (.invokestatic 47, 3) := by decide +kernel
theorem dJ0_init_db425_75 : decode cJ0_init_db425 75 = .ok (.putfield 15, 3) := by decide +kernel
theorem dJ0_init_db425_78 : decode cJ0_init_db425 78 = .ok (.return_, 1) := by decide +kernel
theorem dJ0_init_db425_79 : decode cJ0_init_db425 79 = .ok (.aload_n 0, 1) := by decide +kernel
theorem dJ0_init_db425_80 : decode cJ0_init_db425 80 = .ok (.iconst 1, 1) := by decide +kernel
theorem dJ0_init_db425_81 : decode cJ0_init_db425 81 = .ok (.putfield 15, 3) := by decide +kernel
theorem dJ0_init_db425_84 : decode cJ0_init_db425 84 = .ok (.aload_n 0, 1) := by decide +kernel
theorem dJ0_init_db425_85 : decode cJ0_init_db425 85 = .ok (.aload_n 3, 1) := by decide +kernel
theorem dJ0_init_db425_86 : decode cJ0_init_db425 86 = .ok (.iconst 0, 1) := by decide +kernel
theorem dJ0_init_db425_87 : decode cJ0_init_db425 87 = .ok (.iload 4, 2) := by decide +kernel
theorem dJ0_init_db425_89 : decode cJ0_init_db425 89 = .ok (.iconst 1, 1) := by decide +kernel
theorem dJ0_init_db425_90 : decode cJ0_init_db425 90 = .ok (.ishl, 1) := by decide +kernel
theorem dJ0_init_db425_91 : decode cJ0_init_db425 91 = .ok (.invokestatic 54, 3) := by decide +kernel
theorem dJ0_init_db425_94 : decode cJ0_init_db425 94 = .ok (.putfield 9, 3) := by decide +kernel
theorem dJ0_init_db425_97 : decode cJ0_init_db425 97 = .ok (.return_, 1) := by decide +kernel
theorem dJ0_coder_7d493_0 : decode cJ0_coder_7d493 0 = .ok (.getstatic 38, 3) := by decide +kernel
theorem dJ0_coder_7d493_3 : decode cJ0_coder_7d493 3 = .ok (.ifCond .eq 10, 3) := by decide +kernel
theorem dJ0_coder_7d493_6 : decode cJ0_coder_7d493 6 = .ok (.aload_n 0, 1) := by decide +kernel
theorem dJ0_coder_7d493_7 : decode cJ0_coder_7d493 7 = .ok (.getfield 15, 3) := by decide +kernel
theorem dJ0_coder_7d493_10 : decode cJ0_coder_7d493 10 = .ok (.goto 4, 3) := by decide +kernel
theorem dJ0_coder_7d493_13 : decode cJ0_coder_7d493 13 = .ok (.iconst 1, 1) := by decide +kernel
theorem dJ0_coder_7d493_14 : decode cJ0_coder_7d493 14 = .ok (.ireturn, 1) := by decide +kernel
theorem dJ0_isLatin1_aae02_0 : decode cJ0_isLatin1_aae02 0 = .ok (.getstatic 38, 3) := by decide +kernel
theorem dJ0_isLatin1_aae02_3 : decode cJ0_isLatin1_aae02 3 = .ok (.ifCond .eq 14, 3) := by decide +kernel
theorem dJ0_isLatin1_aae02_6 : decode cJ0_isLatin1_aae02 6 = .ok (.aload_n 0, 1) := by decide +kernel
theorem dJ0_isLatin1_aae02_7 : decode cJ0_isLatin1_aae02 7 = .ok (.getfield 15, 3) := by decide +kernel
theorem dJ0_isLatin1_aae02_10 : decode cJ0_isLatin1_aae02 10 = .ok (.ifCond .ne 7, 3) := by decide +kernel
theorem dJ0_isLatin1_aae02_13 : decode cJ0_isLatin1_aae02 13 = .ok (.iconst 1, 1) := by decide +kernel
theorem dJ0_isLatin1_aae02_14 : decode cJ0_isLatin1_aae02 14 = .ok (.goto 4, 3) := by decide +kernel
theorem dJ0_isLatin1_aae02_17 : decode cJ0_isLatin1_aae02 17 = .ok (.iconst 0, 1) := by decide +kernel
theorem dJ0_isLatin1_aae02_18 : decode cJ0_isLatin1_aae02 18 = .ok (.ireturn, 1) := by decide +kernel
theorem dJ0_checkIndex_df160_0 : decode cJ0_checkIndex_df160 0 = .ok (.iload_n 0, 1) := by decide +kernel
theorem dJ0_checkIndex_df160_1 : decode cJ0_checkIndex_df160 1 = .ok (.iload_n 1, 1) := by decide +kernel
theorem dJ0_checkIndex_df160_2 : decode cJ0_checkIndex_df160 2 = .ok (.getstatic 1053, 3) := by decide +kernel
theorem dJ0_checkIndex_df160_5 : decode cJ0_checkIndex_df160 5 = .ok (.invokestatic 1059, 3) := by decide +kernel
theorem dJ0_checkIndex_df160_8 : decode cJ0_checkIndex_df160 8 = .ok (.pop, 1) := by decide +kernel
theorem dJ0_checkIndex_df160_9 : decode cJ0_checkIndex_df160 9 = .ok (.return_, 1) := by decide +kernel
theorem dJ0_checkBoundsOffCount_cabcc_0 : decode cJ0_checkBoundsOffCount_cabcc 0 = .ok (.iload_n 0, 1) := by decide +kernel
theorem dJ0_checkBoundsOffCount_cabcc_1 : decode cJ0_checkBoundsOffCount_cabcc 1 = .ok (.iload_n 1, 1) := by decide +kernel
theorem dJ0_checkBoundsOffCount_cabcc_2 : decode cJ0_checkBoundsOffCount_cabcc 2 = .ok (.iload_n 2, 1) := by decide +kernel
theorem dJ0_checkBoundsOffCount_cabcc_3 : decode cJ0_checkBoundsOffCount_cabcc 3 = .ok (.getstatic 1053, 3) := by decide +kernel
theorem dJ0_checkBoundsOffCount_cabcc_6 : decode cJ0_checkBoundsOffCount_cabcc 6 = .ok (.invokestatic 1065, 3) := by decide +kernel
theorem dJ0_checkBoundsOffCount_cabcc_9 : decode cJ0_checkBoundsOffCount_cabcc 9 = .ok (.ireturn, 1) := by decide +kernel
theorem dJ0_checkBoundsBeginEnd_23922_0 : decode cJ0_checkBoundsBeginEnd_23922 0 = .ok (.iload_n 0, 1) := by decide +kernel
theorem dJ0_checkBoundsBeginEnd_23922_1 : decode cJ0_checkBoundsBeginEnd_23922 1 = .ok (.iload_n 1, 1) := by decide +kernel
theorem dJ0_checkBoundsBeginEnd_23922_2 : decode cJ0_checkBoundsBeginEnd_23922 2 = .ok (.iload_n 2, 1) := by decide +kernel
theorem dJ0_checkBoundsBeginEnd_23922_3 : decode cJ0_checkBoundsBeginEnd_23922 3 = .ok (.getstatic 1053, 3) := by decide +kernel
theorem dJ0_checkBoundsBeginEnd_23922_6 : decode cJ0_checkBoundsBeginEnd_23922 6 = .ok (.invokestatic 1062, 3) := by decide +kernel
theorem dJ0_checkBoundsBeginEnd_23922_9 : decode cJ0_checkBoundsBeginEnd_23922 9 = .ok (.pop, 1) := by decide +kernel
theorem dJ0_checkBoundsBeginEnd_23922_10 : decode cJ0_checkBoundsBeginEnd_23922 10 = .ok (.return_, 1) := by decide +kernel
theorem dJ4_init_a7421_0 : decode cJ4_init_a7421 0 = .ok (.aload_n 0, 1) := by decide +kernel
theorem dJ4_init_a7421_1 : decode cJ4_init_a7421 1 = .ok (.aload_n 1, 1) := by decide +kernel
theorem dJ4_init_a7421_2 : decode cJ4_init_a7421 2 = .ok (.invokespecial 7, 3) := by decide +kernel
theorem dJ4_init_a7421_5 : decode cJ4_init_a7421 5 = .ok (.return_, 1) := by decide +kernel
theorem dJ4_append_15ec4_0 : decode cJ4_append_15ec4 0 = .ok (.aload_n 0, 1) := by decide +kernel
theorem dJ4_append_15ec4_1 : decode cJ4_append_15ec4 1 = .ok (.aload_n 1, 1) := by decide +kernel
theorem dJ4_append_15ec4_2 : decode cJ4_append_15ec4 2 = .ok (.invokespecial 29, 3) := by decide +kernel
theorem dJ4_append_15ec4_5 : decode cJ4_append_15ec4 5 = .ok (.pop, 1) := by decide +kernel
theorem dJ4_append_15ec4_6 : decode cJ4_append_15ec4 6 = .ok (.aload_n 0, 1) := by decide +kernel
theorem dJ4_append_15ec4_7 : decode cJ4_append_15ec4 7 = .ok (.areturn, 1) := by decide +kernel
theorem dJ4_append_cf468_0 : decode cJ4_append_cf468 0 = .ok (.aload_n 0, 1) := by decide +kernel
theorem dJ4_append_cf468_1 : decode cJ4_append_cf468 1 = .ok (.iload_n 1, 1) := by decide +kernel
theorem dJ4_append_cf468_2 : decode cJ4_append_cf468 2 = .ok (.invokespecial 50, 3) := by decide +kernel
theorem dJ4_append_cf468_5 : decode cJ4_append_cf468 5 = .ok (.pop, 1) := by decide +kernel
theorem dJ4_append_cf468_6 : decode cJ4_append_cf468 6 = .ok (.aload_n 0, 1) := by decide +kernel
theorem dJ4_append_cf468_7 : decode cJ4_append_cf468 7 = .ok (.areturn, 1) := by decide +kernel
theorem dJ4_append_bf812_0 : decode cJ4_append_bf812 0 = .ok (.aload_n 0, 1) := by decide +kernel
theorem dJ4_append_bf812_1 : decode cJ4_append_bf812 1 = .ok (.iload_n 1, 1) := by decide +kernel
theorem dJ4_append_bf812_2 : decode cJ4_append_bf812 2 = .ok (.invokespecial 53, 3) := by decide +kernel
theorem dJ4_append_bf812_5 : decode cJ4_append_bf812 5 = .ok (.pop, 1) := by decide +kernel
theorem dJ4_append_bf812_6 : decode cJ4_append_bf812 6 = .ok (.aload_n 0, 1) := by decide +kernel
theorem dJ4_append_bf812_7 : decode cJ4_append_bf812 7 = .ok (.areturn, 1) := by decide +kernel
theorem dJ4_toString_0e30d_0 : decode cJ4_toString_0e30d 0 = .ok (.new 18, 3) := by decide +kernel
theorem dJ4_toString_0e30d_3 : decode cJ4_toString_0e30d 3 = .ok (.dup, 1) := by decide +kernel
theorem dJ4_toString_0e30d_4 : decode cJ4_toString_0e30d 4 = .ok (.aload_n 0, 1) := by decide +kernel
theorem dJ4_toString_0e30d_5 : decode cJ4_toString_0e30d 5 = .ok (.invokespecial 137, 3) := by decide +kernel
theorem dJ4_toString_0e30d_8 : decode cJ4_toString_0e30d 8 = .ok (.areturn, 1) := by decide +kernel
theorem dJ4_append_cf1ce_0 : decode cJ4_append_cf1ce 0 = .ok (.aload_n 0, 1) := by decide +kernel
theorem dJ4_append_cf1ce_1 : decode cJ4_append_cf1ce 1 = .ok (.aload_n 1, 1) := by decide +kernel
theorem dJ4_append_cf1ce_2 : decode cJ4_append_cf1ce 2 = .ok (.invokevirtual 23, 3) := by decide +kernel
theorem dJ4_append_cf1ce_5 : decode cJ4_append_cf1ce 5 = .ok (.areturn, 1) := by decide +kernel
theorem dJ4_length_8abf5_0 : decode cJ4_length_8abf5 0 = .ok (.aload_n 0, 1) := by decide +kernel
theorem dJ4_length_8abf5_1 : decode cJ4_length_8abf5 1 = .ok (.invokespecial 343, 3) := by decide +kernel
theorem dJ4_length_8abf5_4 : decode cJ4_length_8abf5 4 = .ok (.ireturn, 1) := by decide +kernel
theorem dJ1_charAt_3b067_0 : decode cJ1_charAt_3b067 0 = .ok (.iload_n 1, 1) := by decide +kernel
theorem dJ1_charAt_3b067_1 : decode cJ1_charAt_3b067 1 = .ok (.aload_n 0, 1) := by decide +kernel
theorem dJ1_charAt_3b067_2 : decode cJ1_charAt_3b067 2 = .ok (.arraylength, 1) := by decide +kernel
theorem dJ1_charAt_3b067_3 : decode cJ1_charAt_3b067 3 = .ok (.invokestatic 9, 3) := by decide +kernel
theorem dJ1_charAt_3b067_6 : decode cJ1_charAt_3b067 6 = .ok (.aload_n 0, 1) := by decide +kernel
theorem dJ1_charAt_3b067_7 : decode cJ1_charAt_3b067 7 = .ok (.iload_n 1, 1) := by decide +kernel
theorem dJ1_charAt_3b067_8 : decode cJ1_charAt_3b067 8 = .ok (.baload, 1) := by decide +kernel
theorem dJ1_charAt_3b067_9 : decode cJ1_charAt_3b067 9 = .ok (.sipush 255, 3) := by decide +kernel
theorem dJ1_charAt_3b067_12 : decode cJ1_charAt_3b067 12 = .ok (.iand, 1) := by decide +kernel
theorem dJ1_charAt_3b067_13 : decode cJ1_charAt_3b067 13 = .ok (.i2c, 1) := by decide +kernel
theorem dJ1_charAt_3b067_14 : decode cJ1_charAt_3b067 14 = .ok (.ireturn, 1) := by decide +kernel
theorem dJ1_canEncode_fc78d_0 : decode cJ1_canEncode_fc78d 0 = .ok (.iload_n 0, 1) := by decide +kernel
theorem dJ1_canEncode_fc78d_1 : decode cJ1_canEncode_fc78d 1 = .ok (.sipush 255, 3) := by decide +kernel
theorem dJ1_canEncode_fc78d_4 : decode cJ1_canEncode_fc78d 4 = .ok (.if_icmp .gt 7, 3) := by decide +kernel
theorem dJ1_canEncode_fc78d_7 : decode cJ1_canEncode_fc78d 7 = .ok (.iconst 1, 1) := by decide +kernel
theorem dJ1_canEncode_fc78d_8 : decode cJ1_canEncode_fc78d 8 = .ok (.goto 4, 3) := by decide +kernel
theorem dJ1_canEncode_fc78d_11 : decode cJ1_canEncode_fc78d 11 = .ok (.iconst 0, 1) := by decide +kernel
theorem dJ1_canEncode_fc78d_12 : decode cJ1_canEncode_fc78d 12 = .ok (.ireturn, 1) := by decide +kernel
theorem dJ1_inflate_0e8fd_0 : decode cJ1_inflate_0e8fd 0 = .ok (.aload_n 0, 1) := by decide +kernel
theorem dJ1_inflate_0e8fd_1 : decode cJ1_inflate_0e8fd 1 = .ok (.iload_n 1, 1) := by decide +kernel
theorem dJ1_inflate_0e8fd_2 : decode cJ1_inflate_0e8fd 2 = .ok (.aload_n 2, 1) := by decide +kernel
theorem dJ1_inflate_0e8fd_3 : decode cJ1_inflate_0e8fd 3 = .ok (.iload_n 3, 1) := by decide +kernel
theorem dJ1_inflate_0e8fd_4 : decode cJ1_inflate_0e8fd 4 = .ok (.iload 4, 2) := by decide +kernel
theorem dJ1_inflate_0e8fd_6 : decode cJ1_inflate_0e8fd 6 = .ok (.invokestatic 240, 3) := by decide +kernel
theorem dJ1_inflate_0e8fd_9 : decode cJ1_inflate_0e8fd 9 = .ok (.return_, 1) := by decide +kernel
theorem dJ2_newBytesFor_77867_0 : decode cJ2_newBytesFor_77867 0 = .ok (.iload_n 0, 1) := by decide +kernel
theorem dJ2_newBytesFor_77867_1 : decode cJ2_newBytesFor_77867 1 = .ok (.invokestatic 11, 3) := by decide +kernel
theorem dJ2_newBytesFor_77867_4 : decode cJ2_newBytesFor_77867 4 = .ok (.newarray .byte, 2) := by decide +kernel
theorem dJ2_newBytesFor_77867_6 : decode cJ2_newBytesFor_77867 6 = .ok (.areturn, 1) := by decide +kernel
theorem dJ2_newBytesLength_0f7a4_0 : decode cJ2_newBytesLength_0f7a4 0 = .ok (.iload_n 0, 1) := by decide +kernel
theorem dJ2_newBytesLength_0f7a4_1 : decode cJ2_newBytesLength_0f7a4 1 = .ok (.ifCond .ge 11, 3) := by decide +kernel
theorem dJ2_newBytesLength_0f7a4_4 : decode cJ2_newBytesLength_0f7a4 4 = .ok (.new 17, 3) := by decide +kernel
theorem dJ2_newBytesLength_0f7a4_7 : decode cJ2_newBytesLength_0f7a4 7 = .ok (.dup, 1) := by decide +kernel
theorem dJ2_newBytesLength_0f7a4_8 : decode cJ2_newBytesLength_0f7a4 8 = .ok (.invokespecial 19, 3) := by decide +kernel
theorem dJ2_newBytesLength_0f7a4_11 : decode cJ2_newBytesLength_0f7a4 11 = .ok (.athrow, 1) := by decide +kernel
theorem dJ2_newBytesLength_0f7a4_12 : decode cJ2_newBytesLength_0f7a4 12 = .ok (.iload_n 0, 1) := by decide +kernel
theorem dJ2_newBytesLength_0f7a4_13 : decode cJ2_newBytesLength_0f7a4 13 = .ok (.ldc 20, 2) := by decide +kernel
theorem dJ2_newBytesLength_0f7a4_15 : decode cJ2_newBytesLength_0f7a4 15 = .ok (.if_icmp .lt 40, 3) := by decide +kernel
theorem dJ2_newBytesLength_0f7a4_18 : decode cJ2_newBytesLength_0f7a4 18 = .ok (.new 21, 3) := by decide +kernel
theorem dJ2_newBytesLength_0f7a4_21 : decode cJ2_newBytesLength_0f7a4 21 = .ok (.dup, 1) := by decide +kernel
theorem dJ2_newBytesLength_0f7a4_22 : decode cJ2_newBytesLength_0f7a4 22 = .ok (.new 23, 3) := by decide +kernel
theorem dJ2_newBytesLength_0f7a4_25 : decode cJ2_newBytesLength_0f7a4 25 = .ok (.dup, 1) := by decide +kernel
theorem dJ2_newBytesLength_0f7a4_26 : decode cJ2_newBytesLength_0f7a4 26 = .ok (.invokespecial 25, 3) := by decide +kernel
theorem dJ2_newBytesLength_0f7a4_29 : decode cJ2_newBytesLength_0f7a4 29 = .ok (.ldc 26, 2) := by decide +kernel
theorem dJ2_newBytesLength_0f7a4_31 : decode cJ2_newBytesLength_0f7a4 31 = .ok (.invokevirtual 28, 3) := by decide +kernel
theorem dJ2_newBytesLength_0f7a4_34 : decode cJ2_newBytesLength_0f7a4 34 = .ok (.iload_n 0, 1) := by decide +kernel
theorem dJ2_newBytesLength_0f7a4_35 : decode cJ2_newBytesLength_0f7a4 35 = .ok (.invokevirtual 32, 3) := by decide +kernel
theorem dJ2_newBytesLength_0f7a4_38 : decode cJ2_newBytesLength_0f7a4 38 = .ok (.ldc 35, 2) := by decide +kernel
theorem dJ2_newBytesLength_0f7a4_40 : decode cJ2_newBytesLength_0f7a4 40 = .ok (.invokevirtual 28, 3) := by decide +kernel
theorem dJ2_newBytesLength_0f7a4_43 : decode cJ2_newBytesLength_0f7a4 43 = .ok (.ldc 20, 2) := by decide +kernel
theorem dJ2_newBytesLength_0f7a4_45 : decode cJ2_newBytesLength_0f7a4 45 = .ok (.invokevirtual 32, 3) := by decide +kernel
theorem dJ2_newBytesLength_0f7a4_48 : decode cJ2_newBytesLength_0f7a4 48 = .ok (.invokevirtual 37, 3) := by decide +kernel
theorem dJ2_newBytesLength_0f7a4_51 : decode cJ2_newBytesLength_0f7a4 51 = .ok (.invokespecial 41, 3) := by decide +kernel
theorem dJ2_newBytesLength_0f7a4_54 : decode cJ2_newBytesLength_0f7a4 54 = .ok (.athrow, 1) := by decide +kernel
theorem dJ2_newBytesLength_0f7a4_55 : decode cJ2_newBytesLength_0f7a4 55 = .ok (.iload_n 0, 1) := by decide +kernel
theorem dJ2_newBytesLength_0f7a4_56 : decode cJ2_newBytesLength_0f7a4 56 = .ok (.iconst 1, 1) := by decide +kernel
theorem dJ2_newBytesLength_0f7a4_57 : decode cJ2_newBytesLength_0f7a4 57 = .ok (.ishl, 1) := by decide +kernel
theorem dJ2_newBytesLength_0f7a4_58 : decode cJ2_newBytesLength_0f7a4 58 = .ok (.ireturn, 1) := by decide +kernel
theorem dJ2_putChar_b72d1_0 : decode cJ2_putChar_b72d1 0 = .ok (.getstatic 44, 3) := by decide +kernel
theorem dJ2_putChar_b72d1_3 : decode cJ2_putChar_b72d1 3 = .ok (.ifCond .ne 25, 3) := by decide +kernel
theorem dJ2_putChar_b72d1_6 : decode cJ2_putChar_b72d1 6 = .ok (.iload_n 1, 1) := by decide +kernel
theorem dJ2_putChar_b72d1_7 : decode cJ2_putChar_b72d1 7 = .ok (.ifCond .lt 11, 3) := by decide +kernel
theorem dJ2_putChar_b72d1_10 : decode cJ2_putChar_b72d1 10 = .ok (.iload_n 1, 1) := by decide +kernel
theorem dJ2_putChar_b72d1_11 : decode cJ2_putChar_b72d1 11 = .ok (.aload_n 0, 1) := by decide +kernel
theorem dJ2_putChar_b72d1_12 : decode cJ2_putChar_b72d1 12 = .ok (.invokestatic 48, 3) := by decide +kernel
theorem dJ2_putChar_b72d1_15 : decode cJ2_putChar_b72d1 15 = .ok (.if_icmp .lt 13, 3) := by decide +kernel
theorem dJ2_putChar_b72d1_18 : decode cJ2_putChar_b72d1 18 = .ok (.new 52, 3) := by decide +kernel
theorem dJ2_putChar_b72d1_21 : decode cJ2_putChar_b72d1 21 = .ok (.dup, 1) := by decide +kernel
theorem dJ2_putChar_b72d1_22 : decode cJ2_putChar_b72d1 22 = .ok (.ldc 54, 2) := by decide +kernel
theorem dJ2_putChar_b72d1_24 : decode cJ2_putChar_b72d1 24 = .ok (.invokespecial 56, 3) := by decide +kernel
theorem dJ2_putChar_b72d1_27 : decode cJ2_putChar_b72d1 27 = .ok (.athrow, 1) := by decide +kernel
theorem dJ2_putChar_b72d1_28 : decode cJ2_putChar_b72d1 28 = .ok (.iload_n 1, 1) := by decide +kernel
theorem dJ2_putChar_b72d1_29 : decode cJ2_putChar_b72d1 29 = .ok (.iconst 1, 1) := by decide +kernel
theorem dJ2_putChar_b72d1_30 : decode cJ2_putChar_b72d1 30 = .ok (.ishl, 1) := by decide +kernel
theorem dJ2_putChar_b72d1_31 : decode cJ2_putChar_b72d1 31 = .ok (.istore_n 1, 1) := by decide +kernel
theorem dJ2_putChar_b72d1_32 : decode cJ2_putChar_b72d1 32 = .ok (.aload_n 0, 1) := by decide +kernel
theorem dJ2_putChar_b72d1_33 : decode cJ2_putChar_b72d1 33 = .ok (.iload_n 1, 1) := by decide +kernel
theorem dJ2_putChar_b72d1_34 : decode cJ2_putChar_b72d1 34 = .ok (.iinc 1 1, 3) := by decide +kernel
theorem dJ2_putChar_b72d1_37 : decode cJ2_putChar_b72d1 37 = .ok (.iload_n 2, 1) := by decide +kernel
theorem dJ2_putChar_b72d1_38 : decode cJ2_putChar_b72d1 38 = .ok (.getstatic 59, 3) := by decide +kernel
theorem dJ2_putChar_b72d1_41 : decode cJ2_putChar_b72d1 41 = .ok (.ishr, 1) := by decide +kernel
theorem dJ2_putChar_b72d1_42 : decode cJ2_putChar_b72d1 42 = .ok (.i2b, 1) := by decide +kernel
theorem dJ2_putChar_b72d1_43 : decode cJ2_putChar_b72d1 43 = .ok (.bastore, 1) := by decide +kernel
theorem dJ2_putChar_b72d1_44 : decode cJ2_putChar_b72d1 44 = .ok (.aload_n 0, 1) := by decide +kernel
theorem dJ2_putChar_b72d1_45 : decode cJ2_putChar_b72d1 45 = .ok (.iload_n 1, 1) := by decide +kernel
theorem dJ2_putChar_b72d1_46 : decode cJ2_putChar_b72d1 46 = .ok (.iload_n 2, 1) := by decide +kernel
theorem dJ2_putChar_b72d1_47 : decode cJ2_putChar_b72d1 47 = .ok (.getstatic 63, 3) := by decide +kernel
theorem dJ2_putChar_b72d1_50 : decode cJ2_putChar_b72d1 50 = .ok (.ishr, 1) := by decide +kernel
theorem dJ2_putChar_b72d1_51 : decode cJ2_putChar_b72d1 51 = .ok (.i2b, 1) := by decide +kernel
theorem dJ2_putChar_b72d1_52 : decode cJ2_putChar_b72d1 52 = .ok (.bastore, 1) := by decide +kernel
theorem dJ2_putChar_b72d1_53 : decode cJ2_putChar_b72d1 53 = .ok (.return_, 1) := by decide +kernel
theorem dJ2_getChar_3b067_0 : decode cJ2_getChar_3b067 0 = .ok (.getstatic 44, 3) := by decide +kernel
theorem dJ2_getChar_3b067_3 : decode cJ2_getChar_3b067 3 = .ok (.ifCond .ne 25, 3) := by decide +kernel
theorem dJ2_getChar_3b067_6 : decode cJ2_getChar_3b067 6 = .ok (.iload_n 1, 1) := by decide +kernel
theorem dJ2_getChar_3b067_7 : decode cJ2_getChar_3b067 7 = .ok (.ifCond .lt 11, 3) := by decide +kernel
theorem dJ2_getChar_3b067_10 : decode cJ2_getChar_3b067 10 = .ok (.iload_n 1, 1) := by decide +kernel
theorem dJ2_getChar_3b067_11 : decode cJ2_getChar_3b067 11 = .ok (.aload_n 0, 1) := by decide +kernel
theorem dJ2_getChar_3b067_12 : decode cJ2_getChar_3b067 12 = .ok (.invokestatic 48, 3) := by decide +kernel
theorem dJ2_getChar_3b067_15 : decode cJ2_getChar_3b067 15 = .ok (.if_icmp .lt 13, 3) := by decide +kernel
theorem dJ2_getChar_3b067_18 : decode cJ2_getChar_3b067 18 = .ok (.new 52, 3) := by decide +kernel
theorem dJ2_getChar_3b067_21 : decode cJ2_getChar_3b067 21 = .ok (.dup, 1) := by decide +kernel
theorem dJ2_getChar_3b067_22 : decode cJ2_getChar_3b067 22 = .ok (.ldc 54, 2) := by decide +kernel
theorem dJ2_getChar_3b067_24 : decode cJ2_getChar_3b067 24 = .ok (.invokespecial 56, 3) := by decide +kernel
theorem dJ2_getChar_3b067_27 : decode cJ2_getChar_3b067 27 = .ok (.athrow, 1) := by decide +kernel
theorem dJ2_getChar_3b067_28 : decode cJ2_getChar_3b067 28 = .ok (.iload_n 1, 1) := by decide +kernel
theorem dJ2_getChar_3b067_29 : decode cJ2_getChar_3b067 29 = .ok (.iconst 1, 1) := by decide +kernel
theorem dJ2_getChar_3b067_30 : decode cJ2_getChar_3b067 30 = .ok (.ishl, 1) := by decide +kernel
theorem dJ2_getChar_3b067_31 : decode cJ2_getChar_3b067 31 = .ok (.istore_n 1, 1) := by decide +kernel
theorem dJ2_getChar_3b067_32 : decode cJ2_getChar_3b067 32 = .ok (.aload_n 0, 1) := by decide +kernel
theorem dJ2_getChar_3b067_33 : decode cJ2_getChar_3b067 33 = .ok (.iload_n 1, 1) := by decide +kernel
theorem dJ2_getChar_3b067_34 : decode cJ2_getChar_3b067 34 = .ok (.iinc 1 1, 3) := by decide +kernel
theorem dJ2_getChar_3b067_37 : decode cJ2_getChar_3b067 37 = .ok (.baload, 1) := by decide +kernel
theorem dJ2_getChar_3b067_38 : decode cJ2_getChar_3b067 38 = .ok (.sipush 255, 3) := by decide +kernel
theorem dJ2_getChar_3b067_41 : decode cJ2_getChar_3b067 41 = .ok (.iand, 1) := by decide +kernel
theorem dJ2_getChar_3b067_42 : decode cJ2_getChar_3b067 42 = .ok (.getstatic 59, 3) := by decide +kernel
theorem dJ2_getChar_3b067_45 : decode cJ2_getChar_3b067 45 = .ok (.ishl, 1) := by decide +kernel
theorem dJ2_getChar_3b067_46 : decode cJ2_getChar_3b067 46 = .ok (.aload_n 0, 1) := by decide +kernel
theorem dJ2_getChar_3b067_47 : decode cJ2_getChar_3b067 47 = .ok (.iload_n 1, 1) := by decide +kernel
theorem dJ2_getChar_3b067_48 : decode cJ2_getChar_3b067 48 = .ok (.baload, 1) := by decide +kernel
theorem dJ2_getChar_3b067_49 : decode cJ2_getChar_3b067 49 = .ok (.sipush 255, 3) := by decide +kernel
theorem dJ2_getChar_3b067_52 : decode cJ2_getChar_3b067 52 = .ok (.iand, 1) := by decide +kernel
theorem dJ2_getChar_3b067_53 : decode cJ2_getChar_3b067 53 = .ok (.getstatic 63, 3) := by decide +kernel
theorem dJ2_getChar_3b067_56 : decode cJ2_getChar_3b067 56 = .ok (.ishl, 1) := by decide +kernel
theorem dJ2_getChar_3b067_57 : decode cJ2_getChar_3b067 57 = .ok (.ior, 1) := by decide +kernel
theorem dJ2_getChar_3b067_58 : decode cJ2_getChar_3b067 58 = .ok (.i2c, 1) := by decide +kernel
theorem dJ2_getChar_3b067_59 : decode cJ2_getChar_3b067 59 = .ok (.ireturn, 1) := by decide +kernel
theorem dJ2_length_9d52b_0 : decode cJ2_length_9d52b 0 = .ok (.aload_n 0, 1) := by decide +kernel
theorem dJ2_length_9d52b_1 : decode cJ2_length_9d52b 1 = .ok (.arraylength, 1) := by decide +kernel
theorem dJ2_length_9d52b_2 : decode cJ2_length_9d52b 2 = .ok (.iconst 1, 1) := by decide +kernel
theorem dJ2_length_9d52b_3 : decode cJ2_length_9d52b 3 = .ok (.ishr, 1) := by decide +kernel
theorem dJ2_length_9d52b_4 : decode cJ2_length_9d52b 4 = .ok (.ireturn, 1) := by decide +kernel
theorem dJ2_coderFromArrayLen_85cad_0 : decode cJ2_coderFromArrayLen_85cad 0 = .ok (.iload_n 1, 1) := by decide +kernel
theorem dJ2_coderFromArrayLen_85cad_1 : decode cJ2_coderFromArrayLen_85cad 1 = .ok (.aload_n 0, 1) := by decide +kernel
theorem dJ2_coderFromArrayLen_85cad_2 : decode cJ2_coderFromArrayLen_85cad 2 = .ok (.arraylength, 1) := by decide +kernel
theorem dJ2_coderFromArrayLen_85cad_3 : decode cJ2_coderFromArrayLen_85cad 3 = .ok (.isub, 1) := by decide +kernel
theorem dJ2_coderFromArrayLen_85cad_4 : decode cJ2_coderFromArrayLen_85cad 4 = .ok (.bipush 31, 2) := by decide +kernel
theorem dJ2_coderFromArrayLen_85cad_6 : decode cJ2_coderFromArrayLen_85cad 6 = .ok (.iushr, 1) := by decide +kernel
theorem dJ2_coderFromArrayLen_85cad_7 : decode cJ2_coderFromArrayLen_85cad 7 = .ok (.i2b, 1) := by decide +kernel
theorem dJ2_coderFromArrayLen_85cad_8 : decode cJ2_coderFromArrayLen_85cad 8 = .ok (.ireturn, 1) := by decide +kernel
theorem dJ2_compress_39247_0 : decode cJ2_compress_39247 0 = .ok (.iload_n 2, 1) := by decide +kernel
theorem dJ2_compress_39247_1 : decode cJ2_compress_39247 1 = .ok (.newarray .byte, 2) := by decide +kernel
theorem dJ2_compress_39247_3 : decode cJ2_compress_39247 3 = .ok (.astore_n 3, 1) := by decide +kernel
theorem dJ2_compress_39247_4 : decode cJ2_compress_39247 4 = .ok (.aload_n 0, 1) := by decide +kernel
theorem dJ2_compress_39247_5 : decode cJ2_compress_39247 5 = .ok (.iload_n 1, 1) := by decide +kernel
theorem dJ2_compress_39247_6 : decode cJ2_compress_39247 6 = .ok (.aload_n 3, 1) := by decide +kernel
theorem dJ2_compress_39247_7 : decode cJ2_compress_39247 7 = .ok (.iconst 0, 1) := by decide +kernel
theorem dJ2_compress_39247_8 : decode cJ2_compress_39247 8 = .ok (.iload_n 2, 1) := by decide +kernel
theorem dJ2_compress_39247_9 : decode cJ2_compress_39247 9 = .ok (.invokestatic 123, 3) := by decide +kernel
theorem dJ2_compress_39247_12 : decode cJ2_compress_39247 12 = .ok (.istore 4, 2) := by decide +kernel
theorem dJ2_compress_39247_14 : decode cJ2_compress_39247 14 = .ok (.iload 4, 2) := by decide +kernel
theorem dJ2_compress_39247_16 : decode cJ2_compress_39247 16 = .ok (.iload_n 2, 1) := by decide +kernel
theorem dJ2_compress_39247_17 : decode cJ2_compress_39247 17 = .ok (.if_icmp .eq 47, 3) := by decide +kernel
theorem dJ2_compress_39247_20 : decode cJ2_compress_39247 20 = .ok (.aload_n 0, 1) := by decide +kernel
theorem dJ2_compress_39247_21 : decode cJ2_compress_39247 21 = .ok (.iload_n 1, 1) := by decide +kernel
theorem dJ2_compress_39247_22 : decode cJ2_compress_39247 22 = .ok (.iconst 1, 1) := by decide +kernel
theorem dJ2_compress_39247_23 : decode cJ2_compress_39247 23 = .ok (.ishl, 1) := by decide +kernel
theorem dJ2_compress_39247_24 : decode cJ2_compress_39247 24 = .ok (.iload_n 1, 1) := by decide +kernel
theorem dJ2_compress_39247_25 : decode cJ2_compress_39247 25 = .ok (.iload_n 2, 1) := by decide +kernel
theorem dJ2_compress_39247_26 : decode cJ2_compress_39247 26 = .ok (.iadd, 1) := by decide +kernel
theorem dJ2_compress_39247_27 : decode cJ2_compress_39247 27 = .ok (.invokestatic 11, 3) := by decide +kernel
theorem dJ2_compress_39247_30 : decode cJ2_compress_39247 30 = .ok (.invokestatic 126, 3) := by decide +kernel
theorem dJ2_compress_39247_33 : decode cJ2_compress_39247 33 = .ok (.astore 5, 2) := by decide +kernel
theorem dJ2_compress_39247_35 : decode cJ2_compress_39247 35 = .ok (.aload 5, 2) := by decide +kernel
theorem dJ2_compress_39247_37 : decode cJ2_compress_39247 37 = .ok (.iload 4, 2) := by decide +kernel
theorem dJ2_compress_39247_39 : decode cJ2_compress_39247 39 = .ok (.invokestatic 71, 3) := by decide +kernel
theorem dJ2_compress_39247_42 : decode cJ2_compress_39247 42 = .ok (.sipush 255, 3) := by decide +kernel
theorem dJ2_compress_39247_45 : decode cJ2_compress_39247 45 = .ok (.if_icmp .gt 16, 3) := by decide +kernel
theorem dJ2_compress_39247_48 : decode cJ2_compress_39247 48 = .ok (.aload 5, 2) := by decide +kernel
theorem dJ2_compress_39247_50 : decode cJ2_compress_39247 50 = .ok (.iconst 0, 1) := by decide +kernel
theorem dJ2_compress_39247_51 : decode cJ2_compress_39247 51 = .ok (.aload_n 3, 1) := by decide +kernel
theorem dJ2_compress_39247_52 : decode cJ2_compress_39247 52 = .ok (.iconst 0, 1) := by decide +kernel
theorem dJ2_compress_39247_53 : decode cJ2_compress_39247 53 = .ok (.iload_n 2, 1) := by decide +kernel
theorem dJ2_compress_39247_54 : decode cJ2_compress_39247 54 = .ok (.invokestatic 123, 3) := by decide +kernel
theorem dJ2_compress_39247_57 : decode cJ2_compress_39247 57 = .ok (.iload_n 2, 1) := by decide +kernel
theorem dJ2_compress_39247_58 : decode cJ2_compress_39247 58 = .ok (.if_icmp .eq 6, 3) := by decide +kernel
theorem dJ2_compress_39247_61 : decode cJ2_compress_39247 61 = .ok (.aload 5, 2) := by decide +kernel
theorem dJ2_compress_39247_63 : decode cJ2_compress_39247 63 = .ok (.areturn, 1) := by decide +kernel
theorem dJ2_compress_39247_64 : decode cJ2_compress_39247 64 = .ok (.aload_n 3, 1) := by decide +kernel
theorem dJ2_compress_39247_65 : decode cJ2_compress_39247 65 = .ok (.areturn, 1) := by decide +kernel
theorem dJ2_compress_5af95_0 : decode cJ2_compress_5af95 0 = .ok (.iload_n 1, 1) := by decide +kernel
theorem dJ2_compress_5af95_1 : decode cJ2_compress_5af95 1 = .ok (.iload 4, 2) := by decide +kernel
theorem dJ2_compress_5af95_3 : decode cJ2_compress_5af95 3 = .ok (.aload_n 0, 1) := by decide +kernel
theorem dJ2_compress_5af95_4 : decode cJ2_compress_5af95 4 = .ok (.invokestatic 173, 3) := by decide +kernel
theorem dJ2_compress_5af95_7 : decode cJ2_compress_5af95 7 = .ok (.iconst 0, 1) := by decide +kernel
theorem dJ2_compress_5af95_8 : decode cJ2_compress_5af95 8 = .ok (.istore 5, 2) := by decide +kernel
theorem dJ2_compress_5af95_10 : decode cJ2_compress_5af95 10 = .ok (.iload 5, 2) := by decide +kernel
theorem dJ2_compress_5af95_12 : decode cJ2_compress_5af95 12 = .ok (.iload 4, 2) := by decide +kernel
theorem dJ2_compress_5af95_14 : decode cJ2_compress_5af95 14 = .ok (.if_icmp .ge 39, 3) := by decide +kernel
theorem dJ2_compress_5af95_17 : decode cJ2_compress_5af95 17 = .ok (.aload_n 0, 1) := by decide +kernel
theorem dJ2_compress_5af95_18 : decode cJ2_compress_5af95 18 = .ok (.iload_n 1, 1) := by decide +kernel
theorem dJ2_compress_5af95_19 : decode cJ2_compress_5af95 19 = .ok (.invokestatic 71, 3) := by decide +kernel
theorem dJ2_compress_5af95_22 : decode cJ2_compress_5af95 22 = .ok (.istore 6, 2) := by decide +kernel
theorem dJ2_compress_5af95_24 : decode cJ2_compress_5af95 24 = .ok (.iload 6, 2) := by decide +kernel
theorem dJ2_compress_5af95_26 : decode cJ2_compress_5af95 26 = .ok (.sipush 255, 3) := by decide +kernel
theorem dJ2_compress_5af95_29 : decode cJ2_compress_5af95 29 = .ok (.if_icmp .le 6, 3) := by decide +kernel
theorem dJ2_compress_5af95_32 : decode cJ2_compress_5af95 32 = .ok (.iload 5, 2) := by decide +kernel
theorem dJ2_compress_5af95_34 : decode cJ2_compress_5af95 34 = .ok (.ireturn, 1) := by decide +kernel
theorem dJ2_compress_5af95_35 : decode cJ2_compress_5af95 35 = .ok (.aload_n 2, 1) := by decide +kernel
theorem dJ2_compress_5af95_36 : decode cJ2_compress_5af95 36 = .ok (.iload_n 3, 1) := by decide +kernel
theorem dJ2_compress_5af95_37 : decode cJ2_compress_5af95 37 = .ok (.iload 6, 2) := by decide +kernel
theorem dJ2_compress_5af95_39 : decode cJ2_compress_5af95 39 = .ok (.i2b, 1) := by decide +kernel
theorem dJ2_compress_5af95_40 : decode cJ2_compress_5af95 40 = .ok (.bastore, 1) := by decide +kernel
theorem dJ2_compress_5af95_41 : decode cJ2_compress_5af95 41 = .ok (.iinc 1 1, 3) := by decide +kernel
theorem dJ2_compress_5af95_44 : decode cJ2_compress_5af95 44 = .ok (.iinc 3 1, 3) := by decide +kernel
theorem dJ2_compress_5af95_47 : decode cJ2_compress_5af95 47 = .ok (.iinc 5 1, 3) := by decide +kernel
theorem dJ2_compress_5af95_50 : decode cJ2_compress_5af95 50 = .ok (.goto (-40), 3) := by decide +kernel
theorem dJ2_compress_5af95_53 : decode cJ2_compress_5af95 53 = .ok (.iload 4, 2) := by decide +kernel
theorem dJ2_compress_5af95_55 : decode cJ2_compress_5af95 55 = .ok (.ireturn, 1) := by decide +kernel
theorem dJ2_putCharSB_b72d1_0 : decode cJ2_putCharSB_b72d1 0 = .ok (.iload_n 1, 1) := by decide +kernel
theorem dJ2_putCharSB_b72d1_1 : decode cJ2_putCharSB_b72d1 1 = .ok (.aload_n 0, 1) := by decide +kernel
theorem dJ2_putCharSB_b72d1_2 : decode cJ2_putCharSB_b72d1 2 = .ok (.invokestatic 67, 3) := by decide +kernel
theorem dJ2_putCharSB_b72d1_5 : decode cJ2_putCharSB_b72d1 5 = .ok (.aload_n 0, 1) := by decide +kernel
theorem dJ2_putCharSB_b72d1_6 : decode cJ2_putCharSB_b72d1 6 = .ok (.iload_n 1, 1) := by decide +kernel
theorem dJ2_putCharSB_b72d1_7 : decode cJ2_putCharSB_b72d1 7 = .ok (.iload_n 2, 1) := by decide +kernel
theorem dJ2_putCharSB_b72d1_8 : decode cJ2_putCharSB_b72d1 8 = .ok (.invokestatic 111, 3) := by decide +kernel
theorem dJ2_putCharSB_b72d1_11 : decode cJ2_putCharSB_b72d1 11 = .ok (.return_, 1) := by decide +kernel
theorem dJ2_getChars_46870_0 : decode cJ2_getChars_46870 0 = .ok (.iload_n 1, 1) := by decide +kernel
theorem dJ2_getChars_46870_1 : decode cJ2_getChars_46870 1 = .ok (.iload_n 2, 1) := by decide +kernel
theorem dJ2_getChars_46870_2 : decode cJ2_getChars_46870 2 = .ok (.aload_n 3, 1) := by decide +kernel
theorem dJ2_getChars_46870_3 : decode cJ2_getChars_46870 3 = .ok (.invokestatic 96, 3) := by decide +kernel
theorem dJ2_getChars_46870_6 : decode cJ2_getChars_46870 6 = .ok (.iload_n 0, 1) := by decide +kernel
theorem dJ2_getChars_46870_7 : decode cJ2_getChars_46870 7 = .ok (.iload_n 2, 1) := by decide +kernel
theorem dJ2_getChars_46870_8 : decode cJ2_getChars_46870 8 = .ok (.aload_n 3, 1) := by decide +kernel
theorem dJ2_getChars_46870_9 : decode cJ2_getChars_46870 9 = .ok (.invokestatic 393, 3) := by decide +kernel
theorem dJ2_getChars_46870_12 : decode cJ2_getChars_46870 12 = .ok (.istore 4, 2) := by decide +kernel
theorem dJ2_getChars_46870_14 : decode cJ2_getChars_46870 14 = .ok (.getstatic 44, 3) := by decide +kernel
theorem dJ2_getChars_46870_17 : decode cJ2_getChars_46870 17 = .ok (.ifCond .ne 17, 3) := by decide +kernel
theorem dJ2_getChars_46870_20 : decode cJ2_getChars_46870 20 = .ok (.iload_n 1, 1) := by decide +kernel
theorem dJ2_getChars_46870_21 : decode cJ2_getChars_46870 21 = .ok (.iload 4, 2) := by decide +kernel
theorem dJ2_getChars_46870_23 : decode cJ2_getChars_46870 23 = .ok (.if_icmp .eq 11, 3) := by decide +kernel
theorem dJ2_getChars_46870_26 : decode cJ2_getChars_46870 26 = .ok (.new 52, 3) := by decide +kernel
theorem dJ2_getChars_46870_29 : decode cJ2_getChars_46870 29 = .ok (.dup, 1) := by decide +kernel
theorem dJ2_getChars_46870_30 : decode cJ2_getChars_46870 30 = .ok (.invokespecial 66, 3) := by decide +kernel
theorem dJ2_getChars_46870_33 : decode cJ2_getChars_46870 33 = .ok (.athrow, 1) := by decide +kernel
theorem dJ2_getChars_46870_34 : decode cJ2_getChars_46870 34 = .ok (.iload 4, 2) := by decide +kernel
theorem dJ2_getChars_46870_36 : decode cJ2_getChars_46870 36 = .ok (.ireturn, 1) := by decide +kernel
theorem dJ2_putCharsAt_cd4e5_0 : decode cJ2_putCharsAt_cd4e5 0 = .ok (.iload_n 1, 1) := by decide +kernel
theorem dJ2_putCharsAt_cd4e5_1 : decode cJ2_putCharsAt_cd4e5 1 = .ok (.iconst 4, 1) := by decide +kernel
theorem dJ2_putCharsAt_cd4e5_2 : decode cJ2_putCharsAt_cd4e5 2 = .ok (.iadd, 1) := by decide +kernel
theorem dJ2_putCharsAt_cd4e5_3 : decode cJ2_putCharsAt_cd4e5 3 = .ok (.istore 6, 2) := by decide +kernel
theorem dJ2_putCharsAt_cd4e5_5 : decode cJ2_putCharsAt_cd4e5 5 = .ok (.iload_n 1, 1) := by decide +kernel
theorem dJ2_putCharsAt_cd4e5_6 : decode cJ2_putCharsAt_cd4e5 6 = .ok (.iload 6, 2) := by decide +kernel
theorem dJ2_putCharsAt_cd4e5_8 : decode cJ2_putCharsAt_cd4e5 8 = .ok (.aload_n 0, 1) := by decide +kernel
theorem dJ2_putCharsAt_cd4e5_9 : decode cJ2_putCharsAt_cd4e5 9 = .ok (.invokestatic 96, 3) := by decide +kernel
theorem dJ2_putCharsAt_cd4e5_12 : decode cJ2_putCharsAt_cd4e5 12 = .ok (.aload_n 0, 1) := by decide +kernel
theorem dJ2_putCharsAt_cd4e5_13 : decode cJ2_putCharsAt_cd4e5 13 = .ok (.iload_n 1, 1) := by decide +kernel
theorem dJ2_putCharsAt_cd4e5_14 : decode cJ2_putCharsAt_cd4e5 14 = .ok (.iinc 1 1, 3) := by decide +kernel
theorem dJ2_putCharsAt_cd4e5_17 : decode cJ2_putCharsAt_cd4e5 17 = .ok (.iload_n 2, 1) := by decide +kernel
theorem dJ2_putCharsAt_cd4e5_18 : decode cJ2_putCharsAt_cd4e5 18 = .ok (.invokestatic 111, 3) := by decide +kernel
theorem dJ2_putCharsAt_cd4e5_21 : decode cJ2_putCharsAt_cd4e5 21 = .ok (.aload_n 0, 1) := by decide +kernel
theorem dJ2_putCharsAt_cd4e5_22 : decode cJ2_putCharsAt_cd4e5 22 = .ok (.iload_n 1, 1) := by decide +kernel
theorem dJ2_putCharsAt_cd4e5_23 : decode cJ2_putCharsAt_cd4e5 23 = .ok (.iinc 1 1, 3) := by decide +kernel
theorem dJ2_putCharsAt_cd4e5_26 : decode cJ2_putCharsAt_cd4e5 26 = .ok (.iload_n 3, 1) := by decide +kernel
theorem dJ2_putCharsAt_cd4e5_27 : decode cJ2_putCharsAt_cd4e5 27 = .ok (.invokestatic 111, 3) := by decide +kernel
theorem dJ2_putCharsAt_cd4e5_30 : decode cJ2_putCharsAt_cd4e5 30 = .ok (.aload_n 0, 1) := by decide +kernel
theorem dJ2_putCharsAt_cd4e5_31 : decode cJ2_putCharsAt_cd4e5 31 = .ok (.iload_n 1, 1) := by decide +kernel
theorem dJ2_putCharsAt_cd4e5_32 : decode cJ2_putCharsAt_cd4e5 32 = .ok (.iinc 1 1, 3) := by decide +kernel
theorem dJ2_putCharsAt_cd4e5_35 : decode cJ2_putCharsAt_cd4e5 35 = .ok (.iload 4, 2) := by decide +kernel
theorem dJ2_putCharsAt_cd4e5_37 : decode cJ2_putCharsAt_cd4e5 37 = .ok (.invokestatic 111, 3) := by decide +kernel
theorem dJ2_putCharsAt_cd4e5_40 : decode cJ2_putCharsAt_cd4e5 40 = .ok (.aload_n 0, 1) := by decide +kernel
theorem dJ2_putCharsAt_cd4e5_41 : decode cJ2_putCharsAt_cd4e5 41 = .ok (.iload_n 1, 1) := by decide +kernel
theorem dJ2_putCharsAt_cd4e5_42 : decode cJ2_putCharsAt_cd4e5 42 = .ok (.iinc 1 1, 3) := by decide +kernel
theorem dJ2_putCharsAt_cd4e5_45 : decode cJ2_putCharsAt_cd4e5 45 = .ok (.iload 5, 2) := by decide +kernel
theorem dJ2_putCharsAt_cd4e5_47 : decode cJ2_putCharsAt_cd4e5 47 = .ok (.invokestatic 111, 3) := by decide +kernel
theorem dJ2_putCharsAt_cd4e5_50 : decode cJ2_putCharsAt_cd4e5 50 = .ok (.getstatic 44, 3) := by decide +kernel
theorem dJ2_putCharsAt_cd4e5_53 : decode cJ2_putCharsAt_cd4e5 53 = .ok (.ifCond .ne 17, 3) := by decide +kernel
theorem dJ2_putCharsAt_cd4e5_56 : decode cJ2_putCharsAt_cd4e5 56 = .ok (.iload_n 1, 1) := by decide +kernel
theorem dJ2_putCharsAt_cd4e5_57 : decode cJ2_putCharsAt_cd4e5 57 = .ok (.iload 6, 2) := by decide +kernel
theorem dJ2_putCharsAt_cd4e5_59 : decode cJ2_putCharsAt_cd4e5 59 = .ok (.if_icmp .eq 11, 3) := by decide +kernel
theorem dJ2_putCharsAt_cd4e5_62 : decode cJ2_putCharsAt_cd4e5 62 = .ok (.new 52, 3) := by decide +kernel
theorem dJ2_putCharsAt_cd4e5_65 : decode cJ2_putCharsAt_cd4e5 65 = .ok (.dup, 1) := by decide +kernel
theorem dJ2_putCharsAt_cd4e5_66 : decode cJ2_putCharsAt_cd4e5 66 = .ok (.invokespecial 66, 3) := by decide +kernel
theorem dJ2_putCharsAt_cd4e5_69 : decode cJ2_putCharsAt_cd4e5 69 = .ok (.athrow, 1) := by decide +kernel
theorem dJ2_putCharsAt_cd4e5_70 : decode cJ2_putCharsAt_cd4e5 70 = .ok (.iload 6, 2) := by decide +kernel
theorem dJ2_putCharsAt_cd4e5_72 : decode cJ2_putCharsAt_cd4e5 72 = .ok (.ireturn, 1) := by decide +kernel
theorem dJ2_charAt_3b067_0 : decode cJ2_charAt_3b067 0 = .ok (.iload_n 1, 1) := by decide +kernel
theorem dJ2_charAt_3b067_1 : decode cJ2_charAt_3b067 1 = .ok (.aload_n 0, 1) := by decide +kernel
theorem dJ2_charAt_3b067_2 : decode cJ2_charAt_3b067 2 = .ok (.invokestatic 67, 3) := by decide +kernel
theorem dJ2_charAt_3b067_5 : decode cJ2_charAt_3b067 5 = .ok (.aload_n 0, 1) := by decide +kernel
theorem dJ2_charAt_3b067_6 : decode cJ2_charAt_3b067 6 = .ok (.iload_n 1, 1) := by decide +kernel
theorem dJ2_charAt_3b067_7 : decode cJ2_charAt_3b067 7 = .ok (.invokestatic 71, 3) := by decide +kernel
theorem dJ2_charAt_3b067_10 : decode cJ2_charAt_3b067 10 = .ok (.ireturn, 1) := by decide +kernel
theorem dJ2_inflate_0e8fd_0 : decode cJ2_inflate_0e8fd 0 = .ok (.iload_n 3, 1) := by decide +kernel
theorem dJ2_inflate_0e8fd_1 : decode cJ2_inflate_0e8fd 1 = .ok (.iload 4, 2) := by decide +kernel
theorem dJ2_inflate_0e8fd_3 : decode cJ2_inflate_0e8fd 3 = .ok (.aload_n 2, 1) := by decide +kernel
theorem dJ2_inflate_0e8fd_4 : decode cJ2_inflate_0e8fd 4 = .ok (.invokestatic 173, 3) := by decide +kernel
theorem dJ2_inflate_0e8fd_7 : decode cJ2_inflate_0e8fd 7 = .ok (.iconst 0, 1) := by decide +kernel
theorem dJ2_inflate_0e8fd_8 : decode cJ2_inflate_0e8fd 8 = .ok (.istore 5, 2) := by decide +kernel
theorem dJ2_inflate_0e8fd_10 : decode cJ2_inflate_0e8fd 10 = .ok (.iload 5, 2) := by decide +kernel
theorem dJ2_inflate_0e8fd_12 : decode cJ2_inflate_0e8fd 12 = .ok (.iload 4, 2) := by decide +kernel
theorem dJ2_inflate_0e8fd_14 : decode cJ2_inflate_0e8fd 14 = .ok (.if_icmp .ge 27, 3) := by decide +kernel
theorem dJ2_inflate_0e8fd_17 : decode cJ2_inflate_0e8fd 17 = .ok (.aload_n 2, 1) := by decide +kernel
theorem dJ2_inflate_0e8fd_18 : decode cJ2_inflate_0e8fd 18 = .ok (.iload_n 3, 1) := by decide +kernel
theorem dJ2_inflate_0e8fd_19 : decode cJ2_inflate_0e8fd 19 = .ok (.iinc 3 1, 3) := by decide +kernel
theorem dJ2_inflate_0e8fd_22 : decode cJ2_inflate_0e8fd 22 = .ok (.aload_n 0, 1) := by decide +kernel
theorem dJ2_inflate_0e8fd_23 : decode cJ2_inflate_0e8fd 23 = .ok (.iload_n 1, 1) := by decide +kernel
theorem dJ2_inflate_0e8fd_24 : decode cJ2_inflate_0e8fd 24 = .ok (.iinc 1 1, 3) := by decide +kernel
theorem dJ2_inflate_0e8fd_27 : decode cJ2_inflate_0e8fd 27 = .ok (.baload, 1) := by decide +kernel
theorem dJ2_inflate_0e8fd_28 : decode cJ2_inflate_0e8fd 28 = .ok (.sipush 255, 3) := by decide +kernel
theorem dJ2_inflate_0e8fd_31 : decode cJ2_inflate_0e8fd 31 = .ok (.iand, 1) := by decide +kernel
theorem dJ2_inflate_0e8fd_32 : decode cJ2_inflate_0e8fd 32 = .ok (.invokestatic 111, 3) := by decide +kernel
theorem dJ2_inflate_0e8fd_35 : decode cJ2_inflate_0e8fd 35 = .ok (.iinc 5 1, 3) := by decide +kernel
theorem dJ2_inflate_0e8fd_38 : decode cJ2_inflate_0e8fd 38 = .ok (.goto (-28), 3) := by decide +kernel
theorem dJ2_inflate_0e8fd_41 : decode cJ2_inflate_0e8fd 41 = .ok (.return_, 1) := by decide +kernel
theorem dJ2_getChars_ba4f3_0 : decode cJ2_getChars_ba4f3 0 = .ok (.iload_n 1, 1) := by decide +kernel
theorem dJ2_getChars_ba4f3_1 : decode cJ2_getChars_ba4f3 1 = .ok (.istore 5, 2) := by decide +kernel
theorem dJ2_getChars_ba4f3_3 : decode cJ2_getChars_ba4f3 3 = .ok (.iload_n 0, 1) := by decide +kernel
theorem dJ2_getChars_ba4f3_4 : decode cJ2_getChars_ba4f3 4 = .ok (.ifCond .ge 7, 3) := by decide +kernel
theorem dJ2_getChars_ba4f3_7 : decode cJ2_getChars_ba4f3 7 = .ok (.iconst 1, 1) := by decide +kernel
theorem dJ2_getChars_ba4f3_8 : decode cJ2_getChars_ba4f3 8 = .ok (.goto 4, 3) := by decide +kernel
theorem dJ2_getChars_ba4f3_11 : decode cJ2_getChars_ba4f3 11 = .ok (.iconst 0, 1) := by decide +kernel
theorem dJ2_getChars_ba4f3_12 : decode cJ2_getChars_ba4f3 12 = .ok (.istore 6, 2) := by decide +kernel
theorem dJ2_getChars_ba4f3_14 : decode cJ2_getChars_ba4f3 14 = .ok (.iload 6, 2) := by decide +kernel
theorem dJ2_getChars_ba4f3_16 : decode cJ2_getChars_ba4f3 16 = .ok (.ifCond .ne 6, 3) := by decide +kernel
theorem dJ2_getChars_ba4f3_19 : decode cJ2_getChars_ba4f3 19 = .ok (.iload_n 0, 1) := by decide +kernel
theorem dJ2_getChars_ba4f3_20 : decode cJ2_getChars_ba4f3 20 = .ok (.ineg, 1) := by decide +kernel
theorem dJ2_getChars_ba4f3_21 : decode cJ2_getChars_ba4f3 21 = .ok (.istore_n 0, 1) := by decide +kernel
theorem dJ2_getChars_ba4f3_22 : decode cJ2_getChars_ba4f3 22 = .ok (.iload_n 0, 1) := by decide +kernel
theorem dJ2_getChars_ba4f3_23 : decode cJ2_getChars_ba4f3 23 = .ok (.bipush (-100), 2) := by decide +kernel
theorem dJ2_getChars_ba4f3_25 : decode cJ2_getChars_ba4f3 25 = .ok (.if_icmp .gt 51, 3) := by decide +kernel
theorem dJ2_getChars_ba4f3_28 : decode cJ2_getChars_ba4f3 28 = .ok (.iload_n 0, 1) := by decide +kernel
theorem dJ2_getChars_ba4f3_29 : decode cJ2_getChars_ba4f3 29 = .ok (.bipush 100, 2) := by decide +kernel
theorem dJ2_getChars_ba4f3_31 : decode cJ2_getChars_ba4f3 31 = .ok (.idiv, 1) := by decide +kernel
theorem dJ2_getChars_ba4f3_32 : decode cJ2_getChars_ba4f3 32 = .ok (.istore_n 3, 1) := by decide +kernel
theorem dJ2_getChars_ba4f3_33 : decode cJ2_getChars_ba4f3 33 = .ok (.iload_n 3, 1) := by decide +kernel
theorem dJ2_getChars_ba4f3_34 : decode cJ2_getChars_ba4f3 34 = .ok (.bipush 100, 2) := by decide +kernel
theorem dJ2_getChars_ba4f3_36 : decode cJ2_getChars_ba4f3 36 = .ok (.imul, 1) := by decide +kernel
theorem dJ2_getChars_ba4f3_37 : decode cJ2_getChars_ba4f3 37 = .ok (.iload_n 0, 1) := by decide +kernel
theorem dJ2_getChars_ba4f3_38 : decode cJ2_getChars_ba4f3 38 = .ok (.isub, 1) := by decide +kernel
theorem dJ2_getChars_ba4f3_39 : decode cJ2_getChars_ba4f3 39 = .ok (.istore 4, 2) := by decide +kernel
theorem dJ2_getChars_ba4f3_41 : decode cJ2_getChars_ba4f3 41 = .ok (.iload_n 3, 1) := by decide +kernel
theorem dJ2_getChars_ba4f3_42 : decode cJ2_getChars_ba4f3 42 = .ok (.istore_n 0, 1) := by decide +kernel
theorem dJ2_getChars_ba4f3_43 : decode cJ2_getChars_ba4f3 43 = .ok (.aload_n 2, 1) := by decide +kernel
theorem dJ2_getChars_ba4f3_44 : decode cJ2_getChars_ba4f3 44 = .ok (.iinc 5 (-1), 3) := by decide +kernel
theorem dJ2_getChars_ba4f3_47 : decode cJ2_getChars_ba4f3 47 = .ok (.iload 5, 2) := by decide +kernel
theorem dJ2_getChars_ba4f3_49 : decode cJ2_getChars_ba4f3 49 = .ok (.getstatic 403, 3) := by decide +kernel
theorem dJ2_getChars_ba4f3_52 : decode cJ2_getChars_ba4f3 52 = .ok (.iload 4, 2) := by decide +kernel
theorem dJ2_getChars_ba4f3_54 : decode cJ2_getChars_ba4f3 54 = .ok (.baload, 1) := by decide +kernel
theorem dJ2_getChars_ba4f3_55 : decode cJ2_getChars_ba4f3 55 = .ok (.invokestatic 111, 3) := by decide +kernel
theorem dJ2_getChars_ba4f3_58 : decode cJ2_getChars_ba4f3 58 = .ok (.aload_n 2, 1) := by decide +kernel
theorem dJ2_getChars_ba4f3_59 : decode cJ2_getChars_ba4f3 59 = .ok (.iinc 5 (-1), 3) := by decide +kernel
theorem dJ2_getChars_ba4f3_62 : decode cJ2_getChars_ba4f3 62 = .ok (.iload 5, 2) := by decide +kernel
theorem dJ2_getChars_ba4f3_64 : decode cJ2_getChars_ba4f3 64 = .ok (.getstatic 407, 3) := by decide +kernel
theorem dJ2_getChars_ba4f3_67 : decode cJ2_getChars_ba4f3 67 = .ok (.iload 4, 2) := by decide +kernel
theorem dJ2_getChars_ba4f3_69 : decode cJ2_getChars_ba4f3 69 = .ok (.baload, 1) := by decide +kernel
theorem dJ2_getChars_ba4f3_70 : decode cJ2_getChars_ba4f3 70 = .ok (.invokestatic 111, 3) := by decide +kernel
theorem dJ2_getChars_ba4f3_73 : decode cJ2_getChars_ba4f3 73 = .ok (.goto (-51), 3) := by decide +kernel
theorem dJ2_getChars_ba4f3_76 : decode cJ2_getChars_ba4f3 76 = .ok (.aload_n 2, 1) := by decide +kernel
theorem dJ2_getChars_ba4f3_77 : decode cJ2_getChars_ba4f3 77 = .ok (.iinc 5 (-1), 3) := by decide +kernel
theorem dJ2_getChars_ba4f3_80 : decode cJ2_getChars_ba4f3 80 = .ok (.iload 5, 2) := by decide +kernel
theorem dJ2_getChars_ba4f3_82 : decode cJ2_getChars_ba4f3 82 = .ok (.getstatic 403, 3) := by decide +kernel
theorem dJ2_getChars_ba4f3_85 : decode cJ2_getChars_ba4f3 85 = .ok (.iload_n 0, 1) := by decide +kernel
theorem dJ2_getChars_ba4f3_86 : decode cJ2_getChars_ba4f3 86 = .ok (.ineg, 1) := by decide +kernel
theorem dJ2_getChars_ba4f3_87 : decode cJ2_getChars_ba4f3 87 = .ok (.baload, 1) := by decide +kernel
theorem dJ2_getChars_ba4f3_88 : decode cJ2_getChars_ba4f3 88 = .ok (.invokestatic 111, 3) := by decide +kernel
theorem dJ2_getChars_ba4f3_91 : decode cJ2_getChars_ba4f3 91 = .ok (.iload_n 0, 1) := by decide +kernel
theorem dJ2_getChars_ba4f3_92 : decode cJ2_getChars_ba4f3 92 = .ok (.bipush (-9), 2) := by decide +kernel
theorem dJ2_getChars_ba4f3_94 : decode cJ2_getChars_ba4f3 94 = .ok (.if_icmp .ge 18, 3) := by decide +kernel
theorem dJ2_getChars_ba4f3_97 : decode cJ2_getChars_ba4f3 97 = .ok (.aload_n 2, 1) := by decide +kernel
theorem dJ2_getChars_ba4f3_98 : decode cJ2_getChars_ba4f3 98 = .ok (.iinc 5 (-1), 3) := by decide +kernel
theorem dJ2_getChars_ba4f3_101 : decode cJ2_getChars_ba4f3 101 = .ok (.iload 5, 2) := by decide +kernel
theorem dJ2_getChars_ba4f3_103 : decode cJ2_getChars_ba4f3 103 = .ok (.getstatic 407, 3) := by decide +kernel
theorem dJ2_getChars_ba4f3_106 : decode cJ2_getChars_ba4f3 106 = .ok (.iload_n 0, 1) := by decide +kernel
theorem dJ2_getChars_ba4f3_107 : decode cJ2_getChars_ba4f3 107 = .ok (.ineg, 1) := by decide +kernel
theorem dJ2_getChars_ba4f3_108 : decode cJ2_getChars_ba4f3 108 = .ok (.baload, 1) := by decide +kernel
theorem dJ2_getChars_ba4f3_109 : decode cJ2_getChars_ba4f3 109 = .ok (.invokestatic 111, 3) := by decide +kernel
theorem dJ2_getChars_ba4f3_112 : decode cJ2_getChars_ba4f3 112 = .ok (.iload 6, 2) := by decide +kernel
theorem dJ2_getChars_ba4f3_114 : decode cJ2_getChars_ba4f3 114 = .ok (.ifCond .eq 14, 3) := by decide +kernel
theorem dJ2_getChars_ba4f3_117 : decode cJ2_getChars_ba4f3 117 = .ok (.aload_n 2, 1) := by decide +kernel
theorem dJ2_getChars_ba4f3_118 : decode cJ2_getChars_ba4f3 118 = .ok (.iinc 5 (-1), 3) := by decide +kernel
theorem dJ2_getChars_ba4f3_121 : decode cJ2_getChars_ba4f3 121 = .ok (.iload 5, 2) := by decide +kernel
theorem dJ2_getChars_ba4f3_123 : decode cJ2_getChars_ba4f3 123 = .ok (.bipush 45, 2) := by decide +kernel
theorem dJ2_getChars_ba4f3_125 : decode cJ2_getChars_ba4f3 125 = .ok (.invokestatic 111, 3) := by decide +kernel
theorem dJ2_getChars_ba4f3_128 : decode cJ2_getChars_ba4f3 128 = .ok (.iload 5, 2) := by decide +kernel
theorem dJ2_getChars_ba4f3_130 : decode cJ2_getChars_ba4f3 130 = .ok (.ireturn, 1) := by decide +kernel
theorem dJ2_checkIndex_2214a_0 : decode cJ2_checkIndex_2214a 0 = .ok (.iload_n 0, 1) := by decide +kernel
theorem dJ2_checkIndex_2214a_1 : decode cJ2_checkIndex_2214a 1 = .ok (.aload_n 1, 1) := by decide +kernel
theorem dJ2_checkIndex_2214a_2 : decode cJ2_checkIndex_2214a 2 = .ok (.invokestatic 48, 3) := by decide +kernel
theorem dJ2_checkIndex_2214a_5 : decode cJ2_checkIndex_2214a 5 = .ok (.invokestatic 414, 3) := by decide +kernel
theorem dJ2_checkIndex_2214a_8 : decode cJ2_checkIndex_2214a 8 = .ok (.return_, 1) := by decide +kernel
theorem dJ2_checkBoundsBeginEnd_d044e_0 : decode cJ2_checkBoundsBeginEnd_d044e 0 = .ok (.iload_n 0, 1) := by decide +kernel
theorem dJ2_checkBoundsBeginEnd_d044e_1 : decode cJ2_checkBoundsBeginEnd_d044e 1 = .ok (.iload_n 1, 1) := by decide +kernel
theorem dJ2_checkBoundsBeginEnd_d044e_2 : decode cJ2_checkBoundsBeginEnd_d044e 2 = .ok (.aload_n 2, 1) := by decide +kernel
theorem dJ2_checkBoundsBeginEnd_d044e_3 : decode cJ2_checkBoundsBeginEnd_d044e 3 = .ok (.invokestatic 48, 3) := by decide +kernel
theorem dJ2_checkBoundsBeginEnd_d044e_6 : decode cJ2_checkBoundsBeginEnd_d044e 6 = .ok (.invokestatic 241, 3) := by decide +kernel
theorem dJ2_checkBoundsBeginEnd_d044e_9 : decode cJ2_checkBoundsBeginEnd_d044e 9 = .ok (.return_, 1) := by decide +kernel
theorem dJ2_checkBoundsOffCount_d044e_0 : decode cJ2_checkBoundsOffCount_d044e 0 = .ok (.iload_n 0, 1) := by decide +kernel
theorem dJ2_checkBoundsOffCount_d044e_1 : decode cJ2_checkBoundsOffCount_d044e 1 = .ok (.iload_n 1, 1) := by decide +kernel
theorem dJ2_checkBoundsOffCount_d044e_2 : decode cJ2_checkBoundsOffCount_d044e 2 = .ok (.aload_n 2, 1) := by decide +kernel
theorem dJ2_checkBoundsOffCount_d044e_3 : decode cJ2_checkBoundsOffCount_d044e 3 = .ok (.invokestatic 48, 3) := by decide +kernel
theorem dJ2_checkBoundsOffCount_d044e_6 : decode cJ2_checkBoundsOffCount_d044e 6 = .ok (.invokestatic 419, 3) := by decide +kernel
theorem dJ2_checkBoundsOffCount_d044e_9 : decode cJ2_checkBoundsOffCount_d044e 9 = .ok (.pop, 1) := by decide +kernel
theorem dJ2_checkBoundsOffCount_d044e_10 : decode cJ2_checkBoundsOffCount_d044e 10 = .ok (.return_, 1) := by decide +kernel
theorem dJ7_copyOf_9075b_0 : decode cJ7_copyOf_9075b 0 = .ok (.iload_n 1, 1) := by decide +kernel
theorem dJ7_copyOf_9075b_1 : decode cJ7_copyOf_9075b 1 = .ok (.aload_n 0, 1) := by decide +kernel
theorem dJ7_copyOf_9075b_2 : decode cJ7_copyOf_9075b 2 = .ok (.arraylength, 1) := by decide +kernel
theorem dJ7_copyOf_9075b_3 : decode cJ7_copyOf_9075b 3 = .ok (.if_icmp .ne 11, 3) := by decide +kernel
theorem dJ7_copyOf_9075b_6 : decode cJ7_copyOf_9075b 6 = .ok (.aload_n 0, 1) := by decide +kernel
theorem dJ7_copyOf_9075b_7 : decode cJ7_copyOf_9075b 7 = .ok (.invokevirtual 310, 3) := by decide +kernel
theorem dJ7_copyOf_9075b_10 : decode cJ7_copyOf_9075b 10 = .ok (.checkcast 311, 3) := by decide +kernel
theorem dJ7_copyOf_9075b_13 : decode cJ7_copyOf_9075b 13 = .ok (.areturn, 1) := by decide +kernel
theorem dJ7_copyOf_9075b_14 : decode cJ7_copyOf_9075b 14 = .ok (.iload_n 1, 1) := by decide +kernel
theorem dJ7_copyOf_9075b_15 : decode cJ7_copyOf_9075b 15 = .ok (.newarray .byte, 2) := by decide +kernel
theorem dJ7_copyOf_9075b_17 : decode cJ7_copyOf_9075b 17 = .ok (.astore_n 2, 1) := by decide +kernel
theorem dJ7_copyOf_9075b_18 : decode cJ7_copyOf_9075b 18 = .ok (.aload_n 0, 1) := by decide +kernel
theorem dJ7_copyOf_9075b_19 : decode cJ7_copyOf_9075b 19 = .ok (.iconst 0, 1) := by decide +kernel
theorem dJ7_copyOf_9075b_20 : decode cJ7_copyOf_9075b 20 = .ok (.aload_n 2, 1) := by decide +kernel
theorem dJ7_copyOf_9075b_21 : decode cJ7_copyOf_9075b 21 = .ok (.iconst 0, 1) := by decide +kernel
theorem dJ7_copyOf_9075b_22 : decode cJ7_copyOf_9075b 22 = .ok (.aload_n 0, 1) := by decide +kernel
theorem dJ7_copyOf_9075b_23 : decode cJ7_copyOf_9075b 23 = .ok (.arraylength, 1) := by decide +kernel
theorem dJ7_copyOf_9075b_24 : decode cJ7_copyOf_9075b 24 = .ok (.iload_n 1, 1) := by decide +kernel
theorem dJ7_copyOf_9075b_25 : decode cJ7_copyOf_9075b 25 = .ok (.invokestatic 304, 3) := by decide +kernel
theorem dJ7_copyOf_9075b_28 : decode cJ7_copyOf_9075b 28 = .ok (.invokestatic 150, 3) := by decide +kernel
theorem dJ7_copyOf_9075b_31 : decode cJ7_copyOf_9075b 31 = .ok (.aload_n 2, 1) := by decide +kernel
theorem dJ7_copyOf_9075b_32 : decode cJ7_copyOf_9075b 32 = .ok (.areturn, 1) := by decide +kernel
theorem dJ7_checkLength_df160_0 : decode cJ7_checkLength_df160 0 = .ok (.iload_n 1, 1) := by decide +kernel
theorem dJ7_checkLength_df160_1 : decode cJ7_checkLength_df160 1 = .ok (.iload_n 0, 1) := by decide +kernel
theorem dJ7_checkLength_df160_2 : decode cJ7_checkLength_df160 2 = .ok (.if_icmp .ge 35, 3) := by decide +kernel
theorem dJ7_checkLength_df160_5 : decode cJ7_checkLength_df160 5 = .ok (.new 43, 3) := by decide +kernel
theorem dJ7_checkLength_df160_8 : decode cJ7_checkLength_df160 8 = .ok (.dup, 1) := by decide +kernel
theorem dJ7_checkLength_df160_9 : decode cJ7_checkLength_df160 9 = .ok (.new 45, 3) := by decide +kernel
theorem dJ7_checkLength_df160_12 : decode cJ7_checkLength_df160 12 = .ok (.dup, 1) := by decide +kernel
theorem dJ7_checkLength_df160_13 : decode cJ7_checkLength_df160 13 = .ok (.invokespecial 47, 3) := by decide +kernel
theorem dJ7_checkLength_df160_16 : decode cJ7_checkLength_df160 16 = .ok (.iload_n 0, 1) := by decide +kernel
theorem dJ7_checkLength_df160_17 : decode cJ7_checkLength_df160 17 = .ok (.invokevirtual 54, 3) := by decide +kernel
theorem dJ7_checkLength_df160_20 : decode cJ7_checkLength_df160 20 = .ok (.ldc_w 337, 3) := by decide +kernel
theorem dJ7_checkLength_df160_23 : decode cJ7_checkLength_df160 23 = .ok (.invokevirtual 50, 3) := by decide +kernel
theorem dJ7_checkLength_df160_26 : decode cJ7_checkLength_df160 26 = .ok (.iload_n 1, 1) := by decide +kernel
theorem dJ7_checkLength_df160_27 : decode cJ7_checkLength_df160 27 = .ok (.invokevirtual 54, 3) := by decide +kernel
theorem dJ7_checkLength_df160_30 : decode cJ7_checkLength_df160 30 = .ok (.invokevirtual 61, 3) := by decide +kernel
theorem dJ7_checkLength_df160_33 : decode cJ7_checkLength_df160 33 = .ok (.invokespecial 65, 3) := by decide +kernel
theorem dJ7_checkLength_df160_36 : decode cJ7_checkLength_df160 36 = .ok (.athrow, 1) := by decide +kernel
theorem dJ7_checkLength_df160_37 : decode cJ7_checkLength_df160 37 = .ok (.return_, 1) := by decide +kernel
theorem dJ7_copyOfRange_39247_0 : decode cJ7_copyOfRange_39247 0 = .ok (.iload_n 1, 1) := by decide +kernel
theorem dJ7_copyOfRange_39247_1 : decode cJ7_copyOfRange_39247 1 = .ok (.ifCond .ne 9, 3) := by decide +kernel
theorem dJ7_copyOfRange_39247_4 : decode cJ7_copyOfRange_39247 4 = .ok (.iload_n 2, 1) := by decide +kernel
theorem dJ7_copyOfRange_39247_5 : decode cJ7_copyOfRange_39247 5 = .ok (.aload_n 0, 1) := by decide +kernel
theorem dJ7_copyOfRange_39247_6 : decode cJ7_copyOfRange_39247 6 = .ok (.arraylength, 1) := by decide +kernel
theorem dJ7_copyOfRange_39247_7 : decode cJ7_copyOfRange_39247 7 = .ok (.if_icmp .eq 10, 3) := by decide +kernel
theorem dJ7_copyOfRange_39247_10 : decode cJ7_copyOfRange_39247 10 = .ok (.aload_n 0, 1) := by decide +kernel
theorem dJ7_copyOfRange_39247_11 : decode cJ7_copyOfRange_39247 11 = .ok (.iload_n 1, 1) := by decide +kernel
theorem dJ7_copyOfRange_39247_12 : decode cJ7_copyOfRange_39247 12 = .ok (.iload_n 2, 1) := by decide +kernel
theorem dJ7_copyOfRange_39247_13 : decode cJ7_copyOfRange_39247 13 = .ok (.invokestatic 339, 3) := by decide +kernel
theorem dJ7_copyOfRange_39247_16 : decode cJ7_copyOfRange_39247 16 = .ok (.areturn, 1) := by decide +kernel
theorem dJ7_copyOfRange_39247_17 : decode cJ7_copyOfRange_39247 17 = .ok (.aload_n 0, 1) := by decide +kernel
theorem dJ7_copyOfRange_39247_18 : decode cJ7_copyOfRange_39247 18 = .ok (.invokevirtual 310, 3) := by decide +kernel
theorem dJ7_copyOfRange_39247_21 : decode cJ7_copyOfRange_39247 21 = .ok (.checkcast 311, 3) := by decide +kernel
theorem dJ7_copyOfRange_39247_24 : decode cJ7_copyOfRange_39247 24 = .ok (.areturn, 1) := by decide +kernel
theorem dJ7_copyOfRangeByte_39247_0 : decode cJ7_copyOfRangeByte_39247 0 = .ok (.iload_n 1, 1) := by decide +kernel
theorem dJ7_copyOfRangeByte_39247_1 : decode cJ7_copyOfRangeByte_39247 1 = .ok (.iload_n 2, 1) := by decide +kernel
theorem dJ7_copyOfRangeByte_39247_2 : decode cJ7_copyOfRangeByte_39247 2 = .ok (.invokestatic 343, 3) := by decide +kernel
theorem dJ7_copyOfRangeByte_39247_5 : decode cJ7_copyOfRangeByte_39247 5 = .ok (.iload_n 2, 1) := by decide +kernel
theorem dJ7_copyOfRangeByte_39247_6 : decode cJ7_copyOfRangeByte_39247 6 = .ok (.iload_n 1, 1) := by decide +kernel
theorem dJ7_copyOfRangeByte_39247_7 : decode cJ7_copyOfRangeByte_39247 7 = .ok (.isub, 1) := by decide +kernel
theorem dJ7_copyOfRangeByte_39247_8 : decode cJ7_copyOfRangeByte_39247 8 = .ok (.istore_n 3, 1) := by decide +kernel
theorem dJ7_copyOfRangeByte_39247_9 : decode cJ7_copyOfRangeByte_39247 9 = .ok (.iload_n 3, 1) := by decide +kernel
theorem dJ7_copyOfRangeByte_39247_10 : decode cJ7_copyOfRangeByte_39247 10 = .ok (.newarray .byte, 2) := by decide +kernel
theorem dJ7_copyOfRangeByte_39247_12 : decode cJ7_copyOfRangeByte_39247 12 = .ok (.astore 4, 2) := by decide +kernel
theorem dJ7_copyOfRangeByte_39247_14 : decode cJ7_copyOfRangeByte_39247 14 = .ok (.aload_n 0, 1) := by decide +kernel
theorem dJ7_copyOfRangeByte_39247_15 : decode cJ7_copyOfRangeByte_39247 15 = .ok (.iload_n 1, 1) := by decide +kernel
theorem dJ7_copyOfRangeByte_39247_16 : decode cJ7_copyOfRangeByte_39247 16 = .ok (.aload 4, 2) := by decide +kernel
theorem dJ7_copyOfRangeByte_39247_18 : decode cJ7_copyOfRangeByte_39247 18 = .ok (.iconst 0, 1) := by decide +kernel
theorem dJ7_copyOfRangeByte_39247_19 : decode cJ7_copyOfRangeByte_39247 19 = .ok (.aload_n 0, 1) := by decide +kernel
theorem dJ7_copyOfRangeByte_39247_20 : decode cJ7_copyOfRangeByte_39247 20 = .ok (.arraylength, 1) := by decide +kernel
theorem dJ7_copyOfRangeByte_39247_21 : decode cJ7_copyOfRangeByte_39247 21 = .ok (.iload_n 1, 1) := by decide +kernel
theorem dJ7_copyOfRangeByte_39247_22 : decode cJ7_copyOfRangeByte_39247 22 = .ok (.isub, 1) := by decide +kernel
theorem dJ7_copyOfRangeByte_39247_23 : decode cJ7_copyOfRangeByte_39247 23 = .ok (.iload_n 3, 1) := by decide +kernel
theorem dJ7_copyOfRangeByte_39247_24 : decode cJ7_copyOfRangeByte_39247 24 = .ok (.invokestatic 304, 3) := by decide +kernel
theorem dJ7_copyOfRangeByte_39247_27 : decode cJ7_copyOfRangeByte_39247 27 = .ok (.invokestatic 150, 3) := by decide +kernel
theorem dJ7_copyOfRangeByte_39247_30 : decode cJ7_copyOfRangeByte_39247 30 = .ok (.aload 4, 2) := by decide +kernel
theorem dJ7_copyOfRangeByte_39247_32 : decode cJ7_copyOfRangeByte_39247 32 = .ok (.areturn, 1) := by decide +kernel
theorem dJ8_newLength_cabcc_0 : decode cJ8_newLength_cabcc 0 = .ok (.iload_n 0, 1) := by decide +kernel
theorem dJ8_newLength_cabcc_1 : decode cJ8_newLength_cabcc 1 = .ok (.iload_n 1, 1) := by decide +kernel
theorem dJ8_newLength_cabcc_2 : decode cJ8_newLength_cabcc 2 = .ok (.iload_n 2, 1) := by decide +kernel
theorem dJ8_newLength_cabcc_3 : decode cJ8_newLength_cabcc 3 = .ok (.invokestatic 194, 3) := by decide +kernel
theorem dJ8_newLength_cabcc_6 : decode cJ8_newLength_cabcc 6 = .ok (.iadd, 1) := by decide +kernel
theorem dJ8_newLength_cabcc_7 : decode cJ8_newLength_cabcc 7 = .ok (.istore_n 3, 1) := by decide +kernel
theorem dJ8_newLength_cabcc_8 : decode cJ8_newLength_cabcc 8 = .ok (.iconst 0, 1) := by decide +kernel
theorem dJ8_newLength_cabcc_9 : decode cJ8_newLength_cabcc 9 = .ok (.iload_n 3, 1) := by decide +kernel
theorem dJ8_newLength_cabcc_10 : decode cJ8_newLength_cabcc 10 = .ok (.if_icmp .ge 11, 3) := by decide +kernel
theorem dJ8_newLength_cabcc_13 : decode cJ8_newLength_cabcc 13 = .ok (.iload_n 3, 1) := by decide +kernel
theorem dJ8_newLength_cabcc_14 : decode cJ8_newLength_cabcc 14 = .ok (.ldc 200, 2) := by decide +kernel
theorem dJ8_newLength_cabcc_16 : decode cJ8_newLength_cabcc 16 = .ok (.if_icmp .gt 5, 3) := by decide +kernel
theorem dJ8_newLength_cabcc_19 : decode cJ8_newLength_cabcc 19 = .ok (.iload_n 3, 1) := by decide +kernel
theorem dJ8_newLength_cabcc_20 : decode cJ8_newLength_cabcc 20 = .ok (.ireturn, 1) := by decide +kernel
theorem dJ8_newLength_cabcc_21 : decode cJ8_newLength_cabcc 21 = .ok (.iload_n 0, 1) := by decide +kernel
theorem dJ8_newLength_cabcc_22 : decode cJ8_newLength_cabcc 22 = .ok (.iload_n 1, 1) := by decide +kernel
theorem dJ8_newLength_cabcc_23 : decode cJ8_newLength_cabcc 23 = .ok (.invokestatic 201, 3) := by decide +kernel
theorem dJ8_newLength_cabcc_26 : decode cJ8_newLength_cabcc 26 = .ok (.ireturn, 1) := by decide +kernel
theorem dJ8_hugeLength_7cf53_0 : decode cJ8_hugeLength_7cf53 0 = .ok (.iload_n 0, 1) := by decide +kernel
theorem dJ8_hugeLength_7cf53_1 : decode cJ8_hugeLength_7cf53 1 = .ok (.iload_n 1, 1) := by decide +kernel
theorem dJ8_hugeLength_7cf53_2 : decode cJ8_hugeLength_7cf53 2 = .ok (.iadd, 1) := by decide +kernel
theorem dJ8_hugeLength_7cf53_3 : decode cJ8_hugeLength_7cf53 3 = .ok (.istore_n 2, 1) := by decide +kernel
theorem dJ8_hugeLength_7cf53_4 : decode cJ8_hugeLength_7cf53 4 = .ok (.iload_n 2, 1) := by decide +kernel
theorem dJ8_hugeLength_7cf53_5 : decode cJ8_hugeLength_7cf53 5 = .ok (.ifCond .ge 44, 3) := by decide +kernel
theorem dJ8_hugeLength_7cf53_8 : decode cJ8_hugeLength_7cf53 8 = .ok (.new 204, 3) := by decide +kernel
theorem dJ8_hugeLength_7cf53_11 : decode cJ8_hugeLength_7cf53 11 = .ok (.dup, 1) := by decide +kernel
theorem dJ8_hugeLength_7cf53_12 : decode cJ8_hugeLength_7cf53 12 = .ok (.new 89, 3) := by decide +kernel
theorem dJ8_hugeLength_7cf53_15 : decode cJ8_hugeLength_7cf53 15 = .ok (.dup, 1) := by decide +kernel
theorem dJ8_hugeLength_7cf53_16 : decode cJ8_hugeLength_7cf53 16 = .ok (.invokespecial 91, 3) := by decide +kernel
theorem dJ8_hugeLength_7cf53_19 : decode cJ8_hugeLength_7cf53 19 = .ok (.ldc 206, 2) := by decide +kernel
theorem dJ8_hugeLength_7cf53_21 : decode cJ8_hugeLength_7cf53 21 = .ok (.invokevirtual 94, 3) := by decide +kernel
theorem dJ8_hugeLength_7cf53_24 : decode cJ8_hugeLength_7cf53 24 = .ok (.iload_n 0, 1) := by decide +kernel
theorem dJ8_hugeLength_7cf53_25 : decode cJ8_hugeLength_7cf53 25 = .ok (.invokevirtual 98, 3) := by decide +kernel
theorem dJ8_hugeLength_7cf53_28 : decode cJ8_hugeLength_7cf53 28 = .ok (.ldc 208, 2) := by decide +kernel
theorem dJ8_hugeLength_7cf53_30 : decode cJ8_hugeLength_7cf53 30 = .ok (.invokevirtual 94, 3) := by decide +kernel
theorem dJ8_hugeLength_7cf53_33 : decode cJ8_hugeLength_7cf53 33 = .ok (.iload_n 1, 1) := by decide +kernel
theorem dJ8_hugeLength_7cf53_34 : decode cJ8_hugeLength_7cf53 34 = .ok (.invokevirtual 98, 3) := by decide +kernel
theorem dJ8_hugeLength_7cf53_37 : decode cJ8_hugeLength_7cf53 37 = .ok (.ldc 210, 2) := by decide +kernel
theorem dJ8_hugeLength_7cf53_39 : decode cJ8_hugeLength_7cf53 39 = .ok (.invokevirtual 94, 3) := by decide +kernel
theorem dJ8_hugeLength_7cf53_42 : decode cJ8_hugeLength_7cf53 42 = .ok (.invokevirtual 101, 3) := by decide +kernel
theorem dJ8_hugeLength_7cf53_45 : decode cJ8_hugeLength_7cf53 45 = .ok (.invokespecial 212, 3) := by decide +kernel
theorem dJ8_hugeLength_7cf53_48 : decode cJ8_hugeLength_7cf53 48 = .ok (.athrow, 1) := by decide +kernel
theorem dJ8_hugeLength_7cf53_49 : decode cJ8_hugeLength_7cf53 49 = .ok (.iload_n 2, 1) := by decide +kernel
theorem dJ8_hugeLength_7cf53_50 : decode cJ8_hugeLength_7cf53 50 = .ok (.ldc 200, 2) := by decide +kernel
theorem dJ8_hugeLength_7cf53_52 : decode cJ8_hugeLength_7cf53 52 = .ok (.if_icmp .gt 6, 3) := by decide +kernel
theorem dJ8_hugeLength_7cf53_55 : decode cJ8_hugeLength_7cf53 55 = .ok (.ldc 200, 2) := by decide +kernel
theorem dJ8_hugeLength_7cf53_57 : decode cJ8_hugeLength_7cf53 57 = .ok (.ireturn, 1) := by decide +kernel
theorem dJ8_hugeLength_7cf53_58 : decode cJ8_hugeLength_7cf53 58 = .ok (.iload_n 2, 1) := by decide +kernel
theorem dJ8_hugeLength_7cf53_59 : decode cJ8_hugeLength_7cf53 59 = .ok (.ireturn, 1) := by decide +kernel
theorem dJ3_checkIndex_8e157_0 : decode cJ3_checkIndex_8e157 0 = .ok (.iload_n 0, 1) := by decide +kernel
theorem dJ3_checkIndex_8e157_1 : decode cJ3_checkIndex_8e157 1 = .ok (.ifCond .lt 8, 3) := by decide +kernel
theorem dJ3_checkIndex_8e157_4 : decode cJ3_checkIndex_8e157 4 = .ok (.iload_n 0, 1) := by decide +kernel
theorem dJ3_checkIndex_8e157_5 : decode cJ3_checkIndex_8e157 5 = .ok (.iload_n 1, 1) := by decide +kernel
theorem dJ3_checkIndex_8e157_6 : decode cJ3_checkIndex_8e157 6 = .ok (.if_icmp .lt 10, 3) := by decide +kernel
theorem dJ3_checkIndex_8e157_9 : decode cJ3_checkIndex_8e157 9 = .ok (.aload_n 2, 1) := by decide +kernel
theorem dJ3_checkIndex_8e157_10 : decode cJ3_checkIndex_8e157 10 = .ok (.iload_n 0, 1) := by decide +kernel
theorem dJ3_checkIndex_8e157_11 : decode cJ3_checkIndex_8e157 11 = .ok (.iload_n 1, 1) := by decide +kernel
theorem dJ3_checkIndex_8e157_12 : decode cJ3_checkIndex_8e157 12 = .ok (.invokestatic 95, 3) := by decide +kernel
theorem dJ3_checkIndex_8e157_15 : decode cJ3_checkIndex_8e157 15 = .ok (.athrow, 1) := by decide +kernel
theorem dJ3_checkIndex_8e157_16 : decode cJ3_checkIndex_8e157 16 = .ok (.iload_n 0, 1) := by decide +kernel
theorem dJ3_checkIndex_8e157_17 : decode cJ3_checkIndex_8e157 17 = .ok (.ireturn, 1) := by decide +kernel
theorem dJ3_checkFromToIndex_8c36e_0 : decode cJ3_checkFromToIndex_8c36e 0 = .ok (.iload_n 0, 1) := by decide +kernel
theorem dJ3_checkFromToIndex_8c36e_1 : decode cJ3_checkFromToIndex_8c36e 1 = .ok (.ifCond .lt 13, 3) := by decide +kernel
theorem dJ3_checkFromToIndex_8c36e_4 : decode cJ3_checkFromToIndex_8c36e 4 = .ok (.iload_n 0, 1) := by decide +kernel
theorem dJ3_checkFromToIndex_8c36e_5 : decode cJ3_checkFromToIndex_8c36e 5 = .ok (.iload_n 1, 1) := by decide +kernel
theorem dJ3_checkFromToIndex_8c36e_6 : decode cJ3_checkFromToIndex_8c36e 6 = .ok (.if_icmp .gt 8, 3) := by decide +kernel
theorem dJ3_checkFromToIndex_8c36e_9 : decode cJ3_checkFromToIndex_8c36e 9 = .ok (.iload_n 1, 1) := by decide +kernel
theorem dJ3_checkFromToIndex_8c36e_10 : decode cJ3_checkFromToIndex_8c36e 10 = .ok (.iload_n 2, 1) := by decide +kernel
theorem dJ3_checkFromToIndex_8c36e_11 : decode cJ3_checkFromToIndex_8c36e 11 = .ok (.if_icmp .le 11, 3) := by decide +kernel
theorem dJ3_checkFromToIndex_8c36e_14 : decode cJ3_checkFromToIndex_8c36e 14 = .ok (.aload_n 3, 1) := by decide +kernel
theorem dJ3_checkFromToIndex_8c36e_15 : decode cJ3_checkFromToIndex_8c36e 15 = .ok (.iload_n 0, 1) := by decide +kernel
theorem dJ3_checkFromToIndex_8c36e_16 : decode cJ3_checkFromToIndex_8c36e 16 = .ok (.iload_n 1, 1) := by decide +kernel
theorem dJ3_checkFromToIndex_8c36e_17 : decode cJ3_checkFromToIndex_8c36e 17 = .ok (.iload_n 2, 1) := by decide +kernel
theorem dJ3_checkFromToIndex_8c36e_18 : decode cJ3_checkFromToIndex_8c36e 18 = .ok (.invokestatic 99, 3) := by decide +kernel
theorem dJ3_checkFromToIndex_8c36e_21 : decode cJ3_checkFromToIndex_8c36e 21 = .ok (.athrow, 1) := by decide +kernel
theorem dJ3_checkFromToIndex_8c36e_22 : decode cJ3_checkFromToIndex_8c36e 22 = .ok (.iload_n 0, 1) := by decide +kernel
theorem dJ3_checkFromToIndex_8c36e_23 : decode cJ3_checkFromToIndex_8c36e 23 = .ok (.ireturn, 1) := by decide +kernel
theorem dJ3_checkFromIndexSize_8c36e_0 : decode cJ3_checkFromIndexSize_8c36e 0 = .ok (.iload_n 2, 1) := by decide +kernel
theorem dJ3_checkFromIndexSize_8c36e_1 : decode cJ3_checkFromIndexSize_8c36e 1 = .ok (.iload_n 0, 1) := by decide +kernel
theorem dJ3_checkFromIndexSize_8c36e_2 : decode cJ3_checkFromIndexSize_8c36e 2 = .ok (.ior, 1) := by decide +kernel
theorem dJ3_checkFromIndexSize_8c36e_3 : decode cJ3_checkFromIndexSize_8c36e 3 = .ok (.iload_n 1, 1) := by decide +kernel
theorem dJ3_checkFromIndexSize_8c36e_4 : decode cJ3_checkFromIndexSize_8c36e 4 = .ok (.ior, 1) := by decide +kernel
theorem dJ3_checkFromIndexSize_8c36e_5 : decode cJ3_checkFromIndexSize_8c36e 5 = .ok (.ifCond .lt 10, 3) := by decide +kernel
theorem dJ3_checkFromIndexSize_8c36e_8 : decode cJ3_checkFromIndexSize_8c36e 8 = .ok (.iload_n 1, 1) := by decide +kernel
theorem dJ3_checkFromIndexSize_8c36e_9 : decode cJ3_checkFromIndexSize_8c36e 9 = .ok (.iload_n 2, 1) := by decide +kernel
theorem dJ3_checkFromIndexSize_8c36e_10 : decode cJ3_checkFromIndexSize_8c36e 10 = .ok (.iload_n 0, 1) := by decide +kernel
theorem dJ3_checkFromIndexSize_8c36e_11 : decode cJ3_checkFromIndexSize_8c36e 11 = .ok (.isub, 1) := by decide +kernel
theorem dJ3_checkFromIndexSize_8c36e_12 : decode cJ3_checkFromIndexSize_8c36e 12 = .ok (.if_icmp .le 11, 3) := by decide +kernel
theorem dJ3_checkFromIndexSize_8c36e_15 : decode cJ3_checkFromIndexSize_8c36e 15 = .ok (.aload_n 3, 1) := by decide +kernel
theorem dJ3_checkFromIndexSize_8c36e_16 : decode cJ3_checkFromIndexSize_8c36e 16 = .ok (.iload_n 0, 1) := by decide +kernel
theorem dJ3_checkFromIndexSize_8c36e_17 : decode cJ3_checkFromIndexSize_8c36e 17 = .ok (.iload_n 1, 1) := by decide +kernel
theorem dJ3_checkFromIndexSize_8c36e_18 : decode cJ3_checkFromIndexSize_8c36e 18 = .ok (.iload_n 2, 1) := by decide +kernel
theorem dJ3_checkFromIndexSize_8c36e_19 : decode cJ3_checkFromIndexSize_8c36e 19 = .ok (.invokestatic 103, 3) := by decide +kernel
theorem dJ3_checkFromIndexSize_8c36e_22 : decode cJ3_checkFromIndexSize_8c36e 22 = .ok (.athrow, 1) := by decide +kernel
theorem dJ3_checkFromIndexSize_8c36e_23 : decode cJ3_checkFromIndexSize_8c36e 23 = .ok (.iload_n 0, 1) := by decide +kernel
theorem dJ3_checkFromIndexSize_8c36e_24 : decode cJ3_checkFromIndexSize_8c36e 24 = .ok (.ireturn, 1) := by decide +kernel
theorem dL_most_0 : decode cL_most 0 = .ok (.iload_n 0, 1) := by decide +kernel
theorem dL_most_1 : decode cL_most 1 = .ok (.ldc 7, 2) := by decide +kernel
theorem dL_most_3 : decode cL_most 3 = .ok (.iand, 1) := by decide +kernel
theorem dL_most_4 : decode cL_most 4 = .ok (.iload_n 1, 1) := by decide +kernel
theorem dL_most_5 : decode cL_most 5 = .ok (.irem, 1) := by decide +kernel
theorem dL_most_6 : decode cL_most 6 = .ok (.ireturn, 1) := by decide +kernel
theorem dL_cell_0 : decode cL_cell 0 = .ok (.iload_n 1, 1) := by decide +kernel
theorem dL_cell_1 : decode cL_cell 1 = .ok (.aload_n 0, 1) := by decide +kernel
theorem dL_cell_2 : decode cL_cell 2 = .ok (.arraylength, 1) := by decide +kernel
theorem dL_cell_3 : decode cL_cell 3 = .ok (.if_icmp .ge 9, 3) := by decide +kernel
theorem dL_cell_6 : decode cL_cell 6 = .ok (.aload_n 0, 1) := by decide +kernel
theorem dL_cell_7 : decode cL_cell 7 = .ok (.iload_n 1, 1) := by decide +kernel
theorem dL_cell_8 : decode cL_cell 8 = .ok (.iaload, 1) := by decide +kernel
theorem dL_cell_9 : decode cL_cell 9 = .ok (.goto 7, 3) := by decide +kernel
theorem dL_cell_12 : decode cL_cell 12 = .ok (.bipush 37, 2) := by decide +kernel
theorem dL_cell_14 : decode cL_cell 14 = .ok (.iload_n 1, 1) := by decide +kernel
theorem dL_cell_15 : decode cL_cell 15 = .ok (.imul, 1) := by decide +kernel
theorem dL_cell_16 : decode cL_cell 16 = .ok (.ireturn, 1) := by decide +kernel
theorem dL_add_0 : decode cL_add 0 = .ok (.aload_n 1, 1) := by decide +kernel
theorem dL_add_1 : decode cL_add 1 = .ok (.aload_n 1, 1) := by decide +kernel
theorem dL_add_2 : decode cL_add 2 = .ok (.iconst 5, 1) := by decide +kernel
theorem dL_add_3 : decode cL_add 3 = .ok (.iaload, 1) := by decide +kernel
theorem dL_add_4 : decode cL_add 4 = .ok (.bipush 20, 2) := by decide +kernel
theorem dL_add_6 : decode cL_add 6 = .ok (.irem, 1) := by decide +kernel
theorem dL_add_7 : decode cL_add 7 = .ok (.iconst 4, 1) := by decide +kernel
theorem dL_add_8 : decode cL_add 8 = .ok (.idiv, 1) := by decide +kernel
theorem dL_add_9 : decode cL_add 9 = .ok (.dup2, 1) := by decide +kernel
theorem dL_add_10 : decode cL_add 10 = .ok (.iaload, 1) := by decide +kernel
theorem dL_add_11 : decode cL_add 11 = .ok (.iload_n 2, 1) := by decide +kernel
theorem dL_add_12 : decode cL_add 12 = .ok (.bipush 24, 2) := by decide +kernel
theorem dL_add_14 : decode cL_add 14 = .ok (.bipush 8, 2) := by decide +kernel
theorem dL_add_16 : decode cL_add 16 = .ok (.aload_n 1, 1) := by decide +kernel
theorem dL_add_17 : decode cL_add 17 = .ok (.iconst 5, 1) := by decide +kernel
theorem dL_add_18 : decode cL_add 18 = .ok (.iaload, 1) := by decide +kernel
theorem dL_add_19 : decode cL_add 19 = .ok (.iconst 4, 1) := by decide +kernel
theorem dL_add_20 : decode cL_add 20 = .ok (.irem, 1) := by decide +kernel
theorem dL_add_21 : decode cL_add 21 = .ok (.imul, 1) := by decide +kernel
theorem dL_add_22 : decode cL_add 22 = .ok (.isub, 1) := by decide +kernel
theorem dL_add_23 : decode cL_add 23 = .ok (.ishl, 1) := by decide +kernel
theorem dL_add_24 : decode cL_add 24 = .ok (.ior, 1) := by decide +kernel
theorem dL_add_25 : decode cL_add 25 = .ok (.iastore, 1) := by decide +kernel
theorem dL_add_26 : decode cL_add 26 = .ok (.aload_n 1, 1) := by decide +kernel
theorem dL_add_27 : decode cL_add 27 = .ok (.iconst 5, 1) := by decide +kernel
theorem dL_add_28 : decode cL_add 28 = .ok (.dup2, 1) := by decide +kernel
theorem dL_add_29 : decode cL_add 29 = .ok (.iaload, 1) := by decide +kernel
theorem dL_add_30 : decode cL_add 30 = .ok (.iconst 1, 1) := by decide +kernel
theorem dL_add_31 : decode cL_add 31 = .ok (.iadd, 1) := by decide +kernel
theorem dL_add_32 : decode cL_add 32 = .ok (.iastore, 1) := by decide +kernel
theorem dL_add_33 : decode cL_add 33 = .ok (.aload_n 1, 1) := by decide +kernel
theorem dL_add_34 : decode cL_add 34 = .ok (.iconst 5, 1) := by decide +kernel
theorem dL_add_35 : decode cL_add 35 = .ok (.iaload, 1) := by decide +kernel
theorem dL_add_36 : decode cL_add 36 = .ok (.bipush 20, 2) := by decide +kernel
theorem dL_add_38 : decode cL_add 38 = .ok (.irem, 1) := by decide +kernel
theorem dL_add_39 : decode cL_add 39 = .ok (.ifCond .eq 4, 3) := by decide +kernel
theorem dL_add_42 : decode cL_add 42 = .ok (.return_, 1) := by decide +kernel
theorem dL_add_43 : decode cL_add 43 = .ok (.aload_n 0, 1) := by decide +kernel
theorem dL_add_44 : decode cL_add 44 = .ok (.aload_n 1, 1) := by decide +kernel
theorem dL_add_45 : decode cL_add 45 = .ok (.iconst 0, 1) := by decide +kernel
theorem dL_add_46 : decode cL_add 46 = .ok (.iaload, 1) := by decide +kernel
theorem dL_add_47 : decode cL_add 47 = .ok (.aload_n 1, 1) := by decide +kernel
theorem dL_add_48 : decode cL_add 48 = .ok (.iconst 1, 1) := by decide +kernel
theorem dL_add_49 : decode cL_add 49 = .ok (.iaload, 1) := by decide +kernel
theorem dL_add_50 : decode cL_add 50 = .ok (.aload_n 1, 1) := by decide +kernel
theorem dL_add_51 : decode cL_add 51 = .ok (.iconst 2, 1) := by decide +kernel
theorem dL_add_52 : decode cL_add 52 = .ok (.iaload, 1) := by decide +kernel
theorem dL_add_53 : decode cL_add 53 = .ok (.aload_n 1, 1) := by decide +kernel
theorem dL_add_54 : decode cL_add 54 = .ok (.iconst 3, 1) := by decide +kernel
theorem dL_add_55 : decode cL_add 55 = .ok (.iaload, 1) := by decide +kernel
theorem dL_add_56 : decode cL_add 56 = .ok (.aload_n 1, 1) := by decide +kernel
theorem dL_add_57 : decode cL_add 57 = .ok (.iconst 4, 1) := by decide +kernel
theorem dL_add_58 : decode cL_add 58 = .ok (.iaload, 1) := by decide +kernel
theorem dL_add_59 : decode cL_add 59 = .ok (.invokevirtual 8, 3) := by decide +kernel
theorem dL_add_62 : decode cL_add 62 = .ok (.pop, 1) := by decide +kernel
theorem dL_add_63 : decode cL_add 63 = .ok (.iconst 0, 1) := by decide +kernel
theorem dL_add_64 : decode cL_add 64 = .ok (.istore_n 3, 1) := by decide +kernel
theorem dL_add_65 : decode cL_add 65 = .ok (.iload_n 3, 1) := by decide +kernel
theorem dL_add_66 : decode cL_add 66 = .ok (.iconst 5, 1) := by decide +kernel
theorem dL_add_67 : decode cL_add 67 = .ok (.if_icmp .ge 13, 3) := by decide +kernel
theorem dL_add_70 : decode cL_add 70 = .ok (.aload_n 1, 1) := by decide +kernel
theorem dL_add_71 : decode cL_add 71 = .ok (.iload_n 3, 1) := by decide +kernel
theorem dL_add_72 : decode cL_add 72 = .ok (.iconst 0, 1) := by decide +kernel
theorem dL_add_73 : decode cL_add 73 = .ok (.iastore, 1) := by decide +kernel
theorem dL_add_74 : decode cL_add 74 = .ok (.iinc 3 1, 3) := by decide +kernel
theorem dL_add_77 : decode cL_add 77 = .ok (.goto (-12), 3) := by decide +kernel
theorem dL_add_80 : decode cL_add 80 = .ok (.return_, 1) := by decide +kernel
theorem dL_say_0 : decode cL_say 0 = .ok (.iconst 0, 1) := by decide +kernel
theorem dL_say_1 : decode cL_say 1 = .ok (.istore_n 3, 1) := by decide +kernel
theorem dL_say_2 : decode cL_say 2 = .ok (.iload_n 3, 1) := by decide +kernel
theorem dL_say_3 : decode cL_say 3 = .ok (.aload_n 2, 1) := by decide +kernel
theorem dL_say_4 : decode cL_say 4 = .ok (.invokevirtual 14, 3) := by decide +kernel
theorem dL_say_7 : decode cL_say 7 = .ok (.if_icmp .ge 19, 3) := by decide +kernel
theorem dL_say_10 : decode cL_say 10 = .ok (.aload_n 0, 1) := by decide +kernel
theorem dL_say_11 : decode cL_say 11 = .ok (.aload_n 1, 1) := by decide +kernel
theorem dL_say_12 : decode cL_say 12 = .ok (.aload_n 2, 1) := by decide +kernel
theorem dL_say_13 : decode cL_say 13 = .ok (.iload_n 3, 1) := by decide +kernel
theorem dL_say_14 : decode cL_say 14 = .ok (.invokevirtual 20, 3) := by decide +kernel
theorem dL_say_17 : decode cL_say 17 = .ok (.invokestatic 24, 3) := by decide +kernel
theorem dL_say_20 : decode cL_say 20 = .ok (.iinc 3 1, 3) := by decide +kernel
theorem dL_say_23 : decode cL_say 23 = .ok (.goto (-21), 3) := by decide +kernel
theorem dL_say_26 : decode cL_say 26 = .ok (.return_, 1) := by decide +kernel
theorem dL_end_0 : decode cL_end 0 = .ok (.aload_n 1, 1) := by decide +kernel
theorem dL_end_1 : decode cL_end 1 = .ok (.iconst 5, 1) := by decide +kernel
theorem dL_end_2 : decode cL_end 2 = .ok (.iaload, 1) := by decide +kernel
theorem dL_end_3 : decode cL_end 3 = .ok (.istore_n 2, 1) := by decide +kernel
theorem dL_end_4 : decode cL_end 4 = .ok (.aload_n 1, 1) := by decide +kernel
theorem dL_end_5 : decode cL_end 5 = .ok (.iconst 5, 1) := by decide +kernel
theorem dL_end_6 : decode cL_end 6 = .ok (.iaload, 1) := by decide +kernel
theorem dL_end_7 : decode cL_end 7 = .ok (.bipush 20, 2) := by decide +kernel
theorem dL_end_9 : decode cL_end 9 = .ok (.irem, 1) := by decide +kernel
theorem dL_end_10 : decode cL_end 10 = .ok (.ifCond .eq 13, 3) := by decide +kernel
theorem dL_end_13 : decode cL_end 13 = .ok (.aload_n 0, 1) := by decide +kernel
theorem dL_end_14 : decode cL_end 14 = .ok (.aload_n 1, 1) := by decide +kernel
theorem dL_end_15 : decode cL_end 15 = .ok (.bipush 32, 2) := by decide +kernel
theorem dL_end_17 : decode cL_end 17 = .ok (.invokestatic 24, 3) := by decide +kernel
theorem dL_end_20 : decode cL_end 20 = .ok (.goto (-16), 3) := by decide +kernel
theorem dL_end_23 : decode cL_end 23 = .ok (.aload_n 1, 1) := by decide +kernel
theorem dL_end_24 : decode cL_end 24 = .ok (.iconst 5, 1) := by decide +kernel
theorem dL_end_25 : decode cL_end 25 = .ok (.iconst 0, 1) := by decide +kernel
theorem dL_end_26 : decode cL_end 26 = .ok (.iastore, 1) := by decide +kernel
theorem dL_end_27 : decode cL_end 27 = .ok (.iload_n 2, 1) := by decide +kernel
theorem dL_end_28 : decode cL_end 28 = .ok (.ireturn, 1) := by decide +kernel
theorem dL_all_0 : decode cL_all 0 = .ok (.aload_n 0, 1) := by decide +kernel
theorem dL_all_1 : decode cL_all 1 = .ok (.invokevirtual 30, 3) := by decide +kernel
theorem dL_all_4 : decode cL_all 4 = .ok (.istore_n 1, 1) := by decide +kernel
theorem dL_all_5 : decode cL_all 5 = .ok (.aload_n 0, 1) := by decide +kernel
theorem dL_all_6 : decode cL_all 6 = .ok (.invokevirtual 33, 3) := by decide +kernel
theorem dL_all_9 : decode cL_all 9 = .ok (.istore_n 2, 1) := by decide +kernel
theorem dL_all_10 : decode cL_all 10 = .ok (.bipush 7, 2) := by decide +kernel
theorem dL_all_12 : decode cL_all 12 = .ok (.bipush 13, 2) := by decide +kernel
theorem dL_all_14 : decode cL_all 14 = .ok (.iload_n 1, 1) := by decide +kernel
theorem dL_all_15 : decode cL_all 15 = .ok (.imul, 1) := by decide +kernel
theorem dL_all_16 : decode cL_all 16 = .ok (.iadd, 1) := by decide +kernel
theorem dL_all_17 : decode cL_all 17 = .ok (.iconst 3, 1) := by decide +kernel
theorem dL_all_18 : decode cL_all 18 = .ok (.iload_n 2, 1) := by decide +kernel
theorem dL_all_19 : decode cL_all 19 = .ok (.imul, 1) := by decide +kernel
theorem dL_all_20 : decode cL_all 20 = .ok (.iadd, 1) := by decide +kernel
theorem dL_all_21 : decode cL_all 21 = .ok (.aload_n 0, 1) := by decide +kernel
theorem dL_all_22 : decode cL_all 22 = .ok (.invokevirtual 36, 3) := by decide +kernel
theorem dL_all_25 : decode cL_all 25 = .ok (.iadd, 1) := by decide +kernel
theorem dL_all_26 : decode cL_all 26 = .ok (.newarray .int, 2) := by decide +kernel
theorem dL_all_28 : decode cL_all 28 = .ok (.astore_n 3, 1) := by decide +kernel
theorem dL_all_29 : decode cL_all 29 = .ok (.iconst 0, 1) := by decide +kernel
theorem dL_all_30 : decode cL_all 30 = .ok (.istore 4, 2) := by decide +kernel
theorem dL_all_32 : decode cL_all 32 = .ok (.aload_n 3, 1) := by decide +kernel
theorem dL_all_33 : decode cL_all 33 = .ok (.iload 4, 2) := by decide +kernel
theorem dL_all_35 : decode cL_all 35 = .ok (.iinc 4 1, 3) := by decide +kernel
theorem dL_all_38 : decode cL_all 38 = .ok (.aload_n 0, 1) := by decide +kernel
theorem dL_all_39 : decode cL_all 39 = .ok (.invokevirtual 39, 3) := by decide +kernel
theorem dL_all_42 : decode cL_all 42 = .ok (.iastore, 1) := by decide +kernel
theorem dL_all_43 : decode cL_all 43 = .ok (.aload_n 3, 1) := by decide +kernel
theorem dL_all_44 : decode cL_all 44 = .ok (.iload 4, 2) := by decide +kernel
theorem dL_all_46 : decode cL_all 46 = .ok (.iinc 4 1, 3) := by decide +kernel
theorem dL_all_49 : decode cL_all 49 = .ok (.aload_n 0, 1) := by decide +kernel
theorem dL_all_50 : decode cL_all 50 = .ok (.invokevirtual 42, 3) := by decide +kernel
theorem dL_all_53 : decode cL_all 53 = .ok (.iastore, 1) := by decide +kernel
theorem dL_all_54 : decode cL_all 54 = .ok (.aload_n 3, 1) := by decide +kernel
theorem dL_all_55 : decode cL_all 55 = .ok (.iload 4, 2) := by decide +kernel
theorem dL_all_57 : decode cL_all 57 = .ok (.iinc 4 1, 3) := by decide +kernel
theorem dL_all_60 : decode cL_all 60 = .ok (.aload_n 0, 1) := by decide +kernel
theorem dL_all_61 : decode cL_all 61 = .ok (.invokevirtual 45, 3) := by decide +kernel
theorem dL_all_64 : decode cL_all 64 = .ok (.iastore, 1) := by decide +kernel
theorem dL_all_65 : decode cL_all 65 = .ok (.aload_n 3, 1) := by decide +kernel
theorem dL_all_66 : decode cL_all 66 = .ok (.iload 4, 2) := by decide +kernel
theorem dL_all_68 : decode cL_all 68 = .ok (.iinc 4 1, 3) := by decide +kernel
theorem dL_all_71 : decode cL_all 71 = .ok (.aload_n 0, 1) := by decide +kernel
theorem dL_all_72 : decode cL_all 72 = .ok (.invokevirtual 48, 3) := by decide +kernel
theorem dL_all_75 : decode cL_all 75 = .ok (.iastore, 1) := by decide +kernel
theorem dL_all_76 : decode cL_all 76 = .ok (.aload_n 3, 1) := by decide +kernel
theorem dL_all_77 : decode cL_all 77 = .ok (.iload 4, 2) := by decide +kernel
theorem dL_all_79 : decode cL_all 79 = .ok (.iinc 4 1, 3) := by decide +kernel
theorem dL_all_82 : decode cL_all 82 = .ok (.iload_n 2, 1) := by decide +kernel
theorem dL_all_83 : decode cL_all 83 = .ok (.iastore, 1) := by decide +kernel
theorem dL_all_84 : decode cL_all 84 = .ok (.aload_n 3, 1) := by decide +kernel
theorem dL_all_85 : decode cL_all 85 = .ok (.iload 4, 2) := by decide +kernel
theorem dL_all_87 : decode cL_all 87 = .ok (.iinc 4 1, 3) := by decide +kernel
theorem dL_all_90 : decode cL_all 90 = .ok (.iload_n 1, 1) := by decide +kernel
theorem dL_all_91 : decode cL_all 91 = .ok (.iastore, 1) := by decide +kernel
theorem dL_all_92 : decode cL_all 92 = .ok (.aload_n 3, 1) := by decide +kernel
theorem dL_all_93 : decode cL_all 93 = .ok (.iload 4, 2) := by decide +kernel
theorem dL_all_95 : decode cL_all 95 = .ok (.iinc 4 1, 3) := by decide +kernel
theorem dL_all_98 : decode cL_all 98 = .ok (.aload_n 0, 1) := by decide +kernel
theorem dL_all_99 : decode cL_all 99 = .ok (.invokevirtual 36, 3) := by decide +kernel
theorem dL_all_102 : decode cL_all 102 = .ok (.iastore, 1) := by decide +kernel
theorem dL_all_103 : decode cL_all 103 = .ok (.iconst 0, 1) := by decide +kernel
theorem dL_all_104 : decode cL_all 104 = .ok (.istore 5, 2) := by decide +kernel
theorem dL_all_106 : decode cL_all 106 = .ok (.iload 5, 2) := by decide +kernel
theorem dL_all_108 : decode cL_all 108 = .ok (.iload_n 1, 1) := by decide +kernel
theorem dL_all_109 : decode cL_all 109 = .ok (.if_icmp .ge 178, 3) := by decide +kernel
theorem dL_all_112 : decode cL_all 112 = .ok (.aload_n 3, 1) := by decide +kernel
theorem dL_all_113 : decode cL_all 113 = .ok (.iload 4, 2) := by decide +kernel
theorem dL_all_115 : decode cL_all 115 = .ok (.iinc 4 1, 3) := by decide +kernel
theorem dL_all_118 : decode cL_all 118 = .ok (.aload_n 0, 1) := by decide +kernel
theorem dL_all_119 : decode cL_all 119 = .ok (.iload 5, 2) := by decide +kernel
theorem dL_all_121 : decode cL_all 121 = .ok (.invokevirtual 51, 3) := by decide +kernel
theorem dL_all_124 : decode cL_all 124 = .ok (.iastore, 1) := by decide +kernel
theorem dL_all_125 : decode cL_all 125 = .ok (.aload_n 3, 1) := by decide +kernel
theorem dL_all_126 : decode cL_all 126 = .ok (.iload 4, 2) := by decide +kernel
theorem dL_all_128 : decode cL_all 128 = .ok (.iinc 4 1, 3) := by decide +kernel
theorem dL_all_131 : decode cL_all 131 = .ok (.aload_n 0, 1) := by decide +kernel
theorem dL_all_132 : decode cL_all 132 = .ok (.iload 5, 2) := by decide +kernel
theorem dL_all_134 : decode cL_all 134 = .ok (.invokevirtual 55, 3) := by decide +kernel
theorem dL_all_137 : decode cL_all 137 = .ok (.iastore, 1) := by decide +kernel
theorem dL_all_138 : decode cL_all 138 = .ok (.aload_n 3, 1) := by decide +kernel
theorem dL_all_139 : decode cL_all 139 = .ok (.iload 4, 2) := by decide +kernel
theorem dL_all_141 : decode cL_all 141 = .ok (.iinc 4 1, 3) := by decide +kernel
theorem dL_all_144 : decode cL_all 144 = .ok (.aload_n 0, 1) := by decide +kernel
theorem dL_all_145 : decode cL_all 145 = .ok (.iload 5, 2) := by decide +kernel
theorem dL_all_147 : decode cL_all 147 = .ok (.invokevirtual 58, 3) := by decide +kernel
theorem dL_all_150 : decode cL_all 150 = .ok (.iastore, 1) := by decide +kernel
theorem dL_all_151 : decode cL_all 151 = .ok (.aload_n 3, 1) := by decide +kernel
theorem dL_all_152 : decode cL_all 152 = .ok (.iload 4, 2) := by decide +kernel
theorem dL_all_154 : decode cL_all 154 = .ok (.iinc 4 1, 3) := by decide +kernel
theorem dL_all_157 : decode cL_all 157 = .ok (.aload_n 0, 1) := by decide +kernel
theorem dL_all_158 : decode cL_all 158 = .ok (.iload 5, 2) := by decide +kernel
theorem dL_all_160 : decode cL_all 160 = .ok (.invokevirtual 61, 3) := by decide +kernel
theorem dL_all_163 : decode cL_all 163 = .ok (.iastore, 1) := by decide +kernel
theorem dL_all_164 : decode cL_all 164 = .ok (.aload_n 3, 1) := by decide +kernel
theorem dL_all_165 : decode cL_all 165 = .ok (.iload 4, 2) := by decide +kernel
theorem dL_all_167 : decode cL_all 167 = .ok (.iinc 4 1, 3) := by decide +kernel
theorem dL_all_170 : decode cL_all 170 = .ok (.aload_n 0, 1) := by decide +kernel
theorem dL_all_171 : decode cL_all 171 = .ok (.iload 5, 2) := by decide +kernel
theorem dL_all_173 : decode cL_all 173 = .ok (.invokevirtual 64, 3) := by decide +kernel
theorem dL_all_176 : decode cL_all 176 = .ok (.iastore, 1) := by decide +kernel
theorem dL_all_177 : decode cL_all 177 = .ok (.aload_n 3, 1) := by decide +kernel
theorem dL_all_178 : decode cL_all 178 = .ok (.iload 4, 2) := by decide +kernel
theorem dL_all_180 : decode cL_all 180 = .ok (.iinc 4 1, 3) := by decide +kernel
theorem dL_all_183 : decode cL_all 183 = .ok (.aload_n 0, 1) := by decide +kernel
theorem dL_all_184 : decode cL_all 184 = .ok (.iload 5, 2) := by decide +kernel
theorem dL_all_186 : decode cL_all 186 = .ok (.invokevirtual 67, 3) := by decide +kernel
theorem dL_all_189 : decode cL_all 189 = .ok (.iastore, 1) := by decide +kernel
theorem dL_all_190 : decode cL_all 190 = .ok (.aload_n 3, 1) := by decide +kernel
theorem dL_all_191 : decode cL_all 191 = .ok (.iload 4, 2) := by decide +kernel
theorem dL_all_193 : decode cL_all 193 = .ok (.iinc 4 1, 3) := by decide +kernel
theorem dL_all_196 : decode cL_all 196 = .ok (.aload_n 0, 1) := by decide +kernel
theorem dL_all_197 : decode cL_all 197 = .ok (.iload 5, 2) := by decide +kernel
theorem dL_all_199 : decode cL_all 199 = .ok (.invokevirtual 70, 3) := by decide +kernel
theorem dL_all_202 : decode cL_all 202 = .ok (.iastore, 1) := by decide +kernel
theorem dL_all_203 : decode cL_all 203 = .ok (.aload_n 3, 1) := by decide +kernel
theorem dL_all_204 : decode cL_all 204 = .ok (.iload 4, 2) := by decide +kernel
theorem dL_all_206 : decode cL_all 206 = .ok (.iinc 4 1, 3) := by decide +kernel
theorem dL_all_209 : decode cL_all 209 = .ok (.aload_n 0, 1) := by decide +kernel
theorem dL_all_210 : decode cL_all 210 = .ok (.iload 5, 2) := by decide +kernel
theorem dL_all_212 : decode cL_all 212 = .ok (.invokevirtual 73, 3) := by decide +kernel
theorem dL_all_215 : decode cL_all 215 = .ok (.iastore, 1) := by decide +kernel
theorem dL_all_216 : decode cL_all 216 = .ok (.aload_n 3, 1) := by decide +kernel
theorem dL_all_217 : decode cL_all 217 = .ok (.iload 4, 2) := by decide +kernel
theorem dL_all_219 : decode cL_all 219 = .ok (.iinc 4 1, 3) := by decide +kernel
theorem dL_all_222 : decode cL_all 222 = .ok (.aload_n 0, 1) := by decide +kernel
theorem dL_all_223 : decode cL_all 223 = .ok (.iload 5, 2) := by decide +kernel
theorem dL_all_225 : decode cL_all 225 = .ok (.invokevirtual 76, 3) := by decide +kernel
theorem dL_all_228 : decode cL_all 228 = .ok (.iastore, 1) := by decide +kernel
theorem dL_all_229 : decode cL_all 229 = .ok (.aload_n 3, 1) := by decide +kernel
theorem dL_all_230 : decode cL_all 230 = .ok (.iload 4, 2) := by decide +kernel
theorem dL_all_232 : decode cL_all 232 = .ok (.iinc 4 1, 3) := by decide +kernel
theorem dL_all_235 : decode cL_all 235 = .ok (.aload_n 0, 1) := by decide +kernel
theorem dL_all_236 : decode cL_all 236 = .ok (.iload 5, 2) := by decide +kernel
theorem dL_all_238 : decode cL_all 238 = .ok (.invokevirtual 79, 3) := by decide +kernel
theorem dL_all_241 : decode cL_all 241 = .ok (.iastore, 1) := by decide +kernel
theorem dL_all_242 : decode cL_all 242 = .ok (.aload_n 3, 1) := by decide +kernel
theorem dL_all_243 : decode cL_all 243 = .ok (.iload 4, 2) := by decide +kernel
theorem dL_all_245 : decode cL_all 245 = .ok (.iinc 4 1, 3) := by decide +kernel
theorem dL_all_248 : decode cL_all 248 = .ok (.aload_n 0, 1) := by decide +kernel
theorem dL_all_249 : decode cL_all 249 = .ok (.iload 5, 2) := by decide +kernel
theorem dL_all_251 : decode cL_all 251 = .ok (.invokevirtual 82, 3) := by decide +kernel
theorem dL_all_254 : decode cL_all 254 = .ok (.iastore, 1) := by decide +kernel
theorem dL_all_255 : decode cL_all 255 = .ok (.aload_n 3, 1) := by decide +kernel
theorem dL_all_256 : decode cL_all 256 = .ok (.iload 4, 2) := by decide +kernel
theorem dL_all_258 : decode cL_all 258 = .ok (.iinc 4 1, 3) := by decide +kernel
theorem dL_all_261 : decode cL_all 261 = .ok (.aload_n 0, 1) := by decide +kernel
theorem dL_all_262 : decode cL_all 262 = .ok (.iload 5, 2) := by decide +kernel
theorem dL_all_264 : decode cL_all 264 = .ok (.invokevirtual 85, 3) := by decide +kernel
theorem dL_all_267 : decode cL_all 267 = .ok (.iastore, 1) := by decide +kernel
theorem dL_all_268 : decode cL_all 268 = .ok (.aload_n 3, 1) := by decide +kernel
theorem dL_all_269 : decode cL_all 269 = .ok (.iload 4, 2) := by decide +kernel
theorem dL_all_271 : decode cL_all 271 = .ok (.iinc 4 1, 3) := by decide +kernel
theorem dL_all_274 : decode cL_all 274 = .ok (.aload_n 0, 1) := by decide +kernel
theorem dL_all_275 : decode cL_all 275 = .ok (.iload 5, 2) := by decide +kernel
theorem dL_all_277 : decode cL_all 277 = .ok (.invokevirtual 88, 3) := by decide +kernel
theorem dL_all_280 : decode cL_all 280 = .ok (.iastore, 1) := by decide +kernel
theorem dL_all_281 : decode cL_all 281 = .ok (.iinc 5 1, 3) := by decide +kernel
theorem dL_all_284 : decode cL_all 284 = .ok (.goto (-178), 3) := by decide +kernel
theorem dL_all_287 : decode cL_all 287 = .ok (.iconst 0, 1) := by decide +kernel
theorem dL_all_288 : decode cL_all 288 = .ok (.istore 5, 2) := by decide +kernel
theorem dL_all_290 : decode cL_all 290 = .ok (.iload 5, 2) := by decide +kernel
theorem dL_all_292 : decode cL_all 292 = .ok (.iload_n 2, 1) := by decide +kernel
theorem dL_all_293 : decode cL_all 293 = .ok (.if_icmp .ge 56, 3) := by decide +kernel
theorem dL_all_296 : decode cL_all 296 = .ok (.aload_n 3, 1) := by decide +kernel
theorem dL_all_297 : decode cL_all 297 = .ok (.iload 4, 2) := by decide +kernel
theorem dL_all_299 : decode cL_all 299 = .ok (.iinc 4 1, 3) := by decide +kernel
theorem dL_all_302 : decode cL_all 302 = .ok (.aload_n 0, 1) := by decide +kernel
theorem dL_all_303 : decode cL_all 303 = .ok (.iload 5, 2) := by decide +kernel
theorem dL_all_305 : decode cL_all 305 = .ok (.invokevirtual 91, 3) := by decide +kernel
theorem dL_all_308 : decode cL_all 308 = .ok (.iastore, 1) := by decide +kernel
theorem dL_all_309 : decode cL_all 309 = .ok (.aload_n 3, 1) := by decide +kernel
theorem dL_all_310 : decode cL_all 310 = .ok (.iload 4, 2) := by decide +kernel
theorem dL_all_312 : decode cL_all 312 = .ok (.iinc 4 1, 3) := by decide +kernel
theorem dL_all_315 : decode cL_all 315 = .ok (.aload_n 0, 1) := by decide +kernel
theorem dL_all_316 : decode cL_all 316 = .ok (.iload 5, 2) := by decide +kernel
theorem dL_all_318 : decode cL_all 318 = .ok (.invokevirtual 94, 3) := by decide +kernel
theorem dL_all_321 : decode cL_all 321 = .ok (.iastore, 1) := by decide +kernel
theorem dL_all_322 : decode cL_all 322 = .ok (.aload_n 3, 1) := by decide +kernel
theorem dL_all_323 : decode cL_all 323 = .ok (.iload 4, 2) := by decide +kernel
theorem dL_all_325 : decode cL_all 325 = .ok (.iinc 4 1, 3) := by decide +kernel
theorem dL_all_328 : decode cL_all 328 = .ok (.aload_n 0, 1) := by decide +kernel
theorem dL_all_329 : decode cL_all 329 = .ok (.iload 5, 2) := by decide +kernel
theorem dL_all_331 : decode cL_all 331 = .ok (.invokevirtual 97, 3) := by decide +kernel
theorem dL_all_334 : decode cL_all 334 = .ok (.ifCond .eq 7, 3) := by decide +kernel
theorem dL_all_337 : decode cL_all 337 = .ok (.iconst 1, 1) := by decide +kernel
theorem dL_all_338 : decode cL_all 338 = .ok (.goto 4, 3) := by decide +kernel
theorem dL_all_341 : decode cL_all 341 = .ok (.iconst 0, 1) := by decide +kernel
theorem dL_all_342 : decode cL_all 342 = .ok (.iastore, 1) := by decide +kernel
theorem dL_all_343 : decode cL_all 343 = .ok (.iinc 5 1, 3) := by decide +kernel
theorem dL_all_346 : decode cL_all 346 = .ok (.goto (-56), 3) := by decide +kernel
theorem dL_all_349 : decode cL_all 349 = .ok (.iconst 0, 1) := by decide +kernel
theorem dL_all_350 : decode cL_all 350 = .ok (.istore 5, 2) := by decide +kernel
theorem dL_all_352 : decode cL_all 352 = .ok (.iload 5, 2) := by decide +kernel
theorem dL_all_354 : decode cL_all 354 = .ok (.aload_n 0, 1) := by decide +kernel
theorem dL_all_355 : decode cL_all 355 = .ok (.invokevirtual 36, 3) := by decide +kernel
theorem dL_all_358 : decode cL_all 358 = .ok (.if_icmp .ge 30, 3) := by decide +kernel
theorem dL_all_361 : decode cL_all 361 = .ok (.aload_n 3, 1) := by decide +kernel
theorem dL_all_362 : decode cL_all 362 = .ok (.iload 4, 2) := by decide +kernel
theorem dL_all_364 : decode cL_all 364 = .ok (.iinc 4 1, 3) := by decide +kernel
theorem dL_all_367 : decode cL_all 367 = .ok (.aload_n 0, 1) := by decide +kernel
theorem dL_all_368 : decode cL_all 368 = .ok (.iload 5, 2) := by decide +kernel
theorem dL_all_370 : decode cL_all 370 = .ok (.invokevirtual 101, 3) := by decide +kernel
theorem dL_all_373 : decode cL_all 373 = .ok (.ifCond .eq 7, 3) := by decide +kernel
theorem dL_all_376 : decode cL_all 376 = .ok (.iconst 1, 1) := by decide +kernel
theorem dL_all_377 : decode cL_all 377 = .ok (.goto 4, 3) := by decide +kernel
theorem dL_all_380 : decode cL_all 380 = .ok (.iconst 0, 1) := by decide +kernel
theorem dL_all_381 : decode cL_all 381 = .ok (.iastore, 1) := by decide +kernel
theorem dL_all_382 : decode cL_all 382 = .ok (.iinc 5 1, 3) := by decide +kernel
theorem dL_all_385 : decode cL_all 385 = .ok (.goto (-33), 3) := by decide +kernel
theorem dL_all_388 : decode cL_all 388 = .ok (.aload_n 3, 1) := by decide +kernel
theorem dL_all_389 : decode cL_all 389 = .ok (.areturn, 1) := by decide +kernel
theorem dL_alike_0 : decode cL_alike 0 = .ok (.aload_n 0, 1) := by decide +kernel
theorem dL_alike_1 : decode cL_alike 1 = .ok (.arraylength, 1) := by decide +kernel
theorem dL_alike_2 : decode cL_alike 2 = .ok (.aload_n 1, 1) := by decide +kernel
theorem dL_alike_3 : decode cL_alike 3 = .ok (.arraylength, 1) := by decide +kernel
theorem dL_alike_4 : decode cL_alike 4 = .ok (.if_icmp .eq 5, 3) := by decide +kernel
theorem dL_alike_7 : decode cL_alike 7 = .ok (.iconst 0, 1) := by decide +kernel
theorem dL_alike_8 : decode cL_alike 8 = .ok (.ireturn, 1) := by decide +kernel
theorem dL_alike_9 : decode cL_alike 9 = .ok (.iconst 0, 1) := by decide +kernel
theorem dL_alike_10 : decode cL_alike 10 = .ok (.istore_n 2, 1) := by decide +kernel
theorem dL_alike_11 : decode cL_alike 11 = .ok (.iload_n 2, 1) := by decide +kernel
theorem dL_alike_12 : decode cL_alike 12 = .ok (.aload_n 0, 1) := by decide +kernel
theorem dL_alike_13 : decode cL_alike 13 = .ok (.arraylength, 1) := by decide +kernel
theorem dL_alike_14 : decode cL_alike 14 = .ok (.if_icmp .ge 20, 3) := by decide +kernel
theorem dL_alike_17 : decode cL_alike 17 = .ok (.aload_n 0, 1) := by decide +kernel
theorem dL_alike_18 : decode cL_alike 18 = .ok (.iload_n 2, 1) := by decide +kernel
theorem dL_alike_19 : decode cL_alike 19 = .ok (.iaload, 1) := by decide +kernel
theorem dL_alike_20 : decode cL_alike 20 = .ok (.aload_n 1, 1) := by decide +kernel
theorem dL_alike_21 : decode cL_alike 21 = .ok (.iload_n 2, 1) := by decide +kernel
theorem dL_alike_22 : decode cL_alike 22 = .ok (.iaload, 1) := by decide +kernel
theorem dL_alike_23 : decode cL_alike 23 = .ok (.if_icmp .eq 5, 3) := by decide +kernel
theorem dL_alike_26 : decode cL_alike 26 = .ok (.iconst 0, 1) := by decide +kernel
theorem dL_alike_27 : decode cL_alike 27 = .ok (.ireturn, 1) := by decide +kernel
theorem dL_alike_28 : decode cL_alike 28 = .ok (.iinc 2 1, 3) := by decide +kernel
theorem dL_alike_31 : decode cL_alike 31 = .ok (.goto (-20), 3) := by decide +kernel
theorem dL_alike_34 : decode cL_alike 34 = .ok (.iconst 1, 1) := by decide +kernel
theorem dL_alike_35 : decode cL_alike 35 = .ok (.ireturn, 1) := by decide +kernel
theorem dL_isRailway_0 : decode cL_isRailway 0 = .ok (.iconst 0, 1) := by decide +kernel
theorem dL_isRailway_1 : decode cL_isRailway 1 = .ok (.istore_n 1, 1) := by decide +kernel
theorem dL_isRailway_2 : decode cL_isRailway 2 = .ok (.iconst 0, 1) := by decide +kernel
theorem dL_isRailway_3 : decode cL_isRailway 3 = .ok (.istore_n 2, 1) := by decide +kernel
theorem dL_isRailway_4 : decode cL_isRailway 4 = .ok (.iconst 0, 1) := by decide +kernel
theorem dL_isRailway_5 : decode cL_isRailway 5 = .ok (.istore_n 3, 1) := by decide +kernel
theorem dL_isRailway_6 : decode cL_isRailway 6 = .ok (.iconst 0, 1) := by decide +kernel
theorem dL_isRailway_7 : decode cL_isRailway 7 = .ok (.istore 4, 2) := by decide +kernel
theorem dL_isRailway_9 : decode cL_isRailway 9 = .ok (.iconst 0, 1) := by decide +kernel
theorem dL_isRailway_10 : decode cL_isRailway 10 = .ok (.istore 5, 2) := by decide +kernel
theorem dL_isRailway_12 : decode cL_isRailway 12 = .ok (.iconst 0, 1) := by decide +kernel
theorem dL_isRailway_13 : decode cL_isRailway 13 = .ok (.istore 6, 2) := by decide +kernel
theorem dL_isRailway_15 : decode cL_isRailway 15 = .ok (.iconst 0, 1) := by decide +kernel
theorem dL_isRailway_16 : decode cL_isRailway 16 = .ok (.istore 7, 2) := by decide +kernel
theorem dL_isRailway_18 : decode cL_isRailway 18 = .ok (.iload 7, 2) := by decide +kernel
theorem dL_isRailway_20 : decode cL_isRailway 20 = .ok (.aload_n 0, 1) := by decide +kernel
theorem dL_isRailway_21 : decode cL_isRailway 21 = .ok (.invokevirtual 36, 3) := by decide +kernel
theorem dL_isRailway_24 : decode cL_isRailway 24 = .ok (.if_icmp .ge 47, 3) := by decide +kernel
theorem dL_isRailway_27 : decode cL_isRailway 27 = .ok (.iload 5, 2) := by decide +kernel
theorem dL_isRailway_29 : decode cL_isRailway 29 = .ok (.aload_n 0, 1) := by decide +kernel
theorem dL_isRailway_30 : decode cL_isRailway 30 = .ok (.iload 7, 2) := by decide +kernel
theorem dL_isRailway_32 : decode cL_isRailway 32 = .ok (.invokevirtual 104, 3) := by decide +kernel
theorem dL_isRailway_35 : decode cL_isRailway 35 = .ok (.ifCond .ge 7, 3) := by decide +kernel
theorem dL_isRailway_38 : decode cL_isRailway 38 = .ok (.iconst 0, 1) := by decide +kernel
theorem dL_isRailway_39 : decode cL_isRailway 39 = .ok (.goto 4, 3) := by decide +kernel
theorem dL_isRailway_42 : decode cL_isRailway 42 = .ok (.iconst 1, 1) := by decide +kernel
theorem dL_isRailway_43 : decode cL_isRailway 43 = .ok (.iadd, 1) := by decide +kernel
theorem dL_isRailway_44 : decode cL_isRailway 44 = .ok (.istore 5, 2) := by decide +kernel
theorem dL_isRailway_46 : decode cL_isRailway 46 = .ok (.iload 6, 2) := by decide +kernel
theorem dL_isRailway_48 : decode cL_isRailway 48 = .ok (.aload_n 0, 1) := by decide +kernel
theorem dL_isRailway_49 : decode cL_isRailway 49 = .ok (.iload 7, 2) := by decide +kernel
theorem dL_isRailway_51 : decode cL_isRailway 51 = .ok (.invokevirtual 107, 3) := by decide +kernel
theorem dL_isRailway_54 : decode cL_isRailway 54 = .ok (.ifCond .eq 7, 3) := by decide +kernel
theorem dL_isRailway_57 : decode cL_isRailway 57 = .ok (.iconst 1, 1) := by decide +kernel
theorem dL_isRailway_58 : decode cL_isRailway 58 = .ok (.goto 4, 3) := by decide +kernel
theorem dL_isRailway_61 : decode cL_isRailway 61 = .ok (.iconst 0, 1) := by decide +kernel
theorem dL_isRailway_62 : decode cL_isRailway 62 = .ok (.iadd, 1) := by decide +kernel
theorem dL_isRailway_63 : decode cL_isRailway 63 = .ok (.istore 6, 2) := by decide +kernel
theorem dL_isRailway_65 : decode cL_isRailway 65 = .ok (.iinc 7 1, 3) := by decide +kernel
theorem dL_isRailway_68 : decode cL_isRailway 68 = .ok (.goto (-50), 3) := by decide +kernel
theorem dL_isRailway_71 : decode cL_isRailway 71 = .ok (.iconst 0, 1) := by decide +kernel
theorem dL_isRailway_72 : decode cL_isRailway 72 = .ok (.istore 7, 2) := by decide +kernel
theorem dL_isRailway_74 : decode cL_isRailway 74 = .ok (.iload 7, 2) := by decide +kernel
theorem dL_isRailway_76 : decode cL_isRailway 76 = .ok (.aload_n 0, 1) := by decide +kernel
theorem dL_isRailway_77 : decode cL_isRailway 77 = .ok (.invokevirtual 30, 3) := by decide +kernel
theorem dL_isRailway_80 : decode cL_isRailway 80 = .ok (.if_icmp .ge 408, 3) := by decide +kernel
theorem dL_isRailway_83 : decode cL_isRailway 83 = .ok (.iconst 0, 1) := by decide +kernel
theorem dL_isRailway_84 : decode cL_isRailway 84 = .ok (.istore 8, 2) := by decide +kernel
theorem dL_isRailway_86 : decode cL_isRailway 86 = .ok (.iconst 0, 1) := by decide +kernel
theorem dL_isRailway_87 : decode cL_isRailway 87 = .ok (.istore 9, 2) := by decide +kernel
theorem dL_isRailway_89 : decode cL_isRailway 89 = .ok (.iload 9, 2) := by decide +kernel
theorem dL_isRailway_91 : decode cL_isRailway 91 = .ok (.aload_n 0, 1) := by decide +kernel
theorem dL_isRailway_92 : decode cL_isRailway 92 = .ok (.invokevirtual 33, 3) := by decide +kernel
theorem dL_isRailway_95 : decode cL_isRailway 95 = .ok (.if_icmp .ge 43, 3) := by decide +kernel
theorem dL_isRailway_98 : decode cL_isRailway 98 = .ok (.iload 8, 2) := by decide +kernel
theorem dL_isRailway_100 : decode cL_isRailway 100 = .ok (.aload_n 0, 1) := by decide +kernel
theorem dL_isRailway_101 : decode cL_isRailway 101 = .ok (.iload 9, 2) := by decide +kernel
theorem dL_isRailway_103 : decode cL_isRailway 103 = .ok (.invokevirtual 91, 3) := by decide +kernel
theorem dL_isRailway_106 : decode cL_isRailway 106 = .ok (.ifCond .eq 18, 3) := by decide +kernel
theorem dL_isRailway_109 : decode cL_isRailway 109 = .ok (.aload_n 0, 1) := by decide +kernel
theorem dL_isRailway_110 : decode cL_isRailway 110 = .ok (.iload 9, 2) := by decide +kernel
theorem dL_isRailway_112 : decode cL_isRailway 112 = .ok (.invokevirtual 91, 3) := by decide +kernel
theorem dL_isRailway_115 : decode cL_isRailway 115 = .ok (.aload_n 0, 1) := by decide +kernel
theorem dL_isRailway_116 : decode cL_isRailway 116 = .ok (.iload 7, 2) := by decide +kernel
theorem dL_isRailway_118 : decode cL_isRailway 118 = .ok (.invokevirtual 51, 3) := by decide +kernel
theorem dL_isRailway_121 : decode cL_isRailway 121 = .ok (.if_icmp .ne 7, 3) := by decide +kernel
theorem dL_isRailway_124 : decode cL_isRailway 124 = .ok (.iconst 1, 1) := by decide +kernel
theorem dL_isRailway_125 : decode cL_isRailway 125 = .ok (.goto 4, 3) := by decide +kernel
theorem dL_isRailway_128 : decode cL_isRailway 128 = .ok (.iconst 0, 1) := by decide +kernel
theorem dL_isRailway_129 : decode cL_isRailway 129 = .ok (.iadd, 1) := by decide +kernel
theorem dL_isRailway_130 : decode cL_isRailway 130 = .ok (.istore 8, 2) := by decide +kernel
theorem dL_isRailway_132 : decode cL_isRailway 132 = .ok (.iinc 9 1, 3) := by decide +kernel
theorem dL_isRailway_135 : decode cL_isRailway 135 = .ok (.goto (-46), 3) := by decide +kernel
theorem dL_isRailway_138 : decode cL_isRailway 138 = .ok (.iload_n 1, 1) := by decide +kernel
theorem dL_isRailway_139 : decode cL_isRailway 139 = .ok (.aload_n 0, 1) := by decide +kernel
theorem dL_isRailway_140 : decode cL_isRailway 140 = .ok (.iload 7, 2) := by decide +kernel
theorem dL_isRailway_142 : decode cL_isRailway 142 = .ok (.invokevirtual 110, 3) := by decide +kernel
theorem dL_isRailway_145 : decode cL_isRailway 145 = .ok (.iadd, 1) := by decide +kernel
theorem dL_isRailway_146 : decode cL_isRailway 146 = .ok (.istore_n 1, 1) := by decide +kernel
theorem dL_isRailway_147 : decode cL_isRailway 147 = .ok (.iload_n 2, 1) := by decide +kernel
theorem dL_isRailway_148 : decode cL_isRailway 148 = .ok (.aload_n 0, 1) := by decide +kernel
theorem dL_isRailway_149 : decode cL_isRailway 149 = .ok (.iload 7, 2) := by decide +kernel
theorem dL_isRailway_151 : decode cL_isRailway 151 = .ok (.invokevirtual 61, 3) := by decide +kernel
theorem dL_isRailway_154 : decode cL_isRailway 154 = .ok (.iadd, 1) := by decide +kernel
theorem dL_isRailway_155 : decode cL_isRailway 155 = .ok (.istore_n 2, 1) := by decide +kernel
theorem dL_isRailway_156 : decode cL_isRailway 156 = .ok (.iload_n 3, 1) := by decide +kernel
theorem dL_isRailway_157 : decode cL_isRailway 157 = .ok (.aload_n 0, 1) := by decide +kernel
theorem dL_isRailway_158 : decode cL_isRailway 158 = .ok (.iload 7, 2) := by decide +kernel
theorem dL_isRailway_160 : decode cL_isRailway 160 = .ok (.invokevirtual 79, 3) := by decide +kernel
theorem dL_isRailway_163 : decode cL_isRailway 163 = .ok (.iadd, 1) := by decide +kernel
theorem dL_isRailway_164 : decode cL_isRailway 164 = .ok (.istore_n 3, 1) := by decide +kernel
theorem dL_isRailway_165 : decode cL_isRailway 165 = .ok (.iload 4, 2) := by decide +kernel
theorem dL_isRailway_167 : decode cL_isRailway 167 = .ok (.aload_n 0, 1) := by decide +kernel
theorem dL_isRailway_168 : decode cL_isRailway 168 = .ok (.iload 7, 2) := by decide +kernel
theorem dL_isRailway_170 : decode cL_isRailway 170 = .ok (.invokevirtual 79, 3) := by decide +kernel
theorem dL_isRailway_173 : decode cL_isRailway 173 = .ok (.aload_n 0, 1) := by decide +kernel
theorem dL_isRailway_174 : decode cL_isRailway 174 = .ok (.iload 7, 2) := by decide +kernel
theorem dL_isRailway_176 : decode cL_isRailway 176 = .ok (.invokevirtual 82, 3) := by decide +kernel
theorem dL_isRailway_179 : decode cL_isRailway 179 = .ok (.iadd, 1) := by decide +kernel
theorem dL_isRailway_180 : decode cL_isRailway 180 = .ok (.aload_n 0, 1) := by decide +kernel
theorem dL_isRailway_181 : decode cL_isRailway 181 = .ok (.iload 7, 2) := by decide +kernel
theorem dL_isRailway_183 : decode cL_isRailway 183 = .ok (.invokevirtual 85, 3) := by decide +kernel
theorem dL_isRailway_186 : decode cL_isRailway 186 = .ok (.iadd, 1) := by decide +kernel
theorem dL_isRailway_187 : decode cL_isRailway 187 = .ok (.iadd, 1) := by decide +kernel
theorem dL_isRailway_188 : decode cL_isRailway 188 = .ok (.istore 4, 2) := by decide +kernel
theorem dL_isRailway_190 : decode cL_isRailway 190 = .ok (.aload_n 0, 1) := by decide +kernel
theorem dL_isRailway_191 : decode cL_isRailway 191 = .ok (.aload_n 0, 1) := by decide +kernel
theorem dL_isRailway_192 : decode cL_isRailway 192 = .ok (.iload 7, 2) := by decide +kernel
theorem dL_isRailway_194 : decode cL_isRailway 194 = .ok (.invokevirtual 55, 3) := by decide +kernel
theorem dL_isRailway_197 : decode cL_isRailway 197 = .ok (.invokevirtual 104, 3) := by decide +kernel
theorem dL_isRailway_200 : decode cL_isRailway 200 = .ok (.iload 7, 2) := by decide +kernel
theorem dL_isRailway_202 : decode cL_isRailway 202 = .ok (.if_icmp .ne 230, 3) := by decide +kernel
theorem dL_isRailway_205 : decode cL_isRailway 205 = .ok (.aload_n 0, 1) := by decide +kernel
theorem dL_isRailway_206 : decode cL_isRailway 206 = .ok (.aload_n 0, 1) := by decide +kernel
theorem dL_isRailway_207 : decode cL_isRailway 207 = .ok (.iload 7, 2) := by decide +kernel
theorem dL_isRailway_209 : decode cL_isRailway 209 = .ok (.invokevirtual 51, 3) := by decide +kernel
theorem dL_isRailway_212 : decode cL_isRailway 212 = .ok (.invokevirtual 113, 3) := by decide +kernel
theorem dL_isRailway_215 : decode cL_isRailway 215 = .ok (.iload 7, 2) := by decide +kernel
theorem dL_isRailway_217 : decode cL_isRailway 217 = .ok (.if_icmp .ne 215, 3) := by decide +kernel
theorem dL_isRailway_220 : decode cL_isRailway 220 = .ok (.aload_n 0, 1) := by decide +kernel
theorem dL_isRailway_221 : decode cL_isRailway 221 = .ok (.iload 7, 2) := by decide +kernel
theorem dL_isRailway_223 : decode cL_isRailway 223 = .ok (.invokevirtual 58, 3) := by decide +kernel
theorem dL_isRailway_226 : decode cL_isRailway 226 = .ok (.ifCond .lt 206, 3) := by decide +kernel
theorem dL_isRailway_229 : decode cL_isRailway 229 = .ok (.aload_n 0, 1) := by decide +kernel
theorem dL_isRailway_230 : decode cL_isRailway 230 = .ok (.iload 7, 2) := by decide +kernel
theorem dL_isRailway_232 : decode cL_isRailway 232 = .ok (.invokevirtual 58, 3) := by decide +kernel
theorem dL_isRailway_235 : decode cL_isRailway 235 = .ok (.bipush 99, 2) := by decide +kernel
theorem dL_isRailway_237 : decode cL_isRailway 237 = .ok (.if_icmp .gt 195, 3) := by decide +kernel
theorem dL_isRailway_240 : decode cL_isRailway 240 = .ok (.aload_n 0, 1) := by decide +kernel
theorem dL_isRailway_241 : decode cL_isRailway 241 = .ok (.iload 7, 2) := by decide +kernel
theorem dL_isRailway_243 : decode cL_isRailway 243 = .ok (.invokevirtual 61, 3) := by decide +kernel
theorem dL_isRailway_246 : decode cL_isRailway 246 = .ok (.ifCond .lt 186, 3) := by decide +kernel
theorem dL_isRailway_249 : decode cL_isRailway 249 = .ok (.aload_n 0, 1) := by decide +kernel
theorem dL_isRailway_250 : decode cL_isRailway 250 = .ok (.iload 7, 2) := by decide +kernel
theorem dL_isRailway_252 : decode cL_isRailway 252 = .ok (.invokevirtual 61, 3) := by decide +kernel
theorem dL_isRailway_255 : decode cL_isRailway 255 = .ok (.bipush 28, 2) := by decide +kernel
theorem dL_isRailway_257 : decode cL_isRailway 257 = .ok (.if_icmp .gt 175, 3) := by decide +kernel
theorem dL_isRailway_260 : decode cL_isRailway 260 = .ok (.aload_n 0, 1) := by decide +kernel
theorem dL_isRailway_261 : decode cL_isRailway 261 = .ok (.iload 7, 2) := by decide +kernel
theorem dL_isRailway_263 : decode cL_isRailway 263 = .ok (.invokevirtual 64, 3) := by decide +kernel
theorem dL_isRailway_266 : decode cL_isRailway 266 = .ok (.bipush 28, 2) := by decide +kernel
theorem dL_isRailway_268 : decode cL_isRailway 268 = .ok (.if_icmp .gt 164, 3) := by decide +kernel
theorem dL_isRailway_271 : decode cL_isRailway 271 = .ok (.aload_n 0, 1) := by decide +kernel
theorem dL_isRailway_272 : decode cL_isRailway 272 = .ok (.iload 7, 2) := by decide +kernel
theorem dL_isRailway_274 : decode cL_isRailway 274 = .ok (.invokevirtual 73, 3) := by decide +kernel
theorem dL_isRailway_277 : decode cL_isRailway 277 = .ok (.bipush 39, 2) := by decide +kernel
theorem dL_isRailway_279 : decode cL_isRailway 279 = .ok (.if_icmp .le 12, 3) := by decide +kernel
theorem dL_isRailway_282 : decode cL_isRailway 282 = .ok (.aload_n 0, 1) := by decide +kernel
theorem dL_isRailway_283 : decode cL_isRailway 283 = .ok (.iload 7, 2) := by decide +kernel
theorem dL_isRailway_285 : decode cL_isRailway 285 = .ok (.invokevirtual 64, 3) := by decide +kernel
theorem dL_isRailway_288 : decode cL_isRailway 288 = .ok (.ifCond .ne 144, 3) := by decide +kernel
theorem dL_isRailway_291 : decode cL_isRailway 291 = .ok (.aload_n 0, 1) := by decide +kernel
theorem dL_isRailway_292 : decode cL_isRailway 292 = .ok (.iload 7, 2) := by decide +kernel
theorem dL_isRailway_294 : decode cL_isRailway 294 = .ok (.invokevirtual 73, 3) := by decide +kernel
theorem dL_isRailway_297 : decode cL_isRailway 297 = .ok (.aload_n 0, 1) := by decide +kernel
theorem dL_isRailway_298 : decode cL_isRailway 298 = .ok (.invokevirtual 39, 3) := by decide +kernel
theorem dL_isRailway_301 : decode cL_isRailway 301 = .ok (.if_icmp .gt 131, 3) := by decide +kernel
theorem dL_isRailway_304 : decode cL_isRailway 304 = .ok (.aload_n 0, 1) := by decide +kernel
theorem dL_isRailway_305 : decode cL_isRailway 305 = .ok (.iload 7, 2) := by decide +kernel
theorem dL_isRailway_307 : decode cL_isRailway 307 = .ok (.invokevirtual 61, 3) := by decide +kernel
theorem dL_isRailway_310 : decode cL_isRailway 310 = .ok (.aload_n 0, 1) := by decide +kernel
theorem dL_isRailway_311 : decode cL_isRailway 311 = .ok (.aload_n 0, 1) := by decide +kernel
theorem dL_isRailway_312 : decode cL_isRailway 312 = .ok (.invokevirtual 116, 3) := by decide +kernel
theorem dL_isRailway_315 : decode cL_isRailway 315 = .ok (.invokevirtual 61, 3) := by decide +kernel
theorem dL_isRailway_318 : decode cL_isRailway 318 = .ok (.if_icmp .gt 114, 3) := by decide +kernel
theorem dL_isRailway_321 : decode cL_isRailway 321 = .ok (.aload_n 0, 1) := by decide +kernel
theorem dL_isRailway_322 : decode cL_isRailway 322 = .ok (.iload 7, 2) := by decide +kernel
theorem dL_isRailway_324 : decode cL_isRailway 324 = .ok (.invokevirtual 119, 3) := by decide +kernel
theorem dL_isRailway_327 : decode cL_isRailway 327 = .ok (.iload 8, 2) := by decide +kernel
theorem dL_isRailway_329 : decode cL_isRailway 329 = .ok (.if_icmp .ne 103, 3) := by decide +kernel
theorem dL_isRailway_332 : decode cL_isRailway 332 = .ok (.aload_n 0, 1) := by decide +kernel
theorem dL_isRailway_333 : decode cL_isRailway 333 = .ok (.iload 7, 2) := by decide +kernel
theorem dL_isRailway_335 : decode cL_isRailway 335 = .ok (.invokevirtual 122, 3) := by decide +kernel
theorem dL_isRailway_338 : decode cL_isRailway 338 = .ok (.ifCond .ne 7, 3) := by decide +kernel
theorem dL_isRailway_341 : decode cL_isRailway 341 = .ok (.iconst 1, 1) := by decide +kernel
theorem dL_isRailway_342 : decode cL_isRailway 342 = .ok (.goto 4, 3) := by decide +kernel
theorem dL_isRailway_345 : decode cL_isRailway 345 = .ok (.iconst 0, 1) := by decide +kernel
theorem dL_isRailway_346 : decode cL_isRailway 346 = .ok (.aload_n 0, 1) := by decide +kernel
theorem dL_isRailway_347 : decode cL_isRailway 347 = .ok (.iload 7, 2) := by decide +kernel
theorem dL_isRailway_349 : decode cL_isRailway 349 = .ok (.invokevirtual 61, 3) := by decide +kernel
theorem dL_isRailway_352 : decode cL_isRailway 352 = .ok (.ifCond .ne 7, 3) := by decide +kernel
theorem dL_isRailway_355 : decode cL_isRailway 355 = .ok (.iconst 1, 1) := by decide +kernel
theorem dL_isRailway_356 : decode cL_isRailway 356 = .ok (.goto 4, 3) := by decide +kernel
theorem dL_isRailway_359 : decode cL_isRailway 359 = .ok (.iconst 0, 1) := by decide +kernel
theorem dL_isRailway_360 : decode cL_isRailway 360 = .ok (.if_icmp .ne 72, 3) := by decide +kernel
theorem dL_isRailway_363 : decode cL_isRailway 363 = .ok (.aload_n 0, 1) := by decide +kernel
theorem dL_isRailway_364 : decode cL_isRailway 364 = .ok (.iload 7, 2) := by decide +kernel
theorem dL_isRailway_366 : decode cL_isRailway 366 = .ok (.invokevirtual 122, 3) := by decide +kernel
theorem dL_isRailway_369 : decode cL_isRailway 369 = .ok (.aload_n 0, 1) := by decide +kernel
theorem dL_isRailway_370 : decode cL_isRailway 370 = .ok (.iload 7, 2) := by decide +kernel
theorem dL_isRailway_372 : decode cL_isRailway 372 = .ok (.invokevirtual 61, 3) := by decide +kernel
theorem dL_isRailway_375 : decode cL_isRailway 375 = .ok (.if_icmp .gt 57, 3) := by decide +kernel
theorem dL_isRailway_378 : decode cL_isRailway 378 = .ok (.aload_n 0, 1) := by decide +kernel
theorem dL_isRailway_379 : decode cL_isRailway 379 = .ok (.iload 7, 2) := by decide +kernel
theorem dL_isRailway_381 : decode cL_isRailway 381 = .ok (.invokevirtual 125, 3) := by decide +kernel
theorem dL_isRailway_384 : decode cL_isRailway 384 = .ok (.aload_n 0, 1) := by decide +kernel
theorem dL_isRailway_385 : decode cL_isRailway 385 = .ok (.iload 7, 2) := by decide +kernel
theorem dL_isRailway_387 : decode cL_isRailway 387 = .ok (.invokevirtual 61, 3) := by decide +kernel
theorem dL_isRailway_390 : decode cL_isRailway 390 = .ok (.aload_n 0, 1) := by decide +kernel
theorem dL_isRailway_391 : decode cL_isRailway 391 = .ok (.iload 7, 2) := by decide +kernel
theorem dL_isRailway_393 : decode cL_isRailway 393 = .ok (.invokevirtual 122, 3) := by decide +kernel
theorem dL_isRailway_396 : decode cL_isRailway 396 = .ok (.imul, 1) := by decide +kernel
theorem dL_isRailway_397 : decode cL_isRailway 397 = .ok (.if_icmp .gt 35, 3) := by decide +kernel
theorem dL_isRailway_400 : decode cL_isRailway 400 = .ok (.aload_n 0, 1) := by decide +kernel
theorem dL_isRailway_401 : decode cL_isRailway 401 = .ok (.iload 7, 2) := by decide +kernel
theorem dL_isRailway_403 : decode cL_isRailway 403 = .ok (.iconst 0, 1) := by decide +kernel
theorem dL_isRailway_404 : decode cL_isRailway 404 = .ok (.invokevirtual 128, 3) := by decide +kernel
theorem dL_isRailway_407 : decode cL_isRailway 407 = .ok (.aload_n 0, 1) := by decide +kernel
theorem dL_isRailway_408 : decode cL_isRailway 408 = .ok (.iload 7, 2) := by decide +kernel
theorem dL_isRailway_410 : decode cL_isRailway 410 = .ok (.invokevirtual 55, 3) := by decide +kernel
theorem dL_isRailway_413 : decode cL_isRailway 413 = .ok (.if_icmp .ne 19, 3) := by decide +kernel
theorem dL_isRailway_416 : decode cL_isRailway 416 = .ok (.aload_n 0, 1) := by decide +kernel
theorem dL_isRailway_417 : decode cL_isRailway 417 = .ok (.iload 7, 2) := by decide +kernel
theorem dL_isRailway_419 : decode cL_isRailway 419 = .ok (.iconst 0, 1) := by decide +kernel
theorem dL_isRailway_420 : decode cL_isRailway 420 = .ok (.invokevirtual 132, 3) := by decide +kernel
theorem dL_isRailway_423 : decode cL_isRailway 423 = .ok (.aload_n 0, 1) := by decide +kernel
theorem dL_isRailway_424 : decode cL_isRailway 424 = .ok (.iload 7, 2) := by decide +kernel
theorem dL_isRailway_426 : decode cL_isRailway 426 = .ok (.invokevirtual 61, 3) := by decide +kernel
theorem dL_isRailway_429 : decode cL_isRailway 429 = .ok (.if_icmp .eq 5, 3) := by decide +kernel
theorem dL_isRailway_432 : decode cL_isRailway 432 = .ok (.iconst 0, 1) := by decide +kernel
theorem dL_isRailway_433 : decode cL_isRailway 433 = .ok (.ireturn, 1) := by decide +kernel
theorem dL_isRailway_434 : decode cL_isRailway 434 = .ok (.iconst 0, 1) := by decide +kernel
theorem dL_isRailway_435 : decode cL_isRailway 435 = .ok (.istore 9, 2) := by decide +kernel
theorem dL_isRailway_437 : decode cL_isRailway 437 = .ok (.iload 9, 2) := by decide +kernel
theorem dL_isRailway_439 : decode cL_isRailway 439 = .ok (.iload 7, 2) := by decide +kernel
theorem dL_isRailway_441 : decode cL_isRailway 441 = .ok (.if_icmp .ge 41, 3) := by decide +kernel
theorem dL_isRailway_444 : decode cL_isRailway 444 = .ok (.aload_n 0, 1) := by decide +kernel
theorem dL_isRailway_445 : decode cL_isRailway 445 = .ok (.iload 9, 2) := by decide +kernel
theorem dL_isRailway_447 : decode cL_isRailway 447 = .ok (.invokevirtual 55, 3) := by decide +kernel
theorem dL_isRailway_450 : decode cL_isRailway 450 = .ok (.aload_n 0, 1) := by decide +kernel
theorem dL_isRailway_451 : decode cL_isRailway 451 = .ok (.iload 7, 2) := by decide +kernel
theorem dL_isRailway_453 : decode cL_isRailway 453 = .ok (.invokevirtual 55, 3) := by decide +kernel
theorem dL_isRailway_456 : decode cL_isRailway 456 = .ok (.if_icmp .eq 18, 3) := by decide +kernel
theorem dL_isRailway_459 : decode cL_isRailway 459 = .ok (.aload_n 0, 1) := by decide +kernel
theorem dL_isRailway_460 : decode cL_isRailway 460 = .ok (.iload 9, 2) := by decide +kernel
theorem dL_isRailway_462 : decode cL_isRailway 462 = .ok (.invokevirtual 51, 3) := by decide +kernel
theorem dL_isRailway_465 : decode cL_isRailway 465 = .ok (.aload_n 0, 1) := by decide +kernel
theorem dL_isRailway_466 : decode cL_isRailway 466 = .ok (.iload 7, 2) := by decide +kernel
theorem dL_isRailway_468 : decode cL_isRailway 468 = .ok (.invokevirtual 51, 3) := by decide +kernel
theorem dL_isRailway_471 : decode cL_isRailway 471 = .ok (.if_icmp .ne 5, 3) := by decide +kernel
theorem dL_isRailway_474 : decode cL_isRailway 474 = .ok (.iconst 0, 1) := by decide +kernel
theorem dL_isRailway_475 : decode cL_isRailway 475 = .ok (.ireturn, 1) := by decide +kernel
theorem dL_isRailway_476 : decode cL_isRailway 476 = .ok (.iinc 9 1, 3) := by decide +kernel
theorem dL_isRailway_479 : decode cL_isRailway 479 = .ok (.goto (-42), 3) := by decide +kernel
theorem dL_isRailway_482 : decode cL_isRailway 482 = .ok (.iinc 7 1, 3) := by decide +kernel
theorem dL_isRailway_485 : decode cL_isRailway 485 = .ok (.goto (-411), 3) := by decide +kernel
theorem dL_isRailway_488 : decode cL_isRailway 488 = .ok (.iconst 0, 1) := by decide +kernel
theorem dL_isRailway_489 : decode cL_isRailway 489 = .ok (.istore 7, 2) := by decide +kernel
theorem dL_isRailway_491 : decode cL_isRailway 491 = .ok (.iload 7, 2) := by decide +kernel
theorem dL_isRailway_493 : decode cL_isRailway 493 = .ok (.aload_n 0, 1) := by decide +kernel
theorem dL_isRailway_494 : decode cL_isRailway 494 = .ok (.invokevirtual 33, 3) := by decide +kernel
theorem dL_isRailway_497 : decode cL_isRailway 497 = .ok (.if_icmp .ge 30, 3) := by decide +kernel
theorem dL_isRailway_500 : decode cL_isRailway 500 = .ok (.aload_n 0, 1) := by decide +kernel
theorem dL_isRailway_501 : decode cL_isRailway 501 = .ok (.aload_n 0, 1) := by decide +kernel
theorem dL_isRailway_502 : decode cL_isRailway 502 = .ok (.iload 7, 2) := by decide +kernel
theorem dL_isRailway_504 : decode cL_isRailway 504 = .ok (.invokevirtual 91, 3) := by decide +kernel
theorem dL_isRailway_507 : decode cL_isRailway 507 = .ok (.aload_n 0, 1) := by decide +kernel
theorem dL_isRailway_508 : decode cL_isRailway 508 = .ok (.iload 7, 2) := by decide +kernel
theorem dL_isRailway_510 : decode cL_isRailway 510 = .ok (.invokevirtual 94, 3) := by decide +kernel
theorem dL_isRailway_513 : decode cL_isRailway 513 = .ok (.invokevirtual 135, 3) := by decide +kernel
theorem dL_isRailway_516 : decode cL_isRailway 516 = .ok (.ifCond .ge 5, 3) := by decide +kernel
theorem dL_isRailway_519 : decode cL_isRailway 519 = .ok (.iconst 0, 1) := by decide +kernel
theorem dL_isRailway_520 : decode cL_isRailway 520 = .ok (.ireturn, 1) := by decide +kernel
theorem dL_isRailway_521 : decode cL_isRailway 521 = .ok (.iinc 7 1, 3) := by decide +kernel
theorem dL_isRailway_524 : decode cL_isRailway 524 = .ok (.goto (-33), 3) := by decide +kernel
theorem dL_isRailway_527 : decode cL_isRailway 527 = .ok (.iload 5, 2) := by decide +kernel
theorem dL_isRailway_529 : decode cL_isRailway 529 = .ok (.aload_n 0, 1) := by decide +kernel
theorem dL_isRailway_530 : decode cL_isRailway 530 = .ok (.invokevirtual 30, 3) := by decide +kernel
theorem dL_isRailway_533 : decode cL_isRailway 533 = .ok (.if_icmp .ne 105, 3) := by decide +kernel
theorem dL_isRailway_536 : decode cL_isRailway 536 = .ok (.iload 6, 2) := by decide +kernel
theorem dL_isRailway_538 : decode cL_isRailway 538 = .ok (.aload_n 0, 1) := by decide +kernel
theorem dL_isRailway_539 : decode cL_isRailway 539 = .ok (.invokevirtual 138, 3) := by decide +kernel
theorem dL_isRailway_542 : decode cL_isRailway 542 = .ok (.if_icmp .ne 96, 3) := by decide +kernel
theorem dL_isRailway_545 : decode cL_isRailway 545 = .ok (.iload_n 1, 1) := by decide +kernel
theorem dL_isRailway_546 : decode cL_isRailway 546 = .ok (.aload_n 0, 1) := by decide +kernel
theorem dL_isRailway_547 : decode cL_isRailway 547 = .ok (.invokevirtual 36, 3) := by decide +kernel
theorem dL_isRailway_550 : decode cL_isRailway 550 = .ok (.aload_n 0, 1) := by decide +kernel
theorem dL_isRailway_551 : decode cL_isRailway 551 = .ok (.invokevirtual 30, 3) := by decide +kernel
theorem dL_isRailway_554 : decode cL_isRailway 554 = .ok (.isub, 1) := by decide +kernel
theorem dL_isRailway_555 : decode cL_isRailway 555 = .ok (.if_icmp .ne 83, 3) := by decide +kernel
theorem dL_isRailway_558 : decode cL_isRailway 558 = .ok (.aload_n 0, 1) := by decide +kernel
theorem dL_isRailway_559 : decode cL_isRailway 559 = .ok (.invokevirtual 141, 3) := by decide +kernel
theorem dL_isRailway_562 : decode cL_isRailway 562 = .ok (.aload_n 0, 1) := by decide +kernel
theorem dL_isRailway_563 : decode cL_isRailway 563 = .ok (.invokevirtual 42, 3) := by decide +kernel
theorem dL_isRailway_566 : decode cL_isRailway 566 = .ok (.ifCond .ne 7, 3) := by decide +kernel
theorem dL_isRailway_569 : decode cL_isRailway 569 = .ok (.iconst 1, 1) := by decide +kernel
theorem dL_isRailway_570 : decode cL_isRailway 570 = .ok (.goto 4, 3) := by decide +kernel
theorem dL_isRailway_573 : decode cL_isRailway 573 = .ok (.iconst 0, 1) := by decide +kernel
theorem dL_isRailway_574 : decode cL_isRailway 574 = .ok (.if_icmp .ne 64, 3) := by decide +kernel
theorem dL_isRailway_577 : decode cL_isRailway 577 = .ok (.aload_n 0, 1) := by decide +kernel
theorem dL_isRailway_578 : decode cL_isRailway 578 = .ok (.invokevirtual 145, 3) := by decide +kernel
theorem dL_isRailway_581 : decode cL_isRailway 581 = .ok (.iload_n 2, 1) := by decide +kernel
theorem dL_isRailway_582 : decode cL_isRailway 582 = .ok (.i2d, 1) := by decide +kernel
theorem dL_isRailway_583 : decode cL_isRailway 583 = .ok (.aload_n 0, 1) := by decide +kernel
theorem dL_isRailway_584 : decode cL_isRailway 584 = .ok (.invokevirtual 30, 3) := by decide +kernel
theorem dL_isRailway_587 : decode cL_isRailway 587 = .ok (.i2d, 1) := by decide +kernel
theorem dL_isRailway_588 : decode cL_isRailway 588 = .ok (.ddiv, 1) := by decide +kernel
theorem dL_isRailway_589 : decode cL_isRailway 589 = .ok (.dcmp .l, 1) := by decide +kernel
theorem dL_isRailway_590 : decode cL_isRailway 590 = .ok (.ifCond .ne 48, 3) := by decide +kernel
theorem dL_isRailway_593 : decode cL_isRailway 593 = .ok (.aload_n 0, 1) := by decide +kernel
theorem dL_isRailway_594 : decode cL_isRailway 594 = .ok (.invokevirtual 149, 3) := by decide +kernel
theorem dL_isRailway_597 : decode cL_isRailway 597 = .ok (.iload 4, 2) := by decide +kernel
theorem dL_isRailway_599 : decode cL_isRailway 599 = .ok (.ifCond .ne 7, 3) := by decide +kernel
theorem dL_isRailway_602 : decode cL_isRailway 602 = .ok (.fconst 0, 1) := by decide +kernel
theorem dL_isRailway_603 : decode cL_isRailway 603 = .ok (.goto 9, 3) := by decide +kernel
theorem dL_isRailway_606 : decode cL_isRailway 606 = .ok (.iload_n 3, 1) := by decide +kernel
theorem dL_isRailway_607 : decode cL_isRailway 607 = .ok (.i2f, 1) := by decide +kernel
theorem dL_isRailway_608 : decode cL_isRailway 608 = .ok (.iload 4, 2) := by decide +kernel
theorem dL_isRailway_610 : decode cL_isRailway 610 = .ok (.i2f, 1) := by decide +kernel
theorem dL_isRailway_611 : decode cL_isRailway 611 = .ok (.fdiv, 1) := by decide +kernel
theorem dL_isRailway_612 : decode cL_isRailway 612 = .ok (.fcmp .l, 1) := by decide +kernel
theorem dL_isRailway_613 : decode cL_isRailway 613 = .ok (.ifCond .ne 25, 3) := by decide +kernel
theorem dL_isRailway_616 : decode cL_isRailway 616 = .ok (.aload_n 0, 1) := by decide +kernel
theorem dL_isRailway_617 : decode cL_isRailway 617 = .ok (.invokevirtual 153, 3) := by decide +kernel
theorem dL_isRailway_620 : decode cL_isRailway 620 = .ok (.aload_n 0, 1) := by decide +kernel
theorem dL_isRailway_621 : decode cL_isRailway 621 = .ok (.invokevirtual 36, 3) := by decide +kernel
theorem dL_isRailway_624 : decode cL_isRailway 624 = .ok (.if_icmp .ne 14, 3) := by decide +kernel
theorem dL_isRailway_627 : decode cL_isRailway 627 = .ok (.aload_n 0, 1) := by decide +kernel
theorem dL_isRailway_628 : decode cL_isRailway 628 = .ok (.invokevirtual 156, 3) := by decide +kernel
theorem dL_isRailway_631 : decode cL_isRailway 631 = .ok (.ifCond .ne 7, 3) := by decide +kernel
theorem dL_isRailway_634 : decode cL_isRailway 634 = .ok (.iconst 1, 1) := by decide +kernel
theorem dL_isRailway_635 : decode cL_isRailway 635 = .ok (.goto 4, 3) := by decide +kernel
theorem dL_isRailway_638 : decode cL_isRailway 638 = .ok (.iconst 0, 1) := by decide +kernel
theorem dL_isRailway_639 : decode cL_isRailway 639 = .ok (.ireturn, 1) := by decide +kernel
theorem dL_tick_0 : decode cL_tick 0 = .ok (.aload_n 0, 1) := by decide +kernel
theorem dL_tick_1 : decode cL_tick 1 = .ok (.invokevirtual 30, 3) := by decide +kernel
theorem dL_tick_4 : decode cL_tick 4 = .ok (.istore_n 1, 1) := by decide +kernel
theorem dL_tick_5 : decode cL_tick 5 = .ok (.aload_n 0, 1) := by decide +kernel
theorem dL_tick_6 : decode cL_tick 6 = .ok (.invokevirtual 141, 3) := by decide +kernel
theorem dL_tick_9 : decode cL_tick 9 = .ok (.ifCond .eq 14, 3) := by decide +kernel
theorem dL_tick_12 : decode cL_tick 12 = .ok (.aload_n 0, 1) := by decide +kernel
theorem dL_tick_13 : decode cL_tick 13 = .ok (.invokevirtual 33, 3) := by decide +kernel
theorem dL_tick_16 : decode cL_tick 16 = .ok (.ifCond .le 7, 3) := by decide +kernel
theorem dL_tick_19 : decode cL_tick 19 = .ok (.iconst 1, 1) := by decide +kernel
theorem dL_tick_20 : decode cL_tick 20 = .ok (.goto 4, 3) := by decide +kernel
theorem dL_tick_23 : decode cL_tick 23 = .ok (.iconst 0, 1) := by decide +kernel
theorem dL_tick_24 : decode cL_tick 24 = .ok (.istore_n 2, 1) := by decide +kernel
theorem dL_tick_25 : decode cL_tick 25 = .ok (.iload_n 2, 1) := by decide +kernel
theorem dL_tick_26 : decode cL_tick 26 = .ok (.ifCond .eq 11, 3) := by decide +kernel
theorem dL_tick_29 : decode cL_tick 29 = .ok (.aload_n 0, 1) := by decide +kernel
theorem dL_tick_30 : decode cL_tick 30 = .ok (.iconst 0, 1) := by decide +kernel
theorem dL_tick_31 : decode cL_tick 31 = .ok (.invokevirtual 91, 3) := by decide +kernel
theorem dL_tick_34 : decode cL_tick 34 = .ok (.goto 4, 3) := by decide +kernel
theorem dL_tick_37 : decode cL_tick 37 = .ok (.iconst (-1), 1) := by decide +kernel
theorem dL_tick_38 : decode cL_tick 38 = .ok (.istore_n 3, 1) := by decide +kernel
theorem dL_tick_39 : decode cL_tick 39 = .ok (.iload_n 2, 1) := by decide +kernel
theorem dL_tick_40 : decode cL_tick 40 = .ok (.ifCond .eq 11, 3) := by decide +kernel
theorem dL_tick_43 : decode cL_tick 43 = .ok (.aload_n 0, 1) := by decide +kernel
theorem dL_tick_44 : decode cL_tick 44 = .ok (.iconst 0, 1) := by decide +kernel
theorem dL_tick_45 : decode cL_tick 45 = .ok (.invokevirtual 94, 3) := by decide +kernel
theorem dL_tick_48 : decode cL_tick 48 = .ok (.goto 4, 3) := by decide +kernel
theorem dL_tick_51 : decode cL_tick 51 = .ok (.iconst 0, 1) := by decide +kernel
theorem dL_tick_52 : decode cL_tick 52 = .ok (.istore 4, 2) := by decide +kernel
theorem dL_tick_54 : decode cL_tick 54 = .ok (.iload_n 2, 1) := by decide +kernel
theorem dL_tick_55 : decode cL_tick 55 = .ok (.ifCond .eq 15, 3) := by decide +kernel
theorem dL_tick_58 : decode cL_tick 58 = .ok (.aload_n 0, 1) := by decide +kernel
theorem dL_tick_59 : decode cL_tick 59 = .ok (.iconst 0, 1) := by decide +kernel
theorem dL_tick_60 : decode cL_tick 60 = .ok (.invokevirtual 97, 3) := by decide +kernel
theorem dL_tick_63 : decode cL_tick 63 = .ok (.ifCond .eq 7, 3) := by decide +kernel
theorem dL_tick_66 : decode cL_tick 66 = .ok (.iconst 1, 1) := by decide +kernel
theorem dL_tick_67 : decode cL_tick 67 = .ok (.goto 4, 3) := by decide +kernel
theorem dL_tick_70 : decode cL_tick 70 = .ok (.iconst 0, 1) := by decide +kernel
theorem dL_tick_71 : decode cL_tick 71 = .ok (.istore 5, 2) := by decide +kernel
theorem dL_tick_73 : decode cL_tick 73 = .ok (.iload_n 1, 1) := by decide +kernel
theorem dL_tick_74 : decode cL_tick 74 = .ok (.newarray .int, 2) := by decide +kernel
theorem dL_tick_76 : decode cL_tick 76 = .ok (.astore 6, 2) := by decide +kernel
theorem dL_tick_78 : decode cL_tick 78 = .ok (.iload_n 1, 1) := by decide +kernel
theorem dL_tick_79 : decode cL_tick 79 = .ok (.newarray .int, 2) := by decide +kernel
theorem dL_tick_81 : decode cL_tick 81 = .ok (.astore 7, 2) := by decide +kernel
theorem dL_tick_83 : decode cL_tick 83 = .ok (.iload_n 1, 1) := by decide +kernel
theorem dL_tick_84 : decode cL_tick 84 = .ok (.newarray .int, 2) := by decide +kernel
theorem dL_tick_86 : decode cL_tick 86 = .ok (.astore 8, 2) := by decide +kernel
theorem dL_tick_88 : decode cL_tick 88 = .ok (.iload_n 1, 1) := by decide +kernel
theorem dL_tick_89 : decode cL_tick 89 = .ok (.newarray .int, 2) := by decide +kernel
theorem dL_tick_91 : decode cL_tick 91 = .ok (.astore 9, 2) := by decide +kernel
theorem dL_tick_93 : decode cL_tick 93 = .ok (.iload_n 1, 1) := by decide +kernel
theorem dL_tick_94 : decode cL_tick 94 = .ok (.newarray .boolean, 2) := by decide +kernel
theorem dL_tick_96 : decode cL_tick 96 = .ok (.astore 10, 2) := by decide +kernel
theorem dL_tick_98 : decode cL_tick 98 = .ok (.iconst 0, 1) := by decide +kernel
theorem dL_tick_99 : decode cL_tick 99 = .ok (.istore 11, 2) := by decide +kernel
theorem dL_tick_101 : decode cL_tick 101 = .ok (.iload 11, 2) := by decide +kernel
theorem dL_tick_103 : decode cL_tick 103 = .ok (.iload_n 1, 1) := by decide +kernel
theorem dL_tick_104 : decode cL_tick 104 = .ok (.if_icmp .ge 68, 3) := by decide +kernel
theorem dL_tick_107 : decode cL_tick 107 = .ok (.aload 6, 2) := by decide +kernel
theorem dL_tick_109 : decode cL_tick 109 = .ok (.iload 11, 2) := by decide +kernel
theorem dL_tick_111 : decode cL_tick 111 = .ok (.aload_n 0, 1) := by decide +kernel
theorem dL_tick_112 : decode cL_tick 112 = .ok (.iload 11, 2) := by decide +kernel
theorem dL_tick_114 : decode cL_tick 114 = .ok (.invokevirtual 79, 3) := by decide +kernel
theorem dL_tick_117 : decode cL_tick 117 = .ok (.iastore, 1) := by decide +kernel
theorem dL_tick_118 : decode cL_tick 118 = .ok (.aload 7, 2) := by decide +kernel
theorem dL_tick_120 : decode cL_tick 120 = .ok (.iload 11, 2) := by decide +kernel
theorem dL_tick_122 : decode cL_tick 122 = .ok (.aload_n 0, 1) := by decide +kernel
theorem dL_tick_123 : decode cL_tick 123 = .ok (.iload 11, 2) := by decide +kernel
theorem dL_tick_125 : decode cL_tick 125 = .ok (.invokevirtual 85, 3) := by decide +kernel
theorem dL_tick_128 : decode cL_tick 128 = .ok (.iastore, 1) := by decide +kernel
theorem dL_tick_129 : decode cL_tick 129 = .ok (.aload 8, 2) := by decide +kernel
theorem dL_tick_131 : decode cL_tick 131 = .ok (.iload 11, 2) := by decide +kernel
theorem dL_tick_133 : decode cL_tick 133 = .ok (.aload_n 0, 1) := by decide +kernel
theorem dL_tick_134 : decode cL_tick 134 = .ok (.iload 11, 2) := by decide +kernel
theorem dL_tick_136 : decode cL_tick 136 = .ok (.invokevirtual 82, 3) := by decide +kernel
theorem dL_tick_139 : decode cL_tick 139 = .ok (.iastore, 1) := by decide +kernel
theorem dL_tick_140 : decode cL_tick 140 = .ok (.aload 9, 2) := by decide +kernel
theorem dL_tick_142 : decode cL_tick 142 = .ok (.iload 11, 2) := by decide +kernel
theorem dL_tick_144 : decode cL_tick 144 = .ok (.aload_n 0, 1) := by decide +kernel
theorem dL_tick_145 : decode cL_tick 145 = .ok (.iload 11, 2) := by decide +kernel
theorem dL_tick_147 : decode cL_tick 147 = .ok (.invokevirtual 64, 3) := by decide +kernel
theorem dL_tick_150 : decode cL_tick 150 = .ok (.iastore, 1) := by decide +kernel
theorem dL_tick_151 : decode cL_tick 151 = .ok (.aload 10, 2) := by decide +kernel
theorem dL_tick_153 : decode cL_tick 153 = .ok (.iload 11, 2) := by decide +kernel
theorem dL_tick_155 : decode cL_tick 155 = .ok (.aload_n 0, 1) := by decide +kernel
theorem dL_tick_156 : decode cL_tick 156 = .ok (.aload_n 0, 1) := by decide +kernel
theorem dL_tick_157 : decode cL_tick 157 = .ok (.iload 11, 2) := by decide +kernel
theorem dL_tick_159 : decode cL_tick 159 = .ok (.invokevirtual 55, 3) := by decide +kernel
theorem dL_tick_162 : decode cL_tick 162 = .ok (.invokevirtual 107, 3) := by decide +kernel
theorem dL_tick_165 : decode cL_tick 165 = .ok (.bastore, 1) := by decide +kernel
theorem dL_tick_166 : decode cL_tick 166 = .ok (.iinc 11 1, 3) := by decide +kernel
theorem dL_tick_169 : decode cL_tick 169 = .ok (.goto (-68), 3) := by decide +kernel
theorem dL_tick_172 : decode cL_tick 172 = .ok (.aload_n 0, 1) := by decide +kernel
theorem dL_tick_173 : decode cL_tick 173 = .ok (.invokevirtual 48, 3) := by decide +kernel
theorem dL_tick_176 : decode cL_tick 176 = .ok (.istore 11, 2) := by decide +kernel
theorem dL_tick_178 : decode cL_tick 178 = .ok (.aload_n 0, 1) := by decide +kernel
theorem dL_tick_179 : decode cL_tick 179 = .ok (.iconst 1, 1) := by decide +kernel
theorem dL_tick_180 : decode cL_tick 180 = .ok (.invokevirtual 159, 3) := by decide +kernel
theorem dL_tick_183 : decode cL_tick 183 = .ok (.iload_n 2, 1) := by decide +kernel
theorem dL_tick_184 : decode cL_tick 184 = .ok (.ifCond .eq 7, 3) := by decide +kernel
theorem dL_tick_187 : decode cL_tick 187 = .ok (.iconst 1, 1) := by decide +kernel
theorem dL_tick_188 : decode cL_tick 188 = .ok (.goto 4, 3) := by decide +kernel
theorem dL_tick_191 : decode cL_tick 191 = .ok (.iconst 0, 1) := by decide +kernel
theorem dL_tick_192 : decode cL_tick 192 = .ok (.if_icmp .ne 22, 3) := by decide +kernel
theorem dL_tick_195 : decode cL_tick 195 = .ok (.aload_n 0, 1) := by decide +kernel
theorem dL_tick_196 : decode cL_tick 196 = .ok (.invokevirtual 48, 3) := by decide +kernel
theorem dL_tick_199 : decode cL_tick 199 = .ok (.iload 11, 2) := by decide +kernel
theorem dL_tick_201 : decode cL_tick 201 = .ok (.iload_n 2, 1) := by decide +kernel
theorem dL_tick_202 : decode cL_tick 202 = .ok (.ifCond .eq 7, 3) := by decide +kernel
theorem dL_tick_205 : decode cL_tick 205 = .ok (.iconst 1, 1) := by decide +kernel
theorem dL_tick_206 : decode cL_tick 206 = .ok (.goto 4, 3) := by decide +kernel
theorem dL_tick_209 : decode cL_tick 209 = .ok (.iconst 0, 1) := by decide +kernel
theorem dL_tick_210 : decode cL_tick 210 = .ok (.iadd, 1) := by decide +kernel
theorem dL_tick_211 : decode cL_tick 211 = .ok (.if_icmp .eq 5, 3) := by decide +kernel
theorem dL_tick_214 : decode cL_tick 214 = .ok (.iconst 0, 1) := by decide +kernel
theorem dL_tick_215 : decode cL_tick 215 = .ok (.ireturn, 1) := by decide +kernel
theorem dL_tick_216 : decode cL_tick 216 = .ok (.iconst 0, 1) := by decide +kernel
theorem dL_tick_217 : decode cL_tick 217 = .ok (.istore 12, 2) := by decide +kernel
theorem dL_tick_219 : decode cL_tick 219 = .ok (.iload 12, 2) := by decide +kernel
theorem dL_tick_221 : decode cL_tick 221 = .ok (.iload_n 1, 1) := by decide +kernel
theorem dL_tick_222 : decode cL_tick 222 = .ok (.if_icmp .ge 256, 3) := by decide +kernel
theorem dL_tick_225 : decode cL_tick 225 = .ok (.iload_n 2, 1) := by decide +kernel
theorem dL_tick_226 : decode cL_tick 226 = .ok (.ifCond .eq 21, 3) := by decide +kernel
theorem dL_tick_229 : decode cL_tick 229 = .ok (.iload_n 3, 1) := by decide +kernel
theorem dL_tick_230 : decode cL_tick 230 = .ok (.ifCond .eq 13, 3) := by decide +kernel
theorem dL_tick_233 : decode cL_tick 233 = .ok (.iload_n 3, 1) := by decide +kernel
theorem dL_tick_234 : decode cL_tick 234 = .ok (.aload_n 0, 1) := by decide +kernel
theorem dL_tick_235 : decode cL_tick 235 = .ok (.iload 12, 2) := by decide +kernel
theorem dL_tick_237 : decode cL_tick 237 = .ok (.invokevirtual 51, 3) := by decide +kernel
theorem dL_tick_240 : decode cL_tick 240 = .ok (.if_icmp .ne 7, 3) := by decide +kernel
theorem dL_tick_243 : decode cL_tick 243 = .ok (.iconst 1, 1) := by decide +kernel
theorem dL_tick_244 : decode cL_tick 244 = .ok (.goto 4, 3) := by decide +kernel
theorem dL_tick_247 : decode cL_tick 247 = .ok (.iconst 0, 1) := by decide +kernel
theorem dL_tick_248 : decode cL_tick 248 = .ok (.istore 13, 2) := by decide +kernel
theorem dL_tick_250 : decode cL_tick 250 = .ok (.iload 13, 2) := by decide +kernel
theorem dL_tick_252 : decode cL_tick 252 = .ok (.ifCond .eq 20, 3) := by decide +kernel
theorem dL_tick_255 : decode cL_tick 255 = .ok (.aload 10, 2) := by decide +kernel
theorem dL_tick_257 : decode cL_tick 257 = .ok (.iload 12, 2) := by decide +kernel
theorem dL_tick_259 : decode cL_tick 259 = .ok (.baload, 1) := by decide +kernel
theorem dL_tick_260 : decode cL_tick 260 = .ok (.ifCond .ne 12, 3) := by decide +kernel
theorem dL_tick_263 : decode cL_tick 263 = .ok (.iload 5, 2) := by decide +kernel
theorem dL_tick_265 : decode cL_tick 265 = .ok (.ifCond .eq 7, 3) := by decide +kernel
theorem dL_tick_268 : decode cL_tick 268 = .ok (.iconst 1, 1) := by decide +kernel
theorem dL_tick_269 : decode cL_tick 269 = .ok (.goto 4, 3) := by decide +kernel
theorem dL_tick_272 : decode cL_tick 272 = .ok (.iconst 0, 1) := by decide +kernel
theorem dL_tick_273 : decode cL_tick 273 = .ok (.istore 14, 2) := by decide +kernel
theorem dL_tick_275 : decode cL_tick 275 = .ok (.iload 14, 2) := by decide +kernel
theorem dL_tick_277 : decode cL_tick 277 = .ok (.ifCond .ne 11, 3) := by decide +kernel
theorem dL_tick_280 : decode cL_tick 280 = .ok (.aload 9, 2) := by decide +kernel
theorem dL_tick_282 : decode cL_tick 282 = .ok (.iload 12, 2) := by decide +kernel
theorem dL_tick_284 : decode cL_tick 284 = .ok (.iaload, 1) := by decide +kernel
theorem dL_tick_285 : decode cL_tick 285 = .ok (.goto 42, 3) := by decide +kernel
theorem dL_tick_288 : decode cL_tick 288 = .ok (.iload 4, 2) := by decide +kernel
theorem dL_tick_290 : decode cL_tick 290 = .ok (.bipush 64, 2) := by decide +kernel
theorem dL_tick_292 : decode cL_tick 292 = .ok (.idiv, 1) := by decide +kernel
theorem dL_tick_293 : decode cL_tick 293 = .ok (.ifCond .ne 16, 3) := by decide +kernel
theorem dL_tick_296 : decode cL_tick 296 = .ok (.bipush 28, 2) := by decide +kernel
theorem dL_tick_298 : decode cL_tick 298 = .ok (.iload 4, 2) := by decide +kernel
theorem dL_tick_300 : decode cL_tick 300 = .ok (.bipush 64, 2) := by decide +kernel
theorem dL_tick_302 : decode cL_tick 302 = .ok (.irem, 1) := by decide +kernel
theorem dL_tick_303 : decode cL_tick 303 = .ok (.invokestatic 162, 3) := by decide +kernel
theorem dL_tick_306 : decode cL_tick 306 = .ok (.goto 21, 3) := by decide +kernel
theorem dL_tick_309 : decode cL_tick 309 = .ok (.iload 4, 2) := by decide +kernel
theorem dL_tick_311 : decode cL_tick 311 = .ok (.bipush 64, 2) := by decide +kernel
theorem dL_tick_313 : decode cL_tick 313 = .ok (.idiv, 1) := by decide +kernel
theorem dL_tick_314 : decode cL_tick 314 = .ok (.iconst 2, 1) := by decide +kernel
theorem dL_tick_315 : decode cL_tick 315 = .ok (.if_icmp .ne 7, 3) := by decide +kernel
theorem dL_tick_318 : decode cL_tick 318 = .ok (.iconst 0, 1) := by decide +kernel
theorem dL_tick_319 : decode cL_tick 319 = .ok (.goto 8, 3) := by decide +kernel
theorem dL_tick_322 : decode cL_tick 322 = .ok (.aload 9, 2) := by decide +kernel
theorem dL_tick_324 : decode cL_tick 324 = .ok (.iload 12, 2) := by decide +kernel
theorem dL_tick_326 : decode cL_tick 326 = .ok (.iaload, 1) := by decide +kernel
theorem dL_tick_327 : decode cL_tick 327 = .ok (.istore 15, 2) := by decide +kernel
theorem dL_tick_329 : decode cL_tick 329 = .ok (.aload_n 0, 1) := by decide +kernel
theorem dL_tick_330 : decode cL_tick 330 = .ok (.iload 12, 2) := by decide +kernel
theorem dL_tick_332 : decode cL_tick 332 = .ok (.invokevirtual 79, 3) := by decide +kernel
theorem dL_tick_335 : decode cL_tick 335 = .ok (.aload 6, 2) := by decide +kernel
theorem dL_tick_337 : decode cL_tick 337 = .ok (.iload 12, 2) := by decide +kernel
theorem dL_tick_339 : decode cL_tick 339 = .ok (.iaload, 1) := by decide +kernel
theorem dL_tick_340 : decode cL_tick 340 = .ok (.iload 14, 2) := by decide +kernel
theorem dL_tick_342 : decode cL_tick 342 = .ok (.ifCond .eq 7, 3) := by decide +kernel
theorem dL_tick_345 : decode cL_tick 345 = .ok (.iconst 1, 1) := by decide +kernel
theorem dL_tick_346 : decode cL_tick 346 = .ok (.goto 4, 3) := by decide +kernel
theorem dL_tick_349 : decode cL_tick 349 = .ok (.iconst 0, 1) := by decide +kernel
theorem dL_tick_350 : decode cL_tick 350 = .ok (.iadd, 1) := by decide +kernel
theorem dL_tick_351 : decode cL_tick 351 = .ok (.if_icmp .ne 119, 3) := by decide +kernel
theorem dL_tick_354 : decode cL_tick 354 = .ok (.aload_n 0, 1) := by decide +kernel
theorem dL_tick_355 : decode cL_tick 355 = .ok (.iload 12, 2) := by decide +kernel
theorem dL_tick_357 : decode cL_tick 357 = .ok (.invokevirtual 85, 3) := by decide +kernel
theorem dL_tick_360 : decode cL_tick 360 = .ok (.aload 7, 2) := by decide +kernel
theorem dL_tick_362 : decode cL_tick 362 = .ok (.iload 12, 2) := by decide +kernel
theorem dL_tick_364 : decode cL_tick 364 = .ok (.iaload, 1) := by decide +kernel
theorem dL_tick_365 : decode cL_tick 365 = .ok (.iload 13, 2) := by decide +kernel
theorem dL_tick_367 : decode cL_tick 367 = .ok (.ifCond .eq 15, 3) := by decide +kernel
theorem dL_tick_370 : decode cL_tick 370 = .ok (.aload 10, 2) := by decide +kernel
theorem dL_tick_372 : decode cL_tick 372 = .ok (.iload 12, 2) := by decide +kernel
theorem dL_tick_374 : decode cL_tick 374 = .ok (.baload, 1) := by decide +kernel
theorem dL_tick_375 : decode cL_tick 375 = .ok (.ifCond .eq 7, 3) := by decide +kernel
theorem dL_tick_378 : decode cL_tick 378 = .ok (.iconst 1, 1) := by decide +kernel
theorem dL_tick_379 : decode cL_tick 379 = .ok (.goto 4, 3) := by decide +kernel
theorem dL_tick_382 : decode cL_tick 382 = .ok (.iconst 0, 1) := by decide +kernel
theorem dL_tick_383 : decode cL_tick 383 = .ok (.iadd, 1) := by decide +kernel
theorem dL_tick_384 : decode cL_tick 384 = .ok (.if_icmp .ne 86, 3) := by decide +kernel
theorem dL_tick_387 : decode cL_tick 387 = .ok (.aload_n 0, 1) := by decide +kernel
theorem dL_tick_388 : decode cL_tick 388 = .ok (.iload 12, 2) := by decide +kernel
theorem dL_tick_390 : decode cL_tick 390 = .ok (.invokevirtual 82, 3) := by decide +kernel
theorem dL_tick_393 : decode cL_tick 393 = .ok (.aload 8, 2) := by decide +kernel
theorem dL_tick_395 : decode cL_tick 395 = .ok (.iload 12, 2) := by decide +kernel
theorem dL_tick_397 : decode cL_tick 397 = .ok (.iaload, 1) := by decide +kernel
theorem dL_tick_398 : decode cL_tick 398 = .ok (.iload 13, 2) := by decide +kernel
theorem dL_tick_400 : decode cL_tick 400 = .ok (.ifCond .eq 20, 3) := by decide +kernel
theorem dL_tick_403 : decode cL_tick 403 = .ok (.aload 10, 2) := by decide +kernel
theorem dL_tick_405 : decode cL_tick 405 = .ok (.iload 12, 2) := by decide +kernel
theorem dL_tick_407 : decode cL_tick 407 = .ok (.baload, 1) := by decide +kernel
theorem dL_tick_408 : decode cL_tick 408 = .ok (.ifCond .ne 12, 3) := by decide +kernel
theorem dL_tick_411 : decode cL_tick 411 = .ok (.iload 5, 2) := by decide +kernel
theorem dL_tick_413 : decode cL_tick 413 = .ok (.ifCond .ne 7, 3) := by decide +kernel
theorem dL_tick_416 : decode cL_tick 416 = .ok (.iconst 1, 1) := by decide +kernel
theorem dL_tick_417 : decode cL_tick 417 = .ok (.goto 4, 3) := by decide +kernel
theorem dL_tick_420 : decode cL_tick 420 = .ok (.iconst 0, 1) := by decide +kernel
theorem dL_tick_421 : decode cL_tick 421 = .ok (.iadd, 1) := by decide +kernel
theorem dL_tick_422 : decode cL_tick 422 = .ok (.if_icmp .ne 48, 3) := by decide +kernel
theorem dL_tick_425 : decode cL_tick 425 = .ok (.aload_n 0, 1) := by decide +kernel
theorem dL_tick_426 : decode cL_tick 426 = .ok (.iload 12, 2) := by decide +kernel
theorem dL_tick_428 : decode cL_tick 428 = .ok (.invokevirtual 73, 3) := by decide +kernel
theorem dL_tick_431 : decode cL_tick 431 = .ok (.ifCond .ne 7, 3) := by decide +kernel
theorem dL_tick_434 : decode cL_tick 434 = .ok (.iconst 1, 1) := by decide +kernel
theorem dL_tick_435 : decode cL_tick 435 = .ok (.goto 4, 3) := by decide +kernel
theorem dL_tick_438 : decode cL_tick 438 = .ok (.iconst 0, 1) := by decide +kernel
theorem dL_tick_439 : decode cL_tick 439 = .ok (.iload 14, 2) := by decide +kernel
theorem dL_tick_441 : decode cL_tick 441 = .ok (.if_icmp .ne 29, 3) := by decide +kernel
theorem dL_tick_444 : decode cL_tick 444 = .ok (.aload_n 0, 1) := by decide +kernel
theorem dL_tick_445 : decode cL_tick 445 = .ok (.iload 12, 2) := by decide +kernel
theorem dL_tick_447 : decode cL_tick 447 = .ok (.invokevirtual 64, 3) := by decide +kernel
theorem dL_tick_450 : decode cL_tick 450 = .ok (.aload_n 0, 1) := by decide +kernel
theorem dL_tick_451 : decode cL_tick 451 = .ok (.iload 12, 2) := by decide +kernel
theorem dL_tick_453 : decode cL_tick 453 = .ok (.invokevirtual 73, 3) := by decide +kernel
theorem dL_tick_456 : decode cL_tick 456 = .ok (.bipush 39, 2) := by decide +kernel
theorem dL_tick_458 : decode cL_tick 458 = .ok (.if_icmp .le 7, 3) := by decide +kernel
theorem dL_tick_461 : decode cL_tick 461 = .ok (.iconst 0, 1) := by decide +kernel
theorem dL_tick_462 : decode cL_tick 462 = .ok (.goto 5, 3) := by decide +kernel
theorem dL_tick_465 : decode cL_tick 465 = .ok (.iload 15, 2) := by decide +kernel
theorem dL_tick_467 : decode cL_tick 467 = .ok (.if_icmp .eq 5, 3) := by decide +kernel
theorem dL_tick_470 : decode cL_tick 470 = .ok (.iconst 0, 1) := by decide +kernel
theorem dL_tick_471 : decode cL_tick 471 = .ok (.ireturn, 1) := by decide +kernel
theorem dL_tick_472 : decode cL_tick 472 = .ok (.iinc 12 1, 3) := by decide +kernel
theorem dL_tick_475 : decode cL_tick 475 = .ok (.goto (-256), 3) := by decide +kernel
theorem dL_tick_478 : decode cL_tick 478 = .ok (.iconst 1, 1) := by decide +kernel
theorem dL_tick_479 : decode cL_tick 479 = .ok (.ireturn, 1) := by decide +kernel
theorem dL_act_0 : decode cL_act 0 = .ok (.iload_n 1, 1) := by decide +kernel
theorem dL_act_1 : decode cL_act 1 = .ok (.bipush 24, 2) := by decide +kernel
theorem dL_act_3 : decode cL_act 3 = .ok (.invokestatic 167, 3) := by decide +kernel
theorem dL_act_6 : decode cL_act 6 = .ok (.istore_n 2, 1) := by decide +kernel
theorem dL_act_7 : decode cL_act 7 = .ok (.iload_n 1, 1) := by decide +kernel
theorem dL_act_8 : decode cL_act 8 = .ok (.iconst 4, 1) := by decide +kernel
theorem dL_act_9 : decode cL_act 9 = .ok (.ishr, 1) := by decide +kernel
theorem dL_act_10 : decode cL_act 10 = .ok (.istore_n 3, 1) := by decide +kernel
theorem dL_act_11 : decode cL_act 11 = .ok (.iload_n 3, 1) := by decide +kernel
theorem dL_act_12 : decode cL_act 12 = .ok (.aload_n 0, 1) := by decide +kernel
theorem dL_act_13 : decode cL_act 13 = .ok (.invokevirtual 30, 3) := by decide +kernel
theorem dL_act_16 : decode cL_act 16 = .ok (.invokestatic 167, 3) := by decide +kernel
theorem dL_act_19 : decode cL_act 19 = .ok (.istore 4, 2) := by decide +kernel
theorem dL_act_21 : decode cL_act 21 = .ok (.aload_n 0, 1) := by decide +kernel
theorem dL_act_22 : decode cL_act 22 = .ok (.invokevirtual 33, 3) := by decide +kernel
theorem dL_act_25 : decode cL_act 25 = .ok (.istore 5, 2) := by decide +kernel
theorem dL_act_27 : decode cL_act 27 = .ok (.iload_n 3, 1) := by decide +kernel
theorem dL_act_28 : decode cL_act 28 = .ok (.iconst 2, 1) := by decide +kernel
theorem dL_act_29 : decode cL_act 29 = .ok (.ishr, 1) := by decide +kernel
theorem dL_act_30 : decode cL_act 30 = .ok (.bipush 6, 2) := by decide +kernel
theorem dL_act_32 : decode cL_act 32 = .ok (.invokestatic 167, 3) := by decide +kernel
theorem dL_act_35 : decode cL_act 35 = .ok (.ifCond .ne 7, 3) := by decide +kernel
theorem dL_act_38 : decode cL_act 38 = .ok (.iconst 0, 1) := by decide +kernel
theorem dL_act_39 : decode cL_act 39 = .ok (.goto 9, 3) := by decide +kernel
theorem dL_act_42 : decode cL_act 42 = .ok (.aload_n 0, 1) := by decide +kernel
theorem dL_act_43 : decode cL_act 43 = .ok (.iload 4, 2) := by decide +kernel
theorem dL_act_45 : decode cL_act 45 = .ok (.invokevirtual 51, 3) := by decide +kernel
theorem dL_act_48 : decode cL_act 48 = .ok (.istore 6, 2) := by decide +kernel
theorem dL_act_50 : decode cL_act 50 = .ok (.iload_n 2, 1) := by decide +kernel
theorem dL_act_51 : decode cL_act 51 = .ok (.bipush 9, 2) := by decide +kernel
theorem dL_act_53 : decode cL_act 53 = .ok (.if_icmp .ge 319, 3) := by decide +kernel
theorem dL_act_56 : decode cL_act 56 = .ok (.iload 5, 2) := by decide +kernel
theorem dL_act_58 : decode cL_act 58 = .ok (.bipush 12, 2) := by decide +kernel
theorem dL_act_60 : decode cL_act 60 = .ok (.if_icmp .ne 25, 3) := by decide +kernel
theorem dL_act_63 : decode cL_act 63 = .ok (.aload_n 0, 1) := by decide +kernel
theorem dL_act_64 : decode cL_act 64 = .ok (.invokevirtual 170, 3) := by decide +kernel
theorem dL_act_67 : decode cL_act 67 = .ok (.bipush 12, 2) := by decide +kernel
theorem dL_act_69 : decode cL_act 69 = .ok (.if_icmp .ne 14, 3) := by decide +kernel
theorem dL_act_72 : decode cL_act 72 = .ok (.aload_n 0, 1) := by decide +kernel
theorem dL_act_73 : decode cL_act 73 = .ok (.invokevirtual 33, 3) := by decide +kernel
theorem dL_act_76 : decode cL_act 76 = .ok (.ifCond .ne 7, 3) := by decide +kernel
theorem dL_act_79 : decode cL_act 79 = .ok (.iconst 1, 1) := by decide +kernel
theorem dL_act_80 : decode cL_act 80 = .ok (.goto 4, 3) := by decide +kernel
theorem dL_act_83 : decode cL_act 83 = .ok (.iconst 0, 1) := by decide +kernel
theorem dL_act_84 : decode cL_act 84 = .ok (.ireturn, 1) := by decide +kernel
theorem dL_act_85 : decode cL_act 85 = .ok (.iload_n 2, 1) := by decide +kernel
theorem dL_act_86 : decode cL_act 86 = .ok (.iconst 2, 1) := by decide +kernel
theorem dL_act_87 : decode cL_act 87 = .ok (.if_icmp .ge 107, 3) := by decide +kernel
theorem dL_act_90 : decode cL_act 90 = .ok (.iload_n 3, 1) := by decide +kernel
theorem dL_act_91 : decode cL_act 91 = .ok (.iconst 3, 1) := by decide +kernel
theorem dL_act_92 : decode cL_act 92 = .ok (.ishr, 1) := by decide +kernel
theorem dL_act_93 : decode cL_act 93 = .ok (.sipush 256, 3) := by decide +kernel
theorem dL_act_96 : decode cL_act 96 = .ok (.invokestatic 167, 3) := by decide +kernel
theorem dL_act_99 : decode cL_act 99 = .ok (.istore 7, 2) := by decide +kernel
theorem dL_act_101 : decode cL_act 101 = .ok (.iload_n 3, 1) := by decide +kernel
theorem dL_act_102 : decode cL_act 102 = .ok (.iconst 5, 1) := by decide +kernel
theorem dL_act_103 : decode cL_act 103 = .ok (.ishr, 1) := by decide +kernel
theorem dL_act_104 : decode cL_act 104 = .ok (.iconst 3, 1) := by decide +kernel
theorem dL_act_105 : decode cL_act 105 = .ok (.invokestatic 167, 3) := by decide +kernel
theorem dL_act_108 : decode cL_act 108 = .ok (.ifCond .ne 15, 3) := by decide +kernel
theorem dL_act_111 : decode cL_act 111 = .ok (.iload_n 3, 1) := by decide +kernel
theorem dL_act_112 : decode cL_act 112 = .ok (.iconst 4, 1) := by decide +kernel
theorem dL_act_113 : decode cL_act 113 = .ok (.ishr, 1) := by decide +kernel
theorem dL_act_114 : decode cL_act 114 = .ok (.sipush 256, 3) := by decide +kernel
theorem dL_act_117 : decode cL_act 117 = .ok (.invokestatic 167, 3) := by decide +kernel
theorem dL_act_120 : decode cL_act 120 = .ok (.goto 11, 3) := by decide +kernel
theorem dL_act_123 : decode cL_act 123 = .ok (.aload_n 0, 1) := by decide +kernel
theorem dL_act_124 : decode cL_act 124 = .ok (.iload 6, 2) := by decide +kernel
theorem dL_act_126 : decode cL_act 126 = .ok (.iload 7, 2) := by decide +kernel
theorem dL_act_128 : decode cL_act 128 = .ok (.invokevirtual 135, 3) := by decide +kernel
theorem dL_act_131 : decode cL_act 131 = .ok (.istore 8, 2) := by decide +kernel
theorem dL_act_133 : decode cL_act 133 = .ok (.aload_n 0, 1) := by decide +kernel
theorem dL_act_134 : decode cL_act 134 = .ok (.iload 6, 2) := by decide +kernel
theorem dL_act_136 : decode cL_act 136 = .ok (.iload 7, 2) := by decide +kernel
theorem dL_act_138 : decode cL_act 138 = .ok (.iload 8, 2) := by decide +kernel
theorem dL_act_140 : decode cL_act 140 = .ok (.invokevirtual 173, 3) := by decide +kernel
theorem dL_act_143 : decode cL_act 143 = .ok (.iload 5, 2) := by decide +kernel
theorem dL_act_145 : decode cL_act 145 = .ok (.iconst 1, 1) := by decide +kernel
theorem dL_act_146 : decode cL_act 146 = .ok (.iadd, 1) := by decide +kernel
theorem dL_act_147 : decode cL_act 147 = .ok (.if_icmp .ne 45, 3) := by decide +kernel
theorem dL_act_150 : decode cL_act 150 = .ok (.aload_n 0, 1) := by decide +kernel
theorem dL_act_151 : decode cL_act 151 = .ok (.iload 5, 2) := by decide +kernel
theorem dL_act_153 : decode cL_act 153 = .ok (.invokevirtual 94, 3) := by decide +kernel
theorem dL_act_156 : decode cL_act 156 = .ok (.iload 7, 2) := by decide +kernel
theorem dL_act_158 : decode cL_act 158 = .ok (.if_icmp .ne 34, 3) := by decide +kernel
theorem dL_act_161 : decode cL_act 161 = .ok (.aload_n 0, 1) := by decide +kernel
theorem dL_act_162 : decode cL_act 162 = .ok (.iload 5, 2) := by decide +kernel
theorem dL_act_164 : decode cL_act 164 = .ok (.invokevirtual 97, 3) := by decide +kernel
theorem dL_act_167 : decode cL_act 167 = .ok (.iload 8, 2) := by decide +kernel
theorem dL_act_169 : decode cL_act 169 = .ok (.aload_n 0, 1) := by decide +kernel
theorem dL_act_170 : decode cL_act 170 = .ok (.iload 6, 2) := by decide +kernel
theorem dL_act_172 : decode cL_act 172 = .ok (.iload 7, 2) := by decide +kernel
theorem dL_act_174 : decode cL_act 174 = .ok (.invokevirtual 135, 3) := by decide +kernel
theorem dL_act_177 : decode cL_act 177 = .ok (.if_icmp .ne 7, 3) := by decide +kernel
theorem dL_act_180 : decode cL_act 180 = .ok (.iconst 1, 1) := by decide +kernel
theorem dL_act_181 : decode cL_act 181 = .ok (.goto 4, 3) := by decide +kernel
theorem dL_act_184 : decode cL_act 184 = .ok (.iconst 0, 1) := by decide +kernel
theorem dL_act_185 : decode cL_act 185 = .ok (.if_icmp .ne 7, 3) := by decide +kernel
theorem dL_act_188 : decode cL_act 188 = .ok (.iconst 1, 1) := by decide +kernel
theorem dL_act_189 : decode cL_act 189 = .ok (.goto 4, 3) := by decide +kernel
theorem dL_act_192 : decode cL_act 192 = .ok (.iconst 0, 1) := by decide +kernel
theorem dL_act_193 : decode cL_act 193 = .ok (.ireturn, 1) := by decide +kernel
theorem dL_act_194 : decode cL_act 194 = .ok (.iload_n 2, 1) := by decide +kernel
theorem dL_act_195 : decode cL_act 195 = .ok (.bipush 7, 2) := by decide +kernel
theorem dL_act_197 : decode cL_act 197 = .ok (.if_icmp .ge 65, 3) := by decide +kernel
theorem dL_act_200 : decode cL_act 200 = .ok (.iload_n 3, 1) := by decide +kernel
theorem dL_act_201 : decode cL_act 201 = .ok (.iconst 3, 1) := by decide +kernel
theorem dL_act_202 : decode cL_act 202 = .ok (.ishr, 1) := by decide +kernel
theorem dL_act_203 : decode cL_act 203 = .ok (.bipush 29, 2) := by decide +kernel
theorem dL_act_205 : decode cL_act 205 = .ok (.invokestatic 167, 3) := by decide +kernel
theorem dL_act_208 : decode cL_act 208 = .ok (.istore 7, 2) := by decide +kernel
theorem dL_act_210 : decode cL_act 210 = .ok (.aload_n 0, 1) := by decide +kernel
theorem dL_act_211 : decode cL_act 211 = .ok (.iload 6, 2) := by decide +kernel
theorem dL_act_213 : decode cL_act 213 = .ok (.iload 7, 2) := by decide +kernel
theorem dL_act_215 : decode cL_act 215 = .ok (.invokevirtual 177, 3) := by decide +kernel
theorem dL_act_218 : decode cL_act 218 = .ok (.iload 5, 2) := by decide +kernel
theorem dL_act_220 : decode cL_act 220 = .ok (.iconst 1, 1) := by decide +kernel
theorem dL_act_221 : decode cL_act 221 = .ok (.iadd, 1) := by decide +kernel
theorem dL_act_222 : decode cL_act 222 = .ok (.if_icmp .ne 38, 3) := by decide +kernel
theorem dL_act_225 : decode cL_act 225 = .ok (.aload_n 0, 1) := by decide +kernel
theorem dL_act_226 : decode cL_act 226 = .ok (.iload 5, 2) := by decide +kernel
theorem dL_act_228 : decode cL_act 228 = .ok (.invokevirtual 97, 3) := by decide +kernel
theorem dL_act_231 : decode cL_act 231 = .ok (.ifCond .eq 29, 3) := by decide +kernel
theorem dL_act_234 : decode cL_act 234 = .ok (.aload_n 0, 1) := by decide +kernel
theorem dL_act_235 : decode cL_act 235 = .ok (.iload 5, 2) := by decide +kernel
theorem dL_act_237 : decode cL_act 237 = .ok (.invokevirtual 91, 3) := by decide +kernel
theorem dL_act_240 : decode cL_act 240 = .ok (.iload 6, 2) := by decide +kernel
theorem dL_act_242 : decode cL_act 242 = .ok (.if_icmp .ne 18, 3) := by decide +kernel
theorem dL_act_245 : decode cL_act 245 = .ok (.aload_n 0, 1) := by decide +kernel
theorem dL_act_246 : decode cL_act 246 = .ok (.iload 5, 2) := by decide +kernel
theorem dL_act_248 : decode cL_act 248 = .ok (.invokevirtual 94, 3) := by decide +kernel
theorem dL_act_251 : decode cL_act 251 = .ok (.iload 7, 2) := by decide +kernel
theorem dL_act_253 : decode cL_act 253 = .ok (.if_icmp .ne 7, 3) := by decide +kernel
theorem dL_act_256 : decode cL_act 256 = .ok (.iconst 1, 1) := by decide +kernel
theorem dL_act_257 : decode cL_act 257 = .ok (.goto 4, 3) := by decide +kernel
theorem dL_act_260 : decode cL_act 260 = .ok (.iconst 0, 1) := by decide +kernel
theorem dL_act_261 : decode cL_act 261 = .ok (.ireturn, 1) := by decide +kernel
theorem dL_act_262 : decode cL_act 262 = .ok (.iload_n 2, 1) := by decide +kernel
theorem dL_act_263 : decode cL_act 263 = .ok (.bipush 7, 2) := by decide +kernel
theorem dL_act_265 : decode cL_act 265 = .ok (.if_icmp .ne 59, 3) := by decide +kernel
theorem dL_act_268 : decode cL_act 268 = .ok (.aload_n 0, 1) := by decide +kernel
theorem dL_act_269 : decode cL_act 269 = .ok (.iload 6, 2) := by decide +kernel
theorem dL_act_271 : decode cL_act 271 = .ok (.iload_n 3, 1) := by decide +kernel
theorem dL_act_272 : decode cL_act 272 = .ok (.iconst 3, 1) := by decide +kernel
theorem dL_act_273 : decode cL_act 273 = .ok (.ishr, 1) := by decide +kernel
theorem dL_act_274 : decode cL_act 274 = .ok (.bipush 16, 2) := by decide +kernel
theorem dL_act_276 : decode cL_act 276 = .ok (.invokestatic 167, 3) := by decide +kernel
theorem dL_act_279 : decode cL_act 279 = .ok (.invokevirtual 180, 3) := by decide +kernel
theorem dL_act_282 : decode cL_act 282 = .ok (.iload 5, 2) := by decide +kernel
theorem dL_act_284 : decode cL_act 284 = .ok (.iconst 1, 1) := by decide +kernel
theorem dL_act_285 : decode cL_act 285 = .ok (.iadd, 1) := by decide +kernel
theorem dL_act_286 : decode cL_act 286 = .ok (.if_icmp .ne 36, 3) := by decide +kernel
theorem dL_act_289 : decode cL_act 289 = .ok (.aload_n 0, 1) := by decide +kernel
theorem dL_act_290 : decode cL_act 290 = .ok (.iload 5, 2) := by decide +kernel
theorem dL_act_292 : decode cL_act 292 = .ok (.invokevirtual 97, 3) := by decide +kernel
theorem dL_act_295 : decode cL_act 295 = .ok (.ifCond .eq 27, 3) := by decide +kernel
theorem dL_act_298 : decode cL_act 298 = .ok (.aload_n 0, 1) := by decide +kernel
theorem dL_act_299 : decode cL_act 299 = .ok (.iload 5, 2) := by decide +kernel
theorem dL_act_301 : decode cL_act 301 = .ok (.invokevirtual 94, 3) := by decide +kernel
theorem dL_act_304 : decode cL_act 304 = .ok (.bipush 64, 2) := by decide +kernel
theorem dL_act_306 : decode cL_act 306 = .ok (.iload_n 3, 1) := by decide +kernel
theorem dL_act_307 : decode cL_act 307 = .ok (.iconst 3, 1) := by decide +kernel
theorem dL_act_308 : decode cL_act 308 = .ok (.ishr, 1) := by decide +kernel
theorem dL_act_309 : decode cL_act 309 = .ok (.bipush 16, 2) := by decide +kernel
theorem dL_act_311 : decode cL_act 311 = .ok (.invokestatic 167, 3) := by decide +kernel
theorem dL_act_314 : decode cL_act 314 = .ok (.iadd, 1) := by decide +kernel
theorem dL_act_315 : decode cL_act 315 = .ok (.if_icmp .ne 7, 3) := by decide +kernel
theorem dL_act_318 : decode cL_act 318 = .ok (.iconst 1, 1) := by decide +kernel
theorem dL_act_319 : decode cL_act 319 = .ok (.goto 4, 3) := by decide +kernel
theorem dL_act_322 : decode cL_act 322 = .ok (.iconst 0, 1) := by decide +kernel
theorem dL_act_323 : decode cL_act 323 = .ok (.ireturn, 1) := by decide +kernel
theorem dL_act_324 : decode cL_act 324 = .ok (.aload_n 0, 1) := by decide +kernel
theorem dL_act_325 : decode cL_act 325 = .ok (.iload 6, 2) := by decide +kernel
theorem dL_act_327 : decode cL_act 327 = .ok (.invokevirtual 183, 3) := by decide +kernel
theorem dL_act_330 : decode cL_act 330 = .ok (.iload 5, 2) := by decide +kernel
theorem dL_act_332 : decode cL_act 332 = .ok (.iconst 1, 1) := by decide +kernel
theorem dL_act_333 : decode cL_act 333 = .ok (.iadd, 1) := by decide +kernel
theorem dL_act_334 : decode cL_act 334 = .ok (.if_icmp .ne 36, 3) := by decide +kernel
theorem dL_act_337 : decode cL_act 337 = .ok (.aload_n 0, 1) := by decide +kernel
theorem dL_act_338 : decode cL_act 338 = .ok (.iconst 0, 1) := by decide +kernel
theorem dL_act_339 : decode cL_act 339 = .ok (.invokevirtual 97, 3) := by decide +kernel
theorem dL_act_342 : decode cL_act 342 = .ok (.ifCond .eq 28, 3) := by decide +kernel
theorem dL_act_345 : decode cL_act 345 = .ok (.aload_n 0, 1) := by decide +kernel
theorem dL_act_346 : decode cL_act 346 = .ok (.iconst 0, 1) := by decide +kernel
theorem dL_act_347 : decode cL_act 347 = .ok (.invokevirtual 94, 3) := by decide +kernel
theorem dL_act_350 : decode cL_act 350 = .ok (.sipush 128, 3) := by decide +kernel
theorem dL_act_353 : decode cL_act 353 = .ok (.if_icmp .ne 17, 3) := by decide +kernel
theorem dL_act_356 : decode cL_act 356 = .ok (.aload_n 0, 1) := by decide +kernel
theorem dL_act_357 : decode cL_act 357 = .ok (.iconst 0, 1) := by decide +kernel
theorem dL_act_358 : decode cL_act 358 = .ok (.invokevirtual 91, 3) := by decide +kernel
theorem dL_act_361 : decode cL_act 361 = .ok (.iload 6, 2) := by decide +kernel
theorem dL_act_363 : decode cL_act 363 = .ok (.if_icmp .ne 7, 3) := by decide +kernel
theorem dL_act_366 : decode cL_act 366 = .ok (.iconst 1, 1) := by decide +kernel
theorem dL_act_367 : decode cL_act 367 = .ok (.goto 4, 3) := by decide +kernel
theorem dL_act_370 : decode cL_act 370 = .ok (.iconst 0, 1) := by decide +kernel
theorem dL_act_371 : decode cL_act 371 = .ok (.ireturn, 1) := by decide +kernel
theorem dL_act_372 : decode cL_act 372 = .ok (.iload_n 2, 1) := by decide +kernel
theorem dL_act_373 : decode cL_act 373 = .ok (.bipush 11, 2) := by decide +kernel
theorem dL_act_375 : decode cL_act 375 = .ok (.if_icmp .ge 118, 3) := by decide +kernel
theorem dL_act_378 : decode cL_act 378 = .ok (.iload_n 3, 1) := by decide +kernel
theorem dL_act_379 : decode cL_act 379 = .ok (.aload_n 0, 1) := by decide +kernel
theorem dL_act_380 : decode cL_act 380 = .ok (.invokevirtual 36, 3) := by decide +kernel
theorem dL_act_383 : decode cL_act 383 = .ok (.invokestatic 167, 3) := by decide +kernel
theorem dL_act_386 : decode cL_act 386 = .ok (.istore 7, 2) := by decide +kernel
theorem dL_act_388 : decode cL_act 388 = .ok (.iload_n 3, 1) := by decide +kernel
theorem dL_act_389 : decode cL_act 389 = .ok (.iconst 3, 1) := by decide +kernel
theorem dL_act_390 : decode cL_act 390 = .ok (.ishr, 1) := by decide +kernel
theorem dL_act_391 : decode cL_act 391 = .ok (.iconst 3, 1) := by decide +kernel
theorem dL_act_392 : decode cL_act 392 = .ok (.invokestatic 167, 3) := by decide +kernel
theorem dL_act_395 : decode cL_act 395 = .ok (.ifCond .ne 7, 3) := by decide +kernel
theorem dL_act_398 : decode cL_act 398 = .ok (.iconst 1, 1) := by decide +kernel
theorem dL_act_399 : decode cL_act 399 = .ok (.goto 4, 3) := by decide +kernel
theorem dL_act_402 : decode cL_act 402 = .ok (.iconst 0, 1) := by decide +kernel
theorem dL_act_403 : decode cL_act 403 = .ok (.istore 8, 2) := by decide +kernel
theorem dL_act_405 : decode cL_act 405 = .ok (.iconst 0, 1) := by decide +kernel
theorem dL_act_406 : decode cL_act 406 = .ok (.istore 9, 2) := by decide +kernel
theorem dL_act_408 : decode cL_act 408 = .ok (.iconst 0, 1) := by decide +kernel
theorem dL_act_409 : decode cL_act 409 = .ok (.istore 10, 2) := by decide +kernel
theorem dL_act_411 : decode cL_act 411 = .ok (.iload 10, 2) := by decide +kernel
theorem dL_act_413 : decode cL_act 413 = .ok (.aload_n 0, 1) := by decide +kernel
theorem dL_act_414 : decode cL_act 414 = .ok (.invokevirtual 36, 3) := by decide +kernel
theorem dL_act_417 : decode cL_act 417 = .ok (.if_icmp .ge 35, 3) := by decide +kernel
theorem dL_act_420 : decode cL_act 420 = .ok (.iload 9, 2) := by decide +kernel
theorem dL_act_422 : decode cL_act 422 = .ok (.iload 10, 2) := by decide +kernel
theorem dL_act_424 : decode cL_act 424 = .ok (.iload 7, 2) := by decide +kernel
theorem dL_act_426 : decode cL_act 426 = .ok (.if_icmp .eq 16, 3) := by decide +kernel
theorem dL_act_429 : decode cL_act 429 = .ok (.aload_n 0, 1) := by decide +kernel
theorem dL_act_430 : decode cL_act 430 = .ok (.iload 10, 2) := by decide +kernel
theorem dL_act_432 : decode cL_act 432 = .ok (.invokevirtual 101, 3) := by decide +kernel
theorem dL_act_435 : decode cL_act 435 = .ok (.ifCond .eq 7, 3) := by decide +kernel
theorem dL_act_438 : decode cL_act 438 = .ok (.iconst 1, 1) := by decide +kernel
theorem dL_act_439 : decode cL_act 439 = .ok (.goto 4, 3) := by decide +kernel
theorem dL_act_442 : decode cL_act 442 = .ok (.iconst 0, 1) := by decide +kernel
theorem dL_act_443 : decode cL_act 443 = .ok (.iadd, 1) := by decide +kernel
theorem dL_act_444 : decode cL_act 444 = .ok (.istore 9, 2) := by decide +kernel
theorem dL_act_446 : decode cL_act 446 = .ok (.iinc 10 1, 3) := by decide +kernel
theorem dL_act_449 : decode cL_act 449 = .ok (.goto (-38), 3) := by decide +kernel
theorem dL_act_452 : decode cL_act 452 = .ok (.aload_n 0, 1) := by decide +kernel
theorem dL_act_453 : decode cL_act 453 = .ok (.iload 7, 2) := by decide +kernel
theorem dL_act_455 : decode cL_act 455 = .ok (.iload 8, 2) := by decide +kernel
theorem dL_act_457 : decode cL_act 457 = .ok (.invokevirtual 186, 3) := by decide +kernel
theorem dL_act_460 : decode cL_act 460 = .ok (.iload 9, 2) := by decide +kernel
theorem dL_act_462 : decode cL_act 462 = .ok (.iload 8, 2) := by decide +kernel
theorem dL_act_464 : decode cL_act 464 = .ok (.ifCond .eq 7, 3) := by decide +kernel
theorem dL_act_467 : decode cL_act 467 = .ok (.iconst 1, 1) := by decide +kernel
theorem dL_act_468 : decode cL_act 468 = .ok (.goto 4, 3) := by decide +kernel
theorem dL_act_471 : decode cL_act 471 = .ok (.iconst 0, 1) := by decide +kernel
theorem dL_act_472 : decode cL_act 472 = .ok (.iadd, 1) := by decide +kernel
theorem dL_act_473 : decode cL_act 473 = .ok (.if_icmp .ne 18, 3) := by decide +kernel
theorem dL_act_476 : decode cL_act 476 = .ok (.aload_n 0, 1) := by decide +kernel
theorem dL_act_477 : decode cL_act 477 = .ok (.iload 7, 2) := by decide +kernel
theorem dL_act_479 : decode cL_act 479 = .ok (.invokevirtual 101, 3) := by decide +kernel
theorem dL_act_482 : decode cL_act 482 = .ok (.iload 8, 2) := by decide +kernel
theorem dL_act_484 : decode cL_act 484 = .ok (.if_icmp .ne 7, 3) := by decide +kernel
theorem dL_act_487 : decode cL_act 487 = .ok (.iconst 1, 1) := by decide +kernel
theorem dL_act_488 : decode cL_act 488 = .ok (.goto 4, 3) := by decide +kernel
theorem dL_act_491 : decode cL_act 491 = .ok (.iconst 0, 1) := by decide +kernel
theorem dL_act_492 : decode cL_act 492 = .ok (.ireturn, 1) := by decide +kernel
theorem dL_act_493 : decode cL_act 493 = .ok (.iload_n 2, 1) := by decide +kernel
theorem dL_act_494 : decode cL_act 494 = .ok (.bipush 11, 2) := by decide +kernel
theorem dL_act_496 : decode cL_act 496 = .ok (.if_icmp .ne 71, 3) := by decide +kernel
theorem dL_act_499 : decode cL_act 499 = .ok (.aload_n 0, 1) := by decide +kernel
theorem dL_act_500 : decode cL_act 500 = .ok (.iload 4, 2) := by decide +kernel
theorem dL_act_502 : decode cL_act 502 = .ok (.invokevirtual 51, 3) := by decide +kernel
theorem dL_act_505 : decode cL_act 505 = .ok (.istore 7, 2) := by decide +kernel
theorem dL_act_507 : decode cL_act 507 = .ok (.iconst 1, 1) := by decide +kernel
theorem dL_act_508 : decode cL_act 508 = .ok (.iload_n 3, 1) := by decide +kernel
theorem dL_act_509 : decode cL_act 509 = .ok (.iconst 2, 1) := by decide +kernel
theorem dL_act_510 : decode cL_act 510 = .ok (.ishr, 1) := by decide +kernel
theorem dL_act_511 : decode cL_act 511 = .ok (.bipush 127, 2) := by decide +kernel
theorem dL_act_513 : decode cL_act 513 = .ok (.invokestatic 167, 3) := by decide +kernel
theorem dL_act_516 : decode cL_act 516 = .ok (.iadd, 1) := by decide +kernel
theorem dL_act_517 : decode cL_act 517 = .ok (.istore 8, 2) := by decide +kernel
theorem dL_act_519 : decode cL_act 519 = .ok (.aload_n 0, 1) := by decide +kernel
theorem dL_act_520 : decode cL_act 520 = .ok (.iload 4, 2) := by decide +kernel
theorem dL_act_522 : decode cL_act 522 = .ok (.invokevirtual 61, 3) := by decide +kernel
theorem dL_act_525 : decode cL_act 525 = .ok (.ifCond .gt 36, 3) := by decide +kernel
theorem dL_act_528 : decode cL_act 528 = .ok (.aload_n 0, 1) := by decide +kernel
theorem dL_act_529 : decode cL_act 529 = .ok (.iload 8, 2) := by decide +kernel
theorem dL_act_531 : decode cL_act 531 = .ok (.invokevirtual 113, 3) := by decide +kernel
theorem dL_act_534 : decode cL_act 534 = .ok (.ifCond .ge 27, 3) := by decide +kernel
theorem dL_act_537 : decode cL_act 537 = .ok (.aload_n 0, 1) := by decide +kernel
theorem dL_act_538 : decode cL_act 538 = .ok (.iload 4, 2) := by decide +kernel
theorem dL_act_540 : decode cL_act 540 = .ok (.iload 8, 2) := by decide +kernel
theorem dL_act_542 : decode cL_act 542 = .ok (.invokevirtual 190, 3) := by decide +kernel
theorem dL_act_545 : decode cL_act 545 = .ok (.iload 7, 2) := by decide +kernel
theorem dL_act_547 : decode cL_act 547 = .ok (.if_icmp .ne 18, 3) := by decide +kernel
theorem dL_act_550 : decode cL_act 550 = .ok (.aload_n 0, 1) := by decide +kernel
theorem dL_act_551 : decode cL_act 551 = .ok (.iload 4, 2) := by decide +kernel
theorem dL_act_553 : decode cL_act 553 = .ok (.invokevirtual 51, 3) := by decide +kernel
theorem dL_act_556 : decode cL_act 556 = .ok (.iload 8, 2) := by decide +kernel
theorem dL_act_558 : decode cL_act 558 = .ok (.if_icmp .ne 7, 3) := by decide +kernel
theorem dL_act_561 : decode cL_act 561 = .ok (.iconst 1, 1) := by decide +kernel
theorem dL_act_562 : decode cL_act 562 = .ok (.goto 4, 3) := by decide +kernel
theorem dL_act_565 : decode cL_act 565 = .ok (.iconst 0, 1) := by decide +kernel
theorem dL_act_566 : decode cL_act 566 = .ok (.ireturn, 1) := by decide +kernel
theorem dL_act_567 : decode cL_act 567 = .ok (.iload_n 2, 1) := by decide +kernel
theorem dL_act_568 : decode cL_act 568 = .ok (.bipush 17, 2) := by decide +kernel
theorem dL_act_570 : decode cL_act 570 = .ok (.if_icmp .ge 8, 3) := by decide +kernel
theorem dL_act_573 : decode cL_act 573 = .ok (.aload_n 0, 1) := by decide +kernel
theorem dL_act_574 : decode cL_act 574 = .ok (.invokestatic 193, 3) := by decide +kernel
theorem dL_act_577 : decode cL_act 577 = .ok (.ireturn, 1) := by decide +kernel
theorem dL_act_578 : decode cL_act 578 = .ok (.iconst 1, 1) := by decide +kernel
theorem dL_act_579 : decode cL_act 579 = .ok (.iload_n 3, 1) := by decide +kernel
theorem dL_act_580 : decode cL_act 580 = .ok (.iload_n 3, 1) := by decide +kernel
theorem dL_act_581 : decode cL_act 581 = .ok (.iconst 3, 1) := by decide +kernel
theorem dL_act_582 : decode cL_act 582 = .ok (.ishr, 1) := by decide +kernel
theorem dL_act_583 : decode cL_act 583 = .ok (.iconst 3, 1) := by decide +kernel
theorem dL_act_584 : decode cL_act 584 = .ok (.invokestatic 167, 3) := by decide +kernel
theorem dL_act_587 : decode cL_act 587 = .ok (.ifCond .ne 8, 3) := by decide +kernel
theorem dL_act_590 : decode cL_act 590 = .ok (.bipush 60, 2) := by decide +kernel
theorem dL_act_592 : decode cL_act 592 = .ok (.goto 5, 3) := by decide +kernel
theorem dL_act_595 : decode cL_act 595 = .ok (.bipush 9, 2) := by decide +kernel
theorem dL_act_597 : decode cL_act 597 = .ok (.invokestatic 167, 3) := by decide +kernel
theorem dL_act_600 : decode cL_act 600 = .ok (.iadd, 1) := by decide +kernel
theorem dL_act_601 : decode cL_act 601 = .ok (.istore 7, 2) := by decide +kernel
theorem dL_act_603 : decode cL_act 603 = .ok (.aload_n 0, 1) := by decide +kernel
theorem dL_act_604 : decode cL_act 604 = .ok (.iload 4, 2) := by decide +kernel
theorem dL_act_606 : decode cL_act 606 = .ok (.iload 7, 2) := by decide +kernel
theorem dL_act_608 : decode cL_act 608 = .ok (.invokevirtual 128, 3) := by decide +kernel
theorem dL_act_611 : decode cL_act 611 = .ok (.istore 8, 2) := by decide +kernel
theorem dL_act_613 : decode cL_act 613 = .ok (.aload_n 0, 1) := by decide +kernel
theorem dL_act_614 : decode cL_act 614 = .ok (.iload 4, 2) := by decide +kernel
theorem dL_act_616 : decode cL_act 616 = .ok (.iload 7, 2) := by decide +kernel
theorem dL_act_618 : decode cL_act 618 = .ok (.invokevirtual 132, 3) := by decide +kernel
theorem dL_act_621 : decode cL_act 621 = .ok (.istore 9, 2) := by decide +kernel
theorem dL_act_623 : decode cL_act 623 = .ok (.aload_n 0, 1) := by decide +kernel
theorem dL_act_624 : decode cL_act 624 = .ok (.invokevirtual 196, 3) := by decide +kernel
theorem dL_act_627 : decode cL_act 627 = .ok (.istore 10, 2) := by decide +kernel
theorem dL_act_629 : decode cL_act 629 = .ok (.aload_n 0, 1) := by decide +kernel
theorem dL_act_630 : decode cL_act 630 = .ok (.invokevirtual 45, 3) := by decide +kernel
theorem dL_act_633 : decode cL_act 633 = .ok (.istore 11, 2) := by decide +kernel
theorem dL_act_635 : decode cL_act 635 = .ok (.aload_n 0, 1) := by decide +kernel
theorem dL_act_636 : decode cL_act 636 = .ok (.iload 4, 2) := by decide +kernel
theorem dL_act_638 : decode cL_act 638 = .ok (.invokevirtual 76, 3) := by decide +kernel
theorem dL_act_641 : decode cL_act 641 = .ok (.istore 12, 2) := by decide +kernel
theorem dL_act_643 : decode cL_act 643 = .ok (.aload_n 0, 1) := by decide +kernel
theorem dL_act_644 : decode cL_act 644 = .ok (.iload 4, 2) := by decide +kernel
theorem dL_act_646 : decode cL_act 646 = .ok (.invokevirtual 55, 3) := by decide +kernel
theorem dL_act_649 : decode cL_act 649 = .ok (.istore 13, 2) := by decide +kernel
theorem dL_act_651 : decode cL_act 651 = .ok (.aload_n 0, 1) := by decide +kernel
theorem dL_act_652 : decode cL_act 652 = .ok (.invokevirtual 39, 3) := by decide +kernel
theorem dL_act_655 : decode cL_act 655 = .ok (.istore 14, 2) := by decide +kernel
theorem dL_act_657 : decode cL_act 657 = .ok (.aload_n 0, 1) := by decide +kernel
theorem dL_act_658 : decode cL_act 658 = .ok (.iload 7, 2) := by decide +kernel
theorem dL_act_660 : decode cL_act 660 = .ok (.invokevirtual 159, 3) := by decide +kernel
theorem dL_act_663 : decode cL_act 663 = .ok (.istore 15, 2) := by decide +kernel
theorem dL_act_665 : decode cL_act 665 = .ok (.aload_n 0, 1) := by decide +kernel
theorem dL_act_666 : decode cL_act 666 = .ok (.iload 4, 2) := by decide +kernel
theorem dL_act_668 : decode cL_act 668 = .ok (.invokevirtual 55, 3) := by decide +kernel
theorem dL_act_671 : decode cL_act 671 = .ok (.iload 8, 2) := by decide +kernel
theorem dL_act_673 : decode cL_act 673 = .ok (.if_icmp .ne 105, 3) := by decide +kernel
theorem dL_act_676 : decode cL_act 676 = .ok (.aload_n 0, 1) := by decide +kernel
theorem dL_act_677 : decode cL_act 677 = .ok (.iload 4, 2) := by decide +kernel
theorem dL_act_679 : decode cL_act 679 = .ok (.invokevirtual 61, 3) := by decide +kernel
theorem dL_act_682 : decode cL_act 682 = .ok (.iload 9, 2) := by decide +kernel
theorem dL_act_684 : decode cL_act 684 = .ok (.if_icmp .ne 94, 3) := by decide +kernel
theorem dL_act_687 : decode cL_act 687 = .ok (.aload_n 0, 1) := by decide +kernel
theorem dL_act_688 : decode cL_act 688 = .ok (.invokevirtual 45, 3) := by decide +kernel
theorem dL_act_691 : decode cL_act 691 = .ok (.iload 11, 2) := by decide +kernel
theorem dL_act_693 : decode cL_act 693 = .ok (.if_icmp .le 7, 3) := by decide +kernel
theorem dL_act_696 : decode cL_act 696 = .ok (.iconst 1, 1) := by decide +kernel
theorem dL_act_697 : decode cL_act 697 = .ok (.goto 4, 3) := by decide +kernel
theorem dL_act_700 : decode cL_act 700 = .ok (.iconst 0, 1) := by decide +kernel
theorem dL_act_701 : decode cL_act 701 = .ok (.iload 10, 2) := by decide +kernel
theorem dL_act_703 : decode cL_act 703 = .ok (.ifCond .le 14, 3) := by decide +kernel
theorem dL_act_706 : decode cL_act 706 = .ok (.iload 10, 2) := by decide +kernel
theorem dL_act_708 : decode cL_act 708 = .ok (.iload 7, 2) := by decide +kernel
theorem dL_act_710 : decode cL_act 710 = .ok (.if_icmp .gt 7, 3) := by decide +kernel
theorem dL_act_713 : decode cL_act 713 = .ok (.iconst 1, 1) := by decide +kernel
theorem dL_act_714 : decode cL_act 714 = .ok (.goto 4, 3) := by decide +kernel
theorem dL_act_717 : decode cL_act 717 = .ok (.iconst 0, 1) := by decide +kernel
theorem dL_act_718 : decode cL_act 718 = .ok (.if_icmp .ne 60, 3) := by decide +kernel
theorem dL_act_721 : decode cL_act 721 = .ok (.aload_n 0, 1) := by decide +kernel
theorem dL_act_722 : decode cL_act 722 = .ok (.invokevirtual 39, 3) := by decide +kernel
theorem dL_act_725 : decode cL_act 725 = .ok (.iload 14, 2) := by decide +kernel
theorem dL_act_727 : decode cL_act 727 = .ok (.iload 7, 2) := by decide +kernel
theorem dL_act_729 : decode cL_act 729 = .ok (.iadd, 1) := by decide +kernel
theorem dL_act_730 : decode cL_act 730 = .ok (.if_icmp .ne 48, 3) := by decide +kernel
theorem dL_act_733 : decode cL_act 733 = .ok (.iload 15, 2) := by decide +kernel
theorem dL_act_735 : decode cL_act 735 = .ok (.iload 5, 2) := by decide +kernel
theorem dL_act_737 : decode cL_act 737 = .ok (.if_icmp .gt 41, 3) := by decide +kernel
theorem dL_act_740 : decode cL_act 740 = .ok (.aload_n 0, 1) := by decide +kernel
theorem dL_act_741 : decode cL_act 741 = .ok (.invokevirtual 33, 3) := by decide +kernel
theorem dL_act_744 : decode cL_act 744 = .ok (.iload 5, 2) := by decide +kernel
theorem dL_act_746 : decode cL_act 746 = .ok (.iload 15, 2) := by decide +kernel
theorem dL_act_748 : decode cL_act 748 = .ok (.isub, 1) := by decide +kernel
theorem dL_act_749 : decode cL_act 749 = .ok (.if_icmp .ne 29, 3) := by decide +kernel
theorem dL_act_752 : decode cL_act 752 = .ok (.iload 13, 2) := by decide +kernel
theorem dL_act_754 : decode cL_act 754 = .ok (.aload_n 0, 1) := by decide +kernel
theorem dL_act_755 : decode cL_act 755 = .ok (.iload 4, 2) := by decide +kernel
theorem dL_act_757 : decode cL_act 757 = .ok (.invokevirtual 76, 3) := by decide +kernel
theorem dL_act_760 : decode cL_act 760 = .ok (.iadd, 1) := by decide +kernel
theorem dL_act_761 : decode cL_act 761 = .ok (.iload 12, 2) := by decide +kernel
theorem dL_act_763 : decode cL_act 763 = .ok (.isub, 1) := by decide +kernel
theorem dL_act_764 : decode cL_act 764 = .ok (.aload_n 0, 1) := by decide +kernel
theorem dL_act_765 : decode cL_act 765 = .ok (.invokevirtual 36, 3) := by decide +kernel
theorem dL_act_768 : decode cL_act 768 = .ok (.irem, 1) := by decide +kernel
theorem dL_act_769 : decode cL_act 769 = .ok (.iload 8, 2) := by decide +kernel
theorem dL_act_771 : decode cL_act 771 = .ok (.if_icmp .ne 7, 3) := by decide +kernel
theorem dL_act_774 : decode cL_act 774 = .ok (.iconst 1, 1) := by decide +kernel
theorem dL_act_775 : decode cL_act 775 = .ok (.goto 4, 3) := by decide +kernel
theorem dL_act_778 : decode cL_act 778 = .ok (.iconst 0, 1) := by decide +kernel
theorem dL_act_779 : decode cL_act 779 = .ok (.ireturn, 1) := by decide +kernel
theorem dL_law_0 : decode cL_law 0 = .ok (.new 9, 3) := by decide +kernel
theorem dL_law_3 : decode cL_law 3 = .ok (.dup, 1) := by decide +kernel
theorem dL_law_4 : decode cL_law 4 = .ok (.invokespecial 199, 3) := by decide +kernel
theorem dL_law_7 : decode cL_law 7 = .ok (.astore_n 1, 1) := by decide +kernel
theorem dL_law_8 : decode cL_law 8 = .ok (.bipush 6, 2) := by decide +kernel
theorem dL_law_10 : decode cL_law 10 = .ok (.newarray .int, 2) := by decide +kernel
theorem dL_law_12 : decode cL_law 12 = .ok (.astore_n 2, 1) := by decide +kernel
theorem dL_law_13 : decode cL_law 13 = .ok (.aload_n 0, 1) := by decide +kernel
theorem dL_law_14 : decode cL_law 14 = .ok (.iconst 0, 1) := by decide +kernel
theorem dL_law_15 : decode cL_law 15 = .ok (.invokestatic 200, 3) := by decide +kernel
theorem dL_law_18 : decode cL_law 18 = .ok (.istore_n 3, 1) := by decide +kernel
theorem dL_law_19 : decode cL_law 19 = .ok (.iconst 4, 1) := by decide +kernel
theorem dL_law_20 : decode cL_law 20 = .ok (.iload_n 3, 1) := by decide +kernel
theorem dL_law_21 : decode cL_law 21 = .ok (.bipush 9, 2) := by decide +kernel
theorem dL_law_23 : decode cL_law 23 = .ok (.invokestatic 167, 3) := by decide +kernel
theorem dL_law_26 : decode cL_law 26 = .ok (.iadd, 1) := by decide +kernel
theorem dL_law_27 : decode cL_law 27 = .ok (.istore 4, 2) := by decide +kernel
theorem dL_law_29 : decode cL_law 29 = .ok (.iconst 1, 1) := by decide +kernel
theorem dL_law_30 : decode cL_law 30 = .ok (.iload_n 3, 1) := by decide +kernel
theorem dL_law_31 : decode cL_law 31 = .ok (.iconst 2, 1) := by decide +kernel
theorem dL_law_32 : decode cL_law 32 = .ok (.ishr, 1) := by decide +kernel
theorem dL_law_33 : decode cL_law 33 = .ok (.iconst 4, 1) := by decide +kernel
theorem dL_law_34 : decode cL_law 34 = .ok (.invokestatic 167, 3) := by decide +kernel
theorem dL_law_37 : decode cL_law 37 = .ok (.iadd, 1) := by decide +kernel
theorem dL_law_38 : decode cL_law 38 = .ok (.istore 5, 2) := by decide +kernel
theorem dL_law_40 : decode cL_law 40 = .ok (.new 204, 3) := by decide +kernel
theorem dL_law_43 : decode cL_law 43 = .ok (.dup, 1) := by decide +kernel
theorem dL_law_44 : decode cL_law 44 = .ok (.ldc 206, 2) := by decide +kernel
theorem dL_law_46 : decode cL_law 46 = .ok (.invokespecial 208, 3) := by decide +kernel
theorem dL_law_49 : decode cL_law 49 = .ok (.iload 4, 2) := by decide +kernel
theorem dL_law_51 : decode cL_law 51 = .ok (.invokevirtual 211, 3) := by decide +kernel
theorem dL_law_54 : decode cL_law 54 = .ok (.bipush 32, 2) := by decide +kernel
theorem dL_law_56 : decode cL_law 56 = .ok (.invokevirtual 215, 3) := by decide +kernel
theorem dL_law_59 : decode cL_law 59 = .ok (.iconst 1, 1) := by decide +kernel
theorem dL_law_60 : decode cL_law 60 = .ok (.iload_n 3, 1) := by decide +kernel
theorem dL_law_61 : decode cL_law 61 = .ok (.iconst 4, 1) := by decide +kernel
theorem dL_law_62 : decode cL_law 62 = .ok (.ishr, 1) := by decide +kernel
theorem dL_law_63 : decode cL_law 63 = .ok (.bipush 9, 2) := by decide +kernel
theorem dL_law_65 : decode cL_law 65 = .ok (.invokestatic 167, 3) := by decide +kernel
theorem dL_law_68 : decode cL_law 68 = .ok (.iadd, 1) := by decide +kernel
theorem dL_law_69 : decode cL_law 69 = .ok (.invokevirtual 211, 3) := by decide +kernel
theorem dL_law_72 : decode cL_law 72 = .ok (.bipush 59, 2) := by decide +kernel
theorem dL_law_74 : decode cL_law 74 = .ok (.invokevirtual 215, 3) := by decide +kernel
theorem dL_law_77 : decode cL_law 77 = .ok (.astore 6, 2) := by decide +kernel
theorem dL_law_79 : decode cL_law 79 = .ok (.iconst 0, 1) := by decide +kernel
theorem dL_law_80 : decode cL_law 80 = .ok (.istore 7, 2) := by decide +kernel
theorem dL_law_82 : decode cL_law 82 = .ok (.iload 7, 2) := by decide +kernel
theorem dL_law_84 : decode cL_law 84 = .ok (.iload 4, 2) := by decide +kernel
theorem dL_law_86 : decode cL_law 86 = .ok (.if_icmp .ge 42, 3) := by decide +kernel
theorem dL_law_89 : decode cL_law 89 = .ok (.aload_n 0, 1) := by decide +kernel
theorem dL_law_90 : decode cL_law 90 = .ok (.iconst 1, 1) := by decide +kernel
theorem dL_law_91 : decode cL_law 91 = .ok (.iload 7, 2) := by decide +kernel
theorem dL_law_93 : decode cL_law 93 = .ok (.iadd, 1) := by decide +kernel
theorem dL_law_94 : decode cL_law 94 = .ok (.invokestatic 200, 3) := by decide +kernel
theorem dL_law_97 : decode cL_law 97 = .ok (.iconst 4, 1) := by decide +kernel
theorem dL_law_98 : decode cL_law 98 = .ok (.invokestatic 167, 3) := by decide +kernel
theorem dL_law_101 : decode cL_law 101 = .ok (.ifCond .ne 21, 3) := by decide +kernel
theorem dL_law_104 : decode cL_law 104 = .ok (.aload 6, 2) := by decide +kernel
theorem dL_law_106 : decode cL_law 106 = .ok (.ldc 218, 2) := by decide +kernel
theorem dL_law_108 : decode cL_law 108 = .ok (.invokevirtual 220, 3) := by decide +kernel
theorem dL_law_111 : decode cL_law 111 = .ok (.iload 7, 2) := by decide +kernel
theorem dL_law_113 : decode cL_law 113 = .ok (.invokevirtual 211, 3) := by decide +kernel
theorem dL_law_116 : decode cL_law 116 = .ok (.bipush 59, 2) := by decide +kernel
theorem dL_law_118 : decode cL_law 118 = .ok (.invokevirtual 215, 3) := by decide +kernel
theorem dL_law_121 : decode cL_law 121 = .ok (.pop, 1) := by decide +kernel
theorem dL_law_122 : decode cL_law 122 = .ok (.iinc 7 1, 3) := by decide +kernel
theorem dL_law_125 : decode cL_law 125 = .ok (.goto (-43), 3) := by decide +kernel
theorem dL_law_128 : decode cL_law 128 = .ok (.iconst 0, 1) := by decide +kernel
theorem dL_law_129 : decode cL_law 129 = .ok (.istore 7, 2) := by decide +kernel
theorem dL_law_131 : decode cL_law 131 = .ok (.iload 7, 2) := by decide +kernel
theorem dL_law_133 : decode cL_law 133 = .ok (.iload 5, 2) := by decide +kernel
theorem dL_law_135 : decode cL_law 135 = .ok (.if_icmp .ge 108, 3) := by decide +kernel
theorem dL_law_138 : decode cL_law 138 = .ok (.aload 6, 2) := by decide +kernel
theorem dL_law_140 : decode cL_law 140 = .ok (.ldc 223, 2) := by decide +kernel
theorem dL_law_142 : decode cL_law 142 = .ok (.invokevirtual 220, 3) := by decide +kernel
theorem dL_law_145 : decode cL_law 145 = .ok (.iconst 1, 1) := by decide +kernel
theorem dL_law_146 : decode cL_law 146 = .ok (.bipush 30, 2) := by decide +kernel
theorem dL_law_148 : decode cL_law 148 = .ok (.iload 7, 2) := by decide +kernel
theorem dL_law_150 : decode cL_law 150 = .ok (.imul, 1) := by decide +kernel
theorem dL_law_151 : decode cL_law 151 = .ok (.iadd, 1) := by decide +kernel
theorem dL_law_152 : decode cL_law 152 = .ok (.aload_n 0, 1) := by decide +kernel
theorem dL_law_153 : decode cL_law 153 = .ok (.bipush 20, 2) := by decide +kernel
theorem dL_law_155 : decode cL_law 155 = .ok (.iload 7, 2) := by decide +kernel
theorem dL_law_157 : decode cL_law 157 = .ok (.iadd, 1) := by decide +kernel
theorem dL_law_158 : decode cL_law 158 = .ok (.invokestatic 200, 3) := by decide +kernel
theorem dL_law_161 : decode cL_law 161 = .ok (.bipush 30, 2) := by decide +kernel
theorem dL_law_163 : decode cL_law 163 = .ok (.invokestatic 167, 3) := by decide +kernel
theorem dL_law_166 : decode cL_law 166 = .ok (.iadd, 1) := by decide +kernel
theorem dL_law_167 : decode cL_law 167 = .ok (.invokevirtual 211, 3) := by decide +kernel
theorem dL_law_170 : decode cL_law 170 = .ok (.bipush 32, 2) := by decide +kernel
theorem dL_law_172 : decode cL_law 172 = .ok (.invokevirtual 215, 3) := by decide +kernel
theorem dL_law_175 : decode cL_law 175 = .ok (.iconst 1, 1) := by decide +kernel
theorem dL_law_176 : decode cL_law 176 = .ok (.aload_n 0, 1) := by decide +kernel
theorem dL_law_177 : decode cL_law 177 = .ok (.bipush 20, 2) := by decide +kernel
theorem dL_law_179 : decode cL_law 179 = .ok (.iload 7, 2) := by decide +kernel
theorem dL_law_181 : decode cL_law 181 = .ok (.iadd, 1) := by decide +kernel
theorem dL_law_182 : decode cL_law 182 = .ok (.invokestatic 200, 3) := by decide +kernel
theorem dL_law_185 : decode cL_law 185 = .ok (.iconst 2, 1) := by decide +kernel
theorem dL_law_186 : decode cL_law 186 = .ok (.ishr, 1) := by decide +kernel
theorem dL_law_187 : decode cL_law 187 = .ok (.iconst 5, 1) := by decide +kernel
theorem dL_law_188 : decode cL_law 188 = .ok (.invokestatic 167, 3) := by decide +kernel
theorem dL_law_191 : decode cL_law 191 = .ok (.iadd, 1) := by decide +kernel
theorem dL_law_192 : decode cL_law 192 = .ok (.invokevirtual 211, 3) := by decide +kernel
theorem dL_law_195 : decode cL_law 195 = .ok (.bipush 32, 2) := by decide +kernel
theorem dL_law_197 : decode cL_law 197 = .ok (.invokevirtual 215, 3) := by decide +kernel
theorem dL_law_200 : decode cL_law 200 = .ok (.iconst 1, 1) := by decide +kernel
theorem dL_law_201 : decode cL_law 201 = .ok (.aload_n 0, 1) := by decide +kernel
theorem dL_law_202 : decode cL_law 202 = .ok (.bipush 20, 2) := by decide +kernel
theorem dL_law_204 : decode cL_law 204 = .ok (.iload 7, 2) := by decide +kernel
theorem dL_law_206 : decode cL_law 206 = .ok (.iadd, 1) := by decide +kernel
theorem dL_law_207 : decode cL_law 207 = .ok (.invokestatic 200, 3) := by decide +kernel
theorem dL_law_210 : decode cL_law 210 = .ok (.iconst 4, 1) := by decide +kernel
theorem dL_law_211 : decode cL_law 211 = .ok (.ishr, 1) := by decide +kernel
theorem dL_law_212 : decode cL_law 212 = .ok (.bipush 9, 2) := by decide +kernel
theorem dL_law_214 : decode cL_law 214 = .ok (.invokestatic 167, 3) := by decide +kernel
theorem dL_law_217 : decode cL_law 217 = .ok (.iadd, 1) := by decide +kernel
theorem dL_law_218 : decode cL_law 218 = .ok (.invokevirtual 211, 3) := by decide +kernel
theorem dL_law_221 : decode cL_law 221 = .ok (.bipush 32, 2) := by decide +kernel
theorem dL_law_223 : decode cL_law 223 = .ok (.invokevirtual 215, 3) := by decide +kernel
theorem dL_law_226 : decode cL_law 226 = .ok (.iload 7, 2) := by decide +kernel
theorem dL_law_228 : decode cL_law 228 = .ok (.invokevirtual 211, 3) := by decide +kernel
theorem dL_law_231 : decode cL_law 231 = .ok (.bipush 59, 2) := by decide +kernel
theorem dL_law_233 : decode cL_law 233 = .ok (.invokevirtual 215, 3) := by decide +kernel
theorem dL_law_236 : decode cL_law 236 = .ok (.pop, 1) := by decide +kernel
theorem dL_law_237 : decode cL_law 237 = .ok (.iinc 7 1, 3) := by decide +kernel
theorem dL_law_240 : decode cL_law 240 = .ok (.goto (-109), 3) := by decide +kernel
theorem dL_law_243 : decode cL_law 243 = .ok (.aload_n 1, 1) := by decide +kernel
theorem dL_law_244 : decode cL_law 244 = .ok (.aload_n 2, 1) := by decide +kernel
theorem dL_law_245 : decode cL_law 245 = .ok (.aload 6, 2) := by decide +kernel
theorem dL_law_247 : decode cL_law 247 = .ok (.invokevirtual 225, 3) := by decide +kernel
theorem dL_law_250 : decode cL_law 250 = .ok (.invokestatic 229, 3) := by decide +kernel
theorem dL_law_253 : decode cL_law 253 = .ok (.aload_n 1, 1) := by decide +kernel
theorem dL_law_254 : decode cL_law 254 = .ok (.aload_n 1, 1) := by decide +kernel
theorem dL_law_255 : decode cL_law 255 = .ok (.aload_n 2, 1) := by decide +kernel
theorem dL_law_256 : decode cL_law 256 = .ok (.invokestatic 233, 3) := by decide +kernel
theorem dL_law_259 : decode cL_law 259 = .ok (.invokevirtual 237, 3) := by decide +kernel
theorem dL_law_262 : decode cL_law 262 = .ok (.iload 5, 2) := by decide +kernel
theorem dL_law_264 : decode cL_law 264 = .ok (.if_icmp .ne 10, 3) := by decide +kernel
theorem dL_law_267 : decode cL_law 267 = .ok (.aload_n 1, 1) := by decide +kernel
theorem dL_law_268 : decode cL_law 268 = .ok (.invokevirtual 240, 3) := by decide +kernel
theorem dL_law_271 : decode cL_law 271 = .ok (.ifCond .eq 5, 3) := by decide +kernel
theorem dL_law_274 : decode cL_law 274 = .ok (.iconst 0, 1) := by decide +kernel
theorem dL_law_275 : decode cL_law 275 = .ok (.ireturn, 1) := by decide +kernel
theorem dL_law_276 : decode cL_law 276 = .ok (.iconst 0, 1) := by decide +kernel
theorem dL_law_277 : decode cL_law 277 = .ok (.istore 7, 2) := by decide +kernel
theorem dL_law_279 : decode cL_law 279 = .ok (.iload 7, 2) := by decide +kernel
theorem dL_law_281 : decode cL_law 281 = .ok (.bipush 40, 2) := by decide +kernel
theorem dL_law_283 : decode cL_law 283 = .ok (.if_icmp .ge 166, 3) := by decide +kernel
theorem dL_law_286 : decode cL_law 286 = .ok (.aload_n 0, 1) := by decide +kernel
theorem dL_law_287 : decode cL_law 287 = .ok (.bipush 8, 2) := by decide +kernel
theorem dL_law_289 : decode cL_law 289 = .ok (.iload 7, 2) := by decide +kernel
theorem dL_law_291 : decode cL_law 291 = .ok (.bipush 28, 2) := by decide +kernel
theorem dL_law_293 : decode cL_law 293 = .ok (.irem, 1) := by decide +kernel
theorem dL_law_294 : decode cL_law 294 = .ok (.iadd, 1) := by decide +kernel
theorem dL_law_295 : decode cL_law 295 = .ok (.invokestatic 200, 3) := by decide +kernel
theorem dL_law_298 : decode cL_law 298 = .ok (.iload 7, 2) := by decide +kernel
theorem dL_law_300 : decode cL_law 300 = .ok (.bipush 28, 2) := by decide +kernel
theorem dL_law_302 : decode cL_law 302 = .ok (.idiv, 1) := by decide +kernel
theorem dL_law_303 : decode cL_law 303 = .ok (.iconst 2, 1) := by decide +kernel
theorem dL_law_304 : decode cL_law 304 = .ok (.imul, 1) := by decide +kernel
theorem dL_law_305 : decode cL_law 305 = .ok (.ishr, 1) := by decide +kernel
theorem dL_law_306 : decode cL_law 306 = .ok (.istore 8, 2) := by decide +kernel
theorem dL_law_308 : decode cL_law 308 = .ok (.iload 7, 2) := by decide +kernel
theorem dL_law_310 : decode cL_law 310 = .ok (.iconst 2, 1) := by decide +kernel
theorem dL_law_311 : decode cL_law 311 = .ok (.irem, 1) := by decide +kernel
theorem dL_law_312 : decode cL_law 312 = .ok (.ifCond .ne 12, 3) := by decide +kernel
theorem dL_law_315 : decode cL_law 315 = .ok (.aload_n 1, 1) := by decide +kernel
theorem dL_law_316 : decode cL_law 316 = .ok (.invokestatic 243, 3) := by decide +kernel
theorem dL_law_319 : decode cL_law 319 = .ok (.ifCond .ne 5, 3) := by decide +kernel
theorem dL_law_322 : decode cL_law 322 = .ok (.iconst 0, 1) := by decide +kernel
theorem dL_law_323 : decode cL_law 323 = .ok (.ireturn, 1) := by decide +kernel
theorem dL_law_324 : decode cL_law 324 = .ok (.aload_n 1, 1) := by decide +kernel
theorem dL_law_325 : decode cL_law 325 = .ok (.invokestatic 246, 3) := by decide +kernel
theorem dL_law_328 : decode cL_law 328 = .ok (.astore 9, 2) := by decide +kernel
theorem dL_law_330 : decode cL_law 330 = .ok (.aload_n 1, 1) := by decide +kernel
theorem dL_law_331 : decode cL_law 331 = .ok (.invokevirtual 240, 3) := by decide +kernel
theorem dL_law_334 : decode cL_law 334 = .ok (.istore 10, 2) := by decide +kernel
theorem dL_law_336 : decode cL_law 336 = .ok (.aload_n 1, 1) := by decide +kernel
theorem dL_law_337 : decode cL_law 337 = .ok (.iload 8, 2) := by decide +kernel
theorem dL_law_339 : decode cL_law 339 = .ok (.invokestatic 250, 3) := by decide +kernel
theorem dL_law_342 : decode cL_law 342 = .ok (.ifCond .ne 5, 3) := by decide +kernel
theorem dL_law_345 : decode cL_law 345 = .ok (.iconst 0, 1) := by decide +kernel
theorem dL_law_346 : decode cL_law 346 = .ok (.ireturn, 1) := by decide +kernel
theorem dL_law_347 : decode cL_law 347 = .ok (.aload_n 1, 1) := by decide +kernel
theorem dL_law_348 : decode cL_law 348 = .ok (.invokestatic 246, 3) := by decide +kernel
theorem dL_law_351 : decode cL_law 351 = .ok (.astore 11, 2) := by decide +kernel
theorem dL_law_353 : decode cL_law 353 = .ok (.aload_n 1, 1) := by decide +kernel
theorem dL_law_354 : decode cL_law 354 = .ok (.invokevirtual 240, 3) := by decide +kernel
theorem dL_law_357 : decode cL_law 357 = .ok (.iload 10, 2) := by decide +kernel
theorem dL_law_359 : decode cL_law 359 = .ok (.iconst 1, 1) := by decide +kernel
theorem dL_law_360 : decode cL_law 360 = .ok (.iadd, 1) := by decide +kernel
theorem dL_law_361 : decode cL_law 361 = .ok (.if_icmp .ne 54, 3) := by decide +kernel
theorem dL_law_364 : decode cL_law 364 = .ok (.iload 7, 2) := by decide +kernel
theorem dL_law_366 : decode cL_law 366 = .ok (.iconst 3, 1) := by decide +kernel
theorem dL_law_367 : decode cL_law 367 = .ok (.irem, 1) := by decide +kernel
theorem dL_law_368 : decode cL_law 368 = .ok (.ifCond .ne 47, 3) := by decide +kernel
theorem dL_law_371 : decode cL_law 371 = .ok (.aload_n 1, 1) := by decide +kernel
theorem dL_law_372 : decode cL_law 372 = .ok (.invokevirtual 254, 3) := by decide +kernel
theorem dL_law_375 : decode cL_law 375 = .ok (.iload 10, 2) := by decide +kernel
theorem dL_law_377 : decode cL_law 377 = .ok (.if_icmp .ne 36, 3) := by decide +kernel
theorem dL_law_380 : decode cL_law 380 = .ok (.aload_n 1, 1) := by decide +kernel
theorem dL_law_381 : decode cL_law 381 = .ok (.invokestatic 246, 3) := by decide +kernel
theorem dL_law_384 : decode cL_law 384 = .ok (.aload 9, 2) := by decide +kernel
theorem dL_law_386 : decode cL_law 386 = .ok (.invokestatic 257, 3) := by decide +kernel
theorem dL_law_389 : decode cL_law 389 = .ok (.ifCond .eq 24, 3) := by decide +kernel
theorem dL_law_392 : decode cL_law 392 = .ok (.aload_n 1, 1) := by decide +kernel
theorem dL_law_393 : decode cL_law 393 = .ok (.iload 8, 2) := by decide +kernel
theorem dL_law_395 : decode cL_law 395 = .ok (.invokestatic 250, 3) := by decide +kernel
theorem dL_law_398 : decode cL_law 398 = .ok (.ifCond .eq 15, 3) := by decide +kernel
theorem dL_law_401 : decode cL_law 401 = .ok (.aload_n 1, 1) := by decide +kernel
theorem dL_law_402 : decode cL_law 402 = .ok (.invokestatic 246, 3) := by decide +kernel
theorem dL_law_405 : decode cL_law 405 = .ok (.aload 11, 2) := by decide +kernel
theorem dL_law_407 : decode cL_law 407 = .ok (.invokestatic 257, 3) := by decide +kernel
theorem dL_law_410 : decode cL_law 410 = .ok (.ifCond .ne 5, 3) := by decide +kernel
theorem dL_law_413 : decode cL_law 413 = .ok (.iconst 0, 1) := by decide +kernel
theorem dL_law_414 : decode cL_law 414 = .ok (.ireturn, 1) := by decide +kernel
theorem dL_law_415 : decode cL_law 415 = .ok (.aload_n 1, 1) := by decide +kernel
theorem dL_law_416 : decode cL_law 416 = .ok (.invokevirtual 240, 3) := by decide +kernel
theorem dL_law_419 : decode cL_law 419 = .ok (.iload 10, 2) := by decide +kernel
theorem dL_law_421 : decode cL_law 421 = .ok (.if_icmp .ne 22, 3) := by decide +kernel
theorem dL_law_424 : decode cL_law 424 = .ok (.iload 10, 2) := by decide +kernel
theorem dL_law_426 : decode cL_law 426 = .ok (.bipush 8, 2) := by decide +kernel
theorem dL_law_428 : decode cL_law 428 = .ok (.if_icmp .ge 15, 3) := by decide +kernel
theorem dL_law_431 : decode cL_law 431 = .ok (.aload 9, 2) := by decide +kernel
theorem dL_law_433 : decode cL_law 433 = .ok (.aload 11, 2) := by decide +kernel
theorem dL_law_435 : decode cL_law 435 = .ok (.invokestatic 257, 3) := by decide +kernel
theorem dL_law_438 : decode cL_law 438 = .ok (.ifCond .ne 5, 3) := by decide +kernel
theorem dL_law_441 : decode cL_law 441 = .ok (.iconst 0, 1) := by decide +kernel
theorem dL_law_442 : decode cL_law 442 = .ok (.ireturn, 1) := by decide +kernel
theorem dL_law_443 : decode cL_law 443 = .ok (.iinc 7 1, 3) := by decide +kernel
theorem dL_law_446 : decode cL_law 446 = .ok (.goto (-167), 3) := by decide +kernel
theorem dL_law_449 : decode cL_law 449 = .ok (.aload_n 1, 1) := by decide +kernel
theorem dL_law_450 : decode cL_law 450 = .ok (.invokevirtual 261, 3) := by decide +kernel
theorem dL_law_453 : decode cL_law 453 = .ok (.aload_n 1, 1) := by decide +kernel
theorem dL_law_454 : decode cL_law 454 = .ok (.invokestatic 246, 3) := by decide +kernel
theorem dL_law_457 : decode cL_law 457 = .ok (.astore 7, 2) := by decide +kernel
theorem dL_law_459 : decode cL_law 459 = .ok (.iconst 0, 1) := by decide +kernel
theorem dL_law_460 : decode cL_law 460 = .ok (.istore 8, 2) := by decide +kernel
theorem dL_law_462 : decode cL_law 462 = .ok (.iload 8, 2) := by decide +kernel
theorem dL_law_464 : decode cL_law 464 = .ok (.iconst 5, 1) := by decide +kernel
theorem dL_law_465 : decode cL_law 465 = .ok (.if_icmp .ge 27, 3) := by decide +kernel
theorem dL_law_468 : decode cL_law 468 = .ok (.aload_n 1, 1) := by decide +kernel
theorem dL_law_469 : decode cL_law 469 = .ok (.aload_n 0, 1) := by decide +kernel
theorem dL_law_470 : decode cL_law 470 = .ok (.bipush 36, 2) := by decide +kernel
theorem dL_law_472 : decode cL_law 472 = .ok (.iload 8, 2) := by decide +kernel
theorem dL_law_474 : decode cL_law 474 = .ok (.iadd, 1) := by decide +kernel
theorem dL_law_475 : decode cL_law 475 = .ok (.invokestatic 200, 3) := by decide +kernel
theorem dL_law_478 : decode cL_law 478 = .ok (.invokestatic 250, 3) := by decide +kernel
theorem dL_law_481 : decode cL_law 481 = .ok (.ifCond .ne 5, 3) := by decide +kernel
theorem dL_law_484 : decode cL_law 484 = .ok (.iconst 0, 1) := by decide +kernel
theorem dL_law_485 : decode cL_law 485 = .ok (.ireturn, 1) := by decide +kernel
theorem dL_law_486 : decode cL_law 486 = .ok (.iinc 8 1, 3) := by decide +kernel
theorem dL_law_489 : decode cL_law 489 = .ok (.goto (-27), 3) := by decide +kernel
theorem dL_law_492 : decode cL_law 492 = .ok (.aload_n 1, 1) := by decide +kernel
theorem dL_law_493 : decode cL_law 493 = .ok (.invokevirtual 264, 3) := by decide +kernel
theorem dL_law_496 : decode cL_law 496 = .ok (.aload 7, 2) := by decide +kernel
theorem dL_law_498 : decode cL_law 498 = .ok (.iconst 0, 1) := by decide +kernel
theorem dL_law_499 : decode cL_law 499 = .ok (.iaload, 1) := by decide +kernel
theorem dL_law_500 : decode cL_law 500 = .ok (.if_icmp .ne 26, 3) := by decide +kernel
theorem dL_law_503 : decode cL_law 503 = .ok (.aload_n 1, 1) := by decide +kernel
theorem dL_law_504 : decode cL_law 504 = .ok (.invokestatic 246, 3) := by decide +kernel
theorem dL_law_507 : decode cL_law 507 = .ok (.aload 7, 2) := by decide +kernel
theorem dL_law_509 : decode cL_law 509 = .ok (.invokestatic 257, 3) := by decide +kernel
theorem dL_law_512 : decode cL_law 512 = .ok (.ifCond .eq 14, 3) := by decide +kernel
theorem dL_law_515 : decode cL_law 515 = .ok (.aload_n 1, 1) := by decide +kernel
theorem dL_law_516 : decode cL_law 516 = .ok (.invokevirtual 240, 3) := by decide +kernel
theorem dL_law_519 : decode cL_law 519 = .ok (.ifCond .ne 7, 3) := by decide +kernel
theorem dL_law_522 : decode cL_law 522 = .ok (.iconst 1, 1) := by decide +kernel
theorem dL_law_523 : decode cL_law 523 = .ok (.goto 4, 3) := by decide +kernel
theorem dL_law_526 : decode cL_law 526 = .ok (.iconst 0, 1) := by decide +kernel
theorem dL_law_527 : decode cL_law 527 = .ok (.ireturn, 1) := by decide +kernel
