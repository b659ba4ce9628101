theorem dX3_clear_5 : decode cX3_clear 5 = .ok (.aload_n 0, 1) := by decide +kernel
theorem dX3_clear_6 : decode cX3_clear 6 = .ok (.iconst 0, 1) := by decide +kernel
theorem dX3_clear_7 : decode cX3_clear 7 = .ok (.putfield 26, 3) := by decide +kernel
theorem dX3_clear_10 : decode cX3_clear 10 = .ok (.aload_n 0, 1) := by decide +kernel
theorem dX3_clear_11 : decode cX3_clear 11 = .ok (.iconst 0, 1) := by decide +kernel
theorem dX3_clear_12 : decode cX3_clear 12 = .ok (.putfield 29, 3) := by decide +kernel
theorem dX3_clear_15 : decode cX3_clear 15 = .ok (.aload_n 0, 1) := by decide +kernel
theorem dX3_clear_16 : decode cX3_clear 16 = .ok (.iconst 0, 1) := by decide +kernel
theorem dX3_clear_17 : decode cX3_clear 17 = .ok (.putfield 32, 3) := by decide +kernel
theorem dX3_clear_20 : decode cX3_clear 20 = .ok (.return_, 1) := by decide +kernel
theorem dX3_holdsIn_0 : decode cX3_holdsIn 0 = .ok (.aload_n 0, 1) := by decide +kernel
theorem dX3_holdsIn_1 : decode cX3_holdsIn 1 = .ok (.getfield 26, 3) := by decide +kernel
theorem dX3_holdsIn_4 : decode cX3_holdsIn 4 = .ok (.iconst 2, 1) := by decide +kernel
theorem dX3_holdsIn_5 : decode cX3_holdsIn 5 = .ok (.if_icmp .eq 16, 3) := by decide +kernel
theorem dX3_holdsIn_8 : decode cX3_holdsIn 8 = .ok (.aload_n 0, 1) := by decide +kernel
theorem dX3_holdsIn_9 : decode cX3_holdsIn 9 = .ok (.getfield 26, 3) := by decide +kernel
theorem dX3_holdsIn_12 : decode cX3_holdsIn 12 = .ok (.iconst 1, 1) := by decide +kernel
theorem dX3_holdsIn_13 : decode cX3_holdsIn 13 = .ok (.if_icmp .ne 12, 3) := by decide +kernel
theorem dX3_holdsIn_16 : decode cX3_holdsIn 16 = .ok (.iload_n 1, 1) := by decide +kernel
theorem dX3_holdsIn_17 : decode cX3_holdsIn 17 = .ok (.iload_n 2, 1) := by decide +kernel
theorem dX3_holdsIn_18 : decode cX3_holdsIn 18 = .ok (.if_icmp .ne 7, 3) := by decide +kernel
theorem dX3_holdsIn_21 : decode cX3_holdsIn 21 = .ok (.iconst 1, 1) := by decide +kernel
theorem dX3_holdsIn_22 : decode cX3_holdsIn 22 = .ok (.goto 4, 3) := by decide +kernel
theorem dX3_holdsIn_25 : decode cX3_holdsIn 25 = .ok (.iconst 0, 1) := by decide +kernel
theorem dX3_holdsIn_26 : decode cX3_holdsIn 26 = .ok (.ireturn, 1) := by decide +kernel
theorem dX3_addRain_0 : decode cX3_addRain 0 = .ok (.aload_n 0, 1) := by decide +kernel
theorem dX3_addRain_1 : decode cX3_addRain 1 = .ok (.getfield 9, 3) := by decide +kernel
theorem dX3_addRain_4 : decode cX3_addRain 4 = .ok (.aload_n 0, 1) := by decide +kernel
theorem dX3_addRain_5 : decode cX3_addRain 5 = .ok (.getfield 29, 3) := by decide +kernel
theorem dX3_addRain_8 : decode cX3_addRain 8 = .ok (.iload_n 1, 1) := by decide +kernel
theorem dX3_addRain_9 : decode cX3_addRain 9 = .ok (.iastore, 1) := by decide +kernel
theorem dX3_addRain_10 : decode cX3_addRain 10 = .ok (.aload_n 0, 1) := by decide +kernel
theorem dX3_addRain_11 : decode cX3_addRain 11 = .ok (.getfield 13, 3) := by decide +kernel
theorem dX3_addRain_14 : decode cX3_addRain 14 = .ok (.aload_n 0, 1) := by decide +kernel
theorem dX3_addRain_15 : decode cX3_addRain 15 = .ok (.getfield 29, 3) := by decide +kernel
theorem dX3_addRain_18 : decode cX3_addRain 18 = .ok (.iload_n 2, 1) := by decide +kernel
theorem dX3_addRain_19 : decode cX3_addRain 19 = .ok (.iastore, 1) := by decide +kernel
theorem dX3_addRain_20 : decode cX3_addRain 20 = .ok (.aload_n 0, 1) := by decide +kernel
theorem dX3_addRain_21 : decode cX3_addRain 21 = .ok (.dup, 1) := by decide +kernel
theorem dX3_addRain_22 : decode cX3_addRain 22 = .ok (.getfield 29, 3) := by decide +kernel
theorem dX3_addRain_25 : decode cX3_addRain 25 = .ok (.iconst 1, 1) := by decide +kernel
theorem dX3_addRain_26 : decode cX3_addRain 26 = .ok (.iadd, 1) := by decide +kernel
theorem dX3_addRain_27 : decode cX3_addRain 27 = .ok (.putfield 29, 3) := by decide +kernel
theorem dX3_addRain_30 : decode cX3_addRain 30 = .ok (.return_, 1) := by decide +kernel
theorem dX3_addRent_0 : decode cX3_addRent 0 = .ok (.aload_n 0, 1) := by decide +kernel
theorem dX3_addRent_1 : decode cX3_addRent 1 = .ok (.getfield 16, 3) := by decide +kernel
theorem dX3_addRent_4 : decode cX3_addRent 4 = .ok (.aload_n 0, 1) := by decide +kernel
theorem dX3_addRent_5 : decode cX3_addRent 5 = .ok (.getfield 32, 3) := by decide +kernel
theorem dX3_addRent_8 : decode cX3_addRent 8 = .ok (.iload_n 1, 1) := by decide +kernel
theorem dX3_addRent_9 : decode cX3_addRent 9 = .ok (.iastore, 1) := by decide +kernel
theorem dX3_addRent_10 : decode cX3_addRent 10 = .ok (.aload_n 0, 1) := by decide +kernel
theorem dX3_addRent_11 : decode cX3_addRent 11 = .ok (.getfield 19, 3) := by decide +kernel
theorem dX3_addRent_14 : decode cX3_addRent 14 = .ok (.aload_n 0, 1) := by decide +kernel
theorem dX3_addRent_15 : decode cX3_addRent 15 = .ok (.getfield 32, 3) := by decide +kernel
theorem dX3_addRent_18 : decode cX3_addRent 18 = .ok (.iload_n 2, 1) := by decide +kernel
theorem dX3_addRent_19 : decode cX3_addRent 19 = .ok (.iastore, 1) := by decide +kernel
theorem dX3_addRent_20 : decode cX3_addRent 20 = .ok (.aload_n 0, 1) := by decide +kernel
theorem dX3_addRent_21 : decode cX3_addRent 21 = .ok (.dup, 1) := by decide +kernel
theorem dX3_addRent_22 : decode cX3_addRent 22 = .ok (.getfield 32, 3) := by decide +kernel
theorem dX3_addRent_25 : decode cX3_addRent 25 = .ok (.iconst 1, 1) := by decide +kernel
theorem dX3_addRent_26 : decode cX3_addRent 26 = .ok (.iadd, 1) := by decide +kernel
theorem dX3_addRent_27 : decode cX3_addRent 27 = .ok (.putfield 32, 3) := by decide +kernel
theorem dX3_addRent_30 : decode cX3_addRent 30 = .ok (.return_, 1) := by decide +kernel
theorem dX3_leastNextEnd_0 : decode cX3_leastNextEnd 0 = .ok (.aload_n 0, 1) := by decide +kernel
theorem dX3_leastNextEnd_1 : decode cX3_leastNextEnd 1 = .ok (.getfield 32, 3) := by decide +kernel
theorem dX3_leastNextEnd_4 : decode cX3_leastNextEnd 4 = .ok (.ifCond .ne 7, 3) := by decide +kernel
theorem dX3_leastNextEnd_7 : decode cX3_leastNextEnd 7 = .ok (.iconst 0, 1) := by decide +kernel
theorem dX3_leastNextEnd_8 : decode cX3_leastNextEnd 8 = .ok (.goto 16, 3) := by decide +kernel
theorem dX3_leastNextEnd_11 : decode cX3_leastNextEnd 11 = .ok (.aload_n 0, 1) := by decide +kernel
theorem dX3_leastNextEnd_12 : decode cX3_leastNextEnd 12 = .ok (.getfield 16, 3) := by decide +kernel
theorem dX3_leastNextEnd_15 : decode cX3_leastNextEnd 15 = .ok (.aload_n 0, 1) := by decide +kernel
theorem dX3_leastNextEnd_16 : decode cX3_leastNextEnd 16 = .ok (.getfield 32, 3) := by decide +kernel
theorem dX3_leastNextEnd_19 : decode cX3_leastNextEnd 19 = .ok (.iconst 1, 1) := by decide +kernel
theorem dX3_leastNextEnd_20 : decode cX3_leastNextEnd 20 = .ok (.isub, 1) := by decide +kernel
theorem dX3_leastNextEnd_21 : decode cX3_leastNextEnd 21 = .ok (.iaload, 1) := by decide +kernel
theorem dX3_leastNextEnd_22 : decode cX3_leastNextEnd 22 = .ok (.iconst 1, 1) := by decide +kernel
theorem dX3_leastNextEnd_23 : decode cX3_leastNextEnd 23 = .ok (.iadd, 1) := by decide +kernel
theorem dX3_leastNextEnd_24 : decode cX3_leastNextEnd 24 = .ok (.ireturn, 1) := by decide +kernel
theorem dX3_partOfRain_0 : decode cX3_partOfRain 0 = .ok (.iconst 0, 1) := by decide +kernel
theorem dX3_partOfRain_1 : decode cX3_partOfRain 1 = .ok (.istore_n 2, 1) := by decide +kernel
theorem dX3_partOfRain_2 : decode cX3_partOfRain 2 = .ok (.iload_n 2, 1) := by decide +kernel
theorem dX3_partOfRain_3 : decode cX3_partOfRain 3 = .ok (.aload_n 0, 1) := by decide +kernel
theorem dX3_partOfRain_4 : decode cX3_partOfRain 4 = .ok (.getfield 29, 3) := by decide +kernel
theorem dX3_partOfRain_7 : decode cX3_partOfRain 7 = .ok (.if_icmp .ge 26, 3) := by decide +kernel
theorem dX3_partOfRain_10 : decode cX3_partOfRain 10 = .ok (.iload_n 1, 1) := by decide +kernel
theorem dX3_partOfRain_11 : decode cX3_partOfRain 11 = .ok (.aload_n 0, 1) := by decide +kernel
theorem dX3_partOfRain_12 : decode cX3_partOfRain 12 = .ok (.getfield 9, 3) := by decide +kernel
theorem dX3_partOfRain_15 : decode cX3_partOfRain 15 = .ok (.iload_n 2, 1) := by decide +kernel
theorem dX3_partOfRain_16 : decode cX3_partOfRain 16 = .ok (.iaload, 1) := by decide +kernel
theorem dX3_partOfRain_17 : decode cX3_partOfRain 17 = .ok (.if_icmp .lt 10, 3) := by decide +kernel
theorem dX3_partOfRain_20 : decode cX3_partOfRain 20 = .ok (.aload_n 0, 1) := by decide +kernel
theorem dX3_partOfRain_21 : decode cX3_partOfRain 21 = .ok (.getfield 13, 3) := by decide +kernel
theorem dX3_partOfRain_24 : decode cX3_partOfRain 24 = .ok (.iload_n 2, 1) := by decide +kernel
theorem dX3_partOfRain_25 : decode cX3_partOfRain 25 = .ok (.iaload, 1) := by decide +kernel
theorem dX3_partOfRain_26 : decode cX3_partOfRain 26 = .ok (.ireturn, 1) := by decide +kernel
theorem dX3_partOfRain_27 : decode cX3_partOfRain 27 = .ok (.iinc 2 1, 3) := by decide +kernel
theorem dX3_partOfRain_30 : decode cX3_partOfRain 30 = .ok (.goto (-28), 3) := by decide +kernel
theorem dX3_partOfRain_33 : decode cX3_partOfRain 33 = .ok (.iconst 0, 1) := by decide +kernel
theorem dX3_partOfRain_34 : decode cX3_partOfRain 34 = .ok (.ireturn, 1) := by decide +kernel
theorem dX3_rentOf_0 : decode cX3_rentOf 0 = .ok (.iconst 0, 1) := by decide +kernel
theorem dX3_rentOf_1 : decode cX3_rentOf 1 = .ok (.istore_n 2, 1) := by decide +kernel
theorem dX3_rentOf_2 : decode cX3_rentOf 2 = .ok (.iconst 0, 1) := by decide +kernel
theorem dX3_rentOf_3 : decode cX3_rentOf 3 = .ok (.istore_n 3, 1) := by decide +kernel
theorem dX3_rentOf_4 : decode cX3_rentOf 4 = .ok (.iconst 0, 1) := by decide +kernel
theorem dX3_rentOf_5 : decode cX3_rentOf 5 = .ok (.istore 4, 2) := by decide +kernel
theorem dX3_rentOf_7 : decode cX3_rentOf 7 = .ok (.iload 4, 2) := by decide +kernel
theorem dX3_rentOf_9 : decode cX3_rentOf 9 = .ok (.aload_n 0, 1) := by decide +kernel
theorem dX3_rentOf_10 : decode cX3_rentOf 10 = .ok (.getfield 32, 3) := by decide +kernel
theorem dX3_rentOf_13 : decode cX3_rentOf 13 = .ok (.if_icmp .ge 52, 3) := by decide +kernel
theorem dX3_rentOf_16 : decode cX3_rentOf 16 = .ok (.iconst 0, 1) := by decide +kernel
theorem dX3_rentOf_17 : decode cX3_rentOf 17 = .ok (.iload_n 1, 1) := by decide +kernel
theorem dX3_rentOf_18 : decode cX3_rentOf 18 = .ok (.aload_n 0, 1) := by decide +kernel
theorem dX3_rentOf_19 : decode cX3_rentOf 19 = .ok (.getfield 16, 3) := by decide +kernel
theorem dX3_rentOf_22 : decode cX3_rentOf 22 = .ok (.iload 4, 2) := by decide +kernel
theorem dX3_rentOf_24 : decode cX3_rentOf 24 = .ok (.iaload, 1) := by decide +kernel
theorem dX3_rentOf_25 : decode cX3_rentOf 25 = .ok (.invokestatic 35, 3) := by decide +kernel
theorem dX3_rentOf_28 : decode cX3_rentOf 28 = .ok (.iload_n 3, 1) := by decide +kernel
theorem dX3_rentOf_29 : decode cX3_rentOf 29 = .ok (.isub, 1) := by decide +kernel
theorem dX3_rentOf_30 : decode cX3_rentOf 30 = .ok (.invokestatic 41, 3) := by decide +kernel
theorem dX3_rentOf_33 : decode cX3_rentOf 33 = .ok (.istore 5, 2) := by decide +kernel
theorem dX3_rentOf_35 : decode cX3_rentOf 35 = .ok (.iload_n 2, 1) := by decide +kernel
theorem dX3_rentOf_36 : decode cX3_rentOf 36 = .ok (.iload 5, 2) := by decide +kernel
theorem dX3_rentOf_38 : decode cX3_rentOf 38 = .ok (.aload_n 0, 1) := by decide +kernel
theorem dX3_rentOf_39 : decode cX3_rentOf 39 = .ok (.getfield 19, 3) := by decide +kernel
theorem dX3_rentOf_42 : decode cX3_rentOf 42 = .ok (.iload 4, 2) := by decide +kernel
theorem dX3_rentOf_44 : decode cX3_rentOf 44 = .ok (.iaload, 1) := by decide +kernel
theorem dX3_rentOf_45 : decode cX3_rentOf 45 = .ok (.imul, 1) := by decide +kernel
theorem dX3_rentOf_46 : decode cX3_rentOf 46 = .ok (.bipush 100, 2) := by decide +kernel
theorem dX3_rentOf_48 : decode cX3_rentOf 48 = .ok (.idiv, 1) := by decide +kernel
theorem dX3_rentOf_49 : decode cX3_rentOf 49 = .ok (.iadd, 1) := by decide +kernel
theorem dX3_rentOf_50 : decode cX3_rentOf 50 = .ok (.istore_n 2, 1) := by decide +kernel
theorem dX3_rentOf_51 : decode cX3_rentOf 51 = .ok (.aload_n 0, 1) := by decide +kernel
theorem dX3_rentOf_52 : decode cX3_rentOf 52 = .ok (.getfield 16, 3) := by decide +kernel
theorem dX3_rentOf_55 : decode cX3_rentOf 55 = .ok (.iload 4, 2) := by decide +kernel
theorem dX3_rentOf_57 : decode cX3_rentOf 57 = .ok (.iaload, 1) := by decide +kernel
theorem dX3_rentOf_58 : decode cX3_rentOf 58 = .ok (.istore_n 3, 1) := by decide +kernel
theorem dX3_rentOf_59 : decode cX3_rentOf 59 = .ok (.iinc 4 1, 3) := by decide +kernel
theorem dX3_rentOf_62 : decode cX3_rentOf 62 = .ok (.goto (-55), 3) := by decide +kernel
theorem dX3_rentOf_65 : decode cX3_rentOf 65 = .ok (.iload_n 2, 1) := by decide +kernel
theorem dX3_rentOf_66 : decode cX3_rentOf 66 = .ok (.ireturn, 1) := by decide +kernel
theorem dX4_init_0 : decode cX4_init 0 = .ok (.aload_n 0, 1) := by decide +kernel
theorem dX4_init_1 : decode cX4_init 1 = .ok (.invokespecial 1, 3) := by decide +kernel
theorem dX4_init_4 : decode cX4_init 4 = .ok (.return_, 1) := by decide +kernel
theorem dX4_free_0 : decode cX4_free 0 = .ok (.aload_n 0, 1) := by decide +kernel
theorem dX4_free_1 : decode cX4_free 1 = .ok (.getfield 7, 3) := by decide +kernel
theorem dX4_free_4 : decode cX4_free 4 = .ok (.aload_n 0, 1) := by decide +kernel
theorem dX4_free_5 : decode cX4_free 5 = .ok (.getfield 13, 3) := by decide +kernel
theorem dX4_free_8 : decode cX4_free 8 = .ok (.isub, 1) := by decide +kernel
theorem dX4_free_9 : decode cX4_free 9 = .ok (.ireturn, 1) := by decide +kernel
theorem dX4_toldKind_0 : decode cX4_toldKind 0 = .ok (.aload_n 0, 1) := by decide +kernel
theorem dX4_toldKind_1 : decode cX4_toldKind 1 = .ok (.getfield 7, 3) := by decide +kernel
theorem dX4_toldKind_4 : decode cX4_toldKind 4 = .ok (.ifCond .ne 5, 3) := by decide +kernel
theorem dX4_toldKind_7 : decode cX4_toldKind 7 = .ok (.iconst 3, 1) := by decide +kernel
theorem dX4_toldKind_8 : decode cX4_toldKind 8 = .ok (.ireturn, 1) := by decide +kernel
theorem dX4_toldKind_9 : decode cX4_toldKind 9 = .ok (.aload_n 0, 1) := by decide +kernel
theorem dX4_toldKind_10 : decode cX4_toldKind 10 = .ok (.invokevirtual 16, 3) := by decide +kernel
theorem dX4_toldKind_13 : decode cX4_toldKind 13 = .ok (.ifCond .le 5, 3) := by decide +kernel
theorem dX4_toldKind_16 : decode cX4_toldKind 16 = .ok (.iconst 0, 1) := by decide +kernel
theorem dX4_toldKind_17 : decode cX4_toldKind 17 = .ok (.ireturn, 1) := by decide +kernel
theorem dX4_toldKind_18 : decode cX4_toldKind 18 = .ok (.aload_n 0, 1) := by decide +kernel
theorem dX4_toldKind_19 : decode cX4_toldKind 19 = .ok (.getfield 20, 3) := by decide +kernel
theorem dX4_toldKind_22 : decode cX4_toldKind 22 = .ok (.iconst 1, 1) := by decide +kernel
theorem dX4_toldKind_23 : decode cX4_toldKind 23 = .ok (.if_icmp .lt 7, 3) := by decide +kernel
theorem dX4_toldKind_26 : decode cX4_toldKind 26 = .ok (.iconst 2, 1) := by decide +kernel
theorem dX4_toldKind_27 : decode cX4_toldKind 27 = .ok (.goto 4, 3) := by decide +kernel
theorem dX4_toldKind_30 : decode cX4_toldKind 30 = .ok (.iconst 1, 1) := by decide +kernel
theorem dX4_toldKind_31 : decode cX4_toldKind 31 = .ok (.ireturn, 1) := by decide +kernel
theorem dX4_isOf_0 : decode cX4_isOf 0 = .ok (.aload_n 0, 1) := by decide +kernel
theorem dX4_isOf_1 : decode cX4_isOf 1 = .ok (.invokevirtual 23, 3) := by decide +kernel
theorem dX4_isOf_4 : decode cX4_isOf 4 = .ok (.istore_n 2, 1) := by decide +kernel
theorem dX4_isOf_5 : decode cX4_isOf 5 = .ok (.iload_n 1, 1) := by decide +kernel
theorem dX4_isOf_6 : decode cX4_isOf 6 = .ok (.ifCond .eq 18, 3) := by decide +kernel
theorem dX4_isOf_9 : decode cX4_isOf 9 = .ok (.iload_n 1, 1) := by decide +kernel
theorem dX4_isOf_10 : decode cX4_isOf 10 = .ok (.iload_n 2, 1) := by decide +kernel
theorem dX4_isOf_11 : decode cX4_isOf 11 = .ok (.if_icmp .eq 13, 3) := by decide +kernel
theorem dX4_isOf_14 : decode cX4_isOf 14 = .ok (.iload_n 1, 1) := by decide +kernel
theorem dX4_isOf_15 : decode cX4_isOf 15 = .ok (.iconst 1, 1) := by decide +kernel
theorem dX4_isOf_16 : decode cX4_isOf 16 = .ok (.if_icmp .ne 12, 3) := by decide +kernel
theorem dX4_isOf_19 : decode cX4_isOf 19 = .ok (.iload_n 2, 1) := by decide +kernel
theorem dX4_isOf_20 : decode cX4_isOf 20 = .ok (.iconst 2, 1) := by decide +kernel
theorem dX4_isOf_21 : decode cX4_isOf 21 = .ok (.if_icmp .ne 7, 3) := by decide +kernel
theorem dX4_isOf_24 : decode cX4_isOf 24 = .ok (.iconst 1, 1) := by decide +kernel
theorem dX4_isOf_25 : decode cX4_isOf 25 = .ok (.goto 4, 3) := by decide +kernel
theorem dX4_isOf_28 : decode cX4_isOf 28 = .ok (.iconst 0, 1) := by decide +kernel
theorem dX4_isOf_29 : decode cX4_isOf 29 = .ok (.ireturn, 1) := by decide +kernel
theorem dX4_foundAt_0 : decode cX4_foundAt 0 = .ok (.iconst 0, 1) := by decide +kernel
theorem dX4_foundAt_1 : decode cX4_foundAt 1 = .ok (.aload_n 0, 1) := by decide +kernel
theorem dX4_foundAt_2 : decode cX4_foundAt 2 = .ok (.getfield 20, 3) := by decide +kernel
theorem dX4_foundAt_5 : decode cX4_foundAt 5 = .ok (.iload_n 1, 1) := by decide +kernel
theorem dX4_foundAt_6 : decode cX4_foundAt 6 = .ok (.aload_n 0, 1) := by decide +kernel
theorem dX4_foundAt_7 : decode cX4_foundAt 7 = .ok (.getfield 26, 3) := by decide +kernel
theorem dX4_foundAt_10 : decode cX4_foundAt 10 = .ok (.imul, 1) := by decide +kernel
theorem dX4_foundAt_11 : decode cX4_foundAt 11 = .ok (.isub, 1) := by decide +kernel
theorem dX4_foundAt_12 : decode cX4_foundAt 12 = .ok (.invokestatic 29, 3) := by decide +kernel
theorem dX4_foundAt_15 : decode cX4_foundAt 15 = .ok (.ireturn, 1) := by decide +kernel
theorem dX5_init_0 : decode cX5_init 0 = .ok (.aload_n 0, 1) := by decide +kernel
theorem dX5_init_1 : decode cX5_init 1 = .ok (.invokespecial 1, 3) := by decide +kernel
theorem dX5_init_4 : decode cX5_init 4 = .ok (.aload_n 0, 1) := by decide +kernel
theorem dX5_init_5 : decode cX5_init 5 = .ok (.sipush 300, 3) := by decide +kernel
theorem dX5_init_8 : decode cX5_init 8 = .ok (.newarray .byte, 2) := by decide +kernel
theorem dX5_init_10 : decode cX5_init 10 = .ok (.putfield 9, 3) := by decide +kernel
theorem dX5_init_13 : decode cX5_init 13 = .ok (.return_, 1) := by decide +kernel
theorem dX5_hasRoomFor_0 : decode cX5_hasRoomFor 0 = .ok (.aload_n 0, 1) := by decide +kernel
theorem dX5_hasRoomFor_1 : decode cX5_hasRoomFor 1 = .ok (.getfield 13, 3) := by decide +kernel
theorem dX5_hasRoomFor_4 : decode cX5_hasRoomFor 4 = .ok (.iload_n 1, 1) := by decide +kernel
theorem dX5_hasRoomFor_5 : decode cX5_hasRoomFor 5 = .ok (.iadd, 1) := by decide +kernel
theorem dX5_hasRoomFor_6 : decode cX5_hasRoomFor 6 = .ok (.aload_n 0, 1) := by decide +kernel
theorem dX5_hasRoomFor_7 : decode cX5_hasRoomFor 7 = .ok (.getfield 9, 3) := by decide +kernel
theorem dX5_hasRoomFor_10 : decode cX5_hasRoomFor 10 = .ok (.arraylength, 1) := by decide +kernel
theorem dX5_hasRoomFor_11 : decode cX5_hasRoomFor 11 = .ok (.if_icmp .gt 7, 3) := by decide +kernel
theorem dX5_hasRoomFor_14 : decode cX5_hasRoomFor 14 = .ok (.iconst 1, 1) := by decide +kernel
theorem dX5_hasRoomFor_15 : decode cX5_hasRoomFor 15 = .ok (.goto 4, 3) := by decide +kernel
theorem dX5_hasRoomFor_18 : decode cX5_hasRoomFor 18 = .ok (.iconst 0, 1) := by decide +kernel
theorem dX5_hasRoomFor_19 : decode cX5_hasRoomFor 19 = .ok (.ireturn, 1) := by decide +kernel
theorem dX5_append_0 : decode cX5_append 0 = .ok (.iload_n 3, 1) := by decide +kernel
theorem dX5_append_1 : decode cX5_append 1 = .ok (.iconst 1, 1) := by decide +kernel
theorem dX5_append_2 : decode cX5_append 2 = .ok (.isub, 1) := by decide +kernel
theorem dX5_append_3 : decode cX5_append 3 = .ok (.istore 4, 2) := by decide +kernel
theorem dX5_append_5 : decode cX5_append 5 = .ok (.iload 4, 2) := by decide +kernel
theorem dX5_append_7 : decode cX5_append 7 = .ok (.ifCond .lt 37, 3) := by decide +kernel
theorem dX5_append_10 : decode cX5_append 10 = .ok (.aload_n 0, 1) := by decide +kernel
theorem dX5_append_11 : decode cX5_append 11 = .ok (.getfield 9, 3) := by decide +kernel
theorem dX5_append_14 : decode cX5_append 14 = .ok (.aload_n 0, 1) := by decide +kernel
theorem dX5_append_15 : decode cX5_append 15 = .ok (.getfield 13, 3) := by decide +kernel
theorem dX5_append_18 : decode cX5_append 18 = .ok (.lload_n 1, 1) := by decide +kernel
theorem dX5_append_19 : decode cX5_append 19 = .ok (.bipush 8, 2) := by decide +kernel
theorem dX5_append_21 : decode cX5_append 21 = .ok (.iload 4, 2) := by decide +kernel
theorem dX5_append_23 : decode cX5_append 23 = .ok (.imul, 1) := by decide +kernel
theorem dX5_append_24 : decode cX5_append 24 = .ok (.lshr, 1) := by decide +kernel
theorem dX5_append_25 : decode cX5_append 25 = .ok (.l2i, 1) := by decide +kernel
theorem dX5_append_26 : decode cX5_append 26 = .ok (.i2b, 1) := by decide +kernel
theorem dX5_append_27 : decode cX5_append 27 = .ok (.bastore, 1) := by decide +kernel
theorem dX5_append_28 : decode cX5_append 28 = .ok (.aload_n 0, 1) := by decide +kernel
theorem dX5_append_29 : decode cX5_append 29 = .ok (.dup, 1) := by decide +kernel
theorem dX5_append_30 : decode cX5_append 30 = .ok (.getfield 13, 3) := by decide +kernel
theorem dX5_append_33 : decode cX5_append 33 = .ok (.iconst 1, 1) := by decide +kernel
theorem dX5_append_34 : decode cX5_append 34 = .ok (.iadd, 1) := by decide +kernel
theorem dX5_append_35 : decode cX5_append 35 = .ok (.putfield 13, 3) := by decide +kernel
theorem dX5_append_38 : decode cX5_append 38 = .ok (.iinc 4 (-1), 3) := by decide +kernel
theorem dX5_append_41 : decode cX5_append 41 = .ok (.goto (-36), 3) := by decide +kernel
theorem dX5_append_44 : decode cX5_append 44 = .ok (.return_, 1) := by decide +kernel
theorem dX5_at_0 : decode cX5_at 0 = .ok (.iload_n 1, 1) := by decide +kernel
theorem dX5_at_1 : decode cX5_at 1 = .ok (.ifCond .lt 24, 3) := by decide +kernel
theorem dX5_at_4 : decode cX5_at 4 = .ok (.iload_n 1, 1) := by decide +kernel
theorem dX5_at_5 : decode cX5_at 5 = .ok (.aload_n 0, 1) := by decide +kernel
theorem dX5_at_6 : decode cX5_at 6 = .ok (.getfield 13, 3) := by decide +kernel
theorem dX5_at_9 : decode cX5_at 9 = .ok (.if_icmp .ge 16, 3) := by decide +kernel
theorem dX5_at_12 : decode cX5_at 12 = .ok (.aload_n 0, 1) := by decide +kernel
theorem dX5_at_13 : decode cX5_at 13 = .ok (.getfield 9, 3) := by decide +kernel
theorem dX5_at_16 : decode cX5_at 16 = .ok (.iload_n 1, 1) := by decide +kernel
theorem dX5_at_17 : decode cX5_at 17 = .ok (.baload, 1) := by decide +kernel
theorem dX5_at_18 : decode cX5_at 18 = .ok (.sipush 255, 3) := by decide +kernel
theorem dX5_at_21 : decode cX5_at 21 = .ok (.iand, 1) := by decide +kernel
theorem dX5_at_22 : decode cX5_at 22 = .ok (.goto 4, 3) := by decide +kernel
theorem dX5_at_25 : decode cX5_at 25 = .ok (.iconst (-1), 1) := by decide +kernel
theorem dX5_at_26 : decode cX5_at 26 = .ok (.ireturn, 1) := by decide +kernel
theorem dX6_init_0 : decode cX6_init 0 = .ok (.aload_n 0, 1) := by decide +kernel
theorem dX6_init_1 : decode cX6_init 1 = .ok (.invokespecial 1, 3) := by decide +kernel
theorem dX6_init_4 : decode cX6_init 4 = .ok (.return_, 1) := by decide +kernel
theorem dX7_init_0 : decode cX7_init 0 = .ok (.aload_n 0, 1) := by decide +kernel
theorem dX7_init_1 : decode cX7_init 1 = .ok (.invokespecial 1, 3) := by decide +kernel
theorem dX7_init_4 : decode cX7_init 4 = .ok (.aload_n 0, 1) := by decide +kernel
theorem dX7_init_5 : decode cX7_init 5 = .ok (.bipush 30, 2) := by decide +kernel
theorem dX7_init_7 : decode cX7_init 7 = .ok (.anewarray 9, 3) := by decide +kernel
theorem dX7_init_10 : decode cX7_init 10 = .ok (.putfield 11, 3) := by decide +kernel
theorem dX7_init_13 : decode cX7_init 13 = .ok (.iconst 0, 1) := by decide +kernel
theorem dX7_init_14 : decode cX7_init 14 = .ok (.istore_n 1, 1) := by decide +kernel
theorem dX7_init_15 : decode cX7_init 15 = .ok (.iload_n 1, 1) := by decide +kernel
theorem dX7_init_16 : decode cX7_init 16 = .ok (.aload_n 0, 1) := by decide +kernel
theorem dX7_init_17 : decode cX7_init 17 = .ok (.getfield 11, 3) := by decide +kernel
theorem dX7_init_20 : decode cX7_init 20 = .ok (.arraylength, 1) := by decide +kernel
theorem dX7_init_21 : decode cX7_init 21 = .ok (.if_icmp .ge 22, 3) := by decide +kernel
theorem dX7_init_24 : decode cX7_init 24 = .ok (.aload_n 0, 1) := by decide +kernel
theorem dX7_init_25 : decode cX7_init 25 = .ok (.getfield 11, 3) := by decide +kernel
theorem dX7_init_28 : decode cX7_init 28 = .ok (.iload_n 1, 1) := by decide +kernel
theorem dX7_init_29 : decode cX7_init 29 = .ok (.new 9, 3) := by decide +kernel
theorem dX7_init_32 : decode cX7_init 32 = .ok (.dup, 1) := by decide +kernel
theorem dX7_init_33 : decode cX7_init 33 = .ok (.invokespecial 15, 3) := by decide +kernel
theorem dX7_init_36 : decode cX7_init 36 = .ok (.aastore, 1) := by decide +kernel
theorem dX7_init_37 : decode cX7_init 37 = .ok (.iinc 1 1, 3) := by decide +kernel
theorem dX7_init_40 : decode cX7_init 40 = .ok (.goto (-25), 3) := by decide +kernel
theorem dX7_init_43 : decode cX7_init 43 = .ok (.return_, 1) := by decide +kernel
theorem dX7_isFull_0 : decode cX7_isFull 0 = .ok (.aload_n 0, 1) := by decide +kernel
theorem dX7_isFull_1 : decode cX7_isFull 1 = .ok (.getfield 16, 3) := by decide +kernel
theorem dX7_isFull_4 : decode cX7_isFull 4 = .ok (.aload_n 0, 1) := by decide +kernel
theorem dX7_isFull_5 : decode cX7_isFull 5 = .ok (.getfield 11, 3) := by decide +kernel
theorem dX7_isFull_8 : decode cX7_isFull 8 = .ok (.arraylength, 1) := by decide +kernel
theorem dX7_isFull_9 : decode cX7_isFull 9 = .ok (.if_icmp .lt 7, 3) := by decide +kernel
theorem dX7_isFull_12 : decode cX7_isFull 12 = .ok (.iconst 1, 1) := by decide +kernel
theorem dX7_isFull_13 : decode cX7_isFull 13 = .ok (.goto 4, 3) := by decide +kernel
theorem dX7_isFull_16 : decode cX7_isFull 16 = .ok (.iconst 0, 1) := by decide +kernel
theorem dX7_isFull_17 : decode cX7_isFull 17 = .ok (.ireturn, 1) := by decide +kernel
theorem dX7_open_0 : decode cX7_open 0 = .ok (.aload_n 0, 1) := by decide +kernel
theorem dX7_open_1 : decode cX7_open 1 = .ok (.getfield 11, 3) := by decide +kernel
theorem dX7_open_4 : decode cX7_open 4 = .ok (.aload_n 0, 1) := by decide +kernel
theorem dX7_open_5 : decode cX7_open 5 = .ok (.getfield 16, 3) := by decide +kernel
theorem dX7_open_8 : decode cX7_open 8 = .ok (.aaload, 1) := by decide +kernel
theorem dX7_open_9 : decode cX7_open 9 = .ok (.astore_n 1, 1) := by decide +kernel
theorem dX7_open_10 : decode cX7_open 10 = .ok (.aload_n 1, 1) := by decide +kernel
theorem dX7_open_11 : decode cX7_open 11 = .ok (.aload_n 0, 1) := by decide +kernel
theorem dX7_open_12 : decode cX7_open 12 = .ok (.getfield 20, 3) := by decide +kernel
theorem dX7_open_15 : decode cX7_open 15 = .ok (.putfield 23, 3) := by decide +kernel
theorem dX7_open_18 : decode cX7_open 18 = .ok (.aload_n 0, 1) := by decide +kernel
theorem dX7_open_19 : decode cX7_open 19 = .ok (.dup, 1) := by decide +kernel
theorem dX7_open_20 : decode cX7_open 20 = .ok (.getfield 16, 3) := by decide +kernel
theorem dX7_open_23 : decode cX7_open 23 = .ok (.iconst 1, 1) := by decide +kernel
theorem dX7_open_24 : decode cX7_open 24 = .ok (.iadd, 1) := by decide +kernel
theorem dX7_open_25 : decode cX7_open 25 = .ok (.putfield 16, 3) := by decide +kernel
theorem dX7_open_28 : decode cX7_open 28 = .ok (.aload_n 0, 1) := by decide +kernel
theorem dX7_open_29 : decode cX7_open 29 = .ok (.dup, 1) := by decide +kernel
theorem dX7_open_30 : decode cX7_open 30 = .ok (.getfield 20, 3) := by decide +kernel
theorem dX7_open_33 : decode cX7_open 33 = .ok (.iconst 1, 1) := by decide +kernel
theorem dX7_open_34 : decode cX7_open 34 = .ok (.iadd, 1) := by decide +kernel
theorem dX7_open_35 : decode cX7_open 35 = .ok (.putfield 20, 3) := by decide +kernel
theorem dX7_open_38 : decode cX7_open 38 = .ok (.aload_n 1, 1) := by decide +kernel
theorem dX7_open_39 : decode cX7_open 39 = .ok (.areturn, 1) := by decide +kernel
theorem dX7_find_0 : decode cX7_find 0 = .ok (.iconst 0, 1) := by decide +kernel
theorem dX7_find_1 : decode cX7_find 1 = .ok (.istore_n 2, 1) := by decide +kernel
theorem dX7_find_2 : decode cX7_find 2 = .ok (.iload_n 2, 1) := by decide +kernel
theorem dX7_find_3 : decode cX7_find 3 = .ok (.aload_n 0, 1) := by decide +kernel
theorem dX7_find_4 : decode cX7_find 4 = .ok (.getfield 16, 3) := by decide +kernel
theorem dX7_find_7 : decode cX7_find 7 = .ok (.if_icmp .ge 29, 3) := by decide +kernel
theorem dX7_find_10 : decode cX7_find 10 = .ok (.aload_n 0, 1) := by decide +kernel
theorem dX7_find_11 : decode cX7_find 11 = .ok (.getfield 11, 3) := by decide +kernel
theorem dX7_find_14 : decode cX7_find 14 = .ok (.iload_n 2, 1) := by decide +kernel
theorem dX7_find_15 : decode cX7_find 15 = .ok (.aaload, 1) := by decide +kernel
theorem dX7_find_16 : decode cX7_find 16 = .ok (.getfield 23, 3) := by decide +kernel
theorem dX7_find_19 : decode cX7_find 19 = .ok (.iload_n 1, 1) := by decide +kernel
theorem dX7_find_20 : decode cX7_find 20 = .ok (.if_icmp .ne 10, 3) := by decide +kernel
theorem dX7_find_23 : decode cX7_find 23 = .ok (.aload_n 0, 1) := by decide +kernel
theorem dX7_find_24 : decode cX7_find 24 = .ok (.getfield 11, 3) := by decide +kernel
theorem dX7_find_27 : decode cX7_find 27 = .ok (.iload_n 2, 1) := by decide +kernel
theorem dX7_find_28 : decode cX7_find 28 = .ok (.aaload, 1) := by decide +kernel
theorem dX7_find_29 : decode cX7_find 29 = .ok (.areturn, 1) := by decide +kernel
theorem dX7_find_30 : decode cX7_find 30 = .ok (.iinc 2 1, 3) := by decide +kernel
theorem dX7_find_33 : decode cX7_find 33 = .ok (.goto (-31), 3) := by decide +kernel
theorem dX7_find_36 : decode cX7_find 36 = .ok (.aconst_null, 1) := by decide +kernel
theorem dX7_find_37 : decode cX7_find 37 = .ok (.areturn, 1) := by decide +kernel
theorem dX7_latestAt_0 : decode cX7_latestAt 0 = .ok (.aload_n 0, 1) := by decide +kernel
theorem dX7_latestAt_1 : decode cX7_latestAt 1 = .ok (.getfield 16, 3) := by decide +kernel
theorem dX7_latestAt_4 : decode cX7_latestAt 4 = .ok (.iconst 1, 1) := by decide +kernel
theorem dX7_latestAt_5 : decode cX7_latestAt 5 = .ok (.isub, 1) := by decide +kernel
theorem dX7_latestAt_6 : decode cX7_latestAt 6 = .ok (.istore_n 2, 1) := by decide +kernel
theorem dX7_latestAt_7 : decode cX7_latestAt 7 = .ok (.iload_n 2, 1) := by decide +kernel
theorem dX7_latestAt_8 : decode cX7_latestAt 8 = .ok (.ifCond .lt 41, 3) := by decide +kernel
theorem dX7_latestAt_11 : decode cX7_latestAt 11 = .ok (.aload_n 0, 1) := by decide +kernel
theorem dX7_latestAt_12 : decode cX7_latestAt 12 = .ok (.getfield 11, 3) := by decide +kernel
theorem dX7_latestAt_15 : decode cX7_latestAt 15 = .ok (.iload_n 2, 1) := by decide +kernel
theorem dX7_latestAt_16 : decode cX7_latestAt 16 = .ok (.aaload, 1) := by decide +kernel
theorem dX7_latestAt_17 : decode cX7_latestAt 17 = .ok (.getfield 26, 3) := by decide +kernel
theorem dX7_latestAt_20 : decode cX7_latestAt 20 = .ok (.iload_n 1, 1) := by decide +kernel
theorem dX7_latestAt_21 : decode cX7_latestAt 21 = .ok (.if_icmp .ne 22, 3) := by decide +kernel
theorem dX7_latestAt_24 : decode cX7_latestAt 24 = .ok (.aload_n 0, 1) := by decide +kernel
theorem dX7_latestAt_25 : decode cX7_latestAt 25 = .ok (.getfield 11, 3) := by decide +kernel
theorem dX7_latestAt_28 : decode cX7_latestAt 28 = .ok (.iload_n 2, 1) := by decide +kernel
theorem dX7_latestAt_29 : decode cX7_latestAt 29 = .ok (.aaload, 1) := by decide +kernel
theorem dX7_latestAt_30 : decode cX7_latestAt 30 = .ok (.getfield 29, 3) := by decide +kernel
theorem dX7_latestAt_33 : decode cX7_latestAt 33 = .ok (.ifCond .le 10, 3) := by decide +kernel
theorem dX7_latestAt_36 : decode cX7_latestAt 36 = .ok (.aload_n 0, 1) := by decide +kernel
theorem dX7_latestAt_37 : decode cX7_latestAt 37 = .ok (.getfield 11, 3) := by decide +kernel
theorem dX7_latestAt_40 : decode cX7_latestAt 40 = .ok (.iload_n 2, 1) := by decide +kernel
theorem dX7_latestAt_41 : decode cX7_latestAt 41 = .ok (.aaload, 1) := by decide +kernel
theorem dX7_latestAt_42 : decode cX7_latestAt 42 = .ok (.areturn, 1) := by decide +kernel
theorem dX7_latestAt_43 : decode cX7_latestAt 43 = .ok (.iinc 2 (-1), 3) := by decide +kernel
theorem dX7_latestAt_46 : decode cX7_latestAt 46 = .ok (.goto (-39), 3) := by decide +kernel
theorem dX7_latestAt_49 : decode cX7_latestAt 49 = .ok (.aconst_null, 1) := by decide +kernel
theorem dX7_latestAt_50 : decode cX7_latestAt 50 = .ok (.areturn, 1) := by decide +kernel
theorem dX7_dropEnded_0 : decode cX7_dropEnded 0 = .ok (.iconst 0, 1) := by decide +kernel
theorem dX7_dropEnded_1 : decode cX7_dropEnded 1 = .ok (.istore_n 1, 1) := by decide +kernel
theorem dX7_dropEnded_2 : decode cX7_dropEnded 2 = .ok (.iconst 0, 1) := by decide +kernel
theorem dX7_dropEnded_3 : decode cX7_dropEnded 3 = .ok (.istore_n 2, 1) := by decide +kernel
theorem dX7_dropEnded_4 : decode cX7_dropEnded 4 = .ok (.iload_n 2, 1) := by decide +kernel
theorem dX7_dropEnded_5 : decode cX7_dropEnded 5 = .ok (.aload_n 0, 1) := by decide +kernel
theorem dX7_dropEnded_6 : decode cX7_dropEnded 6 = .ok (.getfield 16, 3) := by decide +kernel
theorem dX7_dropEnded_9 : decode cX7_dropEnded 9 = .ok (.if_icmp .ge 45, 3) := by decide +kernel
theorem dX7_dropEnded_12 : decode cX7_dropEnded 12 = .ok (.aload_n 0, 1) := by decide +kernel
theorem dX7_dropEnded_13 : decode cX7_dropEnded 13 = .ok (.getfield 11, 3) := by decide +kernel
theorem dX7_dropEnded_16 : decode cX7_dropEnded 16 = .ok (.iload_n 2, 1) := by decide +kernel
theorem dX7_dropEnded_17 : decode cX7_dropEnded 17 = .ok (.aaload, 1) := by decide +kernel
theorem dX7_dropEnded_18 : decode cX7_dropEnded 18 = .ok (.astore_n 3, 1) := by decide +kernel
theorem dX7_dropEnded_19 : decode cX7_dropEnded 19 = .ok (.aload_n 3, 1) := by decide +kernel
theorem dX7_dropEnded_20 : decode cX7_dropEnded 20 = .ok (.getfield 29, 3) := by decide +kernel
theorem dX7_dropEnded_23 : decode cX7_dropEnded 23 = .ok (.ifCond .le 25, 3) := by decide +kernel
theorem dX7_dropEnded_26 : decode cX7_dropEnded 26 = .ok (.aload_n 0, 1) := by decide +kernel
theorem dX7_dropEnded_27 : decode cX7_dropEnded 27 = .ok (.getfield 11, 3) := by decide +kernel
theorem dX7_dropEnded_30 : decode cX7_dropEnded 30 = .ok (.iload_n 2, 1) := by decide +kernel
theorem dX7_dropEnded_31 : decode cX7_dropEnded 31 = .ok (.aload_n 0, 1) := by decide +kernel
theorem dX7_dropEnded_32 : decode cX7_dropEnded 32 = .ok (.getfield 11, 3) := by decide +kernel
theorem dX7_dropEnded_35 : decode cX7_dropEnded 35 = .ok (.iload_n 1, 1) := by decide +kernel
theorem dX7_dropEnded_36 : decode cX7_dropEnded 36 = .ok (.aaload, 1) := by decide +kernel
theorem dX7_dropEnded_37 : decode cX7_dropEnded 37 = .ok (.aastore, 1) := by decide +kernel
theorem dX7_dropEnded_38 : decode cX7_dropEnded 38 = .ok (.aload_n 0, 1) := by decide +kernel
theorem dX7_dropEnded_39 : decode cX7_dropEnded 39 = .ok (.getfield 11, 3) := by decide +kernel
theorem dX7_dropEnded_42 : decode cX7_dropEnded 42 = .ok (.iload_n 1, 1) := by decide +kernel
theorem dX7_dropEnded_43 : decode cX7_dropEnded 43 = .ok (.aload_n 3, 1) := by decide +kernel
theorem dX7_dropEnded_44 : decode cX7_dropEnded 44 = .ok (.aastore, 1) := by decide +kernel
theorem dX7_dropEnded_45 : decode cX7_dropEnded 45 = .ok (.iinc 1 1, 3) := by decide +kernel
theorem dX7_dropEnded_48 : decode cX7_dropEnded 48 = .ok (.iinc 2 1, 3) := by decide +kernel
theorem dX7_dropEnded_51 : decode cX7_dropEnded 51 = .ok (.goto (-47), 3) := by decide +kernel
theorem dX7_dropEnded_54 : decode cX7_dropEnded 54 = .ok (.aload_n 0, 1) := by decide +kernel
theorem dX7_dropEnded_55 : decode cX7_dropEnded 55 = .ok (.iload_n 1, 1) := by decide +kernel
theorem dX7_dropEnded_56 : decode cX7_dropEnded 56 = .ok (.putfield 16, 3) := by decide +kernel
theorem dX7_dropEnded_59 : decode cX7_dropEnded 59 = .ok (.return_, 1) := by decide +kernel
theorem dX8_init_0 : decode cX8_init 0 = .ok (.aload_n 0, 1) := by decide +kernel
theorem dX8_init_1 : decode cX8_init 1 = .ok (.invokespecial 1, 3) := by decide +kernel
theorem dX8_init_4 : decode cX8_init 4 = .ok (.aload_n 0, 1) := by decide +kernel
theorem dX8_init_5 : decode cX8_init 5 = .ok (.bipush 10, 2) := by decide +kernel
theorem dX8_init_7 : decode cX8_init 7 = .ok (.putfield 7, 3) := by decide +kernel
theorem dX8_init_10 : decode cX8_init 10 = .ok (.aload_n 0, 1) := by decide +kernel
theorem dX8_init_11 : decode cX8_init 11 = .ok (.bipush 60, 2) := by decide +kernel
theorem dX8_init_13 : decode cX8_init 13 = .ok (.putfield 13, 3) := by decide +kernel
theorem dX8_init_16 : decode cX8_init 16 = .ok (.aload_n 0, 1) := by decide +kernel
theorem dX8_init_17 : decode cX8_init 17 = .ok (.bipush 10, 2) := by decide +kernel
theorem dX8_init_19 : decode cX8_init 19 = .ok (.anewarray 16, 3) := by decide +kernel
theorem dX8_init_22 : decode cX8_init 22 = .ok (.putfield 18, 3) := by decide +kernel
theorem dX8_init_25 : decode cX8_init 25 = .ok (.aload_n 0, 1) := by decide +kernel
theorem dX8_init_26 : decode cX8_init 26 = .ok (.new 22, 3) := by decide +kernel
theorem dX8_init_29 : decode cX8_init 29 = .ok (.dup, 1) := by decide +kernel
theorem dX8_init_30 : decode cX8_init 30 = .ok (.invokespecial 24, 3) := by decide +kernel
theorem dX8_init_33 : decode cX8_init 33 = .ok (.putfield 25, 3) := by decide +kernel
theorem dX8_init_36 : decode cX8_init 36 = .ok (.aload_n 0, 1) := by decide +kernel
theorem dX8_init_37 : decode cX8_init 37 = .ok (.new 29, 3) := by decide +kernel
theorem dX8_init_40 : decode cX8_init 40 = .ok (.dup, 1) := by decide +kernel
theorem dX8_init_41 : decode cX8_init 41 = .ok (.invokespecial 31, 3) := by decide +kernel
theorem dX8_init_44 : decode cX8_init 44 = .ok (.putfield 32, 3) := by decide +kernel
theorem dX8_init_47 : decode cX8_init 47 = .ok (.aload_n 0, 1) := by decide +kernel
theorem dX8_init_48 : decode cX8_init 48 = .ok (.new 36, 3) := by decide +kernel
theorem dX8_init_51 : decode cX8_init 51 = .ok (.dup, 1) := by decide +kernel
theorem dX8_init_52 : decode cX8_init 52 = .ok (.invokespecial 38, 3) := by decide +kernel
theorem dX8_init_55 : decode cX8_init 55 = .ok (.putfield 39, 3) := by decide +kernel
theorem dX8_init_58 : decode cX8_init 58 = .ok (.aload_n 0, 1) := by decide +kernel
theorem dX8_init_59 : decode cX8_init 59 = .ok (.new 36, 3) := by decide +kernel
theorem dX8_init_62 : decode cX8_init 62 = .ok (.dup, 1) := by decide +kernel
theorem dX8_init_63 : decode cX8_init 63 = .ok (.invokespecial 38, 3) := by decide +kernel
theorem dX8_init_66 : decode cX8_init 66 = .ok (.putfield 43, 3) := by decide +kernel
theorem dX8_init_69 : decode cX8_init 69 = .ok (.aload_n 0, 1) := by decide +kernel
theorem dX8_init_70 : decode cX8_init 70 = .ok (.new 46, 3) := by decide +kernel
theorem dX8_init_73 : decode cX8_init 73 = .ok (.dup, 1) := by decide +kernel
theorem dX8_init_74 : decode cX8_init 74 = .ok (.invokespecial 48, 3) := by decide +kernel
theorem dX8_init_77 : decode cX8_init 77 = .ok (.putfield 49, 3) := by decide +kernel
theorem dX8_init_80 : decode cX8_init 80 = .ok (.aload_n 0, 1) := by decide +kernel
theorem dX8_init_81 : decode cX8_init 81 = .ok (.new 53, 3) := by decide +kernel
theorem dX8_init_84 : decode cX8_init 84 = .ok (.dup, 1) := by decide +kernel
theorem dX8_init_85 : decode cX8_init 85 = .ok (.invokespecial 55, 3) := by decide +kernel
theorem dX8_init_88 : decode cX8_init 88 = .ok (.putfield 56, 3) := by decide +kernel
theorem dX8_init_91 : decode cX8_init 91 = .ok (.aload_n 0, 1) := by decide +kernel
theorem dX8_init_92 : decode cX8_init 92 = .ok (.iconst 0, 1) := by decide +kernel
theorem dX8_init_93 : decode cX8_init 93 = .ok (.iload_n 1, 1) := by decide +kernel
theorem dX8_init_94 : decode cX8_init 94 = .ok (.sipush 9000, 3) := by decide +kernel
theorem dX8_init_97 : decode cX8_init 97 = .ok (.invokestatic 60, 3) := by decide +kernel
theorem dX8_init_100 : decode cX8_init 100 = .ok (.invokestatic 66, 3) := by decide +kernel
theorem dX8_init_103 : decode cX8_init 103 = .ok (.putfield 69, 3) := by decide +kernel
theorem dX8_init_106 : decode cX8_init 106 = .ok (.iconst 0, 1) := by decide +kernel
theorem dX8_init_107 : decode cX8_init 107 = .ok (.istore_n 2, 1) := by decide +kernel
theorem dX8_init_108 : decode cX8_init 108 = .ok (.iload_n 2, 1) := by decide +kernel
theorem dX8_init_109 : decode cX8_init 109 = .ok (.aload_n 0, 1) := by decide +kernel
theorem dX8_init_110 : decode cX8_init 110 = .ok (.getfield 18, 3) := by decide +kernel
theorem dX8_init_113 : decode cX8_init 113 = .ok (.arraylength, 1) := by decide +kernel
theorem dX8_init_114 : decode cX8_init 114 = .ok (.if_icmp .ge 22, 3) := by decide +kernel
theorem dX8_init_117 : decode cX8_init 117 = .ok (.aload_n 0, 1) := by decide +kernel
theorem dX8_init_118 : decode cX8_init 118 = .ok (.getfield 18, 3) := by decide +kernel
theorem dX8_init_121 : decode cX8_init 121 = .ok (.iload_n 2, 1) := by decide +kernel
theorem dX8_init_122 : decode cX8_init 122 = .ok (.new 16, 3) := by decide +kernel
theorem dX8_init_125 : decode cX8_init 125 = .ok (.dup, 1) := by decide +kernel
theorem dX8_init_126 : decode cX8_init 126 = .ok (.invokespecial 72, 3) := by decide +kernel
theorem dX8_init_129 : decode cX8_init 129 = .ok (.aastore, 1) := by decide +kernel
theorem dX8_init_130 : decode cX8_init 130 = .ok (.iinc 2 1, 3) := by decide +kernel
theorem dX8_init_133 : decode cX8_init 133 = .ok (.goto (-25), 3) := by decide +kernel
theorem dX8_init_136 : decode cX8_init 136 = .ok (.return_, 1) := by decide +kernel
theorem dX8_stretch_0 : decode cX8_stretch 0 = .ok (.iload_n 1, 1) := by decide +kernel
theorem dX8_stretch_1 : decode cX8_stretch 1 = .ok (.iconst 0, 1) := by decide +kernel
theorem dX8_stretch_2 : decode cX8_stretch 2 = .ok (.sipush 500, 3) := by decide +kernel
theorem dX8_stretch_5 : decode cX8_stretch 5 = .ok (.invokestatic 73, 3) := by decide +kernel
theorem dX8_stretch_8 : decode cX8_stretch 8 = .ok (.ifCond .eq 12, 3) := by decide +kernel
theorem dX8_stretch_11 : decode cX8_stretch 11 = .ok (.iload_n 2, 1) := by decide +kernel
theorem dX8_stretch_12 : decode cX8_stretch 12 = .ok (.iconst 0, 1) := by decide +kernel
theorem dX8_stretch_13 : decode cX8_stretch 13 = .ok (.iconst 3, 1) := by decide +kernel
theorem dX8_stretch_14 : decode cX8_stretch 14 = .ok (.invokestatic 73, 3) := by decide +kernel
theorem dX8_stretch_17 : decode cX8_stretch 17 = .ok (.ifCond .ne 6, 3) := by decide +kernel
theorem dX8_stretch_20 : decode cX8_stretch 20 = .ok (.ldc 77, 2) := by decide +kernel
theorem dX8_stretch_22 : decode cX8_stretch 22 = .ok (.ireturn, 1) := by decide +kernel
theorem dX8_stretch_23 : decode cX8_stretch 23 = .ok (.aload_n 0, 1) := by decide +kernel
theorem dX8_stretch_24 : decode cX8_stretch 24 = .ok (.getfield 78, 3) := by decide +kernel
theorem dX8_stretch_27 : decode cX8_stretch 27 = .ok (.aload_n 0, 1) := by decide +kernel
theorem dX8_stretch_28 : decode cX8_stretch 28 = .ok (.getfield 18, 3) := by decide +kernel
theorem dX8_stretch_31 : decode cX8_stretch 31 = .ok (.arraylength, 1) := by decide +kernel
theorem dX8_stretch_32 : decode cX8_stretch 32 = .ok (.if_icmp .lt 6, 3) := by decide +kernel
theorem dX8_stretch_35 : decode cX8_stretch 35 = .ok (.ldc 81, 2) := by decide +kernel
theorem dX8_stretch_37 : decode cX8_stretch 37 = .ok (.ireturn, 1) := by decide +kernel
theorem dX8_stretch_38 : decode cX8_stretch 38 = .ok (.aload_n 0, 1) := by decide +kernel
theorem dX8_stretch_39 : decode cX8_stretch 39 = .ok (.getfield 18, 3) := by decide +kernel
theorem dX8_stretch_42 : decode cX8_stretch 42 = .ok (.aload_n 0, 1) := by decide +kernel
theorem dX8_stretch_43 : decode cX8_stretch 43 = .ok (.getfield 78, 3) := by decide +kernel
theorem dX8_stretch_46 : decode cX8_stretch 46 = .ok (.aaload, 1) := by decide +kernel
theorem dX8_stretch_47 : decode cX8_stretch 47 = .ok (.astore_n 3, 1) := by decide +kernel
theorem dX8_stretch_48 : decode cX8_stretch 48 = .ok (.aload_n 3, 1) := by decide +kernel
theorem dX8_stretch_49 : decode cX8_stretch 49 = .ok (.iload_n 1, 1) := by decide +kernel
theorem dX8_stretch_50 : decode cX8_stretch 50 = .ok (.putfield 82, 3) := by decide +kernel
theorem dX8_stretch_53 : decode cX8_stretch 53 = .ok (.aload_n 3, 1) := by decide +kernel
theorem dX8_stretch_54 : decode cX8_stretch 54 = .ok (.iload_n 2, 1) := by decide +kernel
theorem dX8_stretch_55 : decode cX8_stretch 55 = .ok (.putfield 85, 3) := by decide +kernel
theorem dX8_stretch_58 : decode cX8_stretch 58 = .ok (.aload_n 0, 1) := by decide +kernel
theorem dX8_stretch_59 : decode cX8_stretch 59 = .ok (.dup, 1) := by decide +kernel
theorem dX8_stretch_60 : decode cX8_stretch 60 = .ok (.getfield 78, 3) := by decide +kernel
theorem dX8_stretch_63 : decode cX8_stretch 63 = .ok (.iconst 1, 1) := by decide +kernel
theorem dX8_stretch_64 : decode cX8_stretch 64 = .ok (.iadd, 1) := by decide +kernel
theorem dX8_stretch_65 : decode cX8_stretch 65 = .ok (.putfield 78, 3) := by decide +kernel
theorem dX8_stretch_68 : decode cX8_stretch 68 = .ok (.aload_n 0, 1) := by decide +kernel
theorem dX8_stretch_69 : decode cX8_stretch 69 = .ok (.getfield 78, 3) := by decide +kernel
theorem dX8_stretch_72 : decode cX8_stretch 72 = .ok (.iconst 1, 1) := by decide +kernel
theorem dX8_stretch_73 : decode cX8_stretch 73 = .ok (.isub, 1) := by decide +kernel
theorem dX8_stretch_74 : decode cX8_stretch 74 = .ok (.ireturn, 1) := by decide +kernel
theorem dX8_carry_0 : decode cX8_carry 0 = .ok (.aload_n 0, 1) := by decide +kernel
theorem dX8_carry_1 : decode cX8_carry 1 = .ok (.iload_n 1, 1) := by decide +kernel
theorem dX8_carry_2 : decode cX8_carry 2 = .ok (.invokevirtual 88, 3) := by decide +kernel
theorem dX8_carry_5 : decode cX8_carry 5 = .ok (.ifCond .eq 27, 3) := by decide +kernel
theorem dX8_carry_8 : decode cX8_carry 8 = .ok (.aload_n 0, 1) := by decide +kernel
theorem dX8_carry_9 : decode cX8_carry 9 = .ok (.iload_n 2, 1) := by decide +kernel
theorem dX8_carry_10 : decode cX8_carry 10 = .ok (.invokevirtual 88, 3) := by decide +kernel
theorem dX8_carry_13 : decode cX8_carry 13 = .ok (.ifCond .eq 19, 3) := by decide +kernel
theorem dX8_carry_16 : decode cX8_carry 16 = .ok (.iload_n 1, 1) := by decide +kernel
theorem dX8_carry_17 : decode cX8_carry 17 = .ok (.iload_n 2, 1) := by decide +kernel
theorem dX8_carry_18 : decode cX8_carry 18 = .ok (.if_icmp .eq 14, 3) := by decide +kernel
theorem dX8_carry_21 : decode cX8_carry 21 = .ok (.iload_n 3, 1) := by decide +kernel
theorem dX8_carry_22 : decode cX8_carry 22 = .ok (.iconst 0, 1) := by decide +kernel
theorem dX8_carry_23 : decode cX8_carry 23 = .ok (.sipush 9000, 3) := by decide +kernel
theorem dX8_carry_26 : decode cX8_carry 26 = .ok (.invokestatic 73, 3) := by decide +kernel
theorem dX8_carry_29 : decode cX8_carry 29 = .ok (.ifCond .ne 6, 3) := by decide +kernel
theorem dX8_carry_32 : decode cX8_carry 32 = .ok (.ldc 77, 2) := by decide +kernel
theorem dX8_carry_34 : decode cX8_carry 34 = .ok (.ireturn, 1) := by decide +kernel
theorem dX8_carry_35 : decode cX8_carry 35 = .ok (.aload_n 0, 1) := by decide +kernel
theorem dX8_carry_36 : decode cX8_carry 36 = .ok (.iload_n 1, 1) := by decide +kernel
theorem dX8_carry_37 : decode cX8_carry 37 = .ok (.invokevirtual 92, 3) := by decide +kernel
theorem dX8_carry_40 : decode cX8_carry 40 = .ok (.iload_n 3, 1) := by decide +kernel
theorem dX8_carry_41 : decode cX8_carry 41 = .ok (.if_icmp .ge 6, 3) := by decide +kernel
theorem dX8_carry_44 : decode cX8_carry 44 = .ok (.ldc 96, 2) := by decide +kernel
theorem dX8_carry_46 : decode cX8_carry 46 = .ok (.ireturn, 1) := by decide +kernel
theorem dX8_carry_47 : decode cX8_carry 47 = .ok (.aload_n 0, 1) := by decide +kernel
theorem dX8_carry_48 : decode cX8_carry 48 = .ok (.iload_n 1, 1) := by decide +kernel
theorem dX8_carry_49 : decode cX8_carry 49 = .ok (.iload_n 3, 1) := by decide +kernel
theorem dX8_carry_50 : decode cX8_carry 50 = .ok (.ineg, 1) := by decide +kernel
theorem dX8_carry_51 : decode cX8_carry 51 = .ok (.invokevirtual 97, 3) := by decide +kernel
theorem dX8_carry_54 : decode cX8_carry 54 = .ok (.pop, 1) := by decide +kernel
theorem dX8_carry_55 : decode cX8_carry 55 = .ok (.aload_n 0, 1) := by decide +kernel
theorem dX8_carry_56 : decode cX8_carry 56 = .ok (.iload_n 2, 1) := by decide +kernel
theorem dX8_carry_57 : decode cX8_carry 57 = .ok (.iload_n 3, 1) := by decide +kernel
theorem dX8_carry_58 : decode cX8_carry 58 = .ok (.invokevirtual 97, 3) := by decide +kernel
theorem dX8_carry_61 : decode cX8_carry 61 = .ok (.ireturn, 1) := by decide +kernel
theorem dX8_told_0 : decode cX8_told 0 = .ok (.aload_n 0, 1) := by decide +kernel
theorem dX8_told_1 : decode cX8_told 1 = .ok (.iload_n 1, 1) := by decide +kernel
theorem dX8_told_2 : decode cX8_told 2 = .ok (.invokevirtual 100, 3) := by decide +kernel
theorem dX8_told_5 : decode cX8_told 5 = .ok (.ifCond .ne 6, 3) := by decide +kernel
theorem dX8_told_8 : decode cX8_told 8 = .ok (.ldc 77, 2) := by decide +kernel
theorem dX8_told_10 : decode cX8_told 10 = .ok (.ireturn, 1) := by decide +kernel
theorem dX8_told_11 : decode cX8_told 11 = .ok (.aload_n 0, 1) := by decide +kernel
theorem dX8_told_12 : decode cX8_told 12 = .ok (.getfield 18, 3) := by decide +kernel
theorem dX8_told_15 : decode cX8_told 15 = .ok (.iload_n 1, 1) := by decide +kernel
theorem dX8_told_16 : decode cX8_told 16 = .ok (.aaload, 1) := by decide +kernel
theorem dX8_told_17 : decode cX8_told 17 = .ok (.astore_n 3, 1) := by decide +kernel
theorem dX8_told_18 : decode cX8_told 18 = .ok (.iload_n 2, 1) := by decide +kernel
theorem dX8_told_19 : decode cX8_told 19 = .ok (.tableswitch 67 0 5 #[37, 42, 47, 52, 57, 62], 37) := by decide +kernel
theorem dX8_told_56 : decode cX8_told 56 = .ok (.aload_n 3, 1) := by decide +kernel
theorem dX8_told_57 : decode cX8_told 57 = .ok (.getfield 82, 3) := by decide +kernel
theorem dX8_told_60 : decode cX8_told 60 = .ok (.ireturn, 1) := by decide +kernel
theorem dX8_told_61 : decode cX8_told 61 = .ok (.aload_n 3, 1) := by decide +kernel
theorem dX8_told_62 : decode cX8_told 62 = .ok (.getfield 85, 3) := by decide +kernel
theorem dX8_told_65 : decode cX8_told 65 = .ok (.ireturn, 1) := by decide +kernel
theorem dX8_told_66 : decode cX8_told 66 = .ok (.aload_n 3, 1) := by decide +kernel
theorem dX8_told_67 : decode cX8_told 67 = .ok (.getfield 103, 3) := by decide +kernel
theorem dX8_told_70 : decode cX8_told 70 = .ok (.ireturn, 1) := by decide +kernel
theorem dX8_told_71 : decode cX8_told 71 = .ok (.aload_n 3, 1) := by decide +kernel
theorem dX8_told_72 : decode cX8_told 72 = .ok (.invokevirtual 106, 3) := by decide +kernel
theorem dX8_told_75 : decode cX8_told 75 = .ok (.ireturn, 1) := by decide +kernel
theorem dX8_told_76 : decode cX8_told 76 = .ok (.aload_n 3, 1) := by decide +kernel
theorem dX8_told_77 : decode cX8_told 77 = .ok (.getfield 110, 3) := by decide +kernel
theorem dX8_told_80 : decode cX8_told 80 = .ok (.ireturn, 1) := by decide +kernel
theorem dX8_told_81 : decode cX8_told 81 = .ok (.aload_n 3, 1) := by decide +kernel
theorem dX8_told_82 : decode cX8_told 82 = .ok (.getfield 113, 3) := by decide +kernel
theorem dX8_told_85 : decode cX8_told 85 = .ok (.ireturn, 1) := by decide +kernel
theorem dX8_told_86 : decode cX8_told 86 = .ok (.ldc 77, 2) := by decide +kernel
theorem dX8_told_88 : decode cX8_told 88 = .ok (.ireturn, 1) := by decide +kernel
theorem dX8_rule_0 : decode cX8_rule 0 = .ok (.iload_n 1, 1) := by decide +kernel
theorem dX8_rule_1 : decode cX8_rule 1 = .ok (.ifCond .ne 25, 3) := by decide +kernel
theorem dX8_rule_4 : decode cX8_rule 4 = .ok (.iload_n 2, 1) := by decide +kernel
theorem dX8_rule_5 : decode cX8_rule 5 = .ok (.iconst 1, 1) := by decide +kernel
theorem dX8_rule_6 : decode cX8_rule 6 = .ok (.bipush 100, 2) := by decide +kernel
theorem dX8_rule_8 : decode cX8_rule 8 = .ok (.invokestatic 73, 3) := by decide +kernel
theorem dX8_rule_11 : decode cX8_rule 11 = .ok (.ifCond .eq 15, 3) := by decide +kernel
theorem dX8_rule_14 : decode cX8_rule 14 = .ok (.aload_n 0, 1) := by decide +kernel
theorem dX8_rule_15 : decode cX8_rule 15 = .ok (.getfield 7, 3) := by decide +kernel
theorem dX8_rule_18 : decode cX8_rule 18 = .ok (.istore_n 3, 1) := by decide +kernel
theorem dX8_rule_19 : decode cX8_rule 19 = .ok (.aload_n 0, 1) := by decide +kernel
theorem dX8_rule_20 : decode cX8_rule 20 = .ok (.iload_n 2, 1) := by decide +kernel
theorem dX8_rule_21 : decode cX8_rule 21 = .ok (.putfield 7, 3) := by decide +kernel
theorem dX8_rule_24 : decode cX8_rule 24 = .ok (.iload_n 3, 1) := by decide +kernel
theorem dX8_rule_25 : decode cX8_rule 25 = .ok (.ireturn, 1) := by decide +kernel
theorem dX8_rule_26 : decode cX8_rule 26 = .ok (.iload_n 1, 1) := by decide +kernel
theorem dX8_rule_27 : decode cX8_rule 27 = .ok (.iconst 1, 1) := by decide +kernel
theorem dX8_rule_28 : decode cX8_rule 28 = .ok (.if_icmp .ne 25, 3) := by decide +kernel
theorem dX8_rule_31 : decode cX8_rule 31 = .ok (.iload_n 2, 1) := by decide +kernel
theorem dX8_rule_32 : decode cX8_rule 32 = .ok (.iconst 0, 1) := by decide +kernel
theorem dX8_rule_33 : decode cX8_rule 33 = .ok (.bipush 100, 2) := by decide +kernel
theorem dX8_rule_35 : decode cX8_rule 35 = .ok (.invokestatic 73, 3) := by decide +kernel
theorem dX8_rule_38 : decode cX8_rule 38 = .ok (.ifCond .eq 15, 3) := by decide +kernel
theorem dX8_rule_41 : decode cX8_rule 41 = .ok (.aload_n 0, 1) := by decide +kernel
theorem dX8_rule_42 : decode cX8_rule 42 = .ok (.getfield 13, 3) := by decide +kernel
theorem dX8_rule_45 : decode cX8_rule 45 = .ok (.istore_n 3, 1) := by decide +kernel
theorem dX8_rule_46 : decode cX8_rule 46 = .ok (.aload_n 0, 1) := by decide +kernel
theorem dX8_rule_47 : decode cX8_rule 47 = .ok (.iload_n 2, 1) := by decide +kernel
theorem dX8_rule_48 : decode cX8_rule 48 = .ok (.putfield 13, 3) := by decide +kernel
theorem dX8_rule_51 : decode cX8_rule 51 = .ok (.iload_n 3, 1) := by decide +kernel
theorem dX8_rule_52 : decode cX8_rule 52 = .ok (.ireturn, 1) := by decide +kernel
theorem dX8_rule_53 : decode cX8_rule 53 = .ok (.ldc 77, 2) := by decide +kernel
theorem dX8_rule_55 : decode cX8_rule 55 = .ok (.ireturn, 1) := by decide +kernel
theorem dX8_mend_0 : decode cX8_mend 0 = .ok (.iload_n 1, 1) := by decide +kernel
theorem dX8_mend_1 : decode cX8_mend 1 = .ok (.iconst 0, 1) := by decide +kernel
theorem dX8_mend_2 : decode cX8_mend 2 = .ok (.sipush 9000, 3) := by decide +kernel
theorem dX8_mend_5 : decode cX8_mend 5 = .ok (.invokestatic 73, 3) := by decide +kernel
theorem dX8_mend_8 : decode cX8_mend 8 = .ok (.ifCond .ne 6, 3) := by decide +kernel
theorem dX8_mend_11 : decode cX8_mend 11 = .ok (.ldc 77, 2) := by decide +kernel
theorem dX8_mend_13 : decode cX8_mend 13 = .ok (.ireturn, 1) := by decide +kernel
theorem dX8_mend_14 : decode cX8_mend 14 = .ok (.aload_n 0, 1) := by decide +kernel
theorem dX8_mend_15 : decode cX8_mend 15 = .ok (.getfield 116, 3) := by decide +kernel
theorem dX8_mend_18 : decode cX8_mend 18 = .ok (.iload_n 1, 1) := by decide +kernel
theorem dX8_mend_19 : decode cX8_mend 19 = .ok (.if_icmp .ge 6, 3) := by decide +kernel
theorem dX8_mend_22 : decode cX8_mend 22 = .ok (.ldc 96, 2) := by decide +kernel
theorem dX8_mend_24 : decode cX8_mend 24 = .ok (.ireturn, 1) := by decide +kernel
theorem dX8_mend_25 : decode cX8_mend 25 = .ok (.aload_n 0, 1) := by decide +kernel
theorem dX8_mend_26 : decode cX8_mend 26 = .ok (.dup, 1) := by decide +kernel
theorem dX8_mend_27 : decode cX8_mend 27 = .ok (.getfield 116, 3) := by decide +kernel
theorem dX8_mend_30 : decode cX8_mend 30 = .ok (.iload_n 1, 1) := by decide +kernel
theorem dX8_mend_31 : decode cX8_mend 31 = .ok (.isub, 1) := by decide +kernel
theorem dX8_mend_32 : decode cX8_mend 32 = .ok (.putfield 116, 3) := by decide +kernel
theorem dX8_mend_35 : decode cX8_mend 35 = .ok (.aload_n 0, 1) := by decide +kernel
theorem dX8_mend_36 : decode cX8_mend 36 = .ok (.dup, 1) := by decide +kernel
theorem dX8_mend_37 : decode cX8_mend 37 = .ok (.getfield 69, 3) := by decide +kernel
theorem dX8_mend_40 : decode cX8_mend 40 = .ok (.iload_n 1, 1) := by decide +kernel
theorem dX8_mend_41 : decode cX8_mend 41 = .ok (.iadd, 1) := by decide +kernel
theorem dX8_mend_42 : decode cX8_mend 42 = .ok (.putfield 69, 3) := by decide +kernel
theorem dX8_mend_45 : decode cX8_mend 45 = .ok (.aload_n 0, 1) := by decide +kernel
theorem dX8_mend_46 : decode cX8_mend 46 = .ok (.getfield 116, 3) := by decide +kernel
theorem dX8_mend_49 : decode cX8_mend 49 = .ok (.ireturn, 1) := by decide +kernel
theorem dX8_hire_0 : decode cX8_hire 0 = .ok (.aload_n 0, 1) := by decide +kernel
theorem dX8_hire_1 : decode cX8_hire 1 = .ok (.iload_n 1, 1) := by decide +kernel
theorem dX8_hire_2 : decode cX8_hire 2 = .ok (.invokevirtual 100, 3) := by decide +kernel
theorem dX8_hire_5 : decode cX8_hire 5 = .ok (.ifCond .eq 23, 3) := by decide +kernel
theorem dX8_hire_8 : decode cX8_hire 8 = .ok (.iload_n 2, 1) := by decide +kernel
theorem dX8_hire_9 : decode cX8_hire 9 = .ok (.iconst 1, 1) := by decide +kernel
theorem dX8_hire_10 : decode cX8_hire 10 = .ok (.bipush 100, 2) := by decide +kernel
theorem dX8_hire_12 : decode cX8_hire 12 = .ok (.invokestatic 73, 3) := by decide +kernel
theorem dX8_hire_15 : decode cX8_hire 15 = .ok (.ifCond .eq 13, 3) := by decide +kernel
theorem dX8_hire_18 : decode cX8_hire 18 = .ok (.iload_n 3, 1) := by decide +kernel
theorem dX8_hire_19 : decode cX8_hire 19 = .ok (.iconst 1, 1) := by decide +kernel
theorem dX8_hire_20 : decode cX8_hire 20 = .ok (.bipush 12, 2) := by decide +kernel
theorem dX8_hire_22 : decode cX8_hire 22 = .ok (.invokestatic 73, 3) := by decide +kernel
theorem dX8_hire_25 : decode cX8_hire 25 = .ok (.ifCond .ne 6, 3) := by decide +kernel
theorem dX8_hire_28 : decode cX8_hire 28 = .ok (.ldc 77, 2) := by decide +kernel
theorem dX8_hire_30 : decode cX8_hire 30 = .ok (.ireturn, 1) := by decide +kernel
theorem dX8_hire_31 : decode cX8_hire 31 = .ok (.aload_n 0, 1) := by decide +kernel
theorem dX8_hire_32 : decode cX8_hire 32 = .ok (.getfield 119, 3) := by decide +kernel
theorem dX8_hire_35 : decode cX8_hire 35 = .ok (.aload_n 0, 1) := by decide +kernel
theorem dX8_hire_36 : decode cX8_hire 36 = .ok (.getfield 13, 3) := by decide +kernel
theorem dX8_hire_39 : decode cX8_hire 39 = .ok (.if_icmp .le 6, 3) := by decide +kernel
theorem dX8_hire_42 : decode cX8_hire 42 = .ok (.ldc 96, 2) := by decide +kernel
theorem dX8_hire_44 : decode cX8_hire 44 = .ok (.ireturn, 1) := by decide +kernel
theorem dX8_hire_45 : decode cX8_hire 45 = .ok (.aload_n 0, 1) := by decide +kernel
theorem dX8_hire_46 : decode cX8_hire 46 = .ok (.getfield 18, 3) := by decide +kernel
theorem dX8_hire_49 : decode cX8_hire 49 = .ok (.iload_n 1, 1) := by decide +kernel
theorem dX8_hire_50 : decode cX8_hire 50 = .ok (.aaload, 1) := by decide +kernel
theorem dX8_hire_51 : decode cX8_hire 51 = .ok (.astore 4, 2) := by decide +kernel
theorem dX8_hire_53 : decode cX8_hire 53 = .ok (.aload_n 0, 1) := by decide +kernel
theorem dX8_hire_54 : decode cX8_hire 54 = .ok (.getfield 25, 3) := by decide +kernel
theorem dX8_hire_57 : decode cX8_hire 57 = .ok (.invokevirtual 122, 3) := by decide +kernel
theorem dX8_hire_60 : decode cX8_hire 60 = .ok (.ifCond .ne 12, 3) := by decide +kernel
theorem dX8_hire_63 : decode cX8_hire 63 = .ok (.aload 4, 2) := by decide +kernel
theorem dX8_hire_65 : decode cX8_hire 65 = .ok (.invokevirtual 106, 3) := by decide +kernel
theorem dX8_hire_68 : decode cX8_hire 68 = .ok (.iload_n 2, 1) := by decide +kernel
theorem dX8_hire_69 : decode cX8_hire 69 = .ok (.if_icmp .ge 6, 3) := by decide +kernel
theorem dX8_hire_72 : decode cX8_hire 72 = .ok (.ldc 81, 2) := by decide +kernel
theorem dX8_hire_74 : decode cX8_hire 74 = .ok (.ireturn, 1) := by decide +kernel
theorem dX8_hire_75 : decode cX8_hire 75 = .ok (.aload 4, 2) := by decide +kernel
theorem dX8_hire_77 : decode cX8_hire 77 = .ok (.dup, 1) := by decide +kernel
theorem dX8_hire_78 : decode cX8_hire 78 = .ok (.getfield 126, 3) := by decide +kernel
theorem dX8_hire_81 : decode cX8_hire 81 = .ok (.iload_n 2, 1) := by decide +kernel
theorem dX8_hire_82 : decode cX8_hire 82 = .ok (.iadd, 1) := by decide +kernel
theorem dX8_hire_83 : decode cX8_hire 83 = .ok (.putfield 126, 3) := by decide +kernel
theorem dX8_hire_86 : decode cX8_hire 86 = .ok (.aload_n 0, 1) := by decide +kernel
theorem dX8_hire_87 : decode cX8_hire 87 = .ok (.getfield 25, 3) := by decide +kernel
theorem dX8_hire_90 : decode cX8_hire 90 = .ok (.invokevirtual 129, 3) := by decide +kernel
theorem dX8_hire_93 : decode cX8_hire 93 = .ok (.astore 5, 2) := by decide +kernel
theorem dX8_hire_95 : decode cX8_hire 95 = .ok (.aload 5, 2) := by decide +kernel
theorem dX8_hire_97 : decode cX8_hire 97 = .ok (.iload_n 1, 1) := by decide +kernel
theorem dX8_hire_98 : decode cX8_hire 98 = .ok (.putfield 133, 3) := by decide +kernel
theorem dX8_hire_101 : decode cX8_hire 101 = .ok (.aload 5, 2) := by decide +kernel
theorem dX8_hire_103 : decode cX8_hire 103 = .ok (.aload 4, 2) := by decide +kernel
theorem dX8_hire_105 : decode cX8_hire 105 = .ok (.getfield 85, 3) := by decide +kernel
theorem dX8_hire_108 : decode cX8_hire 108 = .ok (.putfield 138, 3) := by decide +kernel
theorem dX8_hire_111 : decode cX8_hire 111 = .ok (.aload 5, 2) := by decide +kernel
theorem dX8_hire_113 : decode cX8_hire 113 = .ok (.iload_n 2, 1) := by decide +kernel
theorem dX8_hire_114 : decode cX8_hire 114 = .ok (.putfield 139, 3) := by decide +kernel
theorem dX8_hire_117 : decode cX8_hire 117 = .ok (.aload 5, 2) := by decide +kernel
theorem dX8_hire_119 : decode cX8_hire 119 = .ok (.iload_n 3, 1) := by decide +kernel
theorem dX8_hire_120 : decode cX8_hire 120 = .ok (.putfield 142, 3) := by decide +kernel
theorem dX8_hire_123 : decode cX8_hire 123 = .ok (.aload 5, 2) := by decide +kernel
theorem dX8_hire_125 : decode cX8_hire 125 = .ok (.aload_n 0, 1) := by decide +kernel
theorem dX8_hire_126 : decode cX8_hire 126 = .ok (.getfield 7, 3) := by decide +kernel
theorem dX8_hire_129 : decode cX8_hire 129 = .ok (.putfield 145, 3) := by decide +kernel
theorem dX8_hire_132 : decode cX8_hire 132 = .ok (.aload 5, 2) := by decide +kernel
theorem dX8_hire_134 : decode cX8_hire 134 = .ok (.aload_n 0, 1) := by decide +kernel
theorem dX8_hire_135 : decode cX8_hire 135 = .ok (.getfield 7, 3) := by decide +kernel
theorem dX8_hire_138 : decode cX8_hire 138 = .ok (.iload_n 2, 1) := by decide +kernel
theorem dX8_hire_139 : decode cX8_hire 139 = .ok (.imul, 1) := by decide +kernel
theorem dX8_hire_140 : decode cX8_hire 140 = .ok (.iload_n 3, 1) := by decide +kernel
theorem dX8_hire_141 : decode cX8_hire 141 = .ok (.imul, 1) := by decide +kernel
theorem dX8_hire_142 : decode cX8_hire 142 = .ok (.putfield 146, 3) := by decide +kernel
theorem dX8_hire_145 : decode cX8_hire 145 = .ok (.aload_n 0, 1) := by decide +kernel
theorem dX8_hire_146 : decode cX8_hire 146 = .ok (.getfield 25, 3) := by decide +kernel
theorem dX8_hire_149 : decode cX8_hire 149 = .ok (.dup, 1) := by decide +kernel
theorem dX8_hire_150 : decode cX8_hire 150 = .ok (.getfield 149, 3) := by decide +kernel
theorem dX8_hire_153 : decode cX8_hire 153 = .ok (.aload 5, 2) := by decide +kernel
theorem dX8_hire_155 : decode cX8_hire 155 = .ok (.getfield 146, 3) := by decide +kernel
theorem dX8_hire_158 : decode cX8_hire 158 = .ok (.iadd, 1) := by decide +kernel
theorem dX8_hire_159 : decode cX8_hire 159 = .ok (.putfield 149, 3) := by decide +kernel
theorem dX8_hire_162 : decode cX8_hire 162 = .ok (.aload 5, 2) := by decide +kernel
theorem dX8_hire_164 : decode cX8_hire 164 = .ok (.getfield 150, 3) := by decide +kernel
theorem dX8_hire_167 : decode cX8_hire 167 = .ok (.ireturn, 1) := by decide +kernel
theorem dX8_shift_0 : decode cX8_shift 0 = .ok (.aload_n 0, 1) := by decide +kernel
theorem dX8_shift_1 : decode cX8_shift 1 = .ok (.getfield 25, 3) := by decide +kernel
theorem dX8_shift_4 : decode cX8_shift 4 = .ok (.iload_n 1, 1) := by decide +kernel
theorem dX8_shift_5 : decode cX8_shift 5 = .ok (.invokevirtual 153, 3) := by decide +kernel
theorem dX8_shift_8 : decode cX8_shift 8 = .ok (.astore_n 3, 1) := by decide +kernel
theorem dX8_shift_9 : decode cX8_shift 9 = .ok (.aload_n 3, 1) := by decide +kernel
theorem dX8_shift_10 : decode cX8_shift 10 = .ok (.ifnull 19, 3) := by decide +kernel
theorem dX8_shift_13 : decode cX8_shift 13 = .ok (.aload_n 0, 1) := by decide +kernel
theorem dX8_shift_14 : decode cX8_shift 14 = .ok (.iload_n 2, 1) := by decide +kernel
theorem dX8_shift_15 : decode cX8_shift 15 = .ok (.invokevirtual 100, 3) := by decide +kernel
theorem dX8_shift_18 : decode cX8_shift 18 = .ok (.ifCond .eq 11, 3) := by decide +kernel
theorem dX8_shift_21 : decode cX8_shift 21 = .ok (.aload_n 3, 1) := by decide +kernel
theorem dX8_shift_22 : decode cX8_shift 22 = .ok (.getfield 133, 3) := by decide +kernel
theorem dX8_shift_25 : decode cX8_shift 25 = .ok (.iload_n 2, 1) := by decide +kernel
theorem dX8_shift_26 : decode cX8_shift 26 = .ok (.if_icmp .ne 6, 3) := by decide +kernel
theorem dX8_shift_29 : decode cX8_shift 29 = .ok (.ldc 77, 2) := by decide +kernel
theorem dX8_shift_31 : decode cX8_shift 31 = .ok (.ireturn, 1) := by decide +kernel
theorem dX8_shift_32 : decode cX8_shift 32 = .ok (.aload_n 0, 1) := by decide +kernel
theorem dX8_shift_33 : decode cX8_shift 33 = .ok (.getfield 18, 3) := by decide +kernel
theorem dX8_shift_36 : decode cX8_shift 36 = .ok (.iload_n 2, 1) := by decide +kernel
theorem dX8_shift_37 : decode cX8_shift 37 = .ok (.aaload, 1) := by decide +kernel
theorem dX8_shift_38 : decode cX8_shift 38 = .ok (.astore 4, 2) := by decide +kernel
theorem dX8_shift_40 : decode cX8_shift 40 = .ok (.aload_n 0, 1) := by decide +kernel
theorem dX8_shift_41 : decode cX8_shift 41 = .ok (.getfield 39, 3) := by decide +kernel
theorem dX8_shift_44 : decode cX8_shift 44 = .ok (.aload 4, 2) := by decide +kernel
theorem dX8_shift_46 : decode cX8_shift 46 = .ok (.getfield 85, 3) := by decide +kernel
theorem dX8_shift_49 : decode cX8_shift 49 = .ok (.aload_n 3, 1) := by decide +kernel
theorem dX8_shift_50 : decode cX8_shift 50 = .ok (.getfield 138, 3) := by decide +kernel
theorem dX8_shift_53 : decode cX8_shift 53 = .ok (.invokevirtual 157, 3) := by decide +kernel
theorem dX8_shift_56 : decode cX8_shift 56 = .ok (.ifCond .ne 6, 3) := by decide +kernel
theorem dX8_shift_59 : decode cX8_shift 59 = .ok (.ldc 96, 2) := by decide +kernel
theorem dX8_shift_61 : decode cX8_shift 61 = .ok (.ireturn, 1) := by decide +kernel
theorem dX8_shift_62 : decode cX8_shift 62 = .ok (.aload 4, 2) := by decide +kernel
theorem dX8_shift_64 : decode cX8_shift 64 = .ok (.invokevirtual 106, 3) := by decide +kernel
theorem dX8_shift_67 : decode cX8_shift 67 = .ok (.aload_n 3, 1) := by decide +kernel
theorem dX8_shift_68 : decode cX8_shift 68 = .ok (.getfield 139, 3) := by decide +kernel
theorem dX8_shift_71 : decode cX8_shift 71 = .ok (.if_icmp .ge 6, 3) := by decide +kernel
theorem dX8_shift_74 : decode cX8_shift 74 = .ok (.ldc 81, 2) := by decide +kernel
theorem dX8_shift_76 : decode cX8_shift 76 = .ok (.ireturn, 1) := by decide +kernel
theorem dX8_shift_77 : decode cX8_shift 77 = .ok (.aload_n 0, 1) := by decide +kernel
theorem dX8_shift_78 : decode cX8_shift 78 = .ok (.getfield 18, 3) := by decide +kernel
theorem dX8_shift_81 : decode cX8_shift 81 = .ok (.aload_n 3, 1) := by decide +kernel
theorem dX8_shift_82 : decode cX8_shift 82 = .ok (.getfield 133, 3) := by decide +kernel
theorem dX8_shift_85 : decode cX8_shift 85 = .ok (.aaload, 1) := by decide +kernel
theorem dX8_shift_86 : decode cX8_shift 86 = .ok (.dup, 1) := by decide +kernel
theorem dX8_shift_87 : decode cX8_shift 87 = .ok (.getfield 126, 3) := by decide +kernel
theorem dX8_shift_90 : decode cX8_shift 90 = .ok (.aload_n 3, 1) := by decide +kernel
theorem dX8_shift_91 : decode cX8_shift 91 = .ok (.getfield 139, 3) := by decide +kernel
theorem dX8_shift_94 : decode cX8_shift 94 = .ok (.isub, 1) := by decide +kernel
theorem dX8_shift_95 : decode cX8_shift 95 = .ok (.putfield 126, 3) := by decide +kernel
theorem dX8_shift_98 : decode cX8_shift 98 = .ok (.aload 4, 2) := by decide +kernel
theorem dX8_shift_100 : decode cX8_shift 100 = .ok (.dup, 1) := by decide +kernel
theorem dX8_shift_101 : decode cX8_shift 101 = .ok (.getfield 126, 3) := by decide +kernel
theorem dX8_shift_104 : decode cX8_shift 104 = .ok (.aload_n 3, 1) := by decide +kernel
theorem dX8_shift_105 : decode cX8_shift 105 = .ok (.getfield 139, 3) := by decide +kernel
theorem dX8_shift_108 : decode cX8_shift 108 = .ok (.iadd, 1) := by decide +kernel
theorem dX8_shift_109 : decode cX8_shift 109 = .ok (.putfield 126, 3) := by decide +kernel
theorem dX8_shift_112 : decode cX8_shift 112 = .ok (.aload_n 3, 1) := by decide +kernel
theorem dX8_shift_113 : decode cX8_shift 113 = .ok (.iload_n 2, 1) := by decide +kernel
theorem dX8_shift_114 : decode cX8_shift 114 = .ok (.putfield 133, 3) := by decide +kernel
theorem dX8_shift_117 : decode cX8_shift 117 = .ok (.iconst 1, 1) := by decide +kernel
theorem dX8_shift_118 : decode cX8_shift 118 = .ok (.ireturn, 1) := by decide +kernel
theorem dX8_ticket_0 : decode cX8_ticket 0 = .ok (.aload_n 0, 1) := by decide +kernel
theorem dX8_ticket_1 : decode cX8_ticket 1 = .ok (.getfield 25, 3) := by decide +kernel
theorem dX8_ticket_4 : decode cX8_ticket 4 = .ok (.iload_n 1, 1) := by decide +kernel
theorem dX8_ticket_5 : decode cX8_ticket 5 = .ok (.invokevirtual 153, 3) := by decide +kernel
theorem dX8_ticket_8 : decode cX8_ticket 8 = .ok (.astore_n 3, 1) := by decide +kernel
theorem dX8_ticket_9 : decode cX8_ticket 9 = .ok (.aload_n 3, 1) := by decide +kernel
theorem dX8_ticket_10 : decode cX8_ticket 10 = .ok (.ifnonnull 6, 3) := by decide +kernel
theorem dX8_ticket_13 : decode cX8_ticket 13 = .ok (.ldc 77, 2) := by decide +kernel
theorem dX8_ticket_15 : decode cX8_ticket 15 = .ok (.ireturn, 1) := by decide +kernel
theorem dX8_ticket_16 : decode cX8_ticket 16 = .ok (.iload_n 2, 1) := by decide +kernel
theorem dX8_ticket_17 : decode cX8_ticket 17 = .ok (.tableswitch 51 0 3 #[31, 36, 41, 46], 31) := by decide +kernel
theorem dX8_ticket_48 : decode cX8_ticket 48 = .ok (.aload_n 3, 1) := by decide +kernel
