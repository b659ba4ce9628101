theorem dX0_init_0 : decode cX0_init 0 = .ok (.aload_n 0, 1) := by decide +kernel
theorem dX0_init_1 : decode cX0_init 1 = .ok (.invokespecial 1, 3) := by decide +kernel
theorem dX0_init_4 : decode cX0_init 4 = .ok (.aload_n 0, 1) := by decide +kernel
theorem dX0_init_5 : decode cX0_init 5 = .ok (.bipush 16, 2) := by decide +kernel
theorem dX0_init_7 : decode cX0_init 7 = .ok (.newarray .int, 2) := by decide +kernel
theorem dX0_init_9 : decode cX0_init 9 = .ok (.putfield 9, 3) := by decide +kernel
theorem dX0_init_12 : decode cX0_init 12 = .ok (.return_, 1) := by decide +kernel
theorem dX0_worthOf_0 : decode cX0_worthOf 0 = .ok (.aload_n 1, 1) := by decide +kernel
theorem dX0_worthOf_1 : decode cX0_worthOf 1 = .ok (.invokevirtual 13, 3) := by decide +kernel
theorem dX0_worthOf_4 : decode cX0_worthOf 4 = .ok (.tableswitch 46 1 3 #[34, 28, 40], 28) := by decide +kernel
theorem dX0_worthOf_32 : decode cX0_worthOf 32 = .ok (.aload_n 0, 1) := by decide +kernel
theorem dX0_worthOf_33 : decode cX0_worthOf 33 = .ok (.aload_n 1, 1) := by decide +kernel
theorem dX0_worthOf_34 : decode cX0_worthOf 34 = .ok (.invokevirtual 19, 3) := by decide +kernel
theorem dX0_worthOf_37 : decode cX0_worthOf 37 = .ok (.ireturn, 1) := by decide +kernel
theorem dX0_worthOf_38 : decode cX0_worthOf 38 = .ok (.aload_n 0, 1) := by decide +kernel
theorem dX0_worthOf_39 : decode cX0_worthOf 39 = .ok (.aload_n 1, 1) := by decide +kernel
theorem dX0_worthOf_40 : decode cX0_worthOf 40 = .ok (.invokevirtual 23, 3) := by decide +kernel
theorem dX0_worthOf_43 : decode cX0_worthOf 43 = .ok (.ireturn, 1) := by decide +kernel
theorem dX0_worthOf_44 : decode cX0_worthOf 44 = .ok (.aload_n 0, 1) := by decide +kernel
theorem dX0_worthOf_45 : decode cX0_worthOf 45 = .ok (.aload_n 1, 1) := by decide +kernel
theorem dX0_worthOf_46 : decode cX0_worthOf 46 = .ok (.invokevirtual 26, 3) := by decide +kernel
theorem dX0_worthOf_49 : decode cX0_worthOf 49 = .ok (.ireturn, 1) := by decide +kernel
theorem dX0_worthOf_50 : decode cX0_worthOf 50 = .ok (.aload_n 0, 1) := by decide +kernel
theorem dX0_worthOf_51 : decode cX0_worthOf 51 = .ok (.aload_n 1, 1) := by decide +kernel
theorem dX0_worthOf_52 : decode cX0_worthOf 52 = .ok (.invokevirtual 29, 3) := by decide +kernel
theorem dX0_worthOf_55 : decode cX0_worthOf 55 = .ok (.ireturn, 1) := by decide +kernel
theorem dX0_markOf_0 : decode cX0_markOf 0 = .ok (.aload_n 1, 1) := by decide +kernel
theorem dX0_markOf_1 : decode cX0_markOf 1 = .ok (.invokevirtual 13, 3) := by decide +kernel
theorem dX0_markOf_4 : decode cX0_markOf 4 = .ok (.lookupswitch 40 #[(2, 28), (3, 34)], 28) := by decide +kernel
theorem dX0_markOf_32 : decode cX0_markOf 32 = .ok (.aload_n 0, 1) := by decide +kernel
theorem dX0_markOf_33 : decode cX0_markOf 33 = .ok (.aload_n 1, 1) := by decide +kernel
theorem dX0_markOf_34 : decode cX0_markOf 34 = .ok (.invokevirtual 32, 3) := by decide +kernel
theorem dX0_markOf_37 : decode cX0_markOf 37 = .ok (.ireturn, 1) := by decide +kernel
theorem dX0_markOf_38 : decode cX0_markOf 38 = .ok (.aload_n 0, 1) := by decide +kernel
theorem dX0_markOf_39 : decode cX0_markOf 39 = .ok (.aload_n 1, 1) := by decide +kernel
theorem dX0_markOf_40 : decode cX0_markOf 40 = .ok (.invokevirtual 35, 3) := by decide +kernel
theorem dX0_markOf_43 : decode cX0_markOf 43 = .ok (.ireturn, 1) := by decide +kernel
theorem dX0_markOf_44 : decode cX0_markOf 44 = .ok (.aload_n 0, 1) := by decide +kernel
theorem dX0_markOf_45 : decode cX0_markOf 45 = .ok (.aload_n 1, 1) := by decide +kernel
theorem dX0_markOf_46 : decode cX0_markOf 46 = .ok (.invokevirtual 38, 3) := by decide +kernel
theorem dX0_markOf_49 : decode cX0_markOf 49 = .ok (.ireturn, 1) := by decide +kernel
theorem dX0_worthLent_0 : decode cX0_worthLent 0 = .ok (.aload_n 0, 1) := by decide +kernel
theorem dX0_worthLent_1 : decode cX0_worthLent 1 = .ok (.bipush 10, 2) := by decide +kernel
theorem dX0_worthLent_3 : decode cX0_worthLent 3 = .ok (.invokevirtual 41, 3) := by decide +kernel
theorem dX0_worthLent_6 : decode cX0_worthLent 6 = .ok (.aload_n 1, 1) := by decide +kernel
theorem dX0_worthLent_7 : decode cX0_worthLent 7 = .ok (.getfield 45, 3) := by decide +kernel
theorem dX0_worthLent_10 : decode cX0_worthLent 10 = .ok (.ireturn, 1) := by decide +kernel
theorem dX0_worthOfSold_0 : decode cX0_worthOfSold 0 = .ok (.aload_n 0, 1) := by decide +kernel
theorem dX0_worthOfSold_1 : decode cX0_worthOfSold 1 = .ok (.bipush 11, 2) := by decide +kernel
theorem dX0_worthOfSold_3 : decode cX0_worthOfSold 3 = .ok (.invokevirtual 41, 3) := by decide +kernel
theorem dX0_worthOfSold_6 : decode cX0_worthOfSold 6 = .ok (.aload_n 0, 1) := by decide +kernel
theorem dX0_worthOfSold_7 : decode cX0_worthOfSold 7 = .ok (.aload_n 1, 1) := by decide +kernel
theorem dX0_worthOfSold_8 : decode cX0_worthOfSold 8 = .ok (.invokevirtual 29, 3) := by decide +kernel
theorem dX0_worthOfSold_11 : decode cX0_worthOfSold 11 = .ok (.sipush 1000, 3) := by decide +kernel
theorem dX0_worthOfSold_14 : decode cX0_worthOfSold 14 = .ok (.iadd, 1) := by decide +kernel
theorem dX0_worthOfSold_15 : decode cX0_worthOfSold 15 = .ok (.ireturn, 1) := by decide +kernel
theorem dX0_worthOfCrowd_0 : decode cX0_worthOfCrowd 0 = .ok (.aload_n 0, 1) := by decide +kernel
theorem dX0_worthOfCrowd_1 : decode cX0_worthOfCrowd 1 = .ok (.bipush 12, 2) := by decide +kernel
theorem dX0_worthOfCrowd_3 : decode cX0_worthOfCrowd 3 = .ok (.invokevirtual 41, 3) := by decide +kernel
theorem dX0_worthOfCrowd_6 : decode cX0_worthOfCrowd 6 = .ok (.aload_n 0, 1) := by decide +kernel
theorem dX0_worthOfCrowd_7 : decode cX0_worthOfCrowd 7 = .ok (.aload_n 1, 1) := by decide +kernel
theorem dX0_worthOfCrowd_8 : decode cX0_worthOfCrowd 8 = .ok (.invokevirtual 23, 3) := by decide +kernel
theorem dX0_worthOfCrowd_11 : decode cX0_worthOfCrowd 11 = .ok (.istore_n 2, 1) := by decide +kernel
theorem dX0_worthOfCrowd_12 : decode cX0_worthOfCrowd 12 = .ok (.iload_n 2, 1) := by decide +kernel
theorem dX0_worthOfCrowd_13 : decode cX0_worthOfCrowd 13 = .ok (.aload_n 0, 1) := by decide +kernel
theorem dX0_worthOfCrowd_14 : decode cX0_worthOfCrowd 14 = .ok (.aload_n 1, 1) := by decide +kernel
theorem dX0_worthOfCrowd_15 : decode cX0_worthOfCrowd 15 = .ok (.invokevirtual 32, 3) := by decide +kernel
theorem dX0_worthOfCrowd_18 : decode cX0_worthOfCrowd 18 = .ok (.iadd, 1) := by decide +kernel
theorem dX0_worthOfCrowd_19 : decode cX0_worthOfCrowd 19 = .ok (.ireturn, 1) := by decide +kernel
theorem dX0_worthOfBare_0 : decode cX0_worthOfBare 0 = .ok (.aload_n 0, 1) := by decide +kernel
theorem dX0_worthOfBare_1 : decode cX0_worthOfBare 1 = .ok (.bipush 13, 2) := by decide +kernel
theorem dX0_worthOfBare_3 : decode cX0_worthOfBare 3 = .ok (.invokevirtual 41, 3) := by decide +kernel
theorem dX0_worthOfBare_6 : decode cX0_worthOfBare 6 = .ok (.aload_n 1, 1) := by decide +kernel
theorem dX0_worthOfBare_7 : decode cX0_worthOfBare 7 = .ok (.getfield 49, 3) := by decide +kernel
theorem dX0_worthOfBare_10 : decode cX0_worthOfBare 10 = .ok (.ireturn, 1) := by decide +kernel
theorem dX0_markLent_0 : decode cX0_markLent 0 = .ok (.aload_n 0, 1) := by decide +kernel
theorem dX0_markLent_1 : decode cX0_markLent 1 = .ok (.bipush 20, 2) := by decide +kernel
theorem dX0_markLent_3 : decode cX0_markLent 3 = .ok (.invokevirtual 41, 3) := by decide +kernel
theorem dX0_markLent_6 : decode cX0_markLent 6 = .ok (.aload_n 1, 1) := by decide +kernel
theorem dX0_markLent_7 : decode cX0_markLent 7 = .ok (.getfield 52, 3) := by decide +kernel
theorem dX0_markLent_10 : decode cX0_markLent 10 = .ok (.ireturn, 1) := by decide +kernel
theorem dX0_markOfCrowd_0 : decode cX0_markOfCrowd 0 = .ok (.aload_n 0, 1) := by decide +kernel
theorem dX0_markOfCrowd_1 : decode cX0_markOfCrowd 1 = .ok (.bipush 21, 2) := by decide +kernel
theorem dX0_markOfCrowd_3 : decode cX0_markOfCrowd 3 = .ok (.invokevirtual 41, 3) := by decide +kernel
theorem dX0_markOfCrowd_6 : decode cX0_markOfCrowd 6 = .ok (.aload_n 0, 1) := by decide +kernel
theorem dX0_markOfCrowd_7 : decode cX0_markOfCrowd 7 = .ok (.aload_n 1, 1) := by decide +kernel
theorem dX0_markOfCrowd_8 : decode cX0_markOfCrowd 8 = .ok (.invokevirtual 38, 3) := by decide +kernel
theorem dX0_markOfCrowd_11 : decode cX0_markOfCrowd 11 = .ok (.aload_n 1, 1) := by decide +kernel
theorem dX0_markOfCrowd_12 : decode cX0_markOfCrowd 12 = .ok (.getfield 55, 3) := by decide +kernel
theorem dX0_markOfCrowd_15 : decode cX0_markOfCrowd 15 = .ok (.iadd, 1) := by decide +kernel
theorem dX0_markOfCrowd_16 : decode cX0_markOfCrowd 16 = .ok (.ireturn, 1) := by decide +kernel
theorem dX0_markOfBare_0 : decode cX0_markOfBare 0 = .ok (.aload_n 0, 1) := by decide +kernel
theorem dX0_markOfBare_1 : decode cX0_markOfBare 1 = .ok (.bipush 22, 2) := by decide +kernel
theorem dX0_markOfBare_3 : decode cX0_markOfBare 3 = .ok (.invokevirtual 41, 3) := by decide +kernel
theorem dX0_markOfBare_6 : decode cX0_markOfBare 6 = .ok (.aload_n 0, 1) := by decide +kernel
theorem dX0_markOfBare_7 : decode cX0_markOfBare 7 = .ok (.aload_n 1, 1) := by decide +kernel
theorem dX0_markOfBare_8 : decode cX0_markOfBare 8 = .ok (.invokevirtual 38, 3) := by decide +kernel
theorem dX0_markOfBare_11 : decode cX0_markOfBare 11 = .ok (.istore_n 2, 1) := by decide +kernel
theorem dX0_markOfBare_12 : decode cX0_markOfBare 12 = .ok (.iload_n 2, 1) := by decide +kernel
theorem dX0_markOfBare_13 : decode cX0_markOfBare 13 = .ok (.aload_n 0, 1) := by decide +kernel
theorem dX0_markOfBare_14 : decode cX0_markOfBare 14 = .ok (.aload_n 1, 1) := by decide +kernel
theorem dX0_markOfBare_15 : decode cX0_markOfBare 15 = .ok (.invokevirtual 26, 3) := by decide +kernel
theorem dX0_markOfBare_18 : decode cX0_markOfBare 18 = .ok (.iadd, 1) := by decide +kernel
theorem dX0_markOfBare_19 : decode cX0_markOfBare 19 = .ok (.ireturn, 1) := by decide +kernel
theorem dX0_leave_0 : decode cX0_leave 0 = .ok (.aload_n 0, 1) := by decide +kernel
theorem dX0_leave_1 : decode cX0_leave 1 = .ok (.getfield 58, 3) := by decide +kernel
theorem dX0_leave_4 : decode cX0_leave 4 = .ok (.aload_n 0, 1) := by decide +kernel
theorem dX0_leave_5 : decode cX0_leave 5 = .ok (.getfield 9, 3) := by decide +kernel
theorem dX0_leave_8 : decode cX0_leave 8 = .ok (.arraylength, 1) := by decide +kernel
theorem dX0_leave_9 : decode cX0_leave 9 = .ok (.if_icmp .ge 23, 3) := by decide +kernel
theorem dX0_leave_12 : decode cX0_leave 12 = .ok (.aload_n 0, 1) := by decide +kernel
theorem dX0_leave_13 : decode cX0_leave 13 = .ok (.getfield 9, 3) := by decide +kernel
theorem dX0_leave_16 : decode cX0_leave 16 = .ok (.aload_n 0, 1) := by decide +kernel
theorem dX0_leave_17 : decode cX0_leave 17 = .ok (.getfield 58, 3) := by decide +kernel
theorem dX0_leave_20 : decode cX0_leave 20 = .ok (.iload_n 1, 1) := by decide +kernel
theorem dX0_leave_21 : decode cX0_leave 21 = .ok (.iastore, 1) := by decide +kernel
theorem dX0_leave_22 : decode cX0_leave 22 = .ok (.aload_n 0, 1) := by decide +kernel
theorem dX0_leave_23 : decode cX0_leave 23 = .ok (.dup, 1) := by decide +kernel
theorem dX0_leave_24 : decode cX0_leave 24 = .ok (.getfield 58, 3) := by decide +kernel
theorem dX0_leave_27 : decode cX0_leave 27 = .ok (.iconst 1, 1) := by decide +kernel
theorem dX0_leave_28 : decode cX0_leave 28 = .ok (.iadd, 1) := by decide +kernel
theorem dX0_leave_29 : decode cX0_leave 29 = .ok (.putfield 58, 3) := by decide +kernel
theorem dX0_leave_32 : decode cX0_leave 32 = .ok (.return_, 1) := by decide +kernel
theorem dX1_init_0 : decode cX1_init 0 = .ok (.aload_n 0, 1) := by decide +kernel
theorem dX1_init_1 : decode cX1_init 1 = .ok (.invokespecial 3, 3) := by decide +kernel
theorem dX1_init_4 : decode cX1_init 4 = .ok (.aload_n 0, 1) := by decide +kernel
theorem dX1_init_5 : decode cX1_init 5 = .ok (.bipush 7, 2) := by decide +kernel
theorem dX1_init_7 : decode cX1_init 7 = .ok (.newarray .int, 2) := by decide +kernel
theorem dX1_init_9 : decode cX1_init 9 = .ok (.putfield 11, 3) := by decide +kernel
theorem dX1_init_12 : decode cX1_init 12 = .ok (.aload_n 0, 1) := by decide +kernel
theorem dX1_init_13 : decode cX1_init 13 = .ok (.bipush 49, 2) := by decide +kernel
theorem dX1_init_15 : decode cX1_init 15 = .ok (.newarray .int, 2) := by decide +kernel
theorem dX1_init_17 : decode cX1_init 17 = .ok (.putfield 15, 3) := by decide +kernel
theorem dX1_init_20 : decode cX1_init 20 = .ok (.aload_n 0, 1) := by decide +kernel
theorem dX1_init_21 : decode cX1_init 21 = .ok (.sipush 128, 3) := by decide +kernel
theorem dX1_init_24 : decode cX1_init 24 = .ok (.newarray .int, 2) := by decide +kernel
theorem dX1_init_26 : decode cX1_init 26 = .ok (.putfield 18, 3) := by decide +kernel
theorem dX1_init_29 : decode cX1_init 29 = .ok (.return_, 1) := by decide +kernel
theorem dX1_plan_0 : decode cX1_plan 0 = .ok (.aload_n 0, 1) := by decide +kernel
theorem dX1_plan_1 : decode cX1_plan 1 = .ok (.iconst 0, 1) := by decide +kernel
theorem dX1_plan_2 : decode cX1_plan 2 = .ok (.putfield 21, 3) := by decide +kernel
theorem dX1_plan_5 : decode cX1_plan 5 = .ok (.iconst 0, 1) := by decide +kernel
theorem dX1_plan_6 : decode cX1_plan 6 = .ok (.istore_n 3, 1) := by decide +kernel
theorem dX1_plan_7 : decode cX1_plan 7 = .ok (.iload_n 3, 1) := by decide +kernel
theorem dX1_plan_8 : decode cX1_plan 8 = .ok (.aload_n 2, 1) := by decide +kernel
theorem dX1_plan_9 : decode cX1_plan 9 = .ok (.arraylength, 1) := by decide +kernel
theorem dX1_plan_10 : decode cX1_plan 10 = .ok (.if_icmp .ge 34, 3) := by decide +kernel
theorem dX1_plan_13 : decode cX1_plan 13 = .ok (.aload_n 0, 1) := by decide +kernel
theorem dX1_plan_14 : decode cX1_plan 14 = .ok (.getfield 21, 3) := by decide +kernel
theorem dX1_plan_17 : decode cX1_plan 17 = .ok (.bipush 7, 2) := by decide +kernel
theorem dX1_plan_19 : decode cX1_plan 19 = .ok (.if_icmp .ge 25, 3) := by decide +kernel
theorem dX1_plan_22 : decode cX1_plan 22 = .ok (.iload_n 1, 1) := by decide +kernel
theorem dX1_plan_23 : decode cX1_plan 23 = .ok (.iload_n 3, 1) := by decide +kernel
theorem dX1_plan_24 : decode cX1_plan 24 = .ok (.ishr, 1) := by decide +kernel
theorem dX1_plan_25 : decode cX1_plan 25 = .ok (.iconst 1, 1) := by decide +kernel
theorem dX1_plan_26 : decode cX1_plan 26 = .ok (.iand, 1) := by decide +kernel
theorem dX1_plan_27 : decode cX1_plan 27 = .ok (.ifCond .eq 11, 3) := by decide +kernel
theorem dX1_plan_30 : decode cX1_plan 30 = .ok (.aload_n 0, 1) := by decide +kernel
theorem dX1_plan_31 : decode cX1_plan 31 = .ok (.iload_n 3, 1) := by decide +kernel
theorem dX1_plan_32 : decode cX1_plan 32 = .ok (.aload_n 2, 1) := by decide +kernel
theorem dX1_plan_33 : decode cX1_plan 33 = .ok (.iload_n 3, 1) := by decide +kernel
theorem dX1_plan_34 : decode cX1_plan 34 = .ok (.aaload, 1) := by decide +kernel
theorem dX1_plan_35 : decode cX1_plan 35 = .ok (.invokevirtual 25, 3) := by decide +kernel
theorem dX1_plan_38 : decode cX1_plan 38 = .ok (.iinc 3 1, 3) := by decide +kernel
theorem dX1_plan_41 : decode cX1_plan 41 = .ok (.goto (-34), 3) := by decide +kernel
theorem dX1_plan_44 : decode cX1_plan 44 = .ok (.aload_n 0, 1) := by decide +kernel
theorem dX1_plan_45 : decode cX1_plan 45 = .ok (.invokevirtual 29, 3) := by decide +kernel
theorem dX1_plan_48 : decode cX1_plan 48 = .ok (.istore_n 3, 1) := by decide +kernel
theorem dX1_plan_49 : decode cX1_plan 49 = .ok (.iconst 1, 1) := by decide +kernel
theorem dX1_plan_50 : decode cX1_plan 50 = .ok (.istore 4, 2) := by decide +kernel
theorem dX1_plan_52 : decode cX1_plan 52 = .ok (.iload 4, 2) := by decide +kernel
theorem dX1_plan_54 : decode cX1_plan 54 = .ok (.iload_n 3, 1) := by decide +kernel
theorem dX1_plan_55 : decode cX1_plan 55 = .ok (.if_icmp .gt 28, 3) := by decide +kernel
theorem dX1_plan_58 : decode cX1_plan 58 = .ok (.aload_n 0, 1) := by decide +kernel
theorem dX1_plan_59 : decode cX1_plan 59 = .ok (.getfield 18, 3) := by decide +kernel
theorem dX1_plan_62 : decode cX1_plan 62 = .ok (.iload 4, 2) := by decide +kernel
theorem dX1_plan_64 : decode cX1_plan 64 = .ok (.aload_n 0, 1) := by decide +kernel
theorem dX1_plan_65 : decode cX1_plan 65 = .ok (.aload_n 0, 1) := by decide +kernel
theorem dX1_plan_66 : decode cX1_plan 66 = .ok (.iload 4, 2) := by decide +kernel
theorem dX1_plan_68 : decode cX1_plan 68 = .ok (.invokevirtual 33, 3) := by decide +kernel
theorem dX1_plan_71 : decode cX1_plan 71 = .ok (.iload 4, 2) := by decide +kernel
theorem dX1_plan_73 : decode cX1_plan 73 = .ok (.invokevirtual 37, 3) := by decide +kernel
theorem dX1_plan_76 : decode cX1_plan 76 = .ok (.iastore, 1) := by decide +kernel
theorem dX1_plan_77 : decode cX1_plan 77 = .ok (.iinc 4 1, 3) := by decide +kernel
theorem dX1_plan_80 : decode cX1_plan 80 = .ok (.goto (-28), 3) := by decide +kernel
theorem dX1_plan_83 : decode cX1_plan 83 = .ok (.return_, 1) := by decide +kernel
theorem dX1_addStop_0 : decode cX1_addStop 0 = .ok (.aload_n 0, 1) := by decide +kernel
theorem dX1_addStop_1 : decode cX1_addStop 1 = .ok (.getfield 11, 3) := by decide +kernel
theorem dX1_addStop_4 : decode cX1_addStop 4 = .ok (.aload_n 0, 1) := by decide +kernel
theorem dX1_addStop_5 : decode cX1_addStop 5 = .ok (.getfield 21, 3) := by decide +kernel
theorem dX1_addStop_8 : decode cX1_addStop 8 = .ok (.iload_n 1, 1) := by decide +kernel
theorem dX1_addStop_9 : decode cX1_addStop 9 = .ok (.iastore, 1) := by decide +kernel
theorem dX1_addStop_10 : decode cX1_addStop 10 = .ok (.iconst 0, 1) := by decide +kernel
theorem dX1_addStop_11 : decode cX1_addStop 11 = .ok (.istore_n 3, 1) := by decide +kernel
theorem dX1_addStop_12 : decode cX1_addStop 12 = .ok (.iload_n 3, 1) := by decide +kernel
theorem dX1_addStop_13 : decode cX1_addStop 13 = .ok (.bipush 7, 2) := by decide +kernel
theorem dX1_addStop_15 : decode cX1_addStop 15 = .ok (.if_icmp .ge 28, 3) := by decide +kernel
theorem dX1_addStop_18 : decode cX1_addStop 18 = .ok (.aload_n 0, 1) := by decide +kernel
theorem dX1_addStop_19 : decode cX1_addStop 19 = .ok (.getfield 15, 3) := by decide +kernel
theorem dX1_addStop_22 : decode cX1_addStop 22 = .ok (.aload_n 0, 1) := by decide +kernel
theorem dX1_addStop_23 : decode cX1_addStop 23 = .ok (.getfield 21, 3) := by decide +kernel
theorem dX1_addStop_26 : decode cX1_addStop 26 = .ok (.bipush 7, 2) := by decide +kernel
theorem dX1_addStop_28 : decode cX1_addStop 28 = .ok (.imul, 1) := by decide +kernel
theorem dX1_addStop_29 : decode cX1_addStop 29 = .ok (.iload_n 3, 1) := by decide +kernel
theorem dX1_addStop_30 : decode cX1_addStop 30 = .ok (.iadd, 1) := by decide +kernel
theorem dX1_addStop_31 : decode cX1_addStop 31 = .ok (.aload_n 2, 1) := by decide +kernel
theorem dX1_addStop_32 : decode cX1_addStop 32 = .ok (.iload_n 3, 1) := by decide +kernel
theorem dX1_addStop_33 : decode cX1_addStop 33 = .ok (.invokevirtual 41, 3) := by decide +kernel
theorem dX1_addStop_36 : decode cX1_addStop 36 = .ok (.iastore, 1) := by decide +kernel
theorem dX1_addStop_37 : decode cX1_addStop 37 = .ok (.iinc 3 1, 3) := by decide +kernel
theorem dX1_addStop_40 : decode cX1_addStop 40 = .ok (.goto (-28), 3) := by decide +kernel
theorem dX1_addStop_43 : decode cX1_addStop 43 = .ok (.aload_n 0, 1) := by decide +kernel
theorem dX1_addStop_44 : decode cX1_addStop 44 = .ok (.dup, 1) := by decide +kernel
theorem dX1_addStop_45 : decode cX1_addStop 45 = .ok (.getfield 21, 3) := by decide +kernel
theorem dX1_addStop_48 : decode cX1_addStop 48 = .ok (.iconst 1, 1) := by decide +kernel
theorem dX1_addStop_49 : decode cX1_addStop 49 = .ok (.iadd, 1) := by decide +kernel
theorem dX1_addStop_50 : decode cX1_addStop 50 = .ok (.putfield 21, 3) := by decide +kernel
theorem dX1_addStop_53 : decode cX1_addStop 53 = .ok (.return_, 1) := by decide +kernel
theorem dX1_finds_0 : decode cX1_finds 0 = .ok (.aload_n 0, 1) := by decide +kernel
theorem dX1_finds_1 : decode cX1_finds 1 = .ok (.getfield 18, 3) := by decide +kernel
theorem dX1_finds_4 : decode cX1_finds 4 = .ok (.aload_n 0, 1) := by decide +kernel
theorem dX1_finds_5 : decode cX1_finds 5 = .ok (.invokevirtual 29, 3) := by decide +kernel
theorem dX1_finds_8 : decode cX1_finds 8 = .ok (.iaload, 1) := by decide +kernel
theorem dX1_finds_9 : decode cX1_finds 9 = .ok (.ireturn, 1) := by decide +kernel
theorem dX1_stopAt_0 : decode cX1_stopAt 0 = .ok (.iload_n 1, 1) := by decide +kernel
theorem dX1_stopAt_1 : decode cX1_stopAt 1 = .ok (.iconst 0, 1) := by decide +kernel
theorem dX1_stopAt_2 : decode cX1_stopAt 2 = .ok (.aload_n 0, 1) := by decide +kernel
theorem dX1_stopAt_3 : decode cX1_stopAt 3 = .ok (.getfield 21, 3) := by decide +kernel
theorem dX1_stopAt_6 : decode cX1_stopAt 6 = .ok (.iconst 1, 1) := by decide +kernel
theorem dX1_stopAt_7 : decode cX1_stopAt 7 = .ok (.isub, 1) := by decide +kernel
theorem dX1_stopAt_8 : decode cX1_stopAt 8 = .ok (.invokestatic 46, 3) := by decide +kernel
theorem dX1_stopAt_11 : decode cX1_stopAt 11 = .ok (.ifCond .ne 6, 3) := by decide +kernel
theorem dX1_stopAt_14 : decode cX1_stopAt 14 = .ok (.ldc 50, 2) := by decide +kernel
theorem dX1_stopAt_16 : decode cX1_stopAt 16 = .ok (.ireturn, 1) := by decide +kernel
theorem dX1_stopAt_17 : decode cX1_stopAt 17 = .ok (.aload_n 0, 1) := by decide +kernel
theorem dX1_stopAt_18 : decode cX1_stopAt 18 = .ok (.invokevirtual 29, 3) := by decide +kernel
theorem dX1_stopAt_21 : decode cX1_stopAt 21 = .ok (.istore_n 2, 1) := by decide +kernel
theorem dX1_stopAt_22 : decode cX1_stopAt 22 = .ok (.iconst 0, 1) := by decide +kernel
theorem dX1_stopAt_23 : decode cX1_stopAt 23 = .ok (.istore_n 3, 1) := by decide +kernel
theorem dX1_stopAt_24 : decode cX1_stopAt 24 = .ok (.iload_n 3, 1) := by decide +kernel
theorem dX1_stopAt_25 : decode cX1_stopAt 25 = .ok (.iload_n 1, 1) := by decide +kernel
theorem dX1_stopAt_26 : decode cX1_stopAt 26 = .ok (.if_icmp .ge 21, 3) := by decide +kernel
theorem dX1_stopAt_29 : decode cX1_stopAt 29 = .ok (.iload_n 2, 1) := by decide +kernel
theorem dX1_stopAt_30 : decode cX1_stopAt 30 = .ok (.iconst 1, 1) := by decide +kernel
theorem dX1_stopAt_31 : decode cX1_stopAt 31 = .ok (.aload_n 0, 1) := by decide +kernel
theorem dX1_stopAt_32 : decode cX1_stopAt 32 = .ok (.iload_n 2, 1) := by decide +kernel
theorem dX1_stopAt_33 : decode cX1_stopAt 33 = .ok (.invokevirtual 33, 3) := by decide +kernel
theorem dX1_stopAt_36 : decode cX1_stopAt 36 = .ok (.ishl, 1) := by decide +kernel
theorem dX1_stopAt_37 : decode cX1_stopAt 37 = .ok (.iconst (-1), 1) := by decide +kernel
theorem dX1_stopAt_38 : decode cX1_stopAt 38 = .ok (.ixor, 1) := by decide +kernel
theorem dX1_stopAt_39 : decode cX1_stopAt 39 = .ok (.iand, 1) := by decide +kernel
theorem dX1_stopAt_40 : decode cX1_stopAt 40 = .ok (.istore_n 2, 1) := by decide +kernel
theorem dX1_stopAt_41 : decode cX1_stopAt 41 = .ok (.iinc 3 1, 3) := by decide +kernel
theorem dX1_stopAt_44 : decode cX1_stopAt 44 = .ok (.goto (-20), 3) := by decide +kernel
theorem dX1_stopAt_47 : decode cX1_stopAt 47 = .ok (.aload_n 0, 1) := by decide +kernel
theorem dX1_stopAt_48 : decode cX1_stopAt 48 = .ok (.getfield 11, 3) := by decide +kernel
theorem dX1_stopAt_51 : decode cX1_stopAt 51 = .ok (.aload_n 0, 1) := by decide +kernel
theorem dX1_stopAt_52 : decode cX1_stopAt 52 = .ok (.iload_n 2, 1) := by decide +kernel
theorem dX1_stopAt_53 : decode cX1_stopAt 53 = .ok (.invokevirtual 33, 3) := by decide +kernel
theorem dX1_stopAt_56 : decode cX1_stopAt 56 = .ok (.iaload, 1) := by decide +kernel
theorem dX1_stopAt_57 : decode cX1_stopAt 57 = .ok (.ireturn, 1) := by decide +kernel
theorem dX1_allStops_0 : decode cX1_allStops 0 = .ok (.iconst 1, 1) := by decide +kernel
theorem dX1_allStops_1 : decode cX1_allStops 1 = .ok (.aload_n 0, 1) := by decide +kernel
theorem dX1_allStops_2 : decode cX1_allStops 2 = .ok (.getfield 21, 3) := by decide +kernel
theorem dX1_allStops_5 : decode cX1_allStops 5 = .ok (.ishl, 1) := by decide +kernel
theorem dX1_allStops_6 : decode cX1_allStops 6 = .ok (.iconst 1, 1) := by decide +kernel
theorem dX1_allStops_7 : decode cX1_allStops 7 = .ok (.isub, 1) := by decide +kernel
theorem dX1_allStops_8 : decode cX1_allStops 8 = .ok (.ireturn, 1) := by decide +kernel
theorem dX1_bestNext_0 : decode cX1_bestNext 0 = .ok (.iconst 0, 1) := by decide +kernel
theorem dX1_bestNext_1 : decode cX1_bestNext 1 = .ok (.istore_n 2, 1) := by decide +kernel
theorem dX1_bestNext_2 : decode cX1_bestNext 2 = .ok (.iconst (-1), 1) := by decide +kernel
theorem dX1_bestNext_3 : decode cX1_bestNext 3 = .ok (.istore_n 3, 1) := by decide +kernel
theorem dX1_bestNext_4 : decode cX1_bestNext 4 = .ok (.iconst 0, 1) := by decide +kernel
theorem dX1_bestNext_5 : decode cX1_bestNext 5 = .ok (.istore 4, 2) := by decide +kernel
theorem dX1_bestNext_7 : decode cX1_bestNext 7 = .ok (.iload 4, 2) := by decide +kernel
theorem dX1_bestNext_9 : decode cX1_bestNext 9 = .ok (.aload_n 0, 1) := by decide +kernel
theorem dX1_bestNext_10 : decode cX1_bestNext 10 = .ok (.getfield 21, 3) := by decide +kernel
theorem dX1_bestNext_13 : decode cX1_bestNext 13 = .ok (.if_icmp .ge 40, 3) := by decide +kernel
theorem dX1_bestNext_16 : decode cX1_bestNext 16 = .ok (.iload_n 1, 1) := by decide +kernel
theorem dX1_bestNext_17 : decode cX1_bestNext 17 = .ok (.iload 4, 2) := by decide +kernel
theorem dX1_bestNext_19 : decode cX1_bestNext 19 = .ok (.ishr, 1) := by decide +kernel
theorem dX1_bestNext_20 : decode cX1_bestNext 20 = .ok (.iconst 1, 1) := by decide +kernel
theorem dX1_bestNext_21 : decode cX1_bestNext 21 = .ok (.iand, 1) := by decide +kernel
theorem dX1_bestNext_22 : decode cX1_bestNext 22 = .ok (.ifCond .eq 25, 3) := by decide +kernel
theorem dX1_bestNext_25 : decode cX1_bestNext 25 = .ok (.aload_n 0, 1) := by decide +kernel
theorem dX1_bestNext_26 : decode cX1_bestNext 26 = .ok (.iload 4, 2) := by decide +kernel
theorem dX1_bestNext_28 : decode cX1_bestNext 28 = .ok (.iload_n 1, 1) := by decide +kernel
theorem dX1_bestNext_29 : decode cX1_bestNext 29 = .ok (.invokevirtual 37, 3) := by decide +kernel
theorem dX1_bestNext_32 : decode cX1_bestNext 32 = .ok (.iload_n 3, 1) := by decide +kernel
theorem dX1_bestNext_33 : decode cX1_bestNext 33 = .ok (.if_icmp .le 14, 3) := by decide +kernel
theorem dX1_bestNext_36 : decode cX1_bestNext 36 = .ok (.iload 4, 2) := by decide +kernel
theorem dX1_bestNext_38 : decode cX1_bestNext 38 = .ok (.istore_n 2, 1) := by decide +kernel
theorem dX1_bestNext_39 : decode cX1_bestNext 39 = .ok (.aload_n 0, 1) := by decide +kernel
theorem dX1_bestNext_40 : decode cX1_bestNext 40 = .ok (.iload 4, 2) := by decide +kernel
theorem dX1_bestNext_42 : decode cX1_bestNext 42 = .ok (.iload_n 1, 1) := by decide +kernel
theorem dX1_bestNext_43 : decode cX1_bestNext 43 = .ok (.invokevirtual 37, 3) := by decide +kernel
theorem dX1_bestNext_46 : decode cX1_bestNext 46 = .ok (.istore_n 3, 1) := by decide +kernel
theorem dX1_bestNext_47 : decode cX1_bestNext 47 = .ok (.iinc 4 1, 3) := by decide +kernel
theorem dX1_bestNext_50 : decode cX1_bestNext 50 = .ok (.goto (-43), 3) := by decide +kernel
theorem dX1_bestNext_53 : decode cX1_bestNext 53 = .ok (.iload_n 2, 1) := by decide +kernel
theorem dX1_bestNext_54 : decode cX1_bestNext 54 = .ok (.ireturn, 1) := by decide +kernel
theorem dX1_findsBy_0 : decode cX1_findsBy 0 = .ok (.aload_n 0, 1) := by decide +kernel
theorem dX1_findsBy_1 : decode cX1_findsBy 1 = .ok (.getfield 21, 3) := by decide +kernel
theorem dX1_findsBy_4 : decode cX1_findsBy 4 = .ok (.iload_n 2, 1) := by decide +kernel
theorem dX1_findsBy_5 : decode cX1_findsBy 5 = .ok (.invokestatic 51, 3) := by decide +kernel
theorem dX1_findsBy_8 : decode cX1_findsBy 8 = .ok (.isub, 1) := by decide +kernel
theorem dX1_findsBy_9 : decode cX1_findsBy 9 = .ok (.istore_n 3, 1) := by decide +kernel
theorem dX1_findsBy_10 : decode cX1_findsBy 10 = .ok (.aload_n 0, 1) := by decide +kernel
theorem dX1_findsBy_11 : decode cX1_findsBy 11 = .ok (.getfield 15, 3) := by decide +kernel
theorem dX1_findsBy_14 : decode cX1_findsBy 14 = .ok (.iload_n 1, 1) := by decide +kernel
theorem dX1_findsBy_15 : decode cX1_findsBy 15 = .ok (.bipush 7, 2) := by decide +kernel
theorem dX1_findsBy_17 : decode cX1_findsBy 17 = .ok (.imul, 1) := by decide +kernel
theorem dX1_findsBy_18 : decode cX1_findsBy 18 = .ok (.iload_n 3, 1) := by decide +kernel
theorem dX1_findsBy_19 : decode cX1_findsBy 19 = .ok (.iadd, 1) := by decide +kernel
theorem dX1_findsBy_20 : decode cX1_findsBy 20 = .ok (.iaload, 1) := by decide +kernel
theorem dX1_findsBy_21 : decode cX1_findsBy 21 = .ok (.aload_n 0, 1) := by decide +kernel
theorem dX1_findsBy_22 : decode cX1_findsBy 22 = .ok (.getfield 18, 3) := by decide +kernel
theorem dX1_findsBy_25 : decode cX1_findsBy 25 = .ok (.iload_n 2, 1) := by decide +kernel
theorem dX1_findsBy_26 : decode cX1_findsBy 26 = .ok (.iconst 1, 1) := by decide +kernel
theorem dX1_findsBy_27 : decode cX1_findsBy 27 = .ok (.iload_n 1, 1) := by decide +kernel
theorem dX1_findsBy_28 : decode cX1_findsBy 28 = .ok (.ishl, 1) := by decide +kernel
theorem dX1_findsBy_29 : decode cX1_findsBy 29 = .ok (.iconst (-1), 1) := by decide +kernel
theorem dX1_findsBy_30 : decode cX1_findsBy 30 = .ok (.ixor, 1) := by decide +kernel
theorem dX1_findsBy_31 : decode cX1_findsBy 31 = .ok (.iand, 1) := by decide +kernel
theorem dX1_findsBy_32 : decode cX1_findsBy 32 = .ok (.iaload, 1) := by decide +kernel
theorem dX1_findsBy_33 : decode cX1_findsBy 33 = .ok (.iadd, 1) := by decide +kernel
theorem dX1_findsBy_34 : decode cX1_findsBy 34 = .ok (.ireturn, 1) := by decide +kernel
theorem dX2_init_0 : decode cX2_init 0 = .ok (.aload_n 0, 1) := by decide +kernel
theorem dX2_init_1 : decode cX2_init 1 = .ok (.invokespecial 1, 3) := by decide +kernel
theorem dX2_init_4 : decode cX2_init 4 = .ok (.aload_n 0, 1) := by decide +kernel
theorem dX2_init_5 : decode cX2_init 5 = .ok (.new 7, 3) := by decide +kernel
theorem dX2_init_8 : decode cX2_init 8 = .ok (.dup, 1) := by decide +kernel
theorem dX2_init_9 : decode cX2_init 9 = .ok (.invokespecial 9, 3) := by decide +kernel
theorem dX2_init_12 : decode cX2_init 12 = .ok (.putfield 10, 3) := by decide +kernel
theorem dX2_init_15 : decode cX2_init 15 = .ok (.return_, 1) := by decide +kernel
theorem dX2_readInto_0 : decode cX2_readInto 0 = .ok (.aload_n 0, 1) := by decide +kernel
theorem dX2_readInto_1 : decode cX2_readInto 1 = .ok (.iconst 0, 1) := by decide +kernel
theorem dX2_readInto_2 : decode cX2_readInto 2 = .ok (.putfield 16, 3) := by decide +kernel
theorem dX2_readInto_5 : decode cX2_readInto 5 = .ok (.aload_n 0, 1) := by decide +kernel
theorem dX2_readInto_6 : decode cX2_readInto 6 = .ok (.invokevirtual 20, 3) := by decide +kernel
theorem dX2_readInto_9 : decode cX2_readInto 9 = .ok (.iconst 0, 1) := by decide +kernel
theorem dX2_readInto_10 : decode cX2_readInto 10 = .ok (.istore_n 2, 1) := by decide +kernel
theorem dX2_readInto_11 : decode cX2_readInto 11 = .ok (.iload_n 2, 1) := by decide +kernel
theorem dX2_readInto_12 : decode cX2_readInto 12 = .ok (.sipush 300, 3) := by decide +kernel
theorem dX2_readInto_15 : decode cX2_readInto 15 = .ok (.if_icmp .ge 54, 3) := by decide +kernel
theorem dX2_readInto_18 : decode cX2_readInto 18 = .ok (.aload_n 0, 1) := by decide +kernel
theorem dX2_readInto_19 : decode cX2_readInto 19 = .ok (.getfield 23, 3) := by decide +kernel
theorem dX2_readInto_22 : decode cX2_readInto 22 = .ok (.ifCond .eq 47, 3) := by decide +kernel
theorem dX2_readInto_25 : decode cX2_readInto 25 = .ok (.aload_n 0, 1) := by decide +kernel
theorem dX2_readInto_26 : decode cX2_readInto 26 = .ok (.aload_n 1, 1) := by decide +kernel
theorem dX2_readInto_27 : decode cX2_readInto 27 = .ok (.invokevirtual 26, 3) := by decide +kernel
theorem dX2_readInto_30 : decode cX2_readInto 30 = .ok (.ifCond .ne 5, 3) := by decide +kernel
theorem dX2_readInto_33 : decode cX2_readInto 33 = .ok (.iconst 0, 1) := by decide +kernel
theorem dX2_readInto_34 : decode cX2_readInto 34 = .ok (.ireturn, 1) := by decide +kernel
theorem dX2_readInto_35 : decode cX2_readInto 35 = .ok (.aload_n 0, 1) := by decide +kernel
theorem dX2_readInto_36 : decode cX2_readInto 36 = .ok (.getfield 23, 3) := by decide +kernel
theorem dX2_readInto_39 : decode cX2_readInto 39 = .ok (.iconst 3, 1) := by decide +kernel
theorem dX2_readInto_40 : decode cX2_readInto 40 = .ok (.if_icmp .eq 9, 3) := by decide +kernel
theorem dX2_readInto_43 : decode cX2_readInto 43 = .ok (.aload_n 0, 1) := by decide +kernel
theorem dX2_readInto_44 : decode cX2_readInto 44 = .ok (.iconst 1, 1) := by decide +kernel
theorem dX2_readInto_45 : decode cX2_readInto 45 = .ok (.invokevirtual 30, 3) := by decide +kernel
theorem dX2_readInto_48 : decode cX2_readInto 48 = .ok (.ireturn, 1) := by decide +kernel
theorem dX2_readInto_49 : decode cX2_readInto 49 = .ok (.aload_n 0, 1) := by decide +kernel
theorem dX2_readInto_50 : decode cX2_readInto 50 = .ok (.invokevirtual 20, 3) := by decide +kernel
theorem dX2_readInto_53 : decode cX2_readInto 53 = .ok (.aload_n 1, 1) := by decide +kernel
theorem dX2_readInto_54 : decode cX2_readInto 54 = .ok (.dup, 1) := by decide +kernel
theorem dX2_readInto_55 : decode cX2_readInto 55 = .ok (.getfield 34, 3) := by decide +kernel
theorem dX2_readInto_58 : decode cX2_readInto 58 = .ok (.iconst 1, 1) := by decide +kernel
theorem dX2_readInto_59 : decode cX2_readInto 59 = .ok (.iadd, 1) := by decide +kernel
theorem dX2_readInto_60 : decode cX2_readInto 60 = .ok (.putfield 34, 3) := by decide +kernel
theorem dX2_readInto_63 : decode cX2_readInto 63 = .ok (.iinc 2 1, 3) := by decide +kernel
theorem dX2_readInto_66 : decode cX2_readInto 66 = .ok (.goto (-55), 3) := by decide +kernel
theorem dX2_readInto_69 : decode cX2_readInto 69 = .ok (.iconst 1, 1) := by decide +kernel
theorem dX2_readInto_70 : decode cX2_readInto 70 = .ok (.ireturn, 1) := by decide +kernel
theorem dX2_readLine_0 : decode cX2_readLine 0 = .ok (.aload_n 0, 1) := by decide +kernel
theorem dX2_readLine_1 : decode cX2_readLine 1 = .ok (.ldc 39, 2) := by decide +kernel
theorem dX2_readLine_3 : decode cX2_readLine 3 = .ok (.invokevirtual 41, 3) := by decide +kernel
theorem dX2_readLine_6 : decode cX2_readLine 6 = .ok (.ifCond .eq 9, 3) := by decide +kernel
theorem dX2_readLine_9 : decode cX2_readLine 9 = .ok (.aload_n 0, 1) := by decide +kernel
theorem dX2_readLine_10 : decode cX2_readLine 10 = .ok (.aload_n 1, 1) := by decide +kernel
theorem dX2_readLine_11 : decode cX2_readLine 11 = .ok (.invokevirtual 45, 3) := by decide +kernel
theorem dX2_readLine_14 : decode cX2_readLine 14 = .ok (.ireturn, 1) := by decide +kernel
theorem dX2_readLine_15 : decode cX2_readLine 15 = .ok (.aload_n 0, 1) := by decide +kernel
theorem dX2_readLine_16 : decode cX2_readLine 16 = .ok (.ldc 48, 2) := by decide +kernel
theorem dX2_readLine_18 : decode cX2_readLine 18 = .ok (.invokevirtual 41, 3) := by decide +kernel
theorem dX2_readLine_21 : decode cX2_readLine 21 = .ok (.ifCond .eq 9, 3) := by decide +kernel
theorem dX2_readLine_24 : decode cX2_readLine 24 = .ok (.aload_n 0, 1) := by decide +kernel
theorem dX2_readLine_25 : decode cX2_readLine 25 = .ok (.aload_n 1, 1) := by decide +kernel
theorem dX2_readLine_26 : decode cX2_readLine 26 = .ok (.invokevirtual 50, 3) := by decide +kernel
theorem dX2_readLine_29 : decode cX2_readLine 29 = .ok (.ireturn, 1) := by decide +kernel
theorem dX2_readLine_30 : decode cX2_readLine 30 = .ok (.aload_n 0, 1) := by decide +kernel
theorem dX2_readLine_31 : decode cX2_readLine 31 = .ok (.ldc 53, 2) := by decide +kernel
theorem dX2_readLine_33 : decode cX2_readLine 33 = .ok (.invokevirtual 41, 3) := by decide +kernel
theorem dX2_readLine_36 : decode cX2_readLine 36 = .ok (.ifCond .eq 9, 3) := by decide +kernel
theorem dX2_readLine_39 : decode cX2_readLine 39 = .ok (.aload_n 0, 1) := by decide +kernel
theorem dX2_readLine_40 : decode cX2_readLine 40 = .ok (.aload_n 1, 1) := by decide +kernel
theorem dX2_readLine_41 : decode cX2_readLine 41 = .ok (.invokevirtual 55, 3) := by decide +kernel
theorem dX2_readLine_44 : decode cX2_readLine 44 = .ok (.ireturn, 1) := by decide +kernel
theorem dX2_readLine_45 : decode cX2_readLine 45 = .ok (.aload_n 0, 1) := by decide +kernel
theorem dX2_readLine_46 : decode cX2_readLine 46 = .ok (.iconst 1, 1) := by decide +kernel
theorem dX2_readLine_47 : decode cX2_readLine 47 = .ok (.invokevirtual 30, 3) := by decide +kernel
theorem dX2_readLine_50 : decode cX2_readLine 50 = .ok (.ireturn, 1) := by decide +kernel
theorem dX2_readHold_0 : decode cX2_readHold 0 = .ok (.aload_n 0, 1) := by decide +kernel
theorem dX2_readHold_1 : decode cX2_readHold 1 = .ok (.invokevirtual 20, 3) := by decide +kernel
theorem dX2_readHold_4 : decode cX2_readHold 4 = .ok (.aload_n 0, 1) := by decide +kernel
theorem dX2_readHold_5 : decode cX2_readHold 5 = .ok (.ldc 58, 2) := by decide +kernel
theorem dX2_readHold_7 : decode cX2_readHold 7 = .ok (.invokevirtual 41, 3) := by decide +kernel
theorem dX2_readHold_10 : decode cX2_readHold 10 = .ok (.ifCond .eq 11, 3) := by decide +kernel
theorem dX2_readHold_13 : decode cX2_readHold 13 = .ok (.aload_n 1, 1) := by decide +kernel
theorem dX2_readHold_14 : decode cX2_readHold 14 = .ok (.iconst 1, 1) := by decide +kernel
theorem dX2_readHold_15 : decode cX2_readHold 15 = .ok (.putfield 60, 3) := by decide +kernel
theorem dX2_readHold_18 : decode cX2_readHold 18 = .ok (.goto 43, 3) := by decide +kernel
theorem dX2_readHold_21 : decode cX2_readHold 21 = .ok (.aload_n 0, 1) := by decide +kernel
theorem dX2_readHold_22 : decode cX2_readHold 22 = .ok (.ldc 62, 2) := by decide +kernel
theorem dX2_readHold_24 : decode cX2_readHold 24 = .ok (.invokevirtual 41, 3) := by decide +kernel
theorem dX2_readHold_27 : decode cX2_readHold 27 = .ok (.ifCond .eq 11, 3) := by decide +kernel
theorem dX2_readHold_30 : decode cX2_readHold 30 = .ok (.aload_n 1, 1) := by decide +kernel
theorem dX2_readHold_31 : decode cX2_readHold 31 = .ok (.iconst 2, 1) := by decide +kernel
theorem dX2_readHold_32 : decode cX2_readHold 32 = .ok (.putfield 60, 3) := by decide +kernel
theorem dX2_readHold_35 : decode cX2_readHold 35 = .ok (.goto 26, 3) := by decide +kernel
theorem dX2_readHold_38 : decode cX2_readHold 38 = .ok (.aload_n 0, 1) := by decide +kernel
theorem dX2_readHold_39 : decode cX2_readHold 39 = .ok (.ldc 64, 2) := by decide +kernel
theorem dX2_readHold_41 : decode cX2_readHold 41 = .ok (.invokevirtual 41, 3) := by decide +kernel
theorem dX2_readHold_44 : decode cX2_readHold 44 = .ok (.ifCond .eq 11, 3) := by decide +kernel
theorem dX2_readHold_47 : decode cX2_readHold 47 = .ok (.aload_n 1, 1) := by decide +kernel
theorem dX2_readHold_48 : decode cX2_readHold 48 = .ok (.iconst 0, 1) := by decide +kernel
theorem dX2_readHold_49 : decode cX2_readHold 49 = .ok (.putfield 60, 3) := by decide +kernel
theorem dX2_readHold_52 : decode cX2_readHold 52 = .ok (.goto 9, 3) := by decide +kernel
theorem dX2_readHold_55 : decode cX2_readHold 55 = .ok (.aload_n 0, 1) := by decide +kernel
theorem dX2_readHold_56 : decode cX2_readHold 56 = .ok (.iconst 1, 1) := by decide +kernel
theorem dX2_readHold_57 : decode cX2_readHold 57 = .ok (.invokevirtual 30, 3) := by decide +kernel
theorem dX2_readHold_60 : decode cX2_readHold 60 = .ok (.ireturn, 1) := by decide +kernel
theorem dX2_readHold_61 : decode cX2_readHold 61 = .ok (.aload_n 0, 1) := by decide +kernel
theorem dX2_readHold_62 : decode cX2_readHold 62 = .ok (.invokevirtual 20, 3) := by decide +kernel
theorem dX2_readHold_65 : decode cX2_readHold 65 = .ok (.iconst 1, 1) := by decide +kernel
theorem dX2_readHold_66 : decode cX2_readHold 66 = .ok (.ireturn, 1) := by decide +kernel
theorem dX2_readRain_0 : decode cX2_readRain 0 = .ok (.aload_n 1, 1) := by decide +kernel
theorem dX2_readRain_1 : decode cX2_readRain 1 = .ok (.getfield 66, 3) := by decide +kernel
theorem dX2_readRain_4 : decode cX2_readRain 4 = .ok (.iconst 5, 1) := by decide +kernel
theorem dX2_readRain_5 : decode cX2_readRain 5 = .ok (.if_icmp .lt 9, 3) := by decide +kernel
theorem dX2_readRain_8 : decode cX2_readRain 8 = .ok (.aload_n 0, 1) := by decide +kernel
theorem dX2_readRain_9 : decode cX2_readRain 9 = .ok (.iconst 3, 1) := by decide +kernel
theorem dX2_readRain_10 : decode cX2_readRain 10 = .ok (.invokevirtual 30, 3) := by decide +kernel
theorem dX2_readRain_13 : decode cX2_readRain 13 = .ok (.ireturn, 1) := by decide +kernel
theorem dX2_readRain_14 : decode cX2_readRain 14 = .ok (.aload_n 0, 1) := by decide +kernel
theorem dX2_readRain_15 : decode cX2_readRain 15 = .ok (.iconst 1, 1) := by decide +kernel
theorem dX2_readRain_16 : decode cX2_readRain 16 = .ok (.bipush 60, 2) := by decide +kernel
theorem dX2_readRain_18 : decode cX2_readRain 18 = .ok (.invokevirtual 69, 3) := by decide +kernel
theorem dX2_readRain_21 : decode cX2_readRain 21 = .ok (.ifCond .ne 5, 3) := by decide +kernel
theorem dX2_readRain_24 : decode cX2_readRain 24 = .ok (.iconst 0, 1) := by decide +kernel
theorem dX2_readRain_25 : decode cX2_readRain 25 = .ok (.ireturn, 1) := by decide +kernel
theorem dX2_readRain_26 : decode cX2_readRain 26 = .ok (.aload_n 1, 1) := by decide +kernel
theorem dX2_readRain_27 : decode cX2_readRain 27 = .ok (.aload_n 0, 1) := by decide +kernel
theorem dX2_readRain_28 : decode cX2_readRain 28 = .ok (.getfield 73, 3) := by decide +kernel
theorem dX2_readRain_31 : decode cX2_readRain 31 = .ok (.aload_n 0, 1) := by decide +kernel
theorem dX2_readRain_32 : decode cX2_readRain 32 = .ok (.getfield 76, 3) := by decide +kernel
theorem dX2_readRain_35 : decode cX2_readRain 35 = .ok (.invokevirtual 79, 3) := by decide +kernel
theorem dX2_readRain_38 : decode cX2_readRain 38 = .ok (.iconst 1, 1) := by decide +kernel
theorem dX2_readRain_39 : decode cX2_readRain 39 = .ok (.ireturn, 1) := by decide +kernel
theorem dX2_readRent_0 : decode cX2_readRent 0 = .ok (.aload_n 1, 1) := by decide +kernel
theorem dX2_readRent_1 : decode cX2_readRent 1 = .ok (.getfield 83, 3) := by decide +kernel
theorem dX2_readRent_4 : decode cX2_readRent 4 = .ok (.iconst 5, 1) := by decide +kernel
theorem dX2_readRent_5 : decode cX2_readRent 5 = .ok (.if_icmp .lt 9, 3) := by decide +kernel
theorem dX2_readRent_8 : decode cX2_readRent 8 = .ok (.aload_n 0, 1) := by decide +kernel
theorem dX2_readRent_9 : decode cX2_readRent 9 = .ok (.iconst 3, 1) := by decide +kernel
theorem dX2_readRent_10 : decode cX2_readRent 10 = .ok (.invokevirtual 30, 3) := by decide +kernel
theorem dX2_readRent_13 : decode cX2_readRent 13 = .ok (.ireturn, 1) := by decide +kernel
theorem dX2_readRent_14 : decode cX2_readRent 14 = .ok (.aload_n 0, 1) := by decide +kernel
theorem dX2_readRent_15 : decode cX2_readRent 15 = .ok (.aload_n 1, 1) := by decide +kernel
theorem dX2_readRent_16 : decode cX2_readRent 16 = .ok (.invokevirtual 86, 3) := by decide +kernel
theorem dX2_readRent_19 : decode cX2_readRent 19 = .ok (.ldc 90, 2) := by decide +kernel
theorem dX2_readRent_21 : decode cX2_readRent 21 = .ok (.invokevirtual 69, 3) := by decide +kernel
theorem dX2_readRent_24 : decode cX2_readRent 24 = .ok (.ifCond .ne 5, 3) := by decide +kernel
theorem dX2_readRent_27 : decode cX2_readRent 27 = .ok (.iconst 0, 1) := by decide +kernel
theorem dX2_readRent_28 : decode cX2_readRent 28 = .ok (.ireturn, 1) := by decide +kernel
theorem dX2_readRent_29 : decode cX2_readRent 29 = .ok (.aload_n 1, 1) := by decide +kernel
theorem dX2_readRent_30 : decode cX2_readRent 30 = .ok (.aload_n 0, 1) := by decide +kernel
theorem dX2_readRent_31 : decode cX2_readRent 31 = .ok (.getfield 73, 3) := by decide +kernel
theorem dX2_readRent_34 : decode cX2_readRent 34 = .ok (.aload_n 0, 1) := by decide +kernel
theorem dX2_readRent_35 : decode cX2_readRent 35 = .ok (.getfield 76, 3) := by decide +kernel
theorem dX2_readRent_38 : decode cX2_readRent 38 = .ok (.invokevirtual 91, 3) := by decide +kernel
theorem dX2_readRent_41 : decode cX2_readRent 41 = .ok (.iconst 1, 1) := by decide +kernel
theorem dX2_readRent_42 : decode cX2_readRent 42 = .ok (.ireturn, 1) := by decide +kernel
theorem dX2_readPart_0 : decode cX2_readPart 0 = .ok (.aload_n 0, 1) := by decide +kernel
theorem dX2_readPart_1 : decode cX2_readPart 1 = .ok (.invokevirtual 20, 3) := by decide +kernel
theorem dX2_readPart_4 : decode cX2_readPart 4 = .ok (.aload_n 0, 1) := by decide +kernel
theorem dX2_readPart_5 : decode cX2_readPart 5 = .ok (.iload_n 1, 1) := by decide +kernel
theorem dX2_readPart_6 : decode cX2_readPart 6 = .ok (.iload_n 2, 1) := by decide +kernel
theorem dX2_readPart_7 : decode cX2_readPart 7 = .ok (.invokevirtual 94, 3) := by decide +kernel
theorem dX2_readPart_10 : decode cX2_readPart 10 = .ok (.ifCond .ne 5, 3) := by decide +kernel
theorem dX2_readPart_13 : decode cX2_readPart 13 = .ok (.iconst 0, 1) := by decide +kernel
theorem dX2_readPart_14 : decode cX2_readPart 14 = .ok (.ireturn, 1) := by decide +kernel
theorem dX2_readPart_15 : decode cX2_readPart 15 = .ok (.aload_n 0, 1) := by decide +kernel
theorem dX2_readPart_16 : decode cX2_readPart 16 = .ok (.aload_n 0, 1) := by decide +kernel
theorem dX2_readPart_17 : decode cX2_readPart 17 = .ok (.getfield 97, 3) := by decide +kernel
theorem dX2_readPart_20 : decode cX2_readPart 20 = .ok (.putfield 73, 3) := by decide +kernel
theorem dX2_readPart_23 : decode cX2_readPart 23 = .ok (.aload_n 0, 1) := by decide +kernel
theorem dX2_readPart_24 : decode cX2_readPart 24 = .ok (.invokevirtual 20, 3) := by decide +kernel
theorem dX2_readPart_27 : decode cX2_readPart 27 = .ok (.aload_n 0, 1) := by decide +kernel
theorem dX2_readPart_28 : decode cX2_readPart 28 = .ok (.ldc 100, 2) := by decide +kernel
theorem dX2_readPart_30 : decode cX2_readPart 30 = .ok (.invokevirtual 41, 3) := by decide +kernel
theorem dX2_readPart_33 : decode cX2_readPart 33 = .ok (.ifCond .ne 9, 3) := by decide +kernel
theorem dX2_readPart_36 : decode cX2_readPart 36 = .ok (.aload_n 0, 1) := by decide +kernel
theorem dX2_readPart_37 : decode cX2_readPart 37 = .ok (.iconst 1, 1) := by decide +kernel
theorem dX2_readPart_38 : decode cX2_readPart 38 = .ok (.invokevirtual 30, 3) := by decide +kernel
theorem dX2_readPart_41 : decode cX2_readPart 41 = .ok (.ireturn, 1) := by decide +kernel
theorem dX2_readPart_42 : decode cX2_readPart 42 = .ok (.aload_n 0, 1) := by decide +kernel
theorem dX2_readPart_43 : decode cX2_readPart 43 = .ok (.invokevirtual 20, 3) := by decide +kernel
theorem dX2_readPart_46 : decode cX2_readPart 46 = .ok (.aload_n 0, 1) := by decide +kernel
theorem dX2_readPart_47 : decode cX2_readPart 47 = .ok (.iconst 0, 1) := by decide +kernel
theorem dX2_readPart_48 : decode cX2_readPart 48 = .ok (.bipush 100, 2) := by decide +kernel
theorem dX2_readPart_50 : decode cX2_readPart 50 = .ok (.invokevirtual 94, 3) := by decide +kernel
theorem dX2_readPart_53 : decode cX2_readPart 53 = .ok (.ifCond .ne 5, 3) := by decide +kernel
theorem dX2_readPart_56 : decode cX2_readPart 56 = .ok (.iconst 0, 1) := by decide +kernel
theorem dX2_readPart_57 : decode cX2_readPart 57 = .ok (.ireturn, 1) := by decide +kernel
theorem dX2_readPart_58 : decode cX2_readPart 58 = .ok (.aload_n 0, 1) := by decide +kernel
theorem dX2_readPart_59 : decode cX2_readPart 59 = .ok (.aload_n 0, 1) := by decide +kernel
theorem dX2_readPart_60 : decode cX2_readPart 60 = .ok (.getfield 97, 3) := by decide +kernel
theorem dX2_readPart_63 : decode cX2_readPart 63 = .ok (.putfield 76, 3) := by decide +kernel
theorem dX2_readPart_66 : decode cX2_readPart 66 = .ok (.aload_n 0, 1) := by decide +kernel
theorem dX2_readPart_67 : decode cX2_readPart 67 = .ok (.invokevirtual 20, 3) := by decide +kernel
theorem dX2_readPart_70 : decode cX2_readPart 70 = .ok (.iconst 1, 1) := by decide +kernel
theorem dX2_readPart_71 : decode cX2_readPart 71 = .ok (.ireturn, 1) := by decide +kernel
theorem dX2_standsNumber_0 : decode cX2_standsNumber 0 = .ok (.aload_n 0, 1) := by decide +kernel
theorem dX2_standsNumber_1 : decode cX2_standsNumber 1 = .ok (.getfield 23, 3) := by decide +kernel
theorem dX2_standsNumber_4 : decode cX2_standsNumber 4 = .ok (.iconst 2, 1) := by decide +kernel
theorem dX2_standsNumber_5 : decode cX2_standsNumber 5 = .ok (.if_icmp .eq 9, 3) := by decide +kernel
theorem dX2_standsNumber_8 : decode cX2_standsNumber 8 = .ok (.aload_n 0, 1) := by decide +kernel
theorem dX2_standsNumber_9 : decode cX2_standsNumber 9 = .ok (.iconst 1, 1) := by decide +kernel
theorem dX2_standsNumber_10 : decode cX2_standsNumber 10 = .ok (.invokevirtual 30, 3) := by decide +kernel
theorem dX2_standsNumber_13 : decode cX2_standsNumber 13 = .ok (.ireturn, 1) := by decide +kernel
theorem dX2_standsNumber_14 : decode cX2_standsNumber 14 = .ok (.aload_n 0, 1) := by decide +kernel
theorem dX2_standsNumber_15 : decode cX2_standsNumber 15 = .ok (.getfield 97, 3) := by decide +kernel
theorem dX2_standsNumber_18 : decode cX2_standsNumber 18 = .ok (.iload_n 1, 1) := by decide +kernel
theorem dX2_standsNumber_19 : decode cX2_standsNumber 19 = .ok (.iload_n 2, 1) := by decide +kernel
theorem dX2_standsNumber_20 : decode cX2_standsNumber 20 = .ok (.invokestatic 101, 3) := by decide +kernel
theorem dX2_standsNumber_23 : decode cX2_standsNumber 23 = .ok (.ifCond .ne 11, 3) := by decide +kernel
theorem dX2_standsNumber_26 : decode cX2_standsNumber 26 = .ok (.aload_n 0, 1) := by decide +kernel
theorem dX2_standsNumber_27 : decode cX2_standsNumber 27 = .ok (.iconst 2, 1) := by decide +kernel
theorem dX2_standsNumber_28 : decode cX2_standsNumber 28 = .ok (.invokevirtual 30, 3) := by decide +kernel
theorem dX2_standsNumber_31 : decode cX2_standsNumber 31 = .ok (.ifCond .eq 7, 3) := by decide +kernel
theorem dX2_standsNumber_34 : decode cX2_standsNumber 34 = .ok (.iconst 1, 1) := by decide +kernel
theorem dX2_standsNumber_35 : decode cX2_standsNumber 35 = .ok (.goto 4, 3) := by decide +kernel
theorem dX2_standsNumber_38 : decode cX2_standsNumber 38 = .ok (.iconst 0, 1) := by decide +kernel
theorem dX2_standsNumber_39 : decode cX2_standsNumber 39 = .ok (.ireturn, 1) := by decide +kernel
theorem dX2_refuse_0 : decode cX2_refuse 0 = .ok (.aload_n 0, 1) := by decide +kernel
theorem dX2_refuse_1 : decode cX2_refuse 1 = .ok (.iload_n 1, 1) := by decide +kernel
theorem dX2_refuse_2 : decode cX2_refuse 2 = .ok (.putfield 107, 3) := by decide +kernel
theorem dX2_refuse_5 : decode cX2_refuse 5 = .ok (.aload_n 0, 1) := by decide +kernel
theorem dX2_refuse_6 : decode cX2_refuse 6 = .ok (.aload_n 0, 1) := by decide +kernel
theorem dX2_refuse_7 : decode cX2_refuse 7 = .ok (.getfield 110, 3) := by decide +kernel
theorem dX2_refuse_10 : decode cX2_refuse 10 = .ok (.putfield 113, 3) := by decide +kernel
theorem dX2_refuse_13 : decode cX2_refuse 13 = .ok (.iconst 0, 1) := by decide +kernel
theorem dX2_refuse_14 : decode cX2_refuse 14 = .ok (.ireturn, 1) := by decide +kernel
theorem dX2_isWord_0 : decode cX2_isWord 0 = .ok (.aload_n 0, 1) := by decide +kernel
theorem dX2_isWord_1 : decode cX2_isWord 1 = .ok (.getfield 23, 3) := by decide +kernel
theorem dX2_isWord_4 : decode cX2_isWord 4 = .ok (.iconst 1, 1) := by decide +kernel
theorem dX2_isWord_5 : decode cX2_isWord 5 = .ok (.if_icmp .ne 19, 3) := by decide +kernel
theorem dX2_isWord_8 : decode cX2_isWord 8 = .ok (.aload_n 0, 1) := by decide +kernel
theorem dX2_isWord_9 : decode cX2_isWord 9 = .ok (.getfield 16, 3) := by decide +kernel
theorem dX2_isWord_12 : decode cX2_isWord 12 = .ok (.aload_n 0, 1) := by decide +kernel
theorem dX2_isWord_13 : decode cX2_isWord 13 = .ok (.getfield 110, 3) := by decide +kernel
theorem dX2_isWord_16 : decode cX2_isWord 16 = .ok (.isub, 1) := by decide +kernel
theorem dX2_isWord_17 : decode cX2_isWord 17 = .ok (.aload_n 1, 1) := by decide +kernel
theorem dX2_isWord_18 : decode cX2_isWord 18 = .ok (.invokevirtual 116, 3) := by decide +kernel
theorem dX2_isWord_21 : decode cX2_isWord 21 = .ok (.if_icmp .eq 5, 3) := by decide +kernel
theorem dX2_isWord_24 : decode cX2_isWord 24 = .ok (.iconst 0, 1) := by decide +kernel
theorem dX2_isWord_25 : decode cX2_isWord 25 = .ok (.ireturn, 1) := by decide +kernel
theorem dX2_isWord_26 : decode cX2_isWord 26 = .ok (.iconst 0, 1) := by decide +kernel
theorem dX2_isWord_27 : decode cX2_isWord 27 = .ok (.istore_n 2, 1) := by decide +kernel
theorem dX2_isWord_28 : decode cX2_isWord 28 = .ok (.iload_n 2, 1) := by decide +kernel
theorem dX2_isWord_29 : decode cX2_isWord 29 = .ok (.aload_n 1, 1) := by decide +kernel
theorem dX2_isWord_30 : decode cX2_isWord 30 = .ok (.invokevirtual 116, 3) := by decide +kernel
theorem dX2_isWord_33 : decode cX2_isWord 33 = .ok (.if_icmp .ge 32, 3) := by decide +kernel
theorem dX2_isWord_36 : decode cX2_isWord 36 = .ok (.aload_n 0, 1) := by decide +kernel
theorem dX2_isWord_37 : decode cX2_isWord 37 = .ok (.getfield 10, 3) := by decide +kernel
theorem dX2_isWord_40 : decode cX2_isWord 40 = .ok (.aload_n 0, 1) := by decide +kernel
theorem dX2_isWord_41 : decode cX2_isWord 41 = .ok (.getfield 110, 3) := by decide +kernel
theorem dX2_isWord_44 : decode cX2_isWord 44 = .ok (.iload_n 2, 1) := by decide +kernel
theorem dX2_isWord_45 : decode cX2_isWord 45 = .ok (.iadd, 1) := by decide +kernel
theorem dX2_isWord_46 : decode cX2_isWord 46 = .ok (.invokevirtual 121, 3) := by decide +kernel
theorem dX2_isWord_49 : decode cX2_isWord 49 = .ok (.aload_n 1, 1) := by decide +kernel
theorem dX2_isWord_50 : decode cX2_isWord 50 = .ok (.iload_n 2, 1) := by decide +kernel
theorem dX2_isWord_51 : decode cX2_isWord 51 = .ok (.invokevirtual 125, 3) := by decide +kernel
theorem dX2_isWord_54 : decode cX2_isWord 54 = .ok (.if_icmp .eq 5, 3) := by decide +kernel
theorem dX2_isWord_57 : decode cX2_isWord 57 = .ok (.iconst 0, 1) := by decide +kernel
theorem dX2_isWord_58 : decode cX2_isWord 58 = .ok (.ireturn, 1) := by decide +kernel
theorem dX2_isWord_59 : decode cX2_isWord 59 = .ok (.iinc 2 1, 3) := by decide +kernel
theorem dX2_isWord_62 : decode cX2_isWord 62 = .ok (.goto (-34), 3) := by decide +kernel
theorem dX2_isWord_65 : decode cX2_isWord 65 = .ok (.iconst 1, 1) := by decide +kernel
theorem dX2_isWord_66 : decode cX2_isWord 66 = .ok (.ireturn, 1) := by decide +kernel
theorem dX2_advance_0 : decode cX2_advance 0 = .ok (.aload_n 0, 1) := by decide +kernel
theorem dX2_advance_1 : decode cX2_advance 1 = .ok (.invokevirtual 129, 3) := by decide +kernel
theorem dX2_advance_4 : decode cX2_advance 4 = .ok (.aload_n 0, 1) := by decide +kernel
theorem dX2_advance_5 : decode cX2_advance 5 = .ok (.aload_n 0, 1) := by decide +kernel
theorem dX2_advance_6 : decode cX2_advance 6 = .ok (.getfield 16, 3) := by decide +kernel
theorem dX2_advance_9 : decode cX2_advance 9 = .ok (.putfield 110, 3) := by decide +kernel
theorem dX2_advance_12 : decode cX2_advance 12 = .ok (.aload_n 0, 1) := by decide +kernel
theorem dX2_advance_13 : decode cX2_advance 13 = .ok (.getfield 10, 3) := by decide +kernel
theorem dX2_advance_16 : decode cX2_advance 16 = .ok (.aload_n 0, 1) := by decide +kernel
theorem dX2_advance_17 : decode cX2_advance 17 = .ok (.getfield 110, 3) := by decide +kernel
theorem dX2_advance_20 : decode cX2_advance 20 = .ok (.invokevirtual 121, 3) := by decide +kernel
theorem dX2_advance_23 : decode cX2_advance 23 = .ok (.istore_n 1, 1) := by decide +kernel
theorem dX2_advance_24 : decode cX2_advance 24 = .ok (.iload_n 1, 1) := by decide +kernel
theorem dX2_advance_25 : decode cX2_advance 25 = .ok (.iconst (-1), 1) := by decide +kernel
theorem dX2_advance_26 : decode cX2_advance 26 = .ok (.if_icmp .ne 11, 3) := by decide +kernel
theorem dX2_advance_29 : decode cX2_advance 29 = .ok (.aload_n 0, 1) := by decide +kernel
theorem dX2_advance_30 : decode cX2_advance 30 = .ok (.iconst 0, 1) := by decide +kernel
theorem dX2_advance_31 : decode cX2_advance 31 = .ok (.putfield 23, 3) := by decide +kernel
theorem dX2_advance_34 : decode cX2_advance 34 = .ok (.goto 56, 3) := by decide +kernel
theorem dX2_advance_37 : decode cX2_advance 37 = .ok (.iload_n 1, 1) := by decide +kernel
theorem dX2_advance_38 : decode cX2_advance 38 = .ok (.invokestatic 132, 3) := by decide +kernel
theorem dX2_advance_41 : decode cX2_advance 41 = .ok (.ifCond .eq 10, 3) := by decide +kernel
theorem dX2_advance_44 : decode cX2_advance 44 = .ok (.aload_n 0, 1) := by decide +kernel
theorem dX2_advance_45 : decode cX2_advance 45 = .ok (.invokevirtual 135, 3) := by decide +kernel
theorem dX2_advance_48 : decode cX2_advance 48 = .ok (.goto 42, 3) := by decide +kernel
theorem dX2_advance_51 : decode cX2_advance 51 = .ok (.iload_n 1, 1) := by decide +kernel
theorem dX2_advance_52 : decode cX2_advance 52 = .ok (.invokestatic 138, 3) := by decide +kernel
theorem dX2_advance_55 : decode cX2_advance 55 = .ok (.ifCond .eq 10, 3) := by decide +kernel
theorem dX2_advance_58 : decode cX2_advance 58 = .ok (.aload_n 0, 1) := by decide +kernel
theorem dX2_advance_59 : decode cX2_advance 59 = .ok (.invokevirtual 141, 3) := by decide +kernel
theorem dX2_advance_62 : decode cX2_advance 62 = .ok (.goto 28, 3) := by decide +kernel
theorem dX2_advance_65 : decode cX2_advance 65 = .ok (.aload_n 0, 1) := by decide +kernel
theorem dX2_advance_66 : decode cX2_advance 66 = .ok (.dup, 1) := by decide +kernel
theorem dX2_advance_67 : decode cX2_advance 67 = .ok (.getfield 16, 3) := by decide +kernel
theorem dX2_advance_70 : decode cX2_advance 70 = .ok (.iconst 1, 1) := by decide +kernel
theorem dX2_advance_71 : decode cX2_advance 71 = .ok (.iadd, 1) := by decide +kernel
theorem dX2_advance_72 : decode cX2_advance 72 = .ok (.putfield 16, 3) := by decide +kernel
theorem dX2_advance_75 : decode cX2_advance 75 = .ok (.aload_n 0, 1) := by decide +kernel
theorem dX2_advance_76 : decode cX2_advance 76 = .ok (.iload_n 1, 1) := by decide +kernel
theorem dX2_advance_77 : decode cX2_advance 77 = .ok (.bipush 59, 2) := by decide +kernel
theorem dX2_advance_79 : decode cX2_advance 79 = .ok (.if_icmp .ne 7, 3) := by decide +kernel
theorem dX2_advance_82 : decode cX2_advance 82 = .ok (.iconst 3, 1) := by decide +kernel
theorem dX2_advance_83 : decode cX2_advance 83 = .ok (.goto 4, 3) := by decide +kernel
theorem dX2_advance_86 : decode cX2_advance 86 = .ok (.iconst 4, 1) := by decide +kernel
theorem dX2_advance_87 : decode cX2_advance 87 = .ok (.putfield 23, 3) := by decide +kernel
theorem dX2_advance_90 : decode cX2_advance 90 = .ok (.return_, 1) := by decide +kernel
theorem dX2_skipBlanks_0 : decode cX2_skipBlanks 0 = .ok (.aload_n 0, 1) := by decide +kernel
theorem dX2_skipBlanks_1 : decode cX2_skipBlanks 1 = .ok (.getfield 16, 3) := by decide +kernel
theorem dX2_skipBlanks_4 : decode cX2_skipBlanks 4 = .ok (.aload_n 0, 1) := by decide +kernel
theorem dX2_skipBlanks_5 : decode cX2_skipBlanks 5 = .ok (.getfield 10, 3) := by decide +kernel
theorem dX2_skipBlanks_8 : decode cX2_skipBlanks 8 = .ok (.getfield 144, 3) := by decide +kernel
theorem dX2_skipBlanks_11 : decode cX2_skipBlanks 11 = .ok (.if_icmp .ge 33, 3) := by decide +kernel
theorem dX2_skipBlanks_14 : decode cX2_skipBlanks 14 = .ok (.aload_n 0, 1) := by decide +kernel
theorem dX2_skipBlanks_15 : decode cX2_skipBlanks 15 = .ok (.getfield 10, 3) := by decide +kernel
theorem dX2_skipBlanks_18 : decode cX2_skipBlanks 18 = .ok (.aload_n 0, 1) := by decide +kernel
theorem dX2_skipBlanks_19 : decode cX2_skipBlanks 19 = .ok (.getfield 16, 3) := by decide +kernel
theorem dX2_skipBlanks_22 : decode cX2_skipBlanks 22 = .ok (.invokevirtual 121, 3) := by decide +kernel
theorem dX2_skipBlanks_25 : decode cX2_skipBlanks 25 = .ok (.invokestatic 146, 3) := by decide +kernel
theorem dX2_skipBlanks_28 : decode cX2_skipBlanks 28 = .ok (.ifCond .eq 16, 3) := by decide +kernel
theorem dX2_skipBlanks_31 : decode cX2_skipBlanks 31 = .ok (.aload_n 0, 1) := by decide +kernel
theorem dX2_skipBlanks_32 : decode cX2_skipBlanks 32 = .ok (.dup, 1) := by decide +kernel
theorem dX2_skipBlanks_33 : decode cX2_skipBlanks 33 = .ok (.getfield 16, 3) := by decide +kernel
theorem dX2_skipBlanks_36 : decode cX2_skipBlanks 36 = .ok (.iconst 1, 1) := by decide +kernel
theorem dX2_skipBlanks_37 : decode cX2_skipBlanks 37 = .ok (.iadd, 1) := by decide +kernel
theorem dX2_skipBlanks_38 : decode cX2_skipBlanks 38 = .ok (.putfield 16, 3) := by decide +kernel
theorem dX2_skipBlanks_41 : decode cX2_skipBlanks 41 = .ok (.goto (-41), 3) := by decide +kernel
theorem dX2_skipBlanks_44 : decode cX2_skipBlanks 44 = .ok (.return_, 1) := by decide +kernel
theorem dX2_passName_0 : decode cX2_passName 0 = .ok (.aload_n 0, 1) := by decide +kernel
theorem dX2_passName_1 : decode cX2_passName 1 = .ok (.getfield 16, 3) := by decide +kernel
theorem dX2_passName_4 : decode cX2_passName 4 = .ok (.aload_n 0, 1) := by decide +kernel
theorem dX2_passName_5 : decode cX2_passName 5 = .ok (.getfield 10, 3) := by decide +kernel
theorem dX2_passName_8 : decode cX2_passName 8 = .ok (.getfield 144, 3) := by decide +kernel
theorem dX2_passName_11 : decode cX2_passName 11 = .ok (.if_icmp .ge 33, 3) := by decide +kernel
theorem dX2_passName_14 : decode cX2_passName 14 = .ok (.aload_n 0, 1) := by decide +kernel
theorem dX2_passName_15 : decode cX2_passName 15 = .ok (.getfield 10, 3) := by decide +kernel
theorem dX2_passName_18 : decode cX2_passName 18 = .ok (.aload_n 0, 1) := by decide +kernel
theorem dX2_passName_19 : decode cX2_passName 19 = .ok (.getfield 16, 3) := by decide +kernel
theorem dX2_passName_22 : decode cX2_passName 22 = .ok (.invokevirtual 121, 3) := by decide +kernel
theorem dX2_passName_25 : decode cX2_passName 25 = .ok (.invokestatic 132, 3) := by decide +kernel
theorem dX2_passName_28 : decode cX2_passName 28 = .ok (.ifCond .eq 16, 3) := by decide +kernel
theorem dX2_passName_31 : decode cX2_passName 31 = .ok (.aload_n 0, 1) := by decide +kernel
theorem dX2_passName_32 : decode cX2_passName 32 = .ok (.dup, 1) := by decide +kernel
theorem dX2_passName_33 : decode cX2_passName 33 = .ok (.getfield 16, 3) := by decide +kernel
theorem dX2_passName_36 : decode cX2_passName 36 = .ok (.iconst 1, 1) := by decide +kernel
theorem dX2_passName_37 : decode cX2_passName 37 = .ok (.iadd, 1) := by decide +kernel
theorem dX2_passName_38 : decode cX2_passName 38 = .ok (.putfield 16, 3) := by decide +kernel
theorem dX2_passName_41 : decode cX2_passName 41 = .ok (.goto (-41), 3) := by decide +kernel
theorem dX2_passName_44 : decode cX2_passName 44 = .ok (.aload_n 0, 1) := by decide +kernel
theorem dX2_passName_45 : decode cX2_passName 45 = .ok (.aload_n 0, 1) := by decide +kernel
theorem dX2_passName_46 : decode cX2_passName 46 = .ok (.getfield 16, 3) := by decide +kernel
theorem dX2_passName_49 : decode cX2_passName 49 = .ok (.aload_n 0, 1) := by decide +kernel
theorem dX2_passName_50 : decode cX2_passName 50 = .ok (.getfield 110, 3) := by decide +kernel
theorem dX2_passName_53 : decode cX2_passName 53 = .ok (.isub, 1) := by decide +kernel
theorem dX2_passName_54 : decode cX2_passName 54 = .ok (.bipush 6, 2) := by decide +kernel
theorem dX2_passName_56 : decode cX2_passName 56 = .ok (.if_icmp .gt 7, 3) := by decide +kernel
theorem dX2_passName_59 : decode cX2_passName 59 = .ok (.iconst 1, 1) := by decide +kernel
theorem dX2_passName_60 : decode cX2_passName 60 = .ok (.goto 4, 3) := by decide +kernel
theorem dX2_passName_63 : decode cX2_passName 63 = .ok (.iconst 4, 1) := by decide +kernel
theorem dX2_passName_64 : decode cX2_passName 64 = .ok (.putfield 23, 3) := by decide +kernel
theorem dX2_passName_67 : decode cX2_passName 67 = .ok (.return_, 1) := by decide +kernel
theorem dX2_passNumber_0 : decode cX2_passNumber 0 = .ok (.aload_n 0, 1) := by decide +kernel
theorem dX2_passNumber_1 : decode cX2_passNumber 1 = .ok (.iconst 0, 1) := by decide +kernel
theorem dX2_passNumber_2 : decode cX2_passNumber 2 = .ok (.putfield 97, 3) := by decide +kernel
theorem dX2_passNumber_5 : decode cX2_passNumber 5 = .ok (.aload_n 0, 1) := by decide +kernel
theorem dX2_passNumber_6 : decode cX2_passNumber 6 = .ok (.getfield 16, 3) := by decide +kernel
theorem dX2_passNumber_9 : decode cX2_passNumber 9 = .ok (.aload_n 0, 1) := by decide +kernel
theorem dX2_passNumber_10 : decode cX2_passNumber 10 = .ok (.getfield 10, 3) := by decide +kernel
theorem dX2_passNumber_13 : decode cX2_passNumber 13 = .ok (.getfield 144, 3) := by decide +kernel
theorem dX2_passNumber_16 : decode cX2_passNumber 16 = .ok (.if_icmp .ge 72, 3) := by decide +kernel
theorem dX2_passNumber_19 : decode cX2_passNumber 19 = .ok (.aload_n 0, 1) := by decide +kernel
theorem dX2_passNumber_20 : decode cX2_passNumber 20 = .ok (.getfield 10, 3) := by decide +kernel
theorem dX2_passNumber_23 : decode cX2_passNumber 23 = .ok (.aload_n 0, 1) := by decide +kernel
theorem dX2_passNumber_24 : decode cX2_passNumber 24 = .ok (.getfield 16, 3) := by decide +kernel
theorem dX2_passNumber_27 : decode cX2_passNumber 27 = .ok (.invokevirtual 121, 3) := by decide +kernel
theorem dX2_passNumber_30 : decode cX2_passNumber 30 = .ok (.invokestatic 138, 3) := by decide +kernel
theorem dX2_passNumber_33 : decode cX2_passNumber 33 = .ok (.ifCond .eq 55, 3) := by decide +kernel
theorem dX2_passNumber_36 : decode cX2_passNumber 36 = .ok (.aload_n 0, 1) := by decide +kernel
theorem dX2_passNumber_37 : decode cX2_passNumber 37 = .ok (.getfield 16, 3) := by decide +kernel
theorem dX2_passNumber_40 : decode cX2_passNumber 40 = .ok (.aload_n 0, 1) := by decide +kernel
theorem dX2_passNumber_41 : decode cX2_passNumber 41 = .ok (.getfield 110, 3) := by decide +kernel
theorem dX2_passNumber_44 : decode cX2_passNumber 44 = .ok (.isub, 1) := by decide +kernel
theorem dX2_passNumber_45 : decode cX2_passNumber 45 = .ok (.iconst 5, 1) := by decide +kernel
theorem dX2_passNumber_46 : decode cX2_passNumber 46 = .ok (.if_icmp .ge 29, 3) := by decide +kernel
theorem dX2_passNumber_49 : decode cX2_passNumber 49 = .ok (.aload_n 0, 1) := by decide +kernel
theorem dX2_passNumber_50 : decode cX2_passNumber 50 = .ok (.aload_n 0, 1) := by decide +kernel
theorem dX2_passNumber_51 : decode cX2_passNumber 51 = .ok (.getfield 97, 3) := by decide +kernel
theorem dX2_passNumber_54 : decode cX2_passNumber 54 = .ok (.bipush 10, 2) := by decide +kernel
theorem dX2_passNumber_56 : decode cX2_passNumber 56 = .ok (.imul, 1) := by decide +kernel
theorem dX2_passNumber_57 : decode cX2_passNumber 57 = .ok (.aload_n 0, 1) := by decide +kernel
theorem dX2_passNumber_58 : decode cX2_passNumber 58 = .ok (.getfield 10, 3) := by decide +kernel
theorem dX2_passNumber_61 : decode cX2_passNumber 61 = .ok (.aload_n 0, 1) := by decide +kernel
theorem dX2_passNumber_62 : decode cX2_passNumber 62 = .ok (.getfield 16, 3) := by decide +kernel
theorem dX2_passNumber_65 : decode cX2_passNumber 65 = .ok (.invokevirtual 121, 3) := by decide +kernel
theorem dX2_passNumber_68 : decode cX2_passNumber 68 = .ok (.bipush 48, 2) := by decide +kernel
theorem dX2_passNumber_70 : decode cX2_passNumber 70 = .ok (.isub, 1) := by decide +kernel
theorem dX2_passNumber_71 : decode cX2_passNumber 71 = .ok (.iadd, 1) := by decide +kernel
theorem dX2_passNumber_72 : decode cX2_passNumber 72 = .ok (.putfield 97, 3) := by decide +kernel
theorem dX2_passNumber_75 : decode cX2_passNumber 75 = .ok (.aload_n 0, 1) := by decide +kernel
theorem dX2_passNumber_76 : decode cX2_passNumber 76 = .ok (.dup, 1) := by decide +kernel
theorem dX2_passNumber_77 : decode cX2_passNumber 77 = .ok (.getfield 16, 3) := by decide +kernel
theorem dX2_passNumber_80 : decode cX2_passNumber 80 = .ok (.iconst 1, 1) := by decide +kernel
theorem dX2_passNumber_81 : decode cX2_passNumber 81 = .ok (.iadd, 1) := by decide +kernel
theorem dX2_passNumber_82 : decode cX2_passNumber 82 = .ok (.putfield 16, 3) := by decide +kernel
theorem dX2_passNumber_85 : decode cX2_passNumber 85 = .ok (.goto (-80), 3) := by decide +kernel
theorem dX2_passNumber_88 : decode cX2_passNumber 88 = .ok (.aload_n 0, 1) := by decide +kernel
theorem dX2_passNumber_89 : decode cX2_passNumber 89 = .ok (.aload_n 0, 1) := by decide +kernel
theorem dX2_passNumber_90 : decode cX2_passNumber 90 = .ok (.getfield 16, 3) := by decide +kernel
theorem dX2_passNumber_93 : decode cX2_passNumber 93 = .ok (.aload_n 0, 1) := by decide +kernel
theorem dX2_passNumber_94 : decode cX2_passNumber 94 = .ok (.getfield 110, 3) := by decide +kernel
theorem dX2_passNumber_97 : decode cX2_passNumber 97 = .ok (.isub, 1) := by decide +kernel
theorem dX2_passNumber_98 : decode cX2_passNumber 98 = .ok (.iconst 5, 1) := by decide +kernel
theorem dX2_passNumber_99 : decode cX2_passNumber 99 = .ok (.if_icmp .gt 7, 3) := by decide +kernel
theorem dX2_passNumber_102 : decode cX2_passNumber 102 = .ok (.iconst 2, 1) := by decide +kernel
theorem dX2_passNumber_103 : decode cX2_passNumber 103 = .ok (.goto 4, 3) := by decide +kernel
theorem dX2_passNumber_106 : decode cX2_passNumber 106 = .ok (.iconst 4, 1) := by decide +kernel
theorem dX2_passNumber_107 : decode cX2_passNumber 107 = .ok (.putfield 23, 3) := by decide +kernel
theorem dX2_passNumber_110 : decode cX2_passNumber 110 = .ok (.return_, 1) := by decide +kernel
theorem dX2_isBlank_0 : decode cX2_isBlank 0 = .ok (.iload_n 0, 1) := by decide +kernel
theorem dX2_isBlank_1 : decode cX2_isBlank 1 = .ok (.bipush 32, 2) := by decide +kernel
theorem dX2_isBlank_3 : decode cX2_isBlank 3 = .ok (.if_icmp .eq 9, 3) := by decide +kernel
theorem dX2_isBlank_6 : decode cX2_isBlank 6 = .ok (.iload_n 0, 1) := by decide +kernel
theorem dX2_isBlank_7 : decode cX2_isBlank 7 = .ok (.bipush 10, 2) := by decide +kernel
theorem dX2_isBlank_9 : decode cX2_isBlank 9 = .ok (.if_icmp .ne 7, 3) := by decide +kernel
theorem dX2_isBlank_12 : decode cX2_isBlank 12 = .ok (.iconst 1, 1) := by decide +kernel
theorem dX2_isBlank_13 : decode cX2_isBlank 13 = .ok (.goto 4, 3) := by decide +kernel
theorem dX2_isBlank_16 : decode cX2_isBlank 16 = .ok (.iconst 0, 1) := by decide +kernel
theorem dX2_isBlank_17 : decode cX2_isBlank 17 = .ok (.ireturn, 1) := by decide +kernel
theorem dX2_isLetter_0 : decode cX2_isLetter 0 = .ok (.iload_n 0, 1) := by decide +kernel
theorem dX2_isLetter_1 : decode cX2_isLetter 1 = .ok (.bipush 97, 2) := by decide +kernel
theorem dX2_isLetter_3 : decode cX2_isLetter 3 = .ok (.if_icmp .lt 13, 3) := by decide +kernel
theorem dX2_isLetter_6 : decode cX2_isLetter 6 = .ok (.iload_n 0, 1) := by decide +kernel
theorem dX2_isLetter_7 : decode cX2_isLetter 7 = .ok (.bipush 122, 2) := by decide +kernel
theorem dX2_isLetter_9 : decode cX2_isLetter 9 = .ok (.if_icmp .gt 7, 3) := by decide +kernel
theorem dX2_isLetter_12 : decode cX2_isLetter 12 = .ok (.iconst 1, 1) := by decide +kernel
theorem dX2_isLetter_13 : decode cX2_isLetter 13 = .ok (.goto 4, 3) := by decide +kernel
theorem dX2_isLetter_16 : decode cX2_isLetter 16 = .ok (.iconst 0, 1) := by decide +kernel
theorem dX2_isLetter_17 : decode cX2_isLetter 17 = .ok (.ireturn, 1) := by decide +kernel
theorem dX2_isFigure_0 : decode cX2_isFigure 0 = .ok (.iload_n 0, 1) := by decide +kernel
theorem dX2_isFigure_1 : decode cX2_isFigure 1 = .ok (.bipush 48, 2) := by decide +kernel
theorem dX2_isFigure_3 : decode cX2_isFigure 3 = .ok (.if_icmp .lt 13, 3) := by decide +kernel
theorem dX2_isFigure_6 : decode cX2_isFigure 6 = .ok (.iload_n 0, 1) := by decide +kernel
theorem dX2_isFigure_7 : decode cX2_isFigure 7 = .ok (.bipush 57, 2) := by decide +kernel
theorem dX2_isFigure_9 : decode cX2_isFigure 9 = .ok (.if_icmp .gt 7, 3) := by decide +kernel
theorem dX2_isFigure_12 : decode cX2_isFigure 12 = .ok (.iconst 1, 1) := by decide +kernel
theorem dX2_isFigure_13 : decode cX2_isFigure 13 = .ok (.goto 4, 3) := by decide +kernel
theorem dX2_isFigure_16 : decode cX2_isFigure 16 = .ok (.iconst 0, 1) := by decide +kernel
theorem dX2_isFigure_17 : decode cX2_isFigure 17 = .ok (.ireturn, 1) := by decide +kernel
theorem dX3_init_0 : decode cX3_init 0 = .ok (.aload_n 0, 1) := by decide +kernel
theorem dX3_init_1 : decode cX3_init 1 = .ok (.invokespecial 1, 3) := by decide +kernel
theorem dX3_init_4 : decode cX3_init 4 = .ok (.aload_n 0, 1) := by decide +kernel
theorem dX3_init_5 : decode cX3_init 5 = .ok (.iconst 5, 1) := by decide +kernel
theorem dX3_init_6 : decode cX3_init 6 = .ok (.newarray .int, 2) := by decide +kernel
theorem dX3_init_8 : decode cX3_init 8 = .ok (.putfield 9, 3) := by decide +kernel
theorem dX3_init_11 : decode cX3_init 11 = .ok (.aload_n 0, 1) := by decide +kernel
theorem dX3_init_12 : decode cX3_init 12 = .ok (.iconst 5, 1) := by decide +kernel
theorem dX3_init_13 : decode cX3_init 13 = .ok (.newarray .int, 2) := by decide +kernel
theorem dX3_init_15 : decode cX3_init 15 = .ok (.putfield 13, 3) := by decide +kernel
theorem dX3_init_18 : decode cX3_init 18 = .ok (.aload_n 0, 1) := by decide +kernel
theorem dX3_init_19 : decode cX3_init 19 = .ok (.iconst 5, 1) := by decide +kernel
theorem dX3_init_20 : decode cX3_init 20 = .ok (.newarray .int, 2) := by decide +kernel
theorem dX3_init_22 : decode cX3_init 22 = .ok (.putfield 16, 3) := by decide +kernel
theorem dX3_init_25 : decode cX3_init 25 = .ok (.aload_n 0, 1) := by decide +kernel
theorem dX3_init_26 : decode cX3_init 26 = .ok (.iconst 5, 1) := by decide +kernel
theorem dX3_init_27 : decode cX3_init 27 = .ok (.newarray .int, 2) := by decide +kernel
theorem dX3_init_29 : decode cX3_init 29 = .ok (.putfield 19, 3) := by decide +kernel
theorem dX3_init_32 : decode cX3_init 32 = .ok (.return_, 1) := by decide +kernel
theorem dX3_clear_0 : decode cX3_clear 0 = .ok (.aload_n 0, 1) := by decide +kernel
theorem dX3_clear_1 : decode cX3_clear 1 = .ok (.iconst 0, 1) := by decide +kernel
theorem dX3_clear_2 : decode cX3_clear 2 = .ok (.putfield 22, 3) := by decide +kernel
