theorem dX8_ticket_49 : decode cX8_ticket 49 = .ok (.getfield 133, 3) := by decide +kernel
theorem dX8_ticket_52 : decode cX8_ticket 52 = .ok (.ireturn, 1) := by decide +kernel
theorem dX8_ticket_53 : decode cX8_ticket 53 = .ok (.aload_n 3, 1) := by decide +kernel
theorem dX8_ticket_54 : decode cX8_ticket 54 = .ok (.getfield 139, 3) := by decide +kernel
theorem dX8_ticket_57 : decode cX8_ticket 57 = .ok (.ireturn, 1) := by decide +kernel
theorem dX8_ticket_58 : decode cX8_ticket 58 = .ok (.aload_n 3, 1) := by decide +kernel
theorem dX8_ticket_59 : decode cX8_ticket 59 = .ok (.getfield 142, 3) := by decide +kernel
theorem dX8_ticket_62 : decode cX8_ticket 62 = .ok (.ireturn, 1) := by decide +kernel
theorem dX8_ticket_63 : decode cX8_ticket 63 = .ok (.aload_n 3, 1) := by decide +kernel
theorem dX8_ticket_64 : decode cX8_ticket 64 = .ok (.getfield 146, 3) := by decide +kernel
theorem dX8_ticket_67 : decode cX8_ticket 67 = .ok (.ireturn, 1) := by decide +kernel
theorem dX8_ticket_68 : decode cX8_ticket 68 = .ok (.ldc 77, 2) := by decide +kernel
theorem dX8_ticket_70 : decode cX8_ticket 70 = .ok (.ireturn, 1) := by decide +kernel
theorem dX8_hour_0 : decode cX8_hour 0 = .ok (.iload_n 1, 1) := by decide +kernel
theorem dX8_hour_1 : decode cX8_hour 1 = .ok (.iconst 0, 1) := by decide +kernel
theorem dX8_hour_2 : decode cX8_hour 2 = .ok (.sipush 1000, 3) := by decide +kernel
theorem dX8_hour_5 : decode cX8_hour 5 = .ok (.invokestatic 73, 3) := by decide +kernel
theorem dX8_hour_8 : decode cX8_hour 8 = .ok (.ifCond .eq 34, 3) := by decide +kernel
theorem dX8_hour_11 : decode cX8_hour 11 = .ok (.iload_n 2, 1) := by decide +kernel
theorem dX8_hour_12 : decode cX8_hour 12 = .ok (.iconst 0, 1) := by decide +kernel
theorem dX8_hour_13 : decode cX8_hour 13 = .ok (.bipush 100, 2) := by decide +kernel
theorem dX8_hour_15 : decode cX8_hour 15 = .ok (.invokestatic 73, 3) := by decide +kernel
theorem dX8_hour_18 : decode cX8_hour 18 = .ok (.ifCond .eq 24, 3) := by decide +kernel
theorem dX8_hour_21 : decode cX8_hour 21 = .ok (.iload_n 3, 1) := by decide +kernel
theorem dX8_hour_22 : decode cX8_hour 22 = .ok (.iconst 0, 1) := by decide +kernel
theorem dX8_hour_23 : decode cX8_hour 23 = .ok (.bipush 60, 2) := by decide +kernel
theorem dX8_hour_25 : decode cX8_hour 25 = .ok (.invokestatic 73, 3) := by decide +kernel
theorem dX8_hour_28 : decode cX8_hour 28 = .ok (.ifCond .eq 14, 3) := by decide +kernel
theorem dX8_hour_31 : decode cX8_hour 31 = .ok (.iload 4, 2) := by decide +kernel
theorem dX8_hour_33 : decode cX8_hour 33 = .ok (.iconst 0, 1) := by decide +kernel
theorem dX8_hour_34 : decode cX8_hour 34 = .ok (.bipush 10, 2) := by decide +kernel
theorem dX8_hour_36 : decode cX8_hour 36 = .ok (.invokestatic 73, 3) := by decide +kernel
theorem dX8_hour_39 : decode cX8_hour 39 = .ok (.ifCond .ne 6, 3) := by decide +kernel
theorem dX8_hour_42 : decode cX8_hour 42 = .ok (.ldc 77, 2) := by decide +kernel
theorem dX8_hour_44 : decode cX8_hour 44 = .ok (.ireturn, 1) := by decide +kernel
theorem dX8_hour_45 : decode cX8_hour 45 = .ok (.aload_n 0, 1) := by decide +kernel
theorem dX8_hour_46 : decode cX8_hour 46 = .ok (.getfield 161, 3) := by decide +kernel
theorem dX8_hour_49 : decode cX8_hour 49 = .ok (.sipush 5000, 3) := by decide +kernel
theorem dX8_hour_52 : decode cX8_hour 52 = .ok (.if_icmp .lt 6, 3) := by decide +kernel
theorem dX8_hour_55 : decode cX8_hour 55 = .ok (.ldc 96, 2) := by decide +kernel
theorem dX8_hour_57 : decode cX8_hour 57 = .ok (.ireturn, 1) := by decide +kernel
theorem dX8_hour_58 : decode cX8_hour 58 = .ok (.aload_n 0, 1) := by decide +kernel
theorem dX8_hour_59 : decode cX8_hour 59 = .ok (.dup, 1) := by decide +kernel
theorem dX8_hour_60 : decode cX8_hour 60 = .ok (.getfield 161, 3) := by decide +kernel
theorem dX8_hour_63 : decode cX8_hour 63 = .ok (.iconst 1, 1) := by decide +kernel
theorem dX8_hour_64 : decode cX8_hour 64 = .ok (.iadd, 1) := by decide +kernel
theorem dX8_hour_65 : decode cX8_hour 65 = .ok (.putfield 161, 3) := by decide +kernel
theorem dX8_hour_68 : decode cX8_hour 68 = .ok (.aload_n 0, 1) := by decide +kernel
theorem dX8_hour_69 : decode cX8_hour 69 = .ok (.iload_n 2, 1) := by decide +kernel
theorem dX8_hour_70 : decode cX8_hour 70 = .ok (.putfield 119, 3) := by decide +kernel
theorem dX8_hour_73 : decode cX8_hour 73 = .ok (.aload_n 0, 1) := by decide +kernel
theorem dX8_hour_74 : decode cX8_hour 74 = .ok (.iload_n 1, 1) := by decide +kernel
theorem dX8_hour_75 : decode cX8_hour 75 = .ok (.invokevirtual 164, 3) := by decide +kernel
theorem dX8_hour_78 : decode cX8_hour 78 = .ok (.iload_n 2, 1) := by decide +kernel
theorem dX8_hour_79 : decode cX8_hour 79 = .ok (.aload_n 0, 1) := by decide +kernel
theorem dX8_hour_80 : decode cX8_hour 80 = .ok (.getfield 13, 3) := by decide +kernel
theorem dX8_hour_83 : decode cX8_hour 83 = .ok (.if_icmp .le 7, 3) := by decide +kernel
theorem dX8_hour_86 : decode cX8_hour 86 = .ok (.aload_n 0, 1) := by decide +kernel
theorem dX8_hour_87 : decode cX8_hour 87 = .ok (.invokevirtual 168, 3) := by decide +kernel
theorem dX8_hour_90 : decode cX8_hour 90 = .ok (.aload_n 0, 1) := by decide +kernel
theorem dX8_hour_91 : decode cX8_hour 91 = .ok (.iload_n 3, 1) := by decide +kernel
theorem dX8_hour_92 : decode cX8_hour 92 = .ok (.invokevirtual 171, 3) := by decide +kernel
theorem dX8_hour_95 : decode cX8_hour 95 = .ok (.aload_n 0, 1) := by decide +kernel
theorem dX8_hour_96 : decode cX8_hour 96 = .ok (.iload 4, 2) := by decide +kernel
theorem dX8_hour_98 : decode cX8_hour 98 = .ok (.invokevirtual 174, 3) := by decide +kernel
theorem dX8_hour_101 : decode cX8_hour 101 = .ok (.aload_n 0, 1) := by decide +kernel
theorem dX8_hour_102 : decode cX8_hour 102 = .ok (.invokevirtual 177, 3) := by decide +kernel
theorem dX8_hour_105 : decode cX8_hour 105 = .ok (.aload_n 0, 1) := by decide +kernel
theorem dX8_hour_106 : decode cX8_hour 106 = .ok (.getfield 25, 3) := by decide +kernel
theorem dX8_hour_109 : decode cX8_hour 109 = .ok (.invokevirtual 180, 3) := by decide +kernel
theorem dX8_hour_112 : decode cX8_hour 112 = .ok (.aload_n 0, 1) := by decide +kernel
theorem dX8_hour_113 : decode cX8_hour 113 = .ok (.getfield 25, 3) := by decide +kernel
theorem dX8_hour_116 : decode cX8_hour 116 = .ok (.getfield 183, 3) := by decide +kernel
theorem dX8_hour_119 : decode cX8_hour 119 = .ok (.ireturn, 1) := by decide +kernel
theorem dX8_feed_0 : decode cX8_feed 0 = .ok (.iload_n 3, 1) := by decide +kernel
theorem dX8_feed_1 : decode cX8_feed 1 = .ok (.iconst 1, 1) := by decide +kernel
theorem dX8_feed_2 : decode cX8_feed 2 = .ok (.bipush 8, 2) := by decide +kernel
theorem dX8_feed_4 : decode cX8_feed 4 = .ok (.invokestatic 73, 3) := by decide +kernel
theorem dX8_feed_7 : decode cX8_feed 7 = .ok (.ifCond .ne 6, 3) := by decide +kernel
theorem dX8_feed_10 : decode cX8_feed 10 = .ok (.ldc 77, 2) := by decide +kernel
theorem dX8_feed_12 : decode cX8_feed 12 = .ok (.ireturn, 1) := by decide +kernel
theorem dX8_feed_13 : decode cX8_feed 13 = .ok (.aload_n 0, 1) := by decide +kernel
theorem dX8_feed_14 : decode cX8_feed 14 = .ok (.getfield 32, 3) := by decide +kernel
theorem dX8_feed_17 : decode cX8_feed 17 = .ok (.getfield 186, 3) := by decide +kernel
theorem dX8_feed_20 : decode cX8_feed 20 = .ok (.iload_n 3, 1) := by decide +kernel
theorem dX8_feed_21 : decode cX8_feed 21 = .ok (.invokevirtual 190, 3) := by decide +kernel
theorem dX8_feed_24 : decode cX8_feed 24 = .ok (.ifCond .ne 6, 3) := by decide +kernel
theorem dX8_feed_27 : decode cX8_feed 27 = .ok (.ldc 81, 2) := by decide +kernel
theorem dX8_feed_29 : decode cX8_feed 29 = .ok (.ireturn, 1) := by decide +kernel
theorem dX8_feed_30 : decode cX8_feed 30 = .ok (.aload_n 0, 1) := by decide +kernel
theorem dX8_feed_31 : decode cX8_feed 31 = .ok (.getfield 32, 3) := by decide +kernel
theorem dX8_feed_34 : decode cX8_feed 34 = .ok (.getfield 186, 3) := by decide +kernel
theorem dX8_feed_37 : decode cX8_feed 37 = .ok (.lload_n 1, 1) := by decide +kernel
theorem dX8_feed_38 : decode cX8_feed 38 = .ok (.iload_n 3, 1) := by decide +kernel
theorem dX8_feed_39 : decode cX8_feed 39 = .ok (.invokevirtual 195, 3) := by decide +kernel
theorem dX8_feed_42 : decode cX8_feed 42 = .ok (.aload_n 0, 1) := by decide +kernel
theorem dX8_feed_43 : decode cX8_feed 43 = .ok (.getfield 32, 3) := by decide +kernel
theorem dX8_feed_46 : decode cX8_feed 46 = .ok (.getfield 186, 3) := by decide +kernel
theorem dX8_feed_49 : decode cX8_feed 49 = .ok (.getfield 199, 3) := by decide +kernel
theorem dX8_feed_52 : decode cX8_feed 52 = .ok (.ireturn, 1) := by decide +kernel
theorem dX8_rules_0 : decode cX8_rules 0 = .ok (.aload_n 0, 1) := by decide +kernel
theorem dX8_rules_1 : decode cX8_rules 1 = .ok (.getfield 43, 3) := by decide +kernel
theorem dX8_rules_4 : decode cX8_rules 4 = .ok (.invokevirtual 202, 3) := by decide +kernel
theorem dX8_rules_7 : decode cX8_rules 7 = .ok (.aload_n 0, 1) := by decide +kernel
theorem dX8_rules_8 : decode cX8_rules 8 = .ok (.getfield 32, 3) := by decide +kernel
theorem dX8_rules_11 : decode cX8_rules 11 = .ok (.aload_n 0, 1) := by decide +kernel
theorem dX8_rules_12 : decode cX8_rules 12 = .ok (.getfield 43, 3) := by decide +kernel
theorem dX8_rules_15 : decode cX8_rules 15 = .ok (.invokevirtual 205, 3) := by decide +kernel
theorem dX8_rules_18 : decode cX8_rules 18 = .ok (.istore_n 1, 1) := by decide +kernel
theorem dX8_rules_19 : decode cX8_rules 19 = .ok (.aload_n 0, 1) := by decide +kernel
theorem dX8_rules_20 : decode cX8_rules 20 = .ok (.getfield 32, 3) := by decide +kernel
theorem dX8_rules_23 : decode cX8_rules 23 = .ok (.getfield 186, 3) := by decide +kernel
theorem dX8_rules_26 : decode cX8_rules 26 = .ok (.iconst 0, 1) := by decide +kernel
theorem dX8_rules_27 : decode cX8_rules 27 = .ok (.putfield 199, 3) := by decide +kernel
theorem dX8_rules_30 : decode cX8_rules 30 = .ok (.iload_n 1, 1) := by decide +kernel
theorem dX8_rules_31 : decode cX8_rules 31 = .ok (.ifCond .ne 25, 3) := by decide +kernel
theorem dX8_rules_34 : decode cX8_rules 34 = .ok (.aload_n 0, 1) := by decide +kernel
theorem dX8_rules_35 : decode cX8_rules 35 = .ok (.aload_n 0, 1) := by decide +kernel
theorem dX8_rules_36 : decode cX8_rules 36 = .ok (.getfield 32, 3) := by decide +kernel
theorem dX8_rules_39 : decode cX8_rules 39 = .ok (.getfield 209, 3) := by decide +kernel
theorem dX8_rules_42 : decode cX8_rules 42 = .ok (.putfield 212, 3) := by decide +kernel
theorem dX8_rules_45 : decode cX8_rules 45 = .ok (.ldc 215, 2) := by decide +kernel
theorem dX8_rules_47 : decode cX8_rules 47 = .ok (.aload_n 0, 1) := by decide +kernel
theorem dX8_rules_48 : decode cX8_rules 48 = .ok (.getfield 32, 3) := by decide +kernel
theorem dX8_rules_51 : decode cX8_rules 51 = .ok (.getfield 216, 3) := by decide +kernel
theorem dX8_rules_54 : decode cX8_rules 54 = .ok (.isub, 1) := by decide +kernel
theorem dX8_rules_55 : decode cX8_rules 55 = .ok (.ireturn, 1) := by decide +kernel
theorem dX8_rules_56 : decode cX8_rules 56 = .ok (.aload_n 0, 1) := by decide +kernel
theorem dX8_rules_57 : decode cX8_rules 57 = .ok (.getfield 39, 3) := by decide +kernel
theorem dX8_rules_60 : decode cX8_rules 60 = .ok (.astore_n 2, 1) := by decide +kernel
theorem dX8_rules_61 : decode cX8_rules 61 = .ok (.aload_n 0, 1) := by decide +kernel
theorem dX8_rules_62 : decode cX8_rules 62 = .ok (.aload_n 0, 1) := by decide +kernel
theorem dX8_rules_63 : decode cX8_rules 63 = .ok (.getfield 43, 3) := by decide +kernel
theorem dX8_rules_66 : decode cX8_rules 66 = .ok (.putfield 39, 3) := by decide +kernel
theorem dX8_rules_69 : decode cX8_rules 69 = .ok (.aload_n 0, 1) := by decide +kernel
theorem dX8_rules_70 : decode cX8_rules 70 = .ok (.aload_n 2, 1) := by decide +kernel
theorem dX8_rules_71 : decode cX8_rules 71 = .ok (.putfield 43, 3) := by decide +kernel
theorem dX8_rules_74 : decode cX8_rules 74 = .ok (.aload_n 0, 1) := by decide +kernel
theorem dX8_rules_75 : decode cX8_rules 75 = .ok (.getfield 39, 3) := by decide +kernel
theorem dX8_rules_78 : decode cX8_rules 78 = .ok (.getfield 219, 3) := by decide +kernel
theorem dX8_rules_81 : decode cX8_rules 81 = .ok (.ireturn, 1) := by decide +kernel
theorem dX8_fault_0 : decode cX8_fault 0 = .ok (.aload_n 0, 1) := by decide +kernel
theorem dX8_fault_1 : decode cX8_fault 1 = .ok (.getfield 212, 3) := by decide +kernel
theorem dX8_fault_4 : decode cX8_fault 4 = .ok (.ireturn, 1) := by decide +kernel
theorem dX8_rent_0 : decode cX8_rent 0 = .ok (.iload_n 1, 1) := by decide +kernel
theorem dX8_rent_1 : decode cX8_rent 1 = .ok (.ldc 222, 2) := by decide +kernel
theorem dX8_rent_3 : decode cX8_rent 3 = .ok (.if_icmp .ne 30, 3) := by decide +kernel
theorem dX8_rent_6 : decode cX8_rent 6 = .ok (.aload_n 0, 1) := by decide +kernel
theorem dX8_rent_7 : decode cX8_rent 7 = .ok (.getfield 39, 3) := by decide +kernel
theorem dX8_rent_10 : decode cX8_rent 10 = .ok (.iconst 0, 1) := by decide +kernel
theorem dX8_rent_11 : decode cX8_rent 11 = .ok (.aload_n 0, 1) := by decide +kernel
theorem dX8_rent_12 : decode cX8_rent 12 = .ok (.getfield 25, 3) := by decide +kernel
theorem dX8_rent_15 : decode cX8_rent 15 = .ok (.getfield 149, 3) := by decide +kernel
theorem dX8_rent_18 : decode cX8_rent 18 = .ok (.aload_n 0, 1) := by decide +kernel
theorem dX8_rent_19 : decode cX8_rent 19 = .ok (.getfield 25, 3) := by decide +kernel
theorem dX8_rent_22 : decode cX8_rent 22 = .ok (.getfield 223, 3) := by decide +kernel
theorem dX8_rent_25 : decode cX8_rent 25 = .ok (.isub, 1) := by decide +kernel
theorem dX8_rent_26 : decode cX8_rent 26 = .ok (.invokestatic 66, 3) := by decide +kernel
theorem dX8_rent_29 : decode cX8_rent 29 = .ok (.invokevirtual 226, 3) := by decide +kernel
theorem dX8_rent_32 : decode cX8_rent 32 = .ok (.ireturn, 1) := by decide +kernel
theorem dX8_rent_33 : decode cX8_rent 33 = .ok (.iload_n 1, 1) := by decide +kernel
theorem dX8_rent_34 : decode cX8_rent 34 = .ok (.iconst 0, 1) := by decide +kernel
theorem dX8_rent_35 : decode cX8_rent 35 = .ok (.ldc 229, 2) := by decide +kernel
theorem dX8_rent_37 : decode cX8_rent 37 = .ok (.invokestatic 73, 3) := by decide +kernel
theorem dX8_rent_40 : decode cX8_rent 40 = .ok (.ifCond .ne 6, 3) := by decide +kernel
theorem dX8_rent_43 : decode cX8_rent 43 = .ok (.ldc 77, 2) := by decide +kernel
theorem dX8_rent_45 : decode cX8_rent 45 = .ok (.ireturn, 1) := by decide +kernel
theorem dX8_rent_46 : decode cX8_rent 46 = .ok (.aload_n 0, 1) := by decide +kernel
theorem dX8_rent_47 : decode cX8_rent 47 = .ok (.getfield 39, 3) := by decide +kernel
theorem dX8_rent_50 : decode cX8_rent 50 = .ok (.iload_n 1, 1) := by decide +kernel
theorem dX8_rent_51 : decode cX8_rent 51 = .ok (.invokevirtual 226, 3) := by decide +kernel
theorem dX8_rent_54 : decode cX8_rent 54 = .ok (.ireturn, 1) := by decide +kernel
theorem dX8_unpaid_0 : decode cX8_unpaid 0 = .ok (.aload_n 0, 1) := by decide +kernel
theorem dX8_unpaid_1 : decode cX8_unpaid 1 = .ok (.iload_n 1, 1) := by decide +kernel
theorem dX8_unpaid_2 : decode cX8_unpaid 2 = .ok (.invokevirtual 100, 3) := by decide +kernel
theorem dX8_unpaid_5 : decode cX8_unpaid 5 = .ok (.ifCond .eq 25, 3) := by decide +kernel
theorem dX8_unpaid_8 : decode cX8_unpaid 8 = .ok (.iload_n 2, 1) := by decide +kernel
theorem dX8_unpaid_9 : decode cX8_unpaid 9 = .ok (.iconst 0, 1) := by decide +kernel
theorem dX8_unpaid_10 : decode cX8_unpaid 10 = .ok (.sipush 500, 3) := by decide +kernel
theorem dX8_unpaid_13 : decode cX8_unpaid 13 = .ok (.invokestatic 73, 3) := by decide +kernel
theorem dX8_unpaid_16 : decode cX8_unpaid 16 = .ok (.ifCond .eq 14, 3) := by decide +kernel
theorem dX8_unpaid_19 : decode cX8_unpaid 19 = .ok (.iload_n 3, 1) := by decide +kernel
theorem dX8_unpaid_20 : decode cX8_unpaid 20 = .ok (.iconst 0, 1) := by decide +kernel
theorem dX8_unpaid_21 : decode cX8_unpaid 21 = .ok (.sipush 500, 3) := by decide +kernel
theorem dX8_unpaid_24 : decode cX8_unpaid 24 = .ok (.invokestatic 73, 3) := by decide +kernel
theorem dX8_unpaid_27 : decode cX8_unpaid 27 = .ok (.ifCond .ne 6, 3) := by decide +kernel
theorem dX8_unpaid_30 : decode cX8_unpaid 30 = .ok (.ldc 77, 2) := by decide +kernel
theorem dX8_unpaid_32 : decode cX8_unpaid 32 = .ok (.ireturn, 1) := by decide +kernel
theorem dX8_unpaid_33 : decode cX8_unpaid 33 = .ok (.aload_n 0, 1) := by decide +kernel
theorem dX8_unpaid_34 : decode cX8_unpaid 34 = .ok (.getfield 18, 3) := by decide +kernel
theorem dX8_unpaid_37 : decode cX8_unpaid 37 = .ok (.iload_n 1, 1) := by decide +kernel
theorem dX8_unpaid_38 : decode cX8_unpaid 38 = .ok (.aaload, 1) := by decide +kernel
theorem dX8_unpaid_39 : decode cX8_unpaid 39 = .ok (.iload_n 2, 1) := by decide +kernel
theorem dX8_unpaid_40 : decode cX8_unpaid 40 = .ok (.putfield 113, 3) := by decide +kernel
theorem dX8_unpaid_43 : decode cX8_unpaid 43 = .ok (.aload_n 0, 1) := by decide +kernel
theorem dX8_unpaid_44 : decode cX8_unpaid 44 = .ok (.getfield 18, 3) := by decide +kernel
theorem dX8_unpaid_47 : decode cX8_unpaid 47 = .ok (.iload_n 1, 1) := by decide +kernel
theorem dX8_unpaid_48 : decode cX8_unpaid 48 = .ok (.aaload, 1) := by decide +kernel
theorem dX8_unpaid_49 : decode cX8_unpaid 49 = .ok (.iload_n 3, 1) := by decide +kernel
theorem dX8_unpaid_50 : decode cX8_unpaid 50 = .ok (.putfield 230, 3) := by decide +kernel
theorem dX8_unpaid_53 : decode cX8_unpaid 53 = .ok (.iconst 1, 1) := by decide +kernel
theorem dX8_unpaid_54 : decode cX8_unpaid 54 = .ok (.ireturn, 1) := by decide +kernel
theorem dX8_walk_0 : decode cX8_walk 0 = .ok (.iload_n 1, 1) := by decide +kernel
theorem dX8_walk_1 : decode cX8_walk 1 = .ok (.ifCond .le 21, 3) := by decide +kernel
theorem dX8_walk_4 : decode cX8_walk 4 = .ok (.iload_n 1, 1) := by decide +kernel
theorem dX8_walk_5 : decode cX8_walk 5 = .ok (.aload_n 0, 1) := by decide +kernel
theorem dX8_walk_6 : decode cX8_walk 6 = .ok (.getfield 78, 3) := by decide +kernel
theorem dX8_walk_9 : decode cX8_walk 9 = .ok (.ishr, 1) := by decide +kernel
theorem dX8_walk_10 : decode cX8_walk 10 = .ok (.ifCond .ne 12, 3) := by decide +kernel
theorem dX8_walk_13 : decode cX8_walk 13 = .ok (.iload_n 1, 1) := by decide +kernel
theorem dX8_walk_14 : decode cX8_walk 14 = .ok (.invokestatic 233, 3) := by decide +kernel
theorem dX8_walk_17 : decode cX8_walk 17 = .ok (.bipush 7, 2) := by decide +kernel
theorem dX8_walk_19 : decode cX8_walk 19 = .ok (.if_icmp .le 6, 3) := by decide +kernel
theorem dX8_walk_22 : decode cX8_walk 22 = .ok (.ldc 77, 2) := by decide +kernel
theorem dX8_walk_24 : decode cX8_walk 24 = .ok (.ireturn, 1) := by decide +kernel
theorem dX8_walk_25 : decode cX8_walk 25 = .ok (.aload_n 0, 1) := by decide +kernel
theorem dX8_walk_26 : decode cX8_walk 26 = .ok (.getfield 49, 3) := by decide +kernel
theorem dX8_walk_29 : decode cX8_walk 29 = .ok (.iload_n 1, 1) := by decide +kernel
theorem dX8_walk_30 : decode cX8_walk 30 = .ok (.aload_n 0, 1) := by decide +kernel
theorem dX8_walk_31 : decode cX8_walk 31 = .ok (.getfield 18, 3) := by decide +kernel
theorem dX8_walk_34 : decode cX8_walk 34 = .ok (.invokevirtual 238, 3) := by decide +kernel
theorem dX8_walk_37 : decode cX8_walk 37 = .ok (.iload_n 2, 1) := by decide +kernel
theorem dX8_walk_38 : decode cX8_walk 38 = .ok (.ldc 222, 2) := by decide +kernel
theorem dX8_walk_40 : decode cX8_walk 40 = .ok (.if_icmp .ne 13, 3) := by decide +kernel
theorem dX8_walk_43 : decode cX8_walk 43 = .ok (.aload_n 0, 1) := by decide +kernel
theorem dX8_walk_44 : decode cX8_walk 44 = .ok (.getfield 49, 3) := by decide +kernel
theorem dX8_walk_47 : decode cX8_walk 47 = .ok (.invokevirtual 242, 3) := by decide +kernel
theorem dX8_walk_50 : decode cX8_walk 50 = .ok (.goto 11, 3) := by decide +kernel
theorem dX8_walk_53 : decode cX8_walk 53 = .ok (.aload_n 0, 1) := by decide +kernel
theorem dX8_walk_54 : decode cX8_walk 54 = .ok (.getfield 49, 3) := by decide +kernel
theorem dX8_walk_57 : decode cX8_walk 57 = .ok (.iload_n 2, 1) := by decide +kernel
theorem dX8_walk_58 : decode cX8_walk 58 = .ok (.invokevirtual 245, 3) := by decide +kernel
theorem dX8_walk_61 : decode cX8_walk 61 = .ok (.ireturn, 1) := by decide +kernel
theorem dX8_kind_0 : decode cX8_kind 0 = .ok (.aload_n 0, 1) := by decide +kernel
theorem dX8_kind_1 : decode cX8_kind 1 = .ok (.iload_n 1, 1) := by decide +kernel
theorem dX8_kind_2 : decode cX8_kind 2 = .ok (.invokevirtual 100, 3) := by decide +kernel
theorem dX8_kind_5 : decode cX8_kind 5 = .ok (.ifCond .ne 6, 3) := by decide +kernel
theorem dX8_kind_8 : decode cX8_kind 8 = .ok (.ldc 77, 2) := by decide +kernel
theorem dX8_kind_10 : decode cX8_kind 10 = .ok (.ireturn, 1) := by decide +kernel
theorem dX8_kind_11 : decode cX8_kind 11 = .ok (.aload_n 0, 1) := by decide +kernel
theorem dX8_kind_12 : decode cX8_kind 12 = .ok (.getfield 18, 3) := by decide +kernel
theorem dX8_kind_15 : decode cX8_kind 15 = .ok (.iload_n 1, 1) := by decide +kernel
theorem dX8_kind_16 : decode cX8_kind 16 = .ok (.aaload, 1) := by decide +kernel
theorem dX8_kind_17 : decode cX8_kind 17 = .ok (.invokevirtual 248, 3) := by decide +kernel
theorem dX8_kind_20 : decode cX8_kind 20 = .ok (.ireturn, 1) := by decide +kernel
theorem dX8_as_0 : decode cX8_as 0 = .ok (.aload_n 0, 1) := by decide +kernel
theorem dX8_as_1 : decode cX8_as 1 = .ok (.iload_n 1, 1) := by decide +kernel
theorem dX8_as_2 : decode cX8_as 2 = .ok (.invokevirtual 100, 3) := by decide +kernel
theorem dX8_as_5 : decode cX8_as 5 = .ok (.ifCond .eq 12, 3) := by decide +kernel
theorem dX8_as_8 : decode cX8_as 8 = .ok (.iload_n 2, 1) := by decide +kernel
theorem dX8_as_9 : decode cX8_as 9 = .ok (.iconst 0, 1) := by decide +kernel
theorem dX8_as_10 : decode cX8_as 10 = .ok (.iconst 3, 1) := by decide +kernel
theorem dX8_as_11 : decode cX8_as 11 = .ok (.invokestatic 73, 3) := by decide +kernel
theorem dX8_as_14 : decode cX8_as 14 = .ok (.ifCond .ne 6, 3) := by decide +kernel
theorem dX8_as_17 : decode cX8_as 17 = .ok (.ldc 77, 2) := by decide +kernel
theorem dX8_as_19 : decode cX8_as 19 = .ok (.ireturn, 1) := by decide +kernel
theorem dX8_as_20 : decode cX8_as 20 = .ok (.aload_n 0, 1) := by decide +kernel
theorem dX8_as_21 : decode cX8_as 21 = .ok (.getfield 18, 3) := by decide +kernel
theorem dX8_as_24 : decode cX8_as 24 = .ok (.iload_n 1, 1) := by decide +kernel
theorem dX8_as_25 : decode cX8_as 25 = .ok (.aaload, 1) := by decide +kernel
theorem dX8_as_26 : decode cX8_as 26 = .ok (.astore_n 3, 1) := by decide +kernel
theorem dX8_as_27 : decode cX8_as 27 = .ok (.aload_n 3, 1) := by decide +kernel
theorem dX8_as_28 : decode cX8_as 28 = .ok (.iload_n 2, 1) := by decide +kernel
theorem dX8_as_29 : decode cX8_as 29 = .ok (.invokevirtual 251, 3) := by decide +kernel
theorem dX8_as_32 : decode cX8_as 32 = .ok (.ifCond .eq 10, 3) := by decide +kernel
theorem dX8_as_35 : decode cX8_as 35 = .ok (.aload_n 3, 1) := by decide +kernel
theorem dX8_as_36 : decode cX8_as 36 = .ok (.getfield 82, 3) := by decide +kernel
theorem dX8_as_39 : decode cX8_as 39 = .ok (.goto 5, 3) := by decide +kernel
theorem dX8_as_42 : decode cX8_as 42 = .ok (.ldc 254, 2) := by decide +kernel
theorem dX8_as_44 : decode cX8_as 44 = .ok (.ireturn, 1) := by decide +kernel
theorem dX8_ask_0 : decode cX8_ask 0 = .ok (.aload_n 0, 1) := by decide +kernel
theorem dX8_ask_1 : decode cX8_ask 1 = .ok (.iload_n 1, 1) := by decide +kernel
theorem dX8_ask_2 : decode cX8_ask 2 = .ok (.invokevirtual 100, 3) := by decide +kernel
theorem dX8_ask_5 : decode cX8_ask 5 = .ok (.ifCond .eq 12, 3) := by decide +kernel
theorem dX8_ask_8 : decode cX8_ask 8 = .ok (.iload_n 2, 1) := by decide +kernel
theorem dX8_ask_9 : decode cX8_ask 9 = .ok (.iconst 0, 1) := by decide +kernel
theorem dX8_ask_10 : decode cX8_ask 10 = .ok (.iconst 1, 1) := by decide +kernel
theorem dX8_ask_11 : decode cX8_ask 11 = .ok (.invokestatic 73, 3) := by decide +kernel
theorem dX8_ask_14 : decode cX8_ask 14 = .ok (.ifCond .ne 6, 3) := by decide +kernel
theorem dX8_ask_17 : decode cX8_ask 17 = .ok (.ldc 77, 2) := by decide +kernel
theorem dX8_ask_19 : decode cX8_ask 19 = .ok (.ireturn, 1) := by decide +kernel
theorem dX8_ask_20 : decode cX8_ask 20 = .ok (.aload_n 0, 1) := by decide +kernel
theorem dX8_ask_21 : decode cX8_ask 21 = .ok (.getfield 56, 3) := by decide +kernel
theorem dX8_ask_24 : decode cX8_ask 24 = .ok (.iconst 0, 1) := by decide +kernel
theorem dX8_ask_25 : decode cX8_ask 25 = .ok (.putfield 255, 3) := by decide +kernel
theorem dX8_ask_28 : decode cX8_ask 28 = .ok (.aload_n 0, 1) := by decide +kernel
theorem dX8_ask_29 : decode cX8_ask 29 = .ok (.getfield 18, 3) := by decide +kernel
theorem dX8_ask_32 : decode cX8_ask 32 = .ok (.iload_n 1, 1) := by decide +kernel
theorem dX8_ask_33 : decode cX8_ask 33 = .ok (.aaload, 1) := by decide +kernel
theorem dX8_ask_34 : decode cX8_ask 34 = .ok (.astore_n 3, 1) := by decide +kernel
theorem dX8_ask_35 : decode cX8_ask 35 = .ok (.iload_n 2, 1) := by decide +kernel
theorem dX8_ask_36 : decode cX8_ask 36 = .ok (.ifCond .ne 14, 3) := by decide +kernel
theorem dX8_ask_39 : decode cX8_ask 39 = .ok (.aload_n 0, 1) := by decide +kernel
theorem dX8_ask_40 : decode cX8_ask 40 = .ok (.getfield 56, 3) := by decide +kernel
theorem dX8_ask_43 : decode cX8_ask 43 = .ok (.aload_n 3, 1) := by decide +kernel
theorem dX8_ask_44 : decode cX8_ask 44 = .ok (.invokevirtual 258, 3) := by decide +kernel
theorem dX8_ask_47 : decode cX8_ask 47 = .ok (.goto 11, 3) := by decide +kernel
theorem dX8_ask_50 : decode cX8_ask 50 = .ok (.aload_n 0, 1) := by decide +kernel
theorem dX8_ask_51 : decode cX8_ask 51 = .ok (.getfield 56, 3) := by decide +kernel
theorem dX8_ask_54 : decode cX8_ask 54 = .ok (.aload_n 3, 1) := by decide +kernel
theorem dX8_ask_55 : decode cX8_ask 55 = .ok (.invokevirtual 262, 3) := by decide +kernel
theorem dX8_ask_58 : decode cX8_ask 58 = .ok (.ireturn, 1) := by decide +kernel
theorem dX8_trace_0 : decode cX8_trace 0 = .ok (.iload_n 1, 1) := by decide +kernel
theorem dX8_trace_1 : decode cX8_trace 1 = .ok (.iconst 0, 1) := by decide +kernel
theorem dX8_trace_2 : decode cX8_trace 2 = .ok (.aload_n 0, 1) := by decide +kernel
theorem dX8_trace_3 : decode cX8_trace 3 = .ok (.getfield 56, 3) := by decide +kernel
theorem dX8_trace_6 : decode cX8_trace 6 = .ok (.getfield 255, 3) := by decide +kernel
theorem dX8_trace_9 : decode cX8_trace 9 = .ok (.iconst 1, 1) := by decide +kernel
theorem dX8_trace_10 : decode cX8_trace 10 = .ok (.isub, 1) := by decide +kernel
theorem dX8_trace_11 : decode cX8_trace 11 = .ok (.invokestatic 73, 3) := by decide +kernel
theorem dX8_trace_14 : decode cX8_trace 14 = .ok (.ifCond .eq 15, 3) := by decide +kernel
theorem dX8_trace_17 : decode cX8_trace 17 = .ok (.aload_n 0, 1) := by decide +kernel
theorem dX8_trace_18 : decode cX8_trace 18 = .ok (.getfield 56, 3) := by decide +kernel
theorem dX8_trace_21 : decode cX8_trace 21 = .ok (.getfield 265, 3) := by decide +kernel
theorem dX8_trace_24 : decode cX8_trace 24 = .ok (.iload_n 1, 1) := by decide +kernel
theorem dX8_trace_25 : decode cX8_trace 25 = .ok (.iaload, 1) := by decide +kernel
theorem dX8_trace_26 : decode cX8_trace 26 = .ok (.goto 5, 3) := by decide +kernel
theorem dX8_trace_29 : decode cX8_trace 29 = .ok (.ldc 222, 2) := by decide +kernel
theorem dX8_trace_31 : decode cX8_trace 31 = .ok (.ireturn, 1) := by decide +kernel
theorem dX8_count_0 : decode cX8_count 0 = .ok (.iload_n 1, 1) := by decide +kernel
theorem dX8_count_1 : decode cX8_count 1 = .ok (.tableswitch 117 0 9 #[55, 60, 65, 70, 75, 80, 88, 96, 101, 109], 55) := by decide +kernel
theorem dX8_count_56 : decode cX8_count 56 = .ok (.aload_n 0, 1) := by decide +kernel
theorem dX8_count_57 : decode cX8_count 57 = .ok (.getfield 78, 3) := by decide +kernel
theorem dX8_count_60 : decode cX8_count 60 = .ok (.ireturn, 1) := by decide +kernel
theorem dX8_count_61 : decode cX8_count 61 = .ok (.aload_n 0, 1) := by decide +kernel
theorem dX8_count_62 : decode cX8_count 62 = .ok (.getfield 69, 3) := by decide +kernel
theorem dX8_count_65 : decode cX8_count 65 = .ok (.ireturn, 1) := by decide +kernel
theorem dX8_count_66 : decode cX8_count 66 = .ok (.aload_n 0, 1) := by decide +kernel
theorem dX8_count_67 : decode cX8_count 67 = .ok (.invokevirtual 269, 3) := by decide +kernel
theorem dX8_count_70 : decode cX8_count 70 = .ok (.ireturn, 1) := by decide +kernel
theorem dX8_count_71 : decode cX8_count 71 = .ok (.aload_n 0, 1) := by decide +kernel
theorem dX8_count_72 : decode cX8_count 72 = .ok (.getfield 272, 3) := by decide +kernel
theorem dX8_count_75 : decode cX8_count 75 = .ok (.ireturn, 1) := by decide +kernel
theorem dX8_count_76 : decode cX8_count 76 = .ok (.aload_n 0, 1) := by decide +kernel
theorem dX8_count_77 : decode cX8_count 77 = .ok (.getfield 116, 3) := by decide +kernel
theorem dX8_count_80 : decode cX8_count 80 = .ok (.ireturn, 1) := by decide +kernel
theorem dX8_count_81 : decode cX8_count 81 = .ok (.aload_n 0, 1) := by decide +kernel
theorem dX8_count_82 : decode cX8_count 82 = .ok (.getfield 25, 3) := by decide +kernel
theorem dX8_count_85 : decode cX8_count 85 = .ok (.getfield 183, 3) := by decide +kernel
theorem dX8_count_88 : decode cX8_count 88 = .ok (.ireturn, 1) := by decide +kernel
theorem dX8_count_89 : decode cX8_count 89 = .ok (.aload_n 0, 1) := by decide +kernel
theorem dX8_count_90 : decode cX8_count 90 = .ok (.getfield 25, 3) := by decide +kernel
theorem dX8_count_93 : decode cX8_count 93 = .ok (.getfield 275, 3) := by decide +kernel
theorem dX8_count_96 : decode cX8_count 96 = .ok (.ireturn, 1) := by decide +kernel
theorem dX8_count_97 : decode cX8_count 97 = .ok (.aload_n 0, 1) := by decide +kernel
theorem dX8_count_98 : decode cX8_count 98 = .ok (.getfield 161, 3) := by decide +kernel
theorem dX8_count_101 : decode cX8_count 101 = .ok (.ireturn, 1) := by decide +kernel
theorem dX8_count_102 : decode cX8_count 102 = .ok (.aload_n 0, 1) := by decide +kernel
theorem dX8_count_103 : decode cX8_count 103 = .ok (.getfield 25, 3) := by decide +kernel
theorem dX8_count_106 : decode cX8_count 106 = .ok (.getfield 149, 3) := by decide +kernel
theorem dX8_count_109 : decode cX8_count 109 = .ok (.ireturn, 1) := by decide +kernel
theorem dX8_count_110 : decode cX8_count 110 = .ok (.aload_n 0, 1) := by decide +kernel
theorem dX8_count_111 : decode cX8_count 111 = .ok (.getfield 25, 3) := by decide +kernel
theorem dX8_count_114 : decode cX8_count 114 = .ok (.getfield 223, 3) := by decide +kernel
theorem dX8_count_117 : decode cX8_count 117 = .ok (.ireturn, 1) := by decide +kernel
theorem dX8_count_118 : decode cX8_count 118 = .ok (.ldc 77, 2) := by decide +kernel
theorem dX8_count_120 : decode cX8_count 120 = .ok (.ireturn, 1) := by decide +kernel
theorem dX8_within_0 : decode cX8_within 0 = .ok (.iload_n 0, 1) := by decide +kernel
theorem dX8_within_1 : decode cX8_within 1 = .ok (.iload_n 1, 1) := by decide +kernel
theorem dX8_within_2 : decode cX8_within 2 = .ok (.if_icmp .lt 12, 3) := by decide +kernel
theorem dX8_within_5 : decode cX8_within 5 = .ok (.iload_n 0, 1) := by decide +kernel
theorem dX8_within_6 : decode cX8_within 6 = .ok (.iload_n 2, 1) := by decide +kernel
theorem dX8_within_7 : decode cX8_within 7 = .ok (.if_icmp .gt 7, 3) := by decide +kernel
theorem dX8_within_10 : decode cX8_within 10 = .ok (.iconst 1, 1) := by decide +kernel
theorem dX8_within_11 : decode cX8_within 11 = .ok (.goto 4, 3) := by decide +kernel
theorem dX8_within_14 : decode cX8_within 14 = .ok (.iconst 0, 1) := by decide +kernel
theorem dX8_within_15 : decode cX8_within 15 = .ok (.ireturn, 1) := by decide +kernel
theorem dX8_isStretch_0 : decode cX8_isStretch 0 = .ok (.iload_n 1, 1) := by decide +kernel
theorem dX8_isStretch_1 : decode cX8_isStretch 1 = .ok (.iconst 0, 1) := by decide +kernel
theorem dX8_isStretch_2 : decode cX8_isStretch 2 = .ok (.aload_n 0, 1) := by decide +kernel
theorem dX8_isStretch_3 : decode cX8_isStretch 3 = .ok (.getfield 78, 3) := by decide +kernel
theorem dX8_isStretch_6 : decode cX8_isStretch 6 = .ok (.iconst 1, 1) := by decide +kernel
theorem dX8_isStretch_7 : decode cX8_isStretch 7 = .ok (.isub, 1) := by decide +kernel
theorem dX8_isStretch_8 : decode cX8_isStretch 8 = .ok (.invokestatic 73, 3) := by decide +kernel
theorem dX8_isStretch_11 : decode cX8_isStretch 11 = .ok (.ireturn, 1) := by decide +kernel
theorem dX8_isPlace_0 : decode cX8_isPlace 0 = .ok (.iload_n 1, 1) := by decide +kernel
theorem dX8_isPlace_1 : decode cX8_isPlace 1 = .ok (.ldc 222, 2) := by decide +kernel
theorem dX8_isPlace_3 : decode cX8_isPlace 3 = .ok (.if_icmp .eq 11, 3) := by decide +kernel
theorem dX8_isPlace_6 : decode cX8_isPlace 6 = .ok (.aload_n 0, 1) := by decide +kernel
theorem dX8_isPlace_7 : decode cX8_isPlace 7 = .ok (.iload_n 1, 1) := by decide +kernel
theorem dX8_isPlace_8 : decode cX8_isPlace 8 = .ok (.invokevirtual 100, 3) := by decide +kernel
theorem dX8_isPlace_11 : decode cX8_isPlace 11 = .ok (.ifCond .eq 7, 3) := by decide +kernel
theorem dX8_isPlace_14 : decode cX8_isPlace 14 = .ok (.iconst 1, 1) := by decide +kernel
theorem dX8_isPlace_15 : decode cX8_isPlace 15 = .ok (.goto 4, 3) := by decide +kernel
theorem dX8_isPlace_18 : decode cX8_isPlace 18 = .ok (.iconst 0, 1) := by decide +kernel
theorem dX8_isPlace_19 : decode cX8_isPlace 19 = .ok (.ireturn, 1) := by decide +kernel
theorem dX8_chairsToTake_0 : decode cX8_chairsToTake 0 = .ok (.iload_n 1, 1) := by decide +kernel
theorem dX8_chairsToTake_1 : decode cX8_chairsToTake 1 = .ok (.ldc 222, 2) := by decide +kernel
theorem dX8_chairsToTake_3 : decode cX8_chairsToTake 3 = .ok (.if_icmp .ne 10, 3) := by decide +kernel
theorem dX8_chairsToTake_6 : decode cX8_chairsToTake 6 = .ok (.aload_n 0, 1) := by decide +kernel
theorem dX8_chairsToTake_7 : decode cX8_chairsToTake 7 = .ok (.getfield 69, 3) := by decide +kernel
theorem dX8_chairsToTake_10 : decode cX8_chairsToTake 10 = .ok (.goto 12, 3) := by decide +kernel
theorem dX8_chairsToTake_13 : decode cX8_chairsToTake 13 = .ok (.aload_n 0, 1) := by decide +kernel
theorem dX8_chairsToTake_14 : decode cX8_chairsToTake 14 = .ok (.getfield 18, 3) := by decide +kernel
theorem dX8_chairsToTake_17 : decode cX8_chairsToTake 17 = .ok (.iload_n 1, 1) := by decide +kernel
theorem dX8_chairsToTake_18 : decode cX8_chairsToTake 18 = .ok (.aaload, 1) := by decide +kernel
theorem dX8_chairsToTake_19 : decode cX8_chairsToTake 19 = .ok (.invokevirtual 106, 3) := by decide +kernel
theorem dX8_chairsToTake_22 : decode cX8_chairsToTake 22 = .ok (.ireturn, 1) := by decide +kernel
theorem dX8_addChairs_0 : decode cX8_addChairs 0 = .ok (.iload_n 1, 1) := by decide +kernel
theorem dX8_addChairs_1 : decode cX8_addChairs 1 = .ok (.ldc 222, 2) := by decide +kernel
theorem dX8_addChairs_3 : decode cX8_addChairs 3 = .ok (.if_icmp .ne 18, 3) := by decide +kernel
theorem dX8_addChairs_6 : decode cX8_addChairs 6 = .ok (.aload_n 0, 1) := by decide +kernel
theorem dX8_addChairs_7 : decode cX8_addChairs 7 = .ok (.dup, 1) := by decide +kernel
theorem dX8_addChairs_8 : decode cX8_addChairs 8 = .ok (.getfield 69, 3) := by decide +kernel
theorem dX8_addChairs_11 : decode cX8_addChairs 11 = .ok (.iload_n 2, 1) := by decide +kernel
theorem dX8_addChairs_12 : decode cX8_addChairs 12 = .ok (.iadd, 1) := by decide +kernel
theorem dX8_addChairs_13 : decode cX8_addChairs 13 = .ok (.putfield 69, 3) := by decide +kernel
theorem dX8_addChairs_16 : decode cX8_addChairs 16 = .ok (.aload_n 0, 1) := by decide +kernel
theorem dX8_addChairs_17 : decode cX8_addChairs 17 = .ok (.getfield 69, 3) := by decide +kernel
theorem dX8_addChairs_20 : decode cX8_addChairs 20 = .ok (.ireturn, 1) := by decide +kernel
theorem dX8_addChairs_21 : decode cX8_addChairs 21 = .ok (.aload_n 0, 1) := by decide +kernel
theorem dX8_addChairs_22 : decode cX8_addChairs 22 = .ok (.getfield 18, 3) := by decide +kernel
theorem dX8_addChairs_25 : decode cX8_addChairs 25 = .ok (.iload_n 1, 1) := by decide +kernel
theorem dX8_addChairs_26 : decode cX8_addChairs 26 = .ok (.aaload, 1) := by decide +kernel
theorem dX8_addChairs_27 : decode cX8_addChairs 27 = .ok (.dup, 1) := by decide +kernel
theorem dX8_addChairs_28 : decode cX8_addChairs 28 = .ok (.getfield 103, 3) := by decide +kernel
theorem dX8_addChairs_31 : decode cX8_addChairs 31 = .ok (.iload_n 2, 1) := by decide +kernel
theorem dX8_addChairs_32 : decode cX8_addChairs 32 = .ok (.iadd, 1) := by decide +kernel
theorem dX8_addChairs_33 : decode cX8_addChairs 33 = .ok (.putfield 103, 3) := by decide +kernel
theorem dX8_addChairs_36 : decode cX8_addChairs 36 = .ok (.aload_n 0, 1) := by decide +kernel
theorem dX8_addChairs_37 : decode cX8_addChairs 37 = .ok (.getfield 18, 3) := by decide +kernel
theorem dX8_addChairs_40 : decode cX8_addChairs 40 = .ok (.iload_n 1, 1) := by decide +kernel
theorem dX8_addChairs_41 : decode cX8_addChairs 41 = .ok (.aaload, 1) := by decide +kernel
theorem dX8_addChairs_42 : decode cX8_addChairs 42 = .ok (.getfield 103, 3) := by decide +kernel
theorem dX8_addChairs_45 : decode cX8_addChairs 45 = .ok (.ireturn, 1) := by decide +kernel
theorem dX8_allStanding_0 : decode cX8_allStanding 0 = .ok (.iconst 0, 1) := by decide +kernel
theorem dX8_allStanding_1 : decode cX8_allStanding 1 = .ok (.istore_n 1, 1) := by decide +kernel
theorem dX8_allStanding_2 : decode cX8_allStanding 2 = .ok (.iconst 0, 1) := by decide +kernel
theorem dX8_allStanding_3 : decode cX8_allStanding 3 = .ok (.istore_n 2, 1) := by decide +kernel
theorem dX8_allStanding_4 : decode cX8_allStanding 4 = .ok (.iload_n 2, 1) := by decide +kernel
theorem dX8_allStanding_5 : decode cX8_allStanding 5 = .ok (.aload_n 0, 1) := by decide +kernel
theorem dX8_allStanding_6 : decode cX8_allStanding 6 = .ok (.getfield 78, 3) := by decide +kernel
theorem dX8_allStanding_9 : decode cX8_allStanding 9 = .ok (.if_icmp .ge 21, 3) := by decide +kernel
theorem dX8_allStanding_12 : decode cX8_allStanding 12 = .ok (.iload_n 1, 1) := by decide +kernel
theorem dX8_allStanding_13 : decode cX8_allStanding 13 = .ok (.aload_n 0, 1) := by decide +kernel
theorem dX8_allStanding_14 : decode cX8_allStanding 14 = .ok (.getfield 18, 3) := by decide +kernel
theorem dX8_allStanding_17 : decode cX8_allStanding 17 = .ok (.iload_n 2, 1) := by decide +kernel
theorem dX8_allStanding_18 : decode cX8_allStanding 18 = .ok (.aaload, 1) := by decide +kernel
theorem dX8_allStanding_19 : decode cX8_allStanding 19 = .ok (.getfield 103, 3) := by decide +kernel
theorem dX8_allStanding_22 : decode cX8_allStanding 22 = .ok (.iadd, 1) := by decide +kernel
theorem dX8_allStanding_23 : decode cX8_allStanding 23 = .ok (.istore_n 1, 1) := by decide +kernel
theorem dX8_allStanding_24 : decode cX8_allStanding 24 = .ok (.iinc 2 1, 3) := by decide +kernel
theorem dX8_allStanding_27 : decode cX8_allStanding 27 = .ok (.goto (-23), 3) := by decide +kernel
theorem dX8_allStanding_30 : decode cX8_allStanding 30 = .ok (.iload_n 1, 1) := by decide +kernel
theorem dX8_allStanding_31 : decode cX8_allStanding 31 = .ok (.ireturn, 1) := by decide +kernel
theorem dX8_takeByTide_0 : decode cX8_takeByTide 0 = .ok (.iconst 0, 1) := by decide +kernel
theorem dX8_takeByTide_1 : decode cX8_takeByTide 1 = .ok (.istore_n 2, 1) := by decide +kernel
theorem dX8_takeByTide_2 : decode cX8_takeByTide 2 = .ok (.iload_n 2, 1) := by decide +kernel
theorem dX8_takeByTide_3 : decode cX8_takeByTide 3 = .ok (.aload_n 0, 1) := by decide +kernel
theorem dX8_takeByTide_4 : decode cX8_takeByTide 4 = .ok (.getfield 25, 3) := by decide +kernel
theorem dX8_takeByTide_7 : decode cX8_takeByTide 7 = .ok (.getfield 183, 3) := by decide +kernel
theorem dX8_takeByTide_10 : decode cX8_takeByTide 10 = .ok (.if_icmp .ge 40, 3) := by decide +kernel
theorem dX8_takeByTide_13 : decode cX8_takeByTide 13 = .ok (.aload_n 0, 1) := by decide +kernel
theorem dX8_takeByTide_14 : decode cX8_takeByTide 14 = .ok (.getfield 25, 3) := by decide +kernel
theorem dX8_takeByTide_17 : decode cX8_takeByTide 17 = .ok (.getfield 278, 3) := by decide +kernel
theorem dX8_takeByTide_20 : decode cX8_takeByTide 20 = .ok (.iload_n 2, 1) := by decide +kernel
theorem dX8_takeByTide_21 : decode cX8_takeByTide 21 = .ok (.aaload, 1) := by decide +kernel
theorem dX8_takeByTide_22 : decode cX8_takeByTide 22 = .ok (.astore_n 3, 1) := by decide +kernel
theorem dX8_takeByTide_23 : decode cX8_takeByTide 23 = .ok (.aload_n 0, 1) := by decide +kernel
theorem dX8_takeByTide_24 : decode cX8_takeByTide 24 = .ok (.getfield 18, 3) := by decide +kernel
theorem dX8_takeByTide_27 : decode cX8_takeByTide 27 = .ok (.aload_n 3, 1) := by decide +kernel
theorem dX8_takeByTide_28 : decode cX8_takeByTide 28 = .ok (.getfield 133, 3) := by decide +kernel
theorem dX8_takeByTide_31 : decode cX8_takeByTide 31 = .ok (.aaload, 1) := by decide +kernel
theorem dX8_takeByTide_32 : decode cX8_takeByTide 32 = .ok (.getfield 82, 3) := by decide +kernel
theorem dX8_takeByTide_35 : decode cX8_takeByTide 35 = .ok (.iload_n 1, 1) := by decide +kernel
theorem dX8_takeByTide_36 : decode cX8_takeByTide 36 = .ok (.if_icmp .gt 8, 3) := by decide +kernel
theorem dX8_takeByTide_39 : decode cX8_takeByTide 39 = .ok (.aload_n 0, 1) := by decide +kernel
theorem dX8_takeByTide_40 : decode cX8_takeByTide 40 = .ok (.aload_n 3, 1) := by decide +kernel
theorem dX8_takeByTide_41 : decode cX8_takeByTide 41 = .ok (.invokevirtual 282, 3) := by decide +kernel
theorem dX8_takeByTide_44 : decode cX8_takeByTide 44 = .ok (.iinc 2 1, 3) := by decide +kernel
theorem dX8_takeByTide_47 : decode cX8_takeByTide 47 = .ok (.goto (-45), 3) := by decide +kernel
theorem dX8_takeByTide_50 : decode cX8_takeByTide 50 = .ok (.iconst 0, 1) := by decide +kernel
theorem dX8_takeByTide_51 : decode cX8_takeByTide 51 = .ok (.istore_n 2, 1) := by decide +kernel
theorem dX8_takeByTide_52 : decode cX8_takeByTide 52 = .ok (.iload_n 2, 1) := by decide +kernel
theorem dX8_takeByTide_53 : decode cX8_takeByTide 53 = .ok (.aload_n 0, 1) := by decide +kernel
theorem dX8_takeByTide_54 : decode cX8_takeByTide 54 = .ok (.getfield 78, 3) := by decide +kernel
theorem dX8_takeByTide_57 : decode cX8_takeByTide 57 = .ok (.if_icmp .ge 42, 3) := by decide +kernel
theorem dX8_takeByTide_60 : decode cX8_takeByTide 60 = .ok (.aload_n 0, 1) := by decide +kernel
theorem dX8_takeByTide_61 : decode cX8_takeByTide 61 = .ok (.getfield 18, 3) := by decide +kernel
theorem dX8_takeByTide_64 : decode cX8_takeByTide 64 = .ok (.iload_n 2, 1) := by decide +kernel
theorem dX8_takeByTide_65 : decode cX8_takeByTide 65 = .ok (.aaload, 1) := by decide +kernel
theorem dX8_takeByTide_66 : decode cX8_takeByTide 66 = .ok (.astore_n 3, 1) := by decide +kernel
theorem dX8_takeByTide_67 : decode cX8_takeByTide 67 = .ok (.aload_n 3, 1) := by decide +kernel
theorem dX8_takeByTide_68 : decode cX8_takeByTide 68 = .ok (.getfield 82, 3) := by decide +kernel
theorem dX8_takeByTide_71 : decode cX8_takeByTide 71 = .ok (.iload_n 1, 1) := by decide +kernel
theorem dX8_takeByTide_72 : decode cX8_takeByTide 72 = .ok (.if_icmp .gt 21, 3) := by decide +kernel
theorem dX8_takeByTide_75 : decode cX8_takeByTide 75 = .ok (.aload_n 0, 1) := by decide +kernel
theorem dX8_takeByTide_76 : decode cX8_takeByTide 76 = .ok (.dup, 1) := by decide +kernel
theorem dX8_takeByTide_77 : decode cX8_takeByTide 77 = .ok (.getfield 272, 3) := by decide +kernel
theorem dX8_takeByTide_80 : decode cX8_takeByTide 80 = .ok (.aload_n 3, 1) := by decide +kernel
theorem dX8_takeByTide_81 : decode cX8_takeByTide 81 = .ok (.getfield 103, 3) := by decide +kernel
theorem dX8_takeByTide_84 : decode cX8_takeByTide 84 = .ok (.iadd, 1) := by decide +kernel
theorem dX8_takeByTide_85 : decode cX8_takeByTide 85 = .ok (.putfield 272, 3) := by decide +kernel
theorem dX8_takeByTide_88 : decode cX8_takeByTide 88 = .ok (.aload_n 3, 1) := by decide +kernel
theorem dX8_takeByTide_89 : decode cX8_takeByTide 89 = .ok (.iconst 0, 1) := by decide +kernel
theorem dX8_takeByTide_90 : decode cX8_takeByTide 90 = .ok (.putfield 103, 3) := by decide +kernel
theorem dX8_takeByTide_93 : decode cX8_takeByTide 93 = .ok (.iinc 2 1, 3) := by decide +kernel
theorem dX8_takeByTide_96 : decode cX8_takeByTide 96 = .ok (.goto (-44), 3) := by decide +kernel
theorem dX8_takeByTide_99 : decode cX8_takeByTide 99 = .ok (.return_, 1) := by decide +kernel
theorem dX8_endAllByWind_0 : decode cX8_endAllByWind 0 = .ok (.iconst 0, 1) := by decide +kernel
theorem dX8_endAllByWind_1 : decode cX8_endAllByWind 1 = .ok (.istore_n 1, 1) := by decide +kernel
theorem dX8_endAllByWind_2 : decode cX8_endAllByWind 2 = .ok (.iload_n 1, 1) := by decide +kernel
theorem dX8_endAllByWind_3 : decode cX8_endAllByWind 3 = .ok (.aload_n 0, 1) := by decide +kernel
theorem dX8_endAllByWind_4 : decode cX8_endAllByWind 4 = .ok (.getfield 25, 3) := by decide +kernel
theorem dX8_endAllByWind_7 : decode cX8_endAllByWind 7 = .ok (.getfield 183, 3) := by decide +kernel
theorem dX8_endAllByWind_10 : decode cX8_endAllByWind 10 = .ok (.if_icmp .ge 50, 3) := by decide +kernel
theorem dX8_endAllByWind_13 : decode cX8_endAllByWind 13 = .ok (.aload_n 0, 1) := by decide +kernel
theorem dX8_endAllByWind_14 : decode cX8_endAllByWind 14 = .ok (.getfield 25, 3) := by decide +kernel
theorem dX8_endAllByWind_17 : decode cX8_endAllByWind 17 = .ok (.getfield 278, 3) := by decide +kernel
theorem dX8_endAllByWind_20 : decode cX8_endAllByWind 20 = .ok (.iload_n 1, 1) := by decide +kernel
theorem dX8_endAllByWind_21 : decode cX8_endAllByWind 21 = .ok (.aaload, 1) := by decide +kernel
theorem dX8_endAllByWind_22 : decode cX8_endAllByWind 22 = .ok (.astore_n 2, 1) := by decide +kernel
theorem dX8_endAllByWind_23 : decode cX8_endAllByWind 23 = .ok (.aload_n 0, 1) := by decide +kernel
theorem dX8_endAllByWind_24 : decode cX8_endAllByWind 24 = .ok (.getfield 25, 3) := by decide +kernel
theorem dX8_endAllByWind_27 : decode cX8_endAllByWind 27 = .ok (.dup, 1) := by decide +kernel
theorem dX8_endAllByWind_28 : decode cX8_endAllByWind 28 = .ok (.getfield 223, 3) := by decide +kernel
theorem dX8_endAllByWind_31 : decode cX8_endAllByWind 31 = .ok (.aload_n 2, 1) := by decide +kernel
theorem dX8_endAllByWind_32 : decode cX8_endAllByWind 32 = .ok (.getfield 145, 3) := by decide +kernel
theorem dX8_endAllByWind_35 : decode cX8_endAllByWind 35 = .ok (.aload_n 2, 1) := by decide +kernel
theorem dX8_endAllByWind_36 : decode cX8_endAllByWind 36 = .ok (.getfield 139, 3) := by decide +kernel
theorem dX8_endAllByWind_39 : decode cX8_endAllByWind 39 = .ok (.imul, 1) := by decide +kernel
theorem dX8_endAllByWind_40 : decode cX8_endAllByWind 40 = .ok (.aload_n 2, 1) := by decide +kernel
theorem dX8_endAllByWind_41 : decode cX8_endAllByWind 41 = .ok (.getfield 142, 3) := by decide +kernel
theorem dX8_endAllByWind_44 : decode cX8_endAllByWind 44 = .ok (.imul, 1) := by decide +kernel
theorem dX8_endAllByWind_45 : decode cX8_endAllByWind 45 = .ok (.iadd, 1) := by decide +kernel
theorem dX8_endAllByWind_46 : decode cX8_endAllByWind 46 = .ok (.putfield 223, 3) := by decide +kernel
theorem dX8_endAllByWind_49 : decode cX8_endAllByWind 49 = .ok (.aload_n 0, 1) := by decide +kernel
theorem dX8_endAllByWind_50 : decode cX8_endAllByWind 50 = .ok (.aload_n 2, 1) := by decide +kernel
theorem dX8_endAllByWind_51 : decode cX8_endAllByWind 51 = .ok (.invokevirtual 282, 3) := by decide +kernel
theorem dX8_endAllByWind_54 : decode cX8_endAllByWind 54 = .ok (.iinc 1 1, 3) := by decide +kernel
theorem dX8_endAllByWind_57 : decode cX8_endAllByWind 57 = .ok (.goto (-55), 3) := by decide +kernel
theorem dX8_endAllByWind_60 : decode cX8_endAllByWind 60 = .ok (.return_, 1) := by decide +kernel
theorem dX8_payBackRain_0 : decode cX8_payBackRain 0 = .ok (.aload_n 0, 1) := by decide +kernel
theorem dX8_payBackRain_1 : decode cX8_payBackRain 1 = .ok (.getfield 39, 3) := by decide +kernel
theorem dX8_payBackRain_4 : decode cX8_payBackRain 4 = .ok (.iload_n 1, 1) := by decide +kernel
theorem dX8_payBackRain_5 : decode cX8_payBackRain 5 = .ok (.invokevirtual 286, 3) := by decide +kernel
theorem dX8_payBackRain_8 : decode cX8_payBackRain 8 = .ok (.istore_n 2, 1) := by decide +kernel
theorem dX8_payBackRain_9 : decode cX8_payBackRain 9 = .ok (.iconst 0, 1) := by decide +kernel
theorem dX8_payBackRain_10 : decode cX8_payBackRain 10 = .ok (.istore_n 3, 1) := by decide +kernel
theorem dX8_payBackRain_11 : decode cX8_payBackRain 11 = .ok (.iload_n 3, 1) := by decide +kernel
theorem dX8_payBackRain_12 : decode cX8_payBackRain 12 = .ok (.aload_n 0, 1) := by decide +kernel
theorem dX8_payBackRain_13 : decode cX8_payBackRain 13 = .ok (.getfield 25, 3) := by decide +kernel
theorem dX8_payBackRain_16 : decode cX8_payBackRain 16 = .ok (.getfield 183, 3) := by decide +kernel
theorem dX8_payBackRain_19 : decode cX8_payBackRain 19 = .ok (.if_icmp .ge 48, 3) := by decide +kernel
theorem dX8_payBackRain_22 : decode cX8_payBackRain 22 = .ok (.aload_n 0, 1) := by decide +kernel
theorem dX8_payBackRain_23 : decode cX8_payBackRain 23 = .ok (.getfield 25, 3) := by decide +kernel
theorem dX8_payBackRain_26 : decode cX8_payBackRain 26 = .ok (.getfield 278, 3) := by decide +kernel
theorem dX8_payBackRain_29 : decode cX8_payBackRain 29 = .ok (.iload_n 3, 1) := by decide +kernel
theorem dX8_payBackRain_30 : decode cX8_payBackRain 30 = .ok (.aaload, 1) := by decide +kernel
theorem dX8_payBackRain_31 : decode cX8_payBackRain 31 = .ok (.astore 4, 2) := by decide +kernel
theorem dX8_payBackRain_33 : decode cX8_payBackRain 33 = .ok (.aload_n 0, 1) := by decide +kernel
theorem dX8_payBackRain_34 : decode cX8_payBackRain 34 = .ok (.getfield 25, 3) := by decide +kernel
theorem dX8_payBackRain_37 : decode cX8_payBackRain 37 = .ok (.dup, 1) := by decide +kernel
theorem dX8_payBackRain_38 : decode cX8_payBackRain 38 = .ok (.getfield 223, 3) := by decide +kernel
theorem dX8_payBackRain_41 : decode cX8_payBackRain 41 = .ok (.aload 4, 2) := by decide +kernel
theorem dX8_payBackRain_43 : decode cX8_payBackRain 43 = .ok (.getfield 145, 3) := by decide +kernel
theorem dX8_payBackRain_46 : decode cX8_payBackRain 46 = .ok (.aload 4, 2) := by decide +kernel
theorem dX8_payBackRain_48 : decode cX8_payBackRain 48 = .ok (.getfield 139, 3) := by decide +kernel
theorem dX8_payBackRain_51 : decode cX8_payBackRain 51 = .ok (.imul, 1) := by decide +kernel
theorem dX8_payBackRain_52 : decode cX8_payBackRain 52 = .ok (.iload_n 2, 1) := by decide +kernel
theorem dX8_payBackRain_53 : decode cX8_payBackRain 53 = .ok (.imul, 1) := by decide +kernel
theorem dX8_payBackRain_54 : decode cX8_payBackRain 54 = .ok (.bipush 100, 2) := by decide +kernel
theorem dX8_payBackRain_56 : decode cX8_payBackRain 56 = .ok (.idiv, 1) := by decide +kernel
theorem dX8_payBackRain_57 : decode cX8_payBackRain 57 = .ok (.iadd, 1) := by decide +kernel
theorem dX8_payBackRain_58 : decode cX8_payBackRain 58 = .ok (.putfield 223, 3) := by decide +kernel
theorem dX8_payBackRain_61 : decode cX8_payBackRain 61 = .ok (.iinc 3 1, 3) := by decide +kernel
theorem dX8_payBackRain_64 : decode cX8_payBackRain 64 = .ok (.goto (-53), 3) := by decide +kernel
theorem dX8_payBackRain_67 : decode cX8_payBackRain 67 = .ok (.return_, 1) := by decide +kernel
theorem dX8_wearAll_0 : decode cX8_wearAll 0 = .ok (.iconst 0, 1) := by decide +kernel
theorem dX8_wearAll_1 : decode cX8_wearAll 1 = .ok (.istore_n 2, 1) := by decide +kernel
theorem dX8_wearAll_2 : decode cX8_wearAll 2 = .ok (.iload_n 2, 1) := by decide +kernel
theorem dX8_wearAll_3 : decode cX8_wearAll 3 = .ok (.aload_n 0, 1) := by decide +kernel
theorem dX8_wearAll_4 : decode cX8_wearAll 4 = .ok (.getfield 78, 3) := by decide +kernel
theorem dX8_wearAll_7 : decode cX8_wearAll 7 = .ok (.if_icmp .ge 74, 3) := by decide +kernel
theorem dX8_wearAll_10 : decode cX8_wearAll 10 = .ok (.aload_n 0, 1) := by decide +kernel
theorem dX8_wearAll_11 : decode cX8_wearAll 11 = .ok (.getfield 18, 3) := by decide +kernel
theorem dX8_wearAll_14 : decode cX8_wearAll 14 = .ok (.iload_n 2, 1) := by decide +kernel
theorem dX8_wearAll_15 : decode cX8_wearAll 15 = .ok (.aaload, 1) := by decide +kernel
theorem dX8_wearAll_16 : decode cX8_wearAll 16 = .ok (.astore_n 3, 1) := by decide +kernel
theorem dX8_wearAll_17 : decode cX8_wearAll 17 = .ok (.aload_n 3, 1) := by decide +kernel
theorem dX8_wearAll_18 : decode cX8_wearAll 18 = .ok (.dup, 1) := by decide +kernel
theorem dX8_wearAll_19 : decode cX8_wearAll 19 = .ok (.getfield 110, 3) := by decide +kernel
theorem dX8_wearAll_22 : decode cX8_wearAll 22 = .ok (.iload_n 1, 1) := by decide +kernel
theorem dX8_wearAll_23 : decode cX8_wearAll 23 = .ok (.aload_n 3, 1) := by decide +kernel
theorem dX8_wearAll_24 : decode cX8_wearAll 24 = .ok (.getfield 103, 3) := by decide +kernel
theorem dX8_wearAll_27 : decode cX8_wearAll 27 = .ok (.imul, 1) := by decide +kernel
theorem dX8_wearAll_28 : decode cX8_wearAll 28 = .ok (.iadd, 1) := by decide +kernel
theorem dX8_wearAll_29 : decode cX8_wearAll 29 = .ok (.putfield 110, 3) := by decide +kernel
theorem dX8_wearAll_32 : decode cX8_wearAll 32 = .ok (.aload_n 3, 1) := by decide +kernel
theorem dX8_wearAll_33 : decode cX8_wearAll 33 = .ok (.getfield 110, 3) := by decide +kernel
theorem dX8_wearAll_36 : decode cX8_wearAll 36 = .ok (.sipush 1000, 3) := by decide +kernel
theorem dX8_wearAll_39 : decode cX8_wearAll 39 = .ok (.idiv, 1) := by decide +kernel
theorem dX8_wearAll_40 : decode cX8_wearAll 40 = .ok (.istore 4, 2) := by decide +kernel
theorem dX8_wearAll_42 : decode cX8_wearAll 42 = .ok (.aload_n 3, 1) := by decide +kernel
theorem dX8_wearAll_43 : decode cX8_wearAll 43 = .ok (.dup, 1) := by decide +kernel
theorem dX8_wearAll_44 : decode cX8_wearAll 44 = .ok (.getfield 110, 3) := by decide +kernel
theorem dX8_wearAll_47 : decode cX8_wearAll 47 = .ok (.sipush 1000, 3) := by decide +kernel
theorem dX8_wearAll_50 : decode cX8_wearAll 50 = .ok (.irem, 1) := by decide +kernel
theorem dX8_wearAll_51 : decode cX8_wearAll 51 = .ok (.putfield 110, 3) := by decide +kernel
theorem dX8_wearAll_54 : decode cX8_wearAll 54 = .ok (.iconst 0, 1) := by decide +kernel
theorem dX8_wearAll_55 : decode cX8_wearAll 55 = .ok (.istore 5, 2) := by decide +kernel
theorem dX8_wearAll_57 : decode cX8_wearAll 57 = .ok (.iload 5, 2) := by decide +kernel
theorem dX8_wearAll_59 : decode cX8_wearAll 59 = .ok (.iload 4, 2) := by decide +kernel
theorem dX8_wearAll_61 : decode cX8_wearAll 61 = .ok (.if_icmp .ge 14, 3) := by decide +kernel
theorem dX8_wearAll_64 : decode cX8_wearAll 64 = .ok (.aload_n 0, 1) := by decide +kernel
theorem dX8_wearAll_65 : decode cX8_wearAll 65 = .ok (.iload_n 2, 1) := by decide +kernel
theorem dX8_wearAll_66 : decode cX8_wearAll 66 = .ok (.invokevirtual 289, 3) := by decide +kernel
theorem dX8_wearAll_69 : decode cX8_wearAll 69 = .ok (.iinc 5 1, 3) := by decide +kernel
theorem dX8_wearAll_72 : decode cX8_wearAll 72 = .ok (.goto (-15), 3) := by decide +kernel
theorem dX8_wearAll_75 : decode cX8_wearAll 75 = .ok (.iinc 2 1, 3) := by decide +kernel
theorem dX8_wearAll_78 : decode cX8_wearAll 78 = .ok (.goto (-76), 3) := by decide +kernel
theorem dX8_wearAll_81 : decode cX8_wearAll 81 = .ok (.return_, 1) := by decide +kernel
theorem dX8_breakChair_0 : decode cX8_breakChair 0 = .ok (.aload_n 0, 1) := by decide +kernel
theorem dX8_breakChair_1 : decode cX8_breakChair 1 = .ok (.getfield 18, 3) := by decide +kernel
theorem dX8_breakChair_4 : decode cX8_breakChair 4 = .ok (.iload_n 1, 1) := by decide +kernel
theorem dX8_breakChair_5 : decode cX8_breakChair 5 = .ok (.aaload, 1) := by decide +kernel
theorem dX8_breakChair_6 : decode cX8_breakChair 6 = .ok (.astore_n 2, 1) := by decide +kernel
theorem dX8_breakChair_7 : decode cX8_breakChair 7 = .ok (.aload_n 2, 1) := by decide +kernel
theorem dX8_breakChair_8 : decode cX8_breakChair 8 = .ok (.getfield 103, 3) := by decide +kernel
theorem dX8_breakChair_11 : decode cX8_breakChair 11 = .ok (.ifCond .ne 4, 3) := by decide +kernel
theorem dX8_breakChair_14 : decode cX8_breakChair 14 = .ok (.return_, 1) := by decide +kernel
theorem dX8_breakChair_15 : decode cX8_breakChair 15 = .ok (.aload_n 2, 1) := by decide +kernel
theorem dX8_breakChair_16 : decode cX8_breakChair 16 = .ok (.invokevirtual 106, 3) := by decide +kernel
theorem dX8_breakChair_19 : decode cX8_breakChair 19 = .ok (.ifCond .ne 37, 3) := by decide +kernel
theorem dX8_breakChair_22 : decode cX8_breakChair 22 = .ok (.aload_n 0, 1) := by decide +kernel
theorem dX8_breakChair_23 : decode cX8_breakChair 23 = .ok (.getfield 25, 3) := by decide +kernel
theorem dX8_breakChair_26 : decode cX8_breakChair 26 = .ok (.iload_n 1, 1) := by decide +kernel
theorem dX8_breakChair_27 : decode cX8_breakChair 27 = .ok (.invokevirtual 292, 3) := by decide +kernel
theorem dX8_breakChair_30 : decode cX8_breakChair 30 = .ok (.astore_n 3, 1) := by decide +kernel
theorem dX8_breakChair_31 : decode cX8_breakChair 31 = .ok (.aload_n 3, 1) := by decide +kernel
theorem dX8_breakChair_32 : decode cX8_breakChair 32 = .ok (.ifnonnull 4, 3) := by decide +kernel
theorem dX8_breakChair_35 : decode cX8_breakChair 35 = .ok (.return_, 1) := by decide +kernel
theorem dX8_breakChair_36 : decode cX8_breakChair 36 = .ok (.aload_n 3, 1) := by decide +kernel
theorem dX8_breakChair_37 : decode cX8_breakChair 37 = .ok (.dup, 1) := by decide +kernel
theorem dX8_breakChair_38 : decode cX8_breakChair 38 = .ok (.getfield 139, 3) := by decide +kernel
theorem dX8_breakChair_41 : decode cX8_breakChair 41 = .ok (.iconst 1, 1) := by decide +kernel
theorem dX8_breakChair_42 : decode cX8_breakChair 42 = .ok (.isub, 1) := by decide +kernel
theorem dX8_breakChair_43 : decode cX8_breakChair 43 = .ok (.putfield 139, 3) := by decide +kernel
theorem dX8_breakChair_46 : decode cX8_breakChair 46 = .ok (.aload_n 2, 1) := by decide +kernel
theorem dX8_breakChair_47 : decode cX8_breakChair 47 = .ok (.dup, 1) := by decide +kernel
theorem dX8_breakChair_48 : decode cX8_breakChair 48 = .ok (.getfield 126, 3) := by decide +kernel
theorem dX8_breakChair_51 : decode cX8_breakChair 51 = .ok (.iconst 1, 1) := by decide +kernel
theorem dX8_breakChair_52 : decode cX8_breakChair 52 = .ok (.isub, 1) := by decide +kernel
theorem dX8_breakChair_53 : decode cX8_breakChair 53 = .ok (.putfield 126, 3) := by decide +kernel
theorem dX8_breakChair_56 : decode cX8_breakChair 56 = .ok (.aload_n 2, 1) := by decide +kernel
theorem dX8_breakChair_57 : decode cX8_breakChair 57 = .ok (.dup, 1) := by decide +kernel
theorem dX8_breakChair_58 : decode cX8_breakChair 58 = .ok (.getfield 103, 3) := by decide +kernel
theorem dX8_breakChair_61 : decode cX8_breakChair 61 = .ok (.iconst 1, 1) := by decide +kernel
theorem dX8_breakChair_62 : decode cX8_breakChair 62 = .ok (.isub, 1) := by decide +kernel
theorem dX8_breakChair_63 : decode cX8_breakChair 63 = .ok (.putfield 103, 3) := by decide +kernel
theorem dX8_breakChair_66 : decode cX8_breakChair 66 = .ok (.aload_n 0, 1) := by decide +kernel
theorem dX8_breakChair_67 : decode cX8_breakChair 67 = .ok (.dup, 1) := by decide +kernel
theorem dX8_breakChair_68 : decode cX8_breakChair 68 = .ok (.getfield 116, 3) := by decide +kernel
theorem dX8_breakChair_71 : decode cX8_breakChair 71 = .ok (.iconst 1, 1) := by decide +kernel
theorem dX8_breakChair_72 : decode cX8_breakChair 72 = .ok (.iadd, 1) := by decide +kernel
theorem dX8_breakChair_73 : decode cX8_breakChair 73 = .ok (.putfield 116, 3) := by decide +kernel
theorem dX8_breakChair_76 : decode cX8_breakChair 76 = .ok (.return_, 1) := by decide +kernel
theorem dX8_passAnHour_0 : decode cX8_passAnHour 0 = .ok (.iconst 0, 1) := by decide +kernel
theorem dX8_passAnHour_1 : decode cX8_passAnHour 1 = .ok (.istore_n 1, 1) := by decide +kernel
theorem dX8_passAnHour_2 : decode cX8_passAnHour 2 = .ok (.iload_n 1, 1) := by decide +kernel
theorem dX8_passAnHour_3 : decode cX8_passAnHour 3 = .ok (.aload_n 0, 1) := by decide +kernel
theorem dX8_passAnHour_4 : decode cX8_passAnHour 4 = .ok (.getfield 25, 3) := by decide +kernel
theorem dX8_passAnHour_7 : decode cX8_passAnHour 7 = .ok (.getfield 183, 3) := by decide +kernel
theorem dX8_passAnHour_10 : decode cX8_passAnHour 10 = .ok (.if_icmp .ge 41, 3) := by decide +kernel
theorem dX8_passAnHour_13 : decode cX8_passAnHour 13 = .ok (.aload_n 0, 1) := by decide +kernel
theorem dX8_passAnHour_14 : decode cX8_passAnHour 14 = .ok (.getfield 25, 3) := by decide +kernel
theorem dX8_passAnHour_17 : decode cX8_passAnHour 17 = .ok (.getfield 278, 3) := by decide +kernel
theorem dX8_passAnHour_20 : decode cX8_passAnHour 20 = .ok (.iload_n 1, 1) := by decide +kernel
theorem dX8_passAnHour_21 : decode cX8_passAnHour 21 = .ok (.aaload, 1) := by decide +kernel
theorem dX8_passAnHour_22 : decode cX8_passAnHour 22 = .ok (.astore_n 2, 1) := by decide +kernel
theorem dX8_passAnHour_23 : decode cX8_passAnHour 23 = .ok (.aload_n 2, 1) := by decide +kernel
theorem dX8_passAnHour_24 : decode cX8_passAnHour 24 = .ok (.dup, 1) := by decide +kernel
theorem dX8_passAnHour_25 : decode cX8_passAnHour 25 = .ok (.getfield 142, 3) := by decide +kernel
theorem dX8_passAnHour_28 : decode cX8_passAnHour 28 = .ok (.iconst 1, 1) := by decide +kernel
theorem dX8_passAnHour_29 : decode cX8_passAnHour 29 = .ok (.isub, 1) := by decide +kernel
theorem dX8_passAnHour_30 : decode cX8_passAnHour 30 = .ok (.putfield 142, 3) := by decide +kernel
theorem dX8_passAnHour_33 : decode cX8_passAnHour 33 = .ok (.aload_n 2, 1) := by decide +kernel
theorem dX8_passAnHour_34 : decode cX8_passAnHour 34 = .ok (.getfield 142, 3) := by decide +kernel
theorem dX8_passAnHour_37 : decode cX8_passAnHour 37 = .ok (.ifCond .gt 8, 3) := by decide +kernel
theorem dX8_passAnHour_40 : decode cX8_passAnHour 40 = .ok (.aload_n 0, 1) := by decide +kernel
theorem dX8_passAnHour_41 : decode cX8_passAnHour 41 = .ok (.aload_n 2, 1) := by decide +kernel
theorem dX8_passAnHour_42 : decode cX8_passAnHour 42 = .ok (.invokevirtual 282, 3) := by decide +kernel
theorem dX8_passAnHour_45 : decode cX8_passAnHour 45 = .ok (.iinc 1 1, 3) := by decide +kernel
theorem dX8_passAnHour_48 : decode cX8_passAnHour 48 = .ok (.goto (-46), 3) := by decide +kernel
theorem dX8_passAnHour_51 : decode cX8_passAnHour 51 = .ok (.return_, 1) := by decide +kernel
theorem dX8_endTicket_0 : decode cX8_endTicket 0 = .ok (.aload_n 0, 1) := by decide +kernel
theorem dX8_endTicket_1 : decode cX8_endTicket 1 = .ok (.getfield 18, 3) := by decide +kernel
theorem dX8_endTicket_4 : decode cX8_endTicket 4 = .ok (.aload_n 1, 1) := by decide +kernel
theorem dX8_endTicket_5 : decode cX8_endTicket 5 = .ok (.getfield 133, 3) := by decide +kernel
theorem dX8_endTicket_8 : decode cX8_endTicket 8 = .ok (.aaload, 1) := by decide +kernel
theorem dX8_endTicket_9 : decode cX8_endTicket 9 = .ok (.dup, 1) := by decide +kernel
theorem dX8_endTicket_10 : decode cX8_endTicket 10 = .ok (.getfield 126, 3) := by decide +kernel
theorem dX8_endTicket_13 : decode cX8_endTicket 13 = .ok (.aload_n 1, 1) := by decide +kernel
theorem dX8_endTicket_14 : decode cX8_endTicket 14 = .ok (.getfield 139, 3) := by decide +kernel
theorem dX8_endTicket_17 : decode cX8_endTicket 17 = .ok (.isub, 1) := by decide +kernel
theorem dX8_endTicket_18 : decode cX8_endTicket 18 = .ok (.putfield 126, 3) := by decide +kernel
theorem dX8_endTicket_21 : decode cX8_endTicket 21 = .ok (.aload_n 1, 1) := by decide +kernel
theorem dX8_endTicket_22 : decode cX8_endTicket 22 = .ok (.iconst 0, 1) := by decide +kernel
theorem dX8_endTicket_23 : decode cX8_endTicket 23 = .ok (.putfield 139, 3) := by decide +kernel
theorem dX8_endTicket_26 : decode cX8_endTicket 26 = .ok (.return_, 1) := by decide +kernel
theorem dX9_in_0 : decode cX9_in 0 = .ok (.lload_n 0, 1) := by decide +kernel
theorem dX9_in_1 : decode cX9_in 1 = .ok (.lload_n 2, 1) := by decide +kernel
theorem dX9_in_2 : decode cX9_in 2 = .ok (.lcmp, 1) := by decide +kernel
theorem dX9_in_3 : decode cX9_in 3 = .ok (.ifCond .lt 14, 3) := by decide +kernel
theorem dX9_in_6 : decode cX9_in 6 = .ok (.lload_n 0, 1) := by decide +kernel
theorem dX9_in_7 : decode cX9_in 7 = .ok (.lload 4, 2) := by decide +kernel
theorem dX9_in_9 : decode cX9_in 9 = .ok (.lcmp, 1) := by decide +kernel
theorem dX9_in_10 : decode cX9_in 10 = .ok (.ifCond .gt 7, 3) := by decide +kernel
theorem dX9_in_13 : decode cX9_in 13 = .ok (.iconst 1, 1) := by decide +kernel
theorem dX9_in_14 : decode cX9_in 14 = .ok (.goto 4, 3) := by decide +kernel
theorem dX9_in_17 : decode cX9_in 17 = .ok (.iconst 0, 1) := by decide +kernel
theorem dX9_in_18 : decode cX9_in 18 = .ok (.ireturn, 1) := by decide +kernel
theorem dX9_init_0 : decode cX9_init 0 = .ok (.aload_n 0, 1) := by decide +kernel
theorem dX9_init_1 : decode cX9_init 1 = .ok (.invokespecial 7, 3) := by decide +kernel
theorem dX9_init_4 : decode cX9_init 4 = .ok (.aload_n 0, 1) := by decide +kernel
theorem dX9_init_5 : decode cX9_init 5 = .ok (.bipush 10, 2) := by decide +kernel
theorem dX9_init_7 : decode cX9_init 7 = .ok (.putfield 13, 3) := by decide +kernel
theorem dX9_init_10 : decode cX9_init 10 = .ok (.aload_n 0, 1) := by decide +kernel
theorem dX9_init_11 : decode cX9_init 11 = .ok (.bipush 60, 2) := by decide +kernel
theorem dX9_init_13 : decode cX9_init 13 = .ok (.putfield 16, 3) := by decide +kernel
theorem dX9_init_16 : decode cX9_init 16 = .ok (.aload_n 0, 1) := by decide +kernel
theorem dX9_init_17 : decode cX9_init 17 = .ok (.bipush 10, 2) := by decide +kernel
theorem dX9_init_19 : decode cX9_init 19 = .ok (.newarray .int, 2) := by decide +kernel
theorem dX9_init_21 : decode cX9_init 21 = .ok (.putfield 19, 3) := by decide +kernel
theorem dX9_init_24 : decode cX9_init 24 = .ok (.aload_n 0, 1) := by decide +kernel
theorem dX9_init_25 : decode cX9_init 25 = .ok (.bipush 10, 2) := by decide +kernel
theorem dX9_init_27 : decode cX9_init 27 = .ok (.newarray .int, 2) := by decide +kernel
theorem dX9_init_29 : decode cX9_init 29 = .ok (.putfield 23, 3) := by decide +kernel
theorem dX9_init_32 : decode cX9_init 32 = .ok (.aload_n 0, 1) := by decide +kernel
theorem dX9_init_33 : decode cX9_init 33 = .ok (.bipush 10, 2) := by decide +kernel
theorem dX9_init_35 : decode cX9_init 35 = .ok (.newarray .int, 2) := by decide +kernel
theorem dX9_init_37 : decode cX9_init 37 = .ok (.putfield 26, 3) := by decide +kernel
theorem dX9_init_40 : decode cX9_init 40 = .ok (.aload_n 0, 1) := by decide +kernel
theorem dX9_init_41 : decode cX9_init 41 = .ok (.bipush 10, 2) := by decide +kernel
theorem dX9_init_43 : decode cX9_init 43 = .ok (.newarray .int, 2) := by decide +kernel
theorem dX9_init_45 : decode cX9_init 45 = .ok (.putfield 29, 3) := by decide +kernel
theorem dX9_init_48 : decode cX9_init 48 = .ok (.aload_n 0, 1) := by decide +kernel
theorem dX9_init_49 : decode cX9_init 49 = .ok (.bipush 10, 2) := by decide +kernel
theorem dX9_init_51 : decode cX9_init 51 = .ok (.newarray .int, 2) := by decide +kernel
theorem dX9_init_53 : decode cX9_init 53 = .ok (.putfield 32, 3) := by decide +kernel
theorem dX9_init_56 : decode cX9_init 56 = .ok (.aload_n 0, 1) := by decide +kernel
theorem dX9_init_57 : decode cX9_init 57 = .ok (.bipush 10, 2) := by decide +kernel
theorem dX9_init_59 : decode cX9_init 59 = .ok (.newarray .int, 2) := by decide +kernel
theorem dX9_init_61 : decode cX9_init 61 = .ok (.putfield 35, 3) := by decide +kernel
theorem dX9_init_64 : decode cX9_init 64 = .ok (.aload_n 0, 1) := by decide +kernel
theorem dX9_init_65 : decode cX9_init 65 = .ok (.bipush 10, 2) := by decide +kernel
theorem dX9_init_67 : decode cX9_init 67 = .ok (.newarray .int, 2) := by decide +kernel
theorem dX9_init_69 : decode cX9_init 69 = .ok (.putfield 38, 3) := by decide +kernel
theorem dX9_init_72 : decode cX9_init 72 = .ok (.aload_n 0, 1) := by decide +kernel
theorem dX9_init_73 : decode cX9_init 73 = .ok (.bipush 30, 2) := by decide +kernel
theorem dX9_init_75 : decode cX9_init 75 = .ok (.newarray .int, 2) := by decide +kernel
theorem dX9_init_77 : decode cX9_init 77 = .ok (.putfield 41, 3) := by decide +kernel
theorem dX9_init_80 : decode cX9_init 80 = .ok (.aload_n 0, 1) := by decide +kernel
theorem dX9_init_81 : decode cX9_init 81 = .ok (.bipush 30, 2) := by decide +kernel
theorem dX9_init_83 : decode cX9_init 83 = .ok (.newarray .int, 2) := by decide +kernel
theorem dX9_init_85 : decode cX9_init 85 = .ok (.putfield 44, 3) := by decide +kernel
theorem dX9_init_88 : decode cX9_init 88 = .ok (.aload_n 0, 1) := by decide +kernel
theorem dX9_init_89 : decode cX9_init 89 = .ok (.bipush 30, 2) := by decide +kernel
theorem dX9_init_91 : decode cX9_init 91 = .ok (.newarray .int, 2) := by decide +kernel
theorem dX9_init_93 : decode cX9_init 93 = .ok (.putfield 47, 3) := by decide +kernel
theorem dX9_init_96 : decode cX9_init 96 = .ok (.aload_n 0, 1) := by decide +kernel
theorem dX9_init_97 : decode cX9_init 97 = .ok (.bipush 30, 2) := by decide +kernel
theorem dX9_init_99 : decode cX9_init 99 = .ok (.newarray .int, 2) := by decide +kernel
theorem dX9_init_101 : decode cX9_init 101 = .ok (.putfield 50, 3) := by decide +kernel
theorem dX9_init_104 : decode cX9_init 104 = .ok (.aload_n 0, 1) := by decide +kernel
theorem dX9_init_105 : decode cX9_init 105 = .ok (.bipush 30, 2) := by decide +kernel
theorem dX9_init_107 : decode cX9_init 107 = .ok (.newarray .int, 2) := by decide +kernel
theorem dX9_init_109 : decode cX9_init 109 = .ok (.putfield 53, 3) := by decide +kernel
theorem dX9_init_112 : decode cX9_init 112 = .ok (.aload_n 0, 1) := by decide +kernel
theorem dX9_init_113 : decode cX9_init 113 = .ok (.bipush 30, 2) := by decide +kernel
theorem dX9_init_115 : decode cX9_init 115 = .ok (.newarray .int, 2) := by decide +kernel
theorem dX9_init_117 : decode cX9_init 117 = .ok (.putfield 56, 3) := by decide +kernel
theorem dX9_init_120 : decode cX9_init 120 = .ok (.aload_n 0, 1) := by decide +kernel
theorem dX9_init_121 : decode cX9_init 121 = .ok (.bipush 30, 2) := by decide +kernel
theorem dX9_init_123 : decode cX9_init 123 = .ok (.newarray .int, 2) := by decide +kernel
theorem dX9_init_125 : decode cX9_init 125 = .ok (.putfield 59, 3) := by decide +kernel
theorem dX9_init_128 : decode cX9_init 128 = .ok (.aload_n 0, 1) := by decide +kernel
theorem dX9_init_129 : decode cX9_init 129 = .ok (.iconst 5, 1) := by decide +kernel
theorem dX9_init_130 : decode cX9_init 130 = .ok (.newarray .int, 2) := by decide +kernel
theorem dX9_init_132 : decode cX9_init 132 = .ok (.putfield 62, 3) := by decide +kernel
theorem dX9_init_135 : decode cX9_init 135 = .ok (.aload_n 0, 1) := by decide +kernel
theorem dX9_init_136 : decode cX9_init 136 = .ok (.iconst 5, 1) := by decide +kernel
theorem dX9_init_137 : decode cX9_init 137 = .ok (.newarray .int, 2) := by decide +kernel
theorem dX9_init_139 : decode cX9_init 139 = .ok (.putfield 65, 3) := by decide +kernel
theorem dX9_init_142 : decode cX9_init 142 = .ok (.aload_n 0, 1) := by decide +kernel
theorem dX9_init_143 : decode cX9_init 143 = .ok (.iconst 5, 1) := by decide +kernel
theorem dX9_init_144 : decode cX9_init 144 = .ok (.newarray .int, 2) := by decide +kernel
theorem dX9_init_146 : decode cX9_init 146 = .ok (.putfield 68, 3) := by decide +kernel
theorem dX9_init_149 : decode cX9_init 149 = .ok (.aload_n 0, 1) := by decide +kernel
theorem dX9_init_150 : decode cX9_init 150 = .ok (.iconst 5, 1) := by decide +kernel
theorem dX9_init_151 : decode cX9_init 151 = .ok (.newarray .int, 2) := by decide +kernel
theorem dX9_init_153 : decode cX9_init 153 = .ok (.putfield 71, 3) := by decide +kernel
theorem dX9_init_156 : decode cX9_init 156 = .ok (.aload_n 0, 1) := by decide +kernel
theorem dX9_init_157 : decode cX9_init 157 = .ok (.iconst 5, 1) := by decide +kernel
theorem dX9_init_158 : decode cX9_init 158 = .ok (.newarray .int, 2) := by decide +kernel
theorem dX9_init_160 : decode cX9_init 160 = .ok (.putfield 74, 3) := by decide +kernel
theorem dX9_init_163 : decode cX9_init 163 = .ok (.aload_n 0, 1) := by decide +kernel
theorem dX9_init_164 : decode cX9_init 164 = .ok (.iconst 5, 1) := by decide +kernel
theorem dX9_init_165 : decode cX9_init 165 = .ok (.newarray .int, 2) := by decide +kernel
theorem dX9_init_167 : decode cX9_init 167 = .ok (.putfield 77, 3) := by decide +kernel
