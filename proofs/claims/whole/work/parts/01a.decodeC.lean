theorem dC_init_0 : decode bC_init 0 = .ok (.aload_n 0, 1) := by decide +kernel
theorem dC_init_1 : decode bC_init 1 = .ok (.invokespecial 1, 3) := by decide +kernel
theorem dC_init_4 : decode bC_init 4 = .ok (.aload_n 0, 1) := by decide +kernel
theorem dC_init_5 : decode bC_init 5 = .ok (.iconst 2, 1) := by decide +kernel
theorem dC_init_6 : decode bC_init 6 = .ok (.bipush 8, 2) := by decide +kernel
theorem dC_init_8 : decode bC_init 8 = .ok (.iload_n 1, 1) := by decide +kernel
theorem dC_init_9 : decode bC_init 9 = .ok (.invokestatic 9, 3) := by decide +kernel
theorem dC_init_12 : decode bC_init 12 = .ok (.invokestatic 15, 3) := by decide +kernel
theorem dC_init_15 : decode bC_init 15 = .ok (.putfield 18, 3) := by decide +kernel
theorem dC_init_18 : decode bC_init 18 = .ok (.aload_n 0, 1) := by decide +kernel
theorem dC_init_19 : decode bC_init 19 = .ok (.bipush 16, 2) := by decide +kernel
theorem dC_init_21 : decode bC_init 21 = .ok (.sipush 2000, 3) := by decide +kernel
theorem dC_init_24 : decode bC_init 24 = .ok (.iload_n 2, 1) := by decide +kernel
theorem dC_init_25 : decode bC_init 25 = .ok (.invokestatic 9, 3) := by decide +kernel
theorem dC_init_28 : decode bC_init 28 = .ok (.invokestatic 15, 3) := by decide +kernel
theorem dC_init_31 : decode bC_init 31 = .ok (.putfield 22, 3) := by decide +kernel
theorem dC_init_34 : decode bC_init 34 = .ok (.aload_n 0, 1) := by decide +kernel
theorem dC_init_35 : decode bC_init 35 = .ok (.getfield 18, 3) := by decide +kernel
theorem dC_init_38 : decode bC_init 38 = .ok (.bipush 60, 2) := by decide +kernel
theorem dC_init_40 : decode bC_init 40 = .ok (.imul, 1) := by decide +kernel
theorem dC_init_41 : decode bC_init 41 = .ok (.istore_n 3, 1) := by decide +kernel
theorem dC_init_42 : decode bC_init 42 = .ok (.aload_n 0, 1) := by decide +kernel
theorem dC_init_43 : decode bC_init 43 = .ok (.aload_n 0, 1) := by decide +kernel
theorem dC_init_44 : decode bC_init 44 = .ok (.getfield 18, 3) := by decide +kernel
theorem dC_init_47 : decode bC_init 47 = .ok (.newarray .boolean, 2) := by decide +kernel
theorem dC_init_49 : decode bC_init 49 = .ok (.putfield 25, 3) := by decide +kernel
theorem dC_init_52 : decode bC_init 52 = .ok (.aload_n 0, 1) := by decide +kernel
theorem dC_init_53 : decode bC_init 53 = .ok (.aload_n 0, 1) := by decide +kernel
theorem dC_init_54 : decode bC_init 54 = .ok (.getfield 18, 3) := by decide +kernel
theorem dC_init_57 : decode bC_init 57 = .ok (.newarray .long, 2) := by decide +kernel
theorem dC_init_59 : decode bC_init 59 = .ok (.putfield 29, 3) := by decide +kernel
theorem dC_init_62 : decode bC_init 62 = .ok (.aload_n 0, 1) := by decide +kernel
theorem dC_init_63 : decode bC_init 63 = .ok (.aload_n 0, 1) := by decide +kernel
theorem dC_init_64 : decode bC_init 64 = .ok (.getfield 18, 3) := by decide +kernel
theorem dC_init_67 : decode bC_init 67 = .ok (.iload_n 3, 1) := by decide +kernel
theorem dC_init_68 : decode bC_init 68 = .ok (.multianewarray 33 2, 4) := by decide +kernel
theorem dC_init_72 : decode bC_init 72 = .ok (.putfield 35, 3) := by decide +kernel
theorem dC_init_75 : decode bC_init 75 = .ok (.aload_n 0, 1) := by decide +kernel
theorem dC_init_76 : decode bC_init 76 = .ok (.aload_n 0, 1) := by decide +kernel
theorem dC_init_77 : decode bC_init 77 = .ok (.getfield 18, 3) := by decide +kernel
theorem dC_init_80 : decode bC_init 80 = .ok (.newarray .int, 2) := by decide +kernel
theorem dC_init_82 : decode bC_init 82 = .ok (.putfield 38, 3) := by decide +kernel
theorem dC_init_85 : decode bC_init 85 = .ok (.aload_n 0, 1) := by decide +kernel
theorem dC_init_86 : decode bC_init 86 = .ok (.aload_n 0, 1) := by decide +kernel
theorem dC_init_87 : decode bC_init 87 = .ok (.getfield 18, 3) := by decide +kernel
theorem dC_init_90 : decode bC_init 90 = .ok (.bipush 60, 2) := by decide +kernel
theorem dC_init_92 : decode bC_init 92 = .ok (.multianewarray 33 2, 4) := by decide +kernel
theorem dC_init_96 : decode bC_init 96 = .ok (.putfield 42, 3) := by decide +kernel
theorem dC_init_99 : decode bC_init 99 = .ok (.aload_n 0, 1) := by decide +kernel
theorem dC_init_100 : decode bC_init 100 = .ok (.bipush 120, 2) := by decide +kernel
theorem dC_init_102 : decode bC_init 102 = .ok (.anewarray 45, 3) := by decide +kernel
theorem dC_init_105 : decode bC_init 105 = .ok (.putfield 47, 3) := by decide +kernel
theorem dC_init_108 : decode bC_init 108 = .ok (.aload_n 0, 1) := by decide +kernel
theorem dC_init_109 : decode bC_init 109 = .ok (.iload_n 3, 1) := by decide +kernel
theorem dC_init_110 : decode bC_init 110 = .ok (.newarray .int, 2) := by decide +kernel
theorem dC_init_112 : decode bC_init 112 = .ok (.putfield 51, 3) := by decide +kernel
theorem dC_init_115 : decode bC_init 115 = .ok (.return_, 1) := by decide +kernel
theorem dC_lose_0 : decode bC_lose 0 = .ok (.aload_n 0, 1) := by decide +kernel
theorem dC_lose_1 : decode bC_lose 1 = .ok (.iload_n 1, 1) := by decide +kernel
theorem dC_lose_2 : decode bC_lose 2 = .ok (.invokevirtual 89, 3) := by decide +kernel
theorem dC_lose_5 : decode bC_lose 5 = .ok (.ifnonnull 5, 3) := by decide +kernel
theorem dC_lose_8 : decode bC_lose 8 = .ok (.iconst 0, 1) := by decide +kernel
theorem dC_lose_9 : decode bC_lose 9 = .ok (.ireturn, 1) := by decide +kernel
theorem dC_lose_10 : decode bC_lose 10 = .ok (.aload_n 0, 1) := by decide +kernel
theorem dC_lose_11 : decode bC_lose 11 = .ok (.iload_n 1, 1) := by decide +kernel
theorem dC_lose_12 : decode bC_lose 12 = .ok (.invokevirtual 95, 3) := by decide +kernel
theorem dC_lose_15 : decode bC_lose 15 = .ok (.aload_n 0, 1) := by decide +kernel
theorem dC_lose_16 : decode bC_lose 16 = .ok (.dup, 1) := by decide +kernel
theorem dC_lose_17 : decode bC_lose 17 = .ok (.getfield 116, 3) := by decide +kernel
theorem dC_lose_20 : decode bC_lose 20 = .ok (.iconst 1, 1) := by decide +kernel
theorem dC_lose_21 : decode bC_lose 21 = .ok (.iadd, 1) := by decide +kernel
theorem dC_lose_22 : decode bC_lose 22 = .ok (.putfield 116, 3) := by decide +kernel
theorem dC_lose_25 : decode bC_lose 25 = .ok (.iconst 1, 1) := by decide +kernel
theorem dC_lose_26 : decode bC_lose 26 = .ok (.ireturn, 1) := by decide +kernel
theorem dC_messageAt_0 : decode bC_messageAt 0 = .ok (.iload_n 1, 1) := by decide +kernel
theorem dC_messageAt_1 : decode bC_messageAt 1 = .ok (.ifCond .lt 20, 3) := by decide +kernel
theorem dC_messageAt_4 : decode bC_messageAt 4 = .ok (.iload_n 1, 1) := by decide +kernel
theorem dC_messageAt_5 : decode bC_messageAt 5 = .ok (.aload_n 0, 1) := by decide +kernel
theorem dC_messageAt_6 : decode bC_messageAt 6 = .ok (.getfield 156, 3) := by decide +kernel
theorem dC_messageAt_9 : decode bC_messageAt 9 = .ok (.if_icmp .ge 12, 3) := by decide +kernel
theorem dC_messageAt_12 : decode bC_messageAt 12 = .ok (.aload_n 0, 1) := by decide +kernel
theorem dC_messageAt_13 : decode bC_messageAt 13 = .ok (.getfield 47, 3) := by decide +kernel
theorem dC_messageAt_16 : decode bC_messageAt 16 = .ok (.iload_n 1, 1) := by decide +kernel
theorem dC_messageAt_17 : decode bC_messageAt 17 = .ok (.aaload, 1) := by decide +kernel
theorem dC_messageAt_18 : decode bC_messageAt 18 = .ok (.goto 4, 3) := by decide +kernel
theorem dC_messageAt_21 : decode bC_messageAt 21 = .ok (.aconst_null, 1) := by decide +kernel
theorem dC_messageAt_22 : decode bC_messageAt 22 = .ok (.areturn, 1) := by decide +kernel
theorem dC_takeOutOfFlight_0 : decode bC_takeOutOfFlight 0 = .ok (.iload_n 1, 1) := by decide +kernel
theorem dC_takeOutOfFlight_1 : decode bC_takeOutOfFlight 1 = .ok (.iconst 1, 1) := by decide +kernel
theorem dC_takeOutOfFlight_2 : decode bC_takeOutOfFlight 2 = .ok (.iadd, 1) := by decide +kernel
theorem dC_takeOutOfFlight_3 : decode bC_takeOutOfFlight 3 = .ok (.istore_n 2, 1) := by decide +kernel
theorem dC_takeOutOfFlight_4 : decode bC_takeOutOfFlight 4 = .ok (.iload_n 2, 1) := by decide +kernel
theorem dC_takeOutOfFlight_5 : decode bC_takeOutOfFlight 5 = .ok (.aload_n 0, 1) := by decide +kernel
theorem dC_takeOutOfFlight_6 : decode bC_takeOutOfFlight 6 = .ok (.getfield 156, 3) := by decide +kernel
theorem dC_takeOutOfFlight_9 : decode bC_takeOutOfFlight 9 = .ok (.if_icmp .ge 23, 3) := by decide +kernel
theorem dC_takeOutOfFlight_12 : decode bC_takeOutOfFlight 12 = .ok (.aload_n 0, 1) := by decide +kernel
theorem dC_takeOutOfFlight_13 : decode bC_takeOutOfFlight 13 = .ok (.getfield 47, 3) := by decide +kernel
theorem dC_takeOutOfFlight_16 : decode bC_takeOutOfFlight 16 = .ok (.iload_n 2, 1) := by decide +kernel
theorem dC_takeOutOfFlight_17 : decode bC_takeOutOfFlight 17 = .ok (.iconst 1, 1) := by decide +kernel
theorem dC_takeOutOfFlight_18 : decode bC_takeOutOfFlight 18 = .ok (.isub, 1) := by decide +kernel
theorem dC_takeOutOfFlight_19 : decode bC_takeOutOfFlight 19 = .ok (.aload_n 0, 1) := by decide +kernel
theorem dC_takeOutOfFlight_20 : decode bC_takeOutOfFlight 20 = .ok (.getfield 47, 3) := by decide +kernel
theorem dC_takeOutOfFlight_23 : decode bC_takeOutOfFlight 23 = .ok (.iload_n 2, 1) := by decide +kernel
theorem dC_takeOutOfFlight_24 : decode bC_takeOutOfFlight 24 = .ok (.aaload, 1) := by decide +kernel
theorem dC_takeOutOfFlight_25 : decode bC_takeOutOfFlight 25 = .ok (.aastore, 1) := by decide +kernel
theorem dC_takeOutOfFlight_26 : decode bC_takeOutOfFlight 26 = .ok (.iinc 2 1, 3) := by decide +kernel
theorem dC_takeOutOfFlight_29 : decode bC_takeOutOfFlight 29 = .ok (.goto (-25), 3) := by decide +kernel
theorem dC_takeOutOfFlight_32 : decode bC_takeOutOfFlight 32 = .ok (.aload_n 0, 1) := by decide +kernel
theorem dC_takeOutOfFlight_33 : decode bC_takeOutOfFlight 33 = .ok (.getfield 156, 3) := by decide +kernel
theorem dC_takeOutOfFlight_36 : decode bC_takeOutOfFlight 36 = .ok (.ifCond .le 23, 3) := by decide +kernel
theorem dC_takeOutOfFlight_39 : decode bC_takeOutOfFlight 39 = .ok (.aload_n 0, 1) := by decide +kernel
theorem dC_takeOutOfFlight_40 : decode bC_takeOutOfFlight 40 = .ok (.dup, 1) := by decide +kernel
theorem dC_takeOutOfFlight_41 : decode bC_takeOutOfFlight 41 = .ok (.getfield 156, 3) := by decide +kernel
theorem dC_takeOutOfFlight_44 : decode bC_takeOutOfFlight 44 = .ok (.iconst 1, 1) := by decide +kernel
theorem dC_takeOutOfFlight_45 : decode bC_takeOutOfFlight 45 = .ok (.isub, 1) := by decide +kernel
theorem dC_takeOutOfFlight_46 : decode bC_takeOutOfFlight 46 = .ok (.putfield 156, 3) := by decide +kernel
theorem dC_takeOutOfFlight_49 : decode bC_takeOutOfFlight 49 = .ok (.aload_n 0, 1) := by decide +kernel
theorem dC_takeOutOfFlight_50 : decode bC_takeOutOfFlight 50 = .ok (.getfield 47, 3) := by decide +kernel
theorem dC_takeOutOfFlight_53 : decode bC_takeOutOfFlight 53 = .ok (.aload_n 0, 1) := by decide +kernel
theorem dC_takeOutOfFlight_54 : decode bC_takeOutOfFlight 54 = .ok (.getfield 156, 3) := by decide +kernel
theorem dC_takeOutOfFlight_57 : decode bC_takeOutOfFlight 57 = .ok (.aconst_null, 1) := by decide +kernel
theorem dC_takeOutOfFlight_58 : decode bC_takeOutOfFlight 58 = .ok (.aastore, 1) := by decide +kernel
theorem dC_takeOutOfFlight_59 : decode bC_takeOutOfFlight 59 = .ok (.return_, 1) := by decide +kernel
theorem dC_up_0 : decode bC_up 0 = .ok (.aload_n 0, 1) := by decide +kernel
theorem dC_up_1 : decode bC_up 1 = .ok (.iload_n 1, 1) := by decide +kernel
theorem dC_up_2 : decode bC_up 2 = .ok (.invokevirtual 54, 3) := by decide +kernel
theorem dC_up_5 : decode bC_up 5 = .ok (.ifCond .eq 13, 3) := by decide +kernel
theorem dC_up_8 : decode bC_up 8 = .ok (.aload_n 0, 1) := by decide +kernel
theorem dC_up_9 : decode bC_up 9 = .ok (.getfield 25, 3) := by decide +kernel
theorem dC_up_12 : decode bC_up 12 = .ok (.iload_n 1, 1) := by decide +kernel
theorem dC_up_13 : decode bC_up 13 = .ok (.baload, 1) := by decide +kernel
theorem dC_up_14 : decode bC_up 14 = .ok (.iload_n 2, 1) := by decide +kernel
theorem dC_up_15 : decode bC_up 15 = .ok (.if_icmp .eq 5, 3) := by decide +kernel
theorem dC_up_18 : decode bC_up 18 = .ok (.iconst 0, 1) := by decide +kernel
theorem dC_up_19 : decode bC_up 19 = .ok (.ireturn, 1) := by decide +kernel
theorem dC_up_20 : decode bC_up 20 = .ok (.aload_n 0, 1) := by decide +kernel
theorem dC_up_21 : decode bC_up 21 = .ok (.getfield 25, 3) := by decide +kernel
theorem dC_up_24 : decode bC_up 24 = .ok (.iload_n 1, 1) := by decide +kernel
theorem dC_up_25 : decode bC_up 25 = .ok (.iload_n 2, 1) := by decide +kernel
theorem dC_up_26 : decode bC_up 26 = .ok (.ifCond .ne 7, 3) := by decide +kernel
theorem dC_up_29 : decode bC_up 29 = .ok (.iconst 1, 1) := by decide +kernel
theorem dC_up_30 : decode bC_up 30 = .ok (.goto 4, 3) := by decide +kernel
theorem dC_up_33 : decode bC_up 33 = .ok (.iconst 0, 1) := by decide +kernel
theorem dC_up_34 : decode bC_up 34 = .ok (.bastore, 1) := by decide +kernel
theorem dC_up_35 : decode bC_up 35 = .ok (.iconst 1, 1) := by decide +kernel
theorem dC_up_36 : decode bC_up 36 = .ok (.ireturn, 1) := by decide +kernel
theorem dC_isReplica_0 : decode bC_isReplica 0 = .ok (.iload_n 1, 1) := by decide +kernel
theorem dC_isReplica_1 : decode bC_isReplica 1 = .ok (.ifCond .lt 15, 3) := by decide +kernel
theorem dC_isReplica_4 : decode bC_isReplica 4 = .ok (.iload_n 1, 1) := by decide +kernel
theorem dC_isReplica_5 : decode bC_isReplica 5 = .ok (.aload_n 0, 1) := by decide +kernel
theorem dC_isReplica_6 : decode bC_isReplica 6 = .ok (.getfield 18, 3) := by decide +kernel
theorem dC_isReplica_9 : decode bC_isReplica 9 = .ok (.if_icmp .ge 7, 3) := by decide +kernel
theorem dC_isReplica_12 : decode bC_isReplica 12 = .ok (.iconst 1, 1) := by decide +kernel
theorem dC_isReplica_13 : decode bC_isReplica 13 = .ok (.goto 4, 3) := by decide +kernel
theorem dC_isReplica_16 : decode bC_isReplica 16 = .ok (.iconst 0, 1) := by decide +kernel
theorem dC_isReplica_17 : decode bC_isReplica 17 = .ok (.ireturn, 1) := by decide +kernel
theorem dC_inside_0 : decode bC_inside 0 = .ok (.aload_n 0, 1) := by decide +kernel
theorem dC_inside_1 : decode bC_inside 1 = .ok (.iload_n 1, 1) := by decide +kernel
theorem dC_inside_2 : decode bC_inside 2 = .ok (.invokevirtual 89, 3) := by decide +kernel
theorem dC_inside_5 : decode bC_inside 5 = .ok (.astore_n 3, 1) := by decide +kernel
theorem dC_inside_6 : decode bC_inside 6 = .ok (.aload_n 3, 1) := by decide +kernel
theorem dC_inside_7 : decode bC_inside 7 = .ok (.ifnull 16, 3) := by decide +kernel
theorem dC_inside_10 : decode bC_inside 10 = .ok (.iload_n 2, 1) := by decide +kernel
theorem dC_inside_11 : decode bC_inside 11 = .ok (.ifCond .lt 12, 3) := by decide +kernel
theorem dC_inside_14 : decode bC_inside 14 = .ok (.iload_n 2, 1) := by decide +kernel
theorem dC_inside_15 : decode bC_inside 15 = .ok (.aload_n 3, 1) := by decide +kernel
theorem dC_inside_16 : decode bC_inside 16 = .ok (.getfield 135, 3) := by decide +kernel
theorem dC_inside_19 : decode bC_inside 19 = .ok (.arraylength, 1) := by decide +kernel
theorem dC_inside_20 : decode bC_inside 20 = .ok (.if_icmp .lt 5, 3) := by decide +kernel
theorem dC_inside_23 : decode bC_inside 23 = .ok (.iconst (-1), 1) := by decide +kernel
theorem dC_inside_24 : decode bC_inside 24 = .ok (.ireturn, 1) := by decide +kernel
theorem dC_inside_25 : decode bC_inside 25 = .ok (.aload_n 3, 1) := by decide +kernel
theorem dC_inside_26 : decode bC_inside 26 = .ok (.getfield 135, 3) := by decide +kernel
theorem dC_inside_29 : decode bC_inside 29 = .ok (.iload_n 2, 1) := by decide +kernel
theorem dC_inside_30 : decode bC_inside 30 = .ok (.iaload, 1) := by decide +kernel
theorem dC_inside_31 : decode bC_inside 31 = .ok (.ireturn, 1) := by decide +kernel
theorem dC_told_0 : decode bC_told 0 = .ok (.aload_n 0, 1) := by decide +kernel
theorem dC_told_1 : decode bC_told 1 = .ok (.iload_n 1, 1) := by decide +kernel
theorem dC_told_2 : decode bC_told 2 = .ok (.invokevirtual 89, 3) := by decide +kernel
theorem dC_told_5 : decode bC_told 5 = .ok (.astore_n 2, 1) := by decide +kernel
theorem dC_told_6 : decode bC_told 6 = .ok (.aload_n 2, 1) := by decide +kernel
theorem dC_told_7 : decode bC_told 7 = .ok (.ifnonnull 9, 3) := by decide +kernel
theorem dC_told_10 : decode bC_told 10 = .ok (.ldc2_w 150, 3) := by decide +kernel
theorem dC_told_13 : decode bC_told 13 = .ok (.goto 7, 3) := by decide +kernel
theorem dC_told_16 : decode bC_told 16 = .ok (.aload_n 2, 1) := by decide +kernel
theorem dC_told_17 : decode bC_told 17 = .ok (.getfield 131, 3) := by decide +kernel
theorem dC_told_20 : decode bC_told 20 = .ok (.lreturn, 1) := by decide +kernel
theorem dC_log_0 : decode bC_log 0 = .ok (.aload_n 0, 1) := by decide +kernel
theorem dC_log_1 : decode bC_log 1 = .ok (.iload_n 1, 1) := by decide +kernel
theorem dC_log_2 : decode bC_log 2 = .ok (.invokevirtual 54, 3) := by decide +kernel
theorem dC_log_5 : decode bC_log 5 = .ok (.ifCond .eq 17, 3) := by decide +kernel
theorem dC_log_8 : decode bC_log 8 = .ok (.iload_n 2, 1) := by decide +kernel
theorem dC_log_9 : decode bC_log 9 = .ok (.ifCond .lt 13, 3) := by decide +kernel
theorem dC_log_12 : decode bC_log 12 = .ok (.iload_n 2, 1) := by decide +kernel
theorem dC_log_13 : decode bC_log 13 = .ok (.aload_n 0, 1) := by decide +kernel
theorem dC_log_14 : decode bC_log 14 = .ok (.getfield 38, 3) := by decide +kernel
theorem dC_log_17 : decode bC_log 17 = .ok (.iload_n 1, 1) := by decide +kernel
theorem dC_log_18 : decode bC_log 18 = .ok (.iaload, 1) := by decide +kernel
theorem dC_log_19 : decode bC_log 19 = .ok (.if_icmp .lt 5, 3) := by decide +kernel
theorem dC_log_22 : decode bC_log 22 = .ok (.iconst (-1), 1) := by decide +kernel
theorem dC_log_23 : decode bC_log 23 = .ok (.ireturn, 1) := by decide +kernel
theorem dC_log_24 : decode bC_log 24 = .ok (.aload_n 0, 1) := by decide +kernel
theorem dC_log_25 : decode bC_log 25 = .ok (.getfield 35, 3) := by decide +kernel
theorem dC_log_28 : decode bC_log 28 = .ok (.iload_n 1, 1) := by decide +kernel
theorem dC_log_29 : decode bC_log 29 = .ok (.aaload, 1) := by decide +kernel
theorem dC_log_30 : decode bC_log 30 = .ok (.iload_n 2, 1) := by decide +kernel
theorem dC_log_31 : decode bC_log 31 = .ok (.iaload, 1) := by decide +kernel
theorem dC_log_32 : decode bC_log 32 = .ok (.ireturn, 1) := by decide +kernel
theorem dC_weight_0 : decode bC_weight 0 = .ok (.aload_n 0, 1) := by decide +kernel
theorem dC_weight_1 : decode bC_weight 1 = .ok (.iload_n 1, 1) := by decide +kernel
theorem dC_weight_2 : decode bC_weight 2 = .ok (.invokevirtual 54, 3) := by decide +kernel
theorem dC_weight_5 : decode bC_weight 5 = .ok (.ifCond .eq 17, 3) := by decide +kernel
theorem dC_weight_8 : decode bC_weight 8 = .ok (.iload_n 2, 1) := by decide +kernel
theorem dC_weight_9 : decode bC_weight 9 = .ok (.iconst 1, 1) := by decide +kernel
theorem dC_weight_10 : decode bC_weight 10 = .ok (.if_icmp .lt 12, 3) := by decide +kernel
theorem dC_weight_13 : decode bC_weight 13 = .ok (.iload_n 2, 1) := by decide +kernel
theorem dC_weight_14 : decode bC_weight 14 = .ok (.aload_n 0, 1) := by decide +kernel
theorem dC_weight_15 : decode bC_weight 15 = .ok (.iload_n 1, 1) := by decide +kernel
theorem dC_weight_16 : decode bC_weight 16 = .ok (.invokevirtual 70, 3) := by decide +kernel
theorem dC_weight_19 : decode bC_weight 19 = .ok (.if_icmp .le 5, 3) := by decide +kernel
theorem dC_weight_22 : decode bC_weight 22 = .ok (.iconst (-1), 1) := by decide +kernel
theorem dC_weight_23 : decode bC_weight 23 = .ok (.ireturn, 1) := by decide +kernel
theorem dC_weight_24 : decode bC_weight 24 = .ok (.aload_n 0, 1) := by decide +kernel
theorem dC_weight_25 : decode bC_weight 25 = .ok (.getfield 42, 3) := by decide +kernel
theorem dC_weight_28 : decode bC_weight 28 = .ok (.iload_n 1, 1) := by decide +kernel
theorem dC_weight_29 : decode bC_weight 29 = .ok (.aaload, 1) := by decide +kernel
theorem dC_weight_30 : decode bC_weight 30 = .ok (.iload_n 2, 1) := by decide +kernel
theorem dC_weight_31 : decode bC_weight 31 = .ok (.iconst 1, 1) := by decide +kernel
theorem dC_weight_32 : decode bC_weight 32 = .ok (.isub, 1) := by decide +kernel
theorem dC_weight_33 : decode bC_weight 33 = .ok (.iaload, 1) := by decide +kernel
theorem dC_weight_34 : decode bC_weight 34 = .ok (.ireturn, 1) := by decide +kernel
theorem dC_madeBy_0 : decode bC_madeBy 0 = .ok (.aload_n 0, 1) := by decide +kernel
theorem dC_madeBy_1 : decode bC_madeBy 1 = .ok (.getfield 29, 3) := by decide +kernel
theorem dC_madeBy_4 : decode bC_madeBy 4 = .ok (.iload_n 1, 1) := by decide +kernel
theorem dC_madeBy_5 : decode bC_madeBy 5 = .ok (.laload, 1) := by decide +kernel
theorem dC_madeBy_6 : decode bC_madeBy 6 = .ok (.iload_n 1, 1) := by decide +kernel
theorem dC_madeBy_7 : decode bC_madeBy 7 = .ok (.invokestatic 168, 3) := by decide +kernel
theorem dC_madeBy_10 : decode bC_madeBy 10 = .ok (.ireturn, 1) := by decide +kernel
theorem dC_countIn_0 : decode bC_countIn 0 = .ok (.lload_n 0, 1) := by decide +kernel
theorem dC_countIn_1 : decode bC_countIn 1 = .ok (.bipush 8, 2) := by decide +kernel
theorem dC_countIn_3 : decode bC_countIn 3 = .ok (.iload_n 2, 1) := by decide +kernel
theorem dC_countIn_4 : decode bC_countIn 4 = .ok (.imul, 1) := by decide +kernel
theorem dC_countIn_5 : decode bC_countIn 5 = .ok (.lushr, 1) := by decide +kernel
theorem dC_countIn_6 : decode bC_countIn 6 = .ok (.l2i, 1) := by decide +kernel
theorem dC_countIn_7 : decode bC_countIn 7 = .ok (.sipush 255, 3) := by decide +kernel
theorem dC_countIn_10 : decode bC_countIn 10 = .ok (.iand, 1) := by decide +kernel
theorem dC_countIn_11 : decode bC_countIn 11 = .ok (.ireturn, 1) := by decide +kernel
theorem dC_look_0 : decode bC_look 0 = .ok (.iload_n 1, 1) := by decide +kernel
theorem dC_look_1 : decode bC_look 1 = .ok (.tableswitch 96 0 8 #[51, 56, 61, 66, 71, 76, 81, 86, 91], 51) := by decide +kernel
theorem dC_look_52 : decode bC_look 52 = .ok (.aload_n 0, 1) := by decide +kernel
theorem dC_look_53 : decode bC_look 53 = .ok (.getfield 18, 3) := by decide +kernel
theorem dC_look_56 : decode bC_look 56 = .ok (.ireturn, 1) := by decide +kernel
theorem dC_look_57 : decode bC_look 57 = .ok (.aload_n 0, 1) := by decide +kernel
theorem dC_look_58 : decode bC_look 58 = .ok (.getfield 22, 3) := by decide +kernel
theorem dC_look_61 : decode bC_look 61 = .ok (.ireturn, 1) := by decide +kernel
theorem dC_look_62 : decode bC_look 62 = .ok (.aload_n 0, 1) := by decide +kernel
theorem dC_look_63 : decode bC_look 63 = .ok (.getfield 156, 3) := by decide +kernel
theorem dC_look_66 : decode bC_look 66 = .ok (.ireturn, 1) := by decide +kernel
theorem dC_look_67 : decode bC_look 67 = .ok (.aload_n 0, 1) := by decide +kernel
theorem dC_look_68 : decode bC_look 68 = .ok (.getfield 119, 3) := by decide +kernel
theorem dC_look_71 : decode bC_look 71 = .ok (.ireturn, 1) := by decide +kernel
theorem dC_look_72 : decode bC_look 72 = .ok (.aload_n 0, 1) := by decide +kernel
theorem dC_look_73 : decode bC_look 73 = .ok (.getfield 116, 3) := by decide +kernel
theorem dC_look_76 : decode bC_look 76 = .ok (.ireturn, 1) := by decide +kernel
theorem dC_look_77 : decode bC_look 77 = .ok (.aload_n 0, 1) := by decide +kernel
theorem dC_look_78 : decode bC_look 78 = .ok (.getfield 102, 3) := by decide +kernel
theorem dC_look_81 : decode bC_look 81 = .ok (.ireturn, 1) := by decide +kernel
theorem dC_look_82 : decode bC_look 82 = .ok (.aload_n 0, 1) := by decide +kernel
theorem dC_look_83 : decode bC_look 83 = .ok (.getfield 159, 3) := by decide +kernel
theorem dC_look_86 : decode bC_look 86 = .ok (.ireturn, 1) := by decide +kernel
theorem dC_look_87 : decode bC_look 87 = .ok (.aload_n 0, 1) := by decide +kernel
theorem dC_look_88 : decode bC_look 88 = .ok (.invokevirtual 162, 3) := by decide +kernel
theorem dC_look_91 : decode bC_look 91 = .ok (.ireturn, 1) := by decide +kernel
theorem dC_look_92 : decode bC_look 92 = .ok (.aload_n 0, 1) := by decide +kernel
theorem dC_look_93 : decode bC_look 93 = .ok (.invokevirtual 165, 3) := by decide +kernel
theorem dC_look_96 : decode bC_look 96 = .ok (.ireturn, 1) := by decide +kernel
theorem dC_look_97 : decode bC_look 97 = .ok (.iconst (-1), 1) := by decide +kernel
theorem dC_look_98 : decode bC_look 98 = .ok (.ireturn, 1) := by decide +kernel
theorem dC_replicasWithAll_0 : decode bC_replicasWithAll 0 = .ok (.aload_n 0, 1) := by decide +kernel
theorem dC_replicasWithAll_1 : decode bC_replicasWithAll 1 = .ok (.invokevirtual 152, 3) := by decide +kernel
theorem dC_replicasWithAll_4 : decode bC_replicasWithAll 4 = .ok (.istore_n 1, 1) := by decide +kernel
theorem dC_replicasWithAll_5 : decode bC_replicasWithAll 5 = .ok (.iconst 0, 1) := by decide +kernel
theorem dC_replicasWithAll_6 : decode bC_replicasWithAll 6 = .ok (.istore_n 2, 1) := by decide +kernel
theorem dC_replicasWithAll_7 : decode bC_replicasWithAll 7 = .ok (.iconst 0, 1) := by decide +kernel
theorem dC_replicasWithAll_8 : decode bC_replicasWithAll 8 = .ok (.istore_n 3, 1) := by decide +kernel
theorem dC_replicasWithAll_9 : decode bC_replicasWithAll 9 = .ok (.iload_n 3, 1) := by decide +kernel
theorem dC_replicasWithAll_10 : decode bC_replicasWithAll 10 = .ok (.aload_n 0, 1) := by decide +kernel
theorem dC_replicasWithAll_11 : decode bC_replicasWithAll 11 = .ok (.getfield 18, 3) := by decide +kernel
theorem dC_replicasWithAll_14 : decode bC_replicasWithAll 14 = .ok (.if_icmp .ge 22, 3) := by decide +kernel
theorem dC_replicasWithAll_17 : decode bC_replicasWithAll 17 = .ok (.aload_n 0, 1) := by decide +kernel
theorem dC_replicasWithAll_18 : decode bC_replicasWithAll 18 = .ok (.getfield 38, 3) := by decide +kernel
theorem dC_replicasWithAll_21 : decode bC_replicasWithAll 21 = .ok (.iload_n 3, 1) := by decide +kernel
theorem dC_replicasWithAll_22 : decode bC_replicasWithAll 22 = .ok (.iaload, 1) := by decide +kernel
theorem dC_replicasWithAll_23 : decode bC_replicasWithAll 23 = .ok (.iload_n 1, 1) := by decide +kernel
theorem dC_replicasWithAll_24 : decode bC_replicasWithAll 24 = .ok (.if_icmp .ne 6, 3) := by decide +kernel
theorem dC_replicasWithAll_27 : decode bC_replicasWithAll 27 = .ok (.iinc 2 1, 3) := by decide +kernel
theorem dC_replicasWithAll_30 : decode bC_replicasWithAll 30 = .ok (.iinc 3 1, 3) := by decide +kernel
theorem dC_replicasWithAll_33 : decode bC_replicasWithAll 33 = .ok (.goto (-24), 3) := by decide +kernel
theorem dC_replicasWithAll_36 : decode bC_replicasWithAll 36 = .ok (.iload_n 2, 1) := by decide +kernel
theorem dC_replicasWithAll_37 : decode bC_replicasWithAll 37 = .ok (.ireturn, 1) := by decide +kernel
theorem dC_madeByAll_0 : decode bC_madeByAll 0 = .ok (.iconst 0, 1) := by decide +kernel
theorem dC_madeByAll_1 : decode bC_madeByAll 1 = .ok (.istore_n 1, 1) := by decide +kernel
theorem dC_madeByAll_2 : decode bC_madeByAll 2 = .ok (.iconst 0, 1) := by decide +kernel
theorem dC_madeByAll_3 : decode bC_madeByAll 3 = .ok (.istore_n 2, 1) := by decide +kernel
theorem dC_madeByAll_4 : decode bC_madeByAll 4 = .ok (.iload_n 2, 1) := by decide +kernel
theorem dC_madeByAll_5 : decode bC_madeByAll 5 = .ok (.aload_n 0, 1) := by decide +kernel
theorem dC_madeByAll_6 : decode bC_madeByAll 6 = .ok (.getfield 18, 3) := by decide +kernel
theorem dC_madeByAll_9 : decode bC_madeByAll 9 = .ok (.if_icmp .ge 17, 3) := by decide +kernel
theorem dC_madeByAll_12 : decode bC_madeByAll 12 = .ok (.iload_n 1, 1) := by decide +kernel
theorem dC_madeByAll_13 : decode bC_madeByAll 13 = .ok (.aload_n 0, 1) := by decide +kernel
theorem dC_madeByAll_14 : decode bC_madeByAll 14 = .ok (.iload_n 2, 1) := by decide +kernel
theorem dC_madeByAll_15 : decode bC_madeByAll 15 = .ok (.invokevirtual 70, 3) := by decide +kernel
theorem dC_madeByAll_18 : decode bC_madeByAll 18 = .ok (.iadd, 1) := by decide +kernel
theorem dC_madeByAll_19 : decode bC_madeByAll 19 = .ok (.istore_n 1, 1) := by decide +kernel
theorem dC_madeByAll_20 : decode bC_madeByAll 20 = .ok (.iinc 2 1, 3) := by decide +kernel
theorem dC_madeByAll_23 : decode bC_madeByAll 23 = .ok (.goto (-19), 3) := by decide +kernel
theorem dC_madeByAll_26 : decode bC_madeByAll 26 = .ok (.iload_n 1, 1) := by decide +kernel
theorem dC_madeByAll_27 : decode bC_madeByAll 27 = .ok (.ireturn, 1) := by decide +kernel
theorem dC_bytesInFlight_0 : decode bC_bytesInFlight 0 = .ok (.iconst 0, 1) := by decide +kernel
theorem dC_bytesInFlight_1 : decode bC_bytesInFlight 1 = .ok (.istore_n 1, 1) := by decide +kernel
theorem dC_bytesInFlight_2 : decode bC_bytesInFlight 2 = .ok (.iconst 0, 1) := by decide +kernel
theorem dC_bytesInFlight_3 : decode bC_bytesInFlight 3 = .ok (.istore_n 2, 1) := by decide +kernel
theorem dC_bytesInFlight_4 : decode bC_bytesInFlight 4 = .ok (.iload_n 2, 1) := by decide +kernel
theorem dC_bytesInFlight_5 : decode bC_bytesInFlight 5 = .ok (.aload_n 0, 1) := by decide +kernel
theorem dC_bytesInFlight_6 : decode bC_bytesInFlight 6 = .ok (.getfield 156, 3) := by decide +kernel
theorem dC_bytesInFlight_9 : decode bC_bytesInFlight 9 = .ok (.if_icmp .ge 26, 3) := by decide +kernel
theorem dC_bytesInFlight_12 : decode bC_bytesInFlight 12 = .ok (.aload_n 0, 1) := by decide +kernel
theorem dC_bytesInFlight_13 : decode bC_bytesInFlight 13 = .ok (.iload_n 2, 1) := by decide +kernel
theorem dC_bytesInFlight_14 : decode bC_bytesInFlight 14 = .ok (.invokevirtual 89, 3) := by decide +kernel
theorem dC_bytesInFlight_17 : decode bC_bytesInFlight 17 = .ok (.astore_n 3, 1) := by decide +kernel
theorem dC_bytesInFlight_18 : decode bC_bytesInFlight 18 = .ok (.aload_n 3, 1) := by decide +kernel
theorem dC_bytesInFlight_19 : decode bC_bytesInFlight 19 = .ok (.ifnull 10, 3) := by decide +kernel
theorem dC_bytesInFlight_22 : decode bC_bytesInFlight 22 = .ok (.iload_n 1, 1) := by decide +kernel
theorem dC_bytesInFlight_23 : decode bC_bytesInFlight 23 = .ok (.aload_n 3, 1) := by decide +kernel
theorem dC_bytesInFlight_24 : decode bC_bytesInFlight 24 = .ok (.getfield 128, 3) := by decide +kernel
theorem dC_bytesInFlight_27 : decode bC_bytesInFlight 27 = .ok (.iadd, 1) := by decide +kernel
theorem dC_bytesInFlight_28 : decode bC_bytesInFlight 28 = .ok (.istore_n 1, 1) := by decide +kernel
theorem dC_bytesInFlight_29 : decode bC_bytesInFlight 29 = .ok (.iinc 2 1, 3) := by decide +kernel
theorem dC_bytesInFlight_32 : decode bC_bytesInFlight 32 = .ok (.goto (-28), 3) := by decide +kernel
theorem dC_bytesInFlight_35 : decode bC_bytesInFlight 35 = .ok (.iload_n 1, 1) := by decide +kernel
theorem dC_bytesInFlight_36 : decode bC_bytesInFlight 36 = .ok (.ireturn, 1) := by decide +kernel
theorem dC_make_0 : decode bC_make 0 = .ok (.aload_n 0, 1) := by decide +kernel
theorem dC_make_1 : decode bC_make 1 = .ok (.iload_n 1, 1) := by decide +kernel
theorem dC_make_2 : decode bC_make 2 = .ok (.invokevirtual 54, 3) := by decide +kernel
theorem dC_make_5 : decode bC_make 5 = .ok (.ifCond .ne 13, 3) := by decide +kernel
theorem dC_make_8 : decode bC_make 8 = .ok (.new 58, 3) := by decide +kernel
theorem dC_make_11 : decode bC_make 11 = .ok (.dup, 1) := by decide +kernel
theorem dC_make_12 : decode bC_make 12 = .ok (.ldc 60, 2) := by decide +kernel
theorem dC_make_14 : decode bC_make 14 = .ok (.invokespecial 62, 3) := by decide +kernel
theorem dC_make_17 : decode bC_make 17 = .ok (.athrow, 1) := by decide +kernel
theorem dC_make_18 : decode bC_make 18 = .ok (.iload_n 2, 1) := by decide +kernel
theorem dC_make_19 : decode bC_make 19 = .ok (.iconst 1, 1) := by decide +kernel
theorem dC_make_20 : decode bC_make 20 = .ok (.if_icmp .lt 10, 3) := by decide +kernel
theorem dC_make_23 : decode bC_make 23 = .ok (.iload_n 2, 1) := by decide +kernel
theorem dC_make_24 : decode bC_make 24 = .ok (.sipush 400, 3) := by decide +kernel
theorem dC_make_27 : decode bC_make 27 = .ok (.if_icmp .le 13, 3) := by decide +kernel
theorem dC_make_30 : decode bC_make 30 = .ok (.new 65, 3) := by decide +kernel
theorem dC_make_33 : decode bC_make 33 = .ok (.dup, 1) := by decide +kernel
theorem dC_make_34 : decode bC_make 34 = .ok (.ldc 67, 2) := by decide +kernel
theorem dC_make_36 : decode bC_make 36 = .ok (.invokespecial 69, 3) := by decide +kernel
theorem dC_make_39 : decode bC_make 39 = .ok (.athrow, 1) := by decide +kernel
theorem dC_make_40 : decode bC_make 40 = .ok (.aload_n 0, 1) := by decide +kernel
theorem dC_make_41 : decode bC_make 41 = .ok (.iload_n 1, 1) := by decide +kernel
theorem dC_make_42 : decode bC_make 42 = .ok (.invokevirtual 70, 3) := by decide +kernel
theorem dC_make_45 : decode bC_make 45 = .ok (.istore_n 3, 1) := by decide +kernel
theorem dC_make_46 : decode bC_make 46 = .ok (.aload_n 0, 1) := by decide +kernel
theorem dC_make_47 : decode bC_make 47 = .ok (.getfield 25, 3) := by decide +kernel
theorem dC_make_50 : decode bC_make 50 = .ok (.iload_n 1, 1) := by decide +kernel
theorem dC_make_51 : decode bC_make 51 = .ok (.baload, 1) := by decide +kernel
theorem dC_make_52 : decode bC_make 52 = .ok (.ifCond .ne 9, 3) := by decide +kernel
theorem dC_make_55 : decode bC_make 55 = .ok (.iload_n 3, 1) := by decide +kernel
theorem dC_make_56 : decode bC_make 56 = .ok (.bipush 60, 2) := by decide +kernel
theorem dC_make_58 : decode bC_make 58 = .ok (.if_icmp .lt 13, 3) := by decide +kernel
theorem dC_make_61 : decode bC_make 61 = .ok (.new 74, 3) := by decide +kernel
theorem dC_make_64 : decode bC_make 64 = .ok (.dup, 1) := by decide +kernel
theorem dC_make_65 : decode bC_make 65 = .ok (.ldc 76, 2) := by decide +kernel
theorem dC_make_67 : decode bC_make 67 = .ok (.invokespecial 78, 3) := by decide +kernel
theorem dC_make_70 : decode bC_make 70 = .ok (.athrow, 1) := by decide +kernel
theorem dC_make_71 : decode bC_make 71 = .ok (.iload_n 3, 1) := by decide +kernel
theorem dC_make_72 : decode bC_make 72 = .ok (.iconst 1, 1) := by decide +kernel
theorem dC_make_73 : decode bC_make 73 = .ok (.iadd, 1) := by decide +kernel
theorem dC_make_74 : decode bC_make 74 = .ok (.istore 4, 2) := by decide +kernel
theorem dC_make_76 : decode bC_make 76 = .ok (.aload_n 0, 1) := by decide +kernel
theorem dC_make_77 : decode bC_make 77 = .ok (.getfield 42, 3) := by decide +kernel
theorem dC_make_80 : decode bC_make 80 = .ok (.iload_n 1, 1) := by decide +kernel
theorem dC_make_81 : decode bC_make 81 = .ok (.aaload, 1) := by decide +kernel
theorem dC_make_82 : decode bC_make 82 = .ok (.iload_n 3, 1) := by decide +kernel
theorem dC_make_83 : decode bC_make 83 = .ok (.iload_n 2, 1) := by decide +kernel
theorem dC_make_84 : decode bC_make 84 = .ok (.iastore, 1) := by decide +kernel
theorem dC_make_85 : decode bC_make 85 = .ok (.aload_n 0, 1) := by decide +kernel
theorem dC_make_86 : decode bC_make 86 = .ok (.iload_n 1, 1) := by decide +kernel
theorem dC_make_87 : decode bC_make 87 = .ok (.iload_n 1, 1) := by decide +kernel
theorem dC_make_88 : decode bC_make 88 = .ok (.bipush 8, 2) := by decide +kernel
theorem dC_make_90 : decode bC_make 90 = .ok (.iload 4, 2) := by decide +kernel
theorem dC_make_92 : decode bC_make 92 = .ok (.imul, 1) := by decide +kernel
theorem dC_make_93 : decode bC_make 93 = .ok (.iadd, 1) := by decide +kernel
theorem dC_make_94 : decode bC_make 94 = .ok (.invokevirtual 79, 3) := by decide +kernel
theorem dC_make_97 : decode bC_make 97 = .ok (.pop, 1) := by decide +kernel
theorem dC_make_98 : decode bC_make 98 = .ok (.iload 4, 2) := by decide +kernel
theorem dC_make_100 : decode bC_make 100 = .ok (.ireturn, 1) := by decide +kernel
theorem dC_comesToLog_0 : decode bC_comesToLog 0 = .ok (.iload_n 2, 1) := by decide +kernel
theorem dC_comesToLog_1 : decode bC_comesToLog 1 = .ok (.invokestatic 172, 3) := by decide +kernel
theorem dC_comesToLog_4 : decode bC_comesToLog 4 = .ok (.istore_n 3, 1) := by decide +kernel
theorem dC_comesToLog_5 : decode bC_comesToLog 5 = .ok (.aload_n 0, 1) := by decide +kernel
theorem dC_comesToLog_6 : decode bC_comesToLog 6 = .ok (.getfield 38, 3) := by decide +kernel
theorem dC_comesToLog_9 : decode bC_comesToLog 9 = .ok (.iload_n 1, 1) := by decide +kernel
theorem dC_comesToLog_10 : decode bC_comesToLog 10 = .ok (.iaload, 1) := by decide +kernel
theorem dC_comesToLog_11 : decode bC_comesToLog 11 = .ok (.istore 4, 2) := by decide +kernel
theorem dC_comesToLog_13 : decode bC_comesToLog 13 = .ok (.iload_n 2, 1) := by decide +kernel
theorem dC_comesToLog_14 : decode bC_comesToLog 14 = .ok (.invokestatic 175, 3) := by decide +kernel
theorem dC_comesToLog_17 : decode bC_comesToLog 17 = .ok (.aload_n 0, 1) := by decide +kernel
theorem dC_comesToLog_18 : decode bC_comesToLog 18 = .ok (.getfield 29, 3) := by decide +kernel
theorem dC_comesToLog_21 : decode bC_comesToLog 21 = .ok (.iload_n 1, 1) := by decide +kernel
theorem dC_comesToLog_22 : decode bC_comesToLog 22 = .ok (.laload, 1) := by decide +kernel
theorem dC_comesToLog_23 : decode bC_comesToLog 23 = .ok (.iload_n 3, 1) := by decide +kernel
theorem dC_comesToLog_24 : decode bC_comesToLog 24 = .ok (.invokestatic 168, 3) := by decide +kernel
theorem dC_comesToLog_27 : decode bC_comesToLog 27 = .ok (.iconst 1, 1) := by decide +kernel
theorem dC_comesToLog_28 : decode bC_comesToLog 28 = .ok (.iadd, 1) := by decide +kernel
theorem dC_comesToLog_29 : decode bC_comesToLog 29 = .ok (.if_icmp .ne 15, 3) := by decide +kernel
theorem dC_comesToLog_32 : decode bC_comesToLog 32 = .ok (.iload 4, 2) := by decide +kernel
theorem dC_comesToLog_34 : decode bC_comesToLog 34 = .ok (.aload_n 0, 1) := by decide +kernel
theorem dC_comesToLog_35 : decode bC_comesToLog 35 = .ok (.getfield 35, 3) := by decide +kernel
theorem dC_comesToLog_38 : decode bC_comesToLog 38 = .ok (.iload_n 1, 1) := by decide +kernel
theorem dC_comesToLog_39 : decode bC_comesToLog 39 = .ok (.aaload, 1) := by decide +kernel
theorem dC_comesToLog_40 : decode bC_comesToLog 40 = .ok (.arraylength, 1) := by decide +kernel
theorem dC_comesToLog_41 : decode bC_comesToLog 41 = .ok (.if_icmp .lt 5, 3) := by decide +kernel
theorem dC_comesToLog_44 : decode bC_comesToLog 44 = .ok (.iconst 0, 1) := by decide +kernel
theorem dC_comesToLog_45 : decode bC_comesToLog 45 = .ok (.ireturn, 1) := by decide +kernel
theorem dC_comesToLog_46 : decode bC_comesToLog 46 = .ok (.aload_n 0, 1) := by decide +kernel
theorem dC_comesToLog_47 : decode bC_comesToLog 47 = .ok (.getfield 35, 3) := by decide +kernel
theorem dC_comesToLog_50 : decode bC_comesToLog 50 = .ok (.iload_n 1, 1) := by decide +kernel
theorem dC_comesToLog_51 : decode bC_comesToLog 51 = .ok (.aaload, 1) := by decide +kernel
theorem dC_comesToLog_52 : decode bC_comesToLog 52 = .ok (.iload 4, 2) := by decide +kernel
theorem dC_comesToLog_54 : decode bC_comesToLog 54 = .ok (.iload_n 2, 1) := by decide +kernel
theorem dC_comesToLog_55 : decode bC_comesToLog 55 = .ok (.iastore, 1) := by decide +kernel
theorem dC_comesToLog_56 : decode bC_comesToLog 56 = .ok (.aload_n 0, 1) := by decide +kernel
theorem dC_comesToLog_57 : decode bC_comesToLog 57 = .ok (.getfield 38, 3) := by decide +kernel
theorem dC_comesToLog_60 : decode bC_comesToLog 60 = .ok (.iload_n 1, 1) := by decide +kernel
theorem dC_comesToLog_61 : decode bC_comesToLog 61 = .ok (.iload 4, 2) := by decide +kernel
theorem dC_comesToLog_63 : decode bC_comesToLog 63 = .ok (.iconst 1, 1) := by decide +kernel
theorem dC_comesToLog_64 : decode bC_comesToLog 64 = .ok (.iadd, 1) := by decide +kernel
theorem dC_comesToLog_65 : decode bC_comesToLog 65 = .ok (.iastore, 1) := by decide +kernel
theorem dC_comesToLog_66 : decode bC_comesToLog 66 = .ok (.aload_n 0, 1) := by decide +kernel
theorem dC_comesToLog_67 : decode bC_comesToLog 67 = .ok (.getfield 29, 3) := by decide +kernel
theorem dC_comesToLog_70 : decode bC_comesToLog 70 = .ok (.iload_n 1, 1) := by decide +kernel
theorem dC_comesToLog_71 : decode bC_comesToLog 71 = .ok (.dup2, 1) := by decide +kernel
theorem dC_comesToLog_72 : decode bC_comesToLog 72 = .ok (.laload, 1) := by decide +kernel
theorem dC_comesToLog_73 : decode bC_comesToLog 73 = .ok (.lconst 1, 1) := by decide +kernel
theorem dC_comesToLog_74 : decode bC_comesToLog 74 = .ok (.bipush 8, 2) := by decide +kernel
theorem dC_comesToLog_76 : decode bC_comesToLog 76 = .ok (.iload_n 3, 1) := by decide +kernel
theorem dC_comesToLog_77 : decode bC_comesToLog 77 = .ok (.imul, 1) := by decide +kernel
theorem dC_comesToLog_78 : decode bC_comesToLog 78 = .ok (.lshl, 1) := by decide +kernel
theorem dC_comesToLog_79 : decode bC_comesToLog 79 = .ok (.ladd, 1) := by decide +kernel
theorem dC_comesToLog_80 : decode bC_comesToLog 80 = .ok (.lastore, 1) := by decide +kernel
theorem dC_comesToLog_81 : decode bC_comesToLog 81 = .ok (.iconst 1, 1) := by decide +kernel
theorem dC_comesToLog_82 : decode bC_comesToLog 82 = .ok (.ireturn, 1) := by decide +kernel
theorem dC_actorOf_0 : decode bC_actorOf 0 = .ok (.iload_n 0, 1) := by decide +kernel
theorem dC_actorOf_1 : decode bC_actorOf 1 = .ok (.bipush 8, 2) := by decide +kernel
theorem dC_actorOf_3 : decode bC_actorOf 3 = .ok (.irem, 1) := by decide +kernel
theorem dC_actorOf_4 : decode bC_actorOf 4 = .ok (.ireturn, 1) := by decide +kernel
theorem dC_seqOf_0 : decode bC_seqOf 0 = .ok (.iload_n 0, 1) := by decide +kernel
theorem dC_seqOf_1 : decode bC_seqOf 1 = .ok (.bipush 8, 2) := by decide +kernel
theorem dC_seqOf_3 : decode bC_seqOf 3 = .ok (.idiv, 1) := by decide +kernel
theorem dC_seqOf_4 : decode bC_seqOf 4 = .ok (.ireturn, 1) := by decide +kernel
theorem dC_tick_0 : decode bC_tick 0 = .ok (.aload_n 0, 1) := by decide +kernel
theorem dC_tick_1 : decode bC_tick 1 = .ok (.iload_n 1, 1) := by decide +kernel
theorem dC_tick_2 : decode bC_tick 2 = .ok (.invokevirtual 54, 3) := by decide +kernel
theorem dC_tick_5 : decode bC_tick 5 = .ok (.ifCond .ne 13, 3) := by decide +kernel
theorem dC_tick_8 : decode bC_tick 8 = .ok (.new 58, 3) := by decide +kernel
theorem dC_tick_11 : decode bC_tick 11 = .ok (.dup, 1) := by decide +kernel
theorem dC_tick_12 : decode bC_tick 12 = .ok (.ldc 60, 2) := by decide +kernel
theorem dC_tick_14 : decode bC_tick 14 = .ok (.invokespecial 62, 3) := by decide +kernel
theorem dC_tick_17 : decode bC_tick 17 = .ok (.athrow, 1) := by decide +kernel
theorem dC_tick_18 : decode bC_tick 18 = .ok (.aload_n 0, 1) := by decide +kernel
theorem dC_tick_19 : decode bC_tick 19 = .ok (.getfield 25, 3) := by decide +kernel
theorem dC_tick_22 : decode bC_tick 22 = .ok (.iload_n 1, 1) := by decide +kernel
theorem dC_tick_23 : decode bC_tick 23 = .ok (.baload, 1) := by decide +kernel
theorem dC_tick_24 : decode bC_tick 24 = .ok (.ifCond .eq 13, 3) := by decide +kernel
theorem dC_tick_27 : decode bC_tick 27 = .ok (.new 74, 3) := by decide +kernel
theorem dC_tick_30 : decode bC_tick 30 = .ok (.dup, 1) := by decide +kernel
theorem dC_tick_31 : decode bC_tick 31 = .ok (.ldc 83, 2) := by decide +kernel
theorem dC_tick_33 : decode bC_tick 33 = .ok (.invokespecial 78, 3) := by decide +kernel
theorem dC_tick_36 : decode bC_tick 36 = .ok (.athrow, 1) := by decide +kernel
theorem dC_tick_37 : decode bC_tick 37 = .ok (.iconst 0, 1) := by decide +kernel
theorem dC_tick_38 : decode bC_tick 38 = .ok (.istore_n 2, 1) := by decide +kernel
theorem dC_tick_39 : decode bC_tick 39 = .ok (.iload_n 2, 1) := by decide +kernel
theorem dC_tick_40 : decode bC_tick 40 = .ok (.aload_n 0, 1) := by decide +kernel
theorem dC_tick_41 : decode bC_tick 41 = .ok (.getfield 18, 3) := by decide +kernel
theorem dC_tick_44 : decode bC_tick 44 = .ok (.if_icmp .ge 20, 3) := by decide +kernel
theorem dC_tick_47 : decode bC_tick 47 = .ok (.iload_n 2, 1) := by decide +kernel
theorem dC_tick_48 : decode bC_tick 48 = .ok (.iload_n 1, 1) := by decide +kernel
theorem dC_tick_49 : decode bC_tick 49 = .ok (.if_icmp .eq 9, 3) := by decide +kernel
theorem dC_tick_52 : decode bC_tick 52 = .ok (.aload_n 0, 1) := by decide +kernel
theorem dC_tick_53 : decode bC_tick 53 = .ok (.iload_n 1, 1) := by decide +kernel
theorem dC_tick_54 : decode bC_tick 54 = .ok (.iload_n 2, 1) := by decide +kernel
theorem dC_tick_55 : decode bC_tick 55 = .ok (.invokevirtual 85, 3) := by decide +kernel
theorem dC_tick_58 : decode bC_tick 58 = .ok (.iinc 2 1, 3) := by decide +kernel
theorem dC_tick_61 : decode bC_tick 61 = .ok (.goto (-22), 3) := by decide +kernel
theorem dC_tick_64 : decode bC_tick 64 = .ok (.aload_n 0, 1) := by decide +kernel
theorem dC_tick_65 : decode bC_tick 65 = .ok (.getfield 18, 3) := by decide +kernel
theorem dC_tick_68 : decode bC_tick 68 = .ok (.iconst 1, 1) := by decide +kernel
theorem dC_tick_69 : decode bC_tick 69 = .ok (.isub, 1) := by decide +kernel
theorem dC_tick_70 : decode bC_tick 70 = .ok (.ireturn, 1) := by decide +kernel
theorem dC_sendClock_0 : decode bC_sendClock 0 = .ok (.aload_n 0, 1) := by decide +kernel
theorem dC_sendClock_1 : decode bC_sendClock 1 = .ok (.getfield 119, 3) := by decide +kernel
theorem dC_sendClock_4 : decode bC_sendClock 4 = .ok (.istore_n 3, 1) := by decide +kernel
theorem dC_sendClock_5 : decode bC_sendClock 5 = .ok (.aload_n 0, 1) := by decide +kernel
theorem dC_sendClock_6 : decode bC_sendClock 6 = .ok (.invokevirtual 122, 3) := by decide +kernel
theorem dC_sendClock_9 : decode bC_sendClock 9 = .ok (.ifCond .eq 32, 3) := by decide +kernel
theorem dC_sendClock_12 : decode bC_sendClock 12 = .ok (.aload_n 0, 1) := by decide +kernel
theorem dC_sendClock_13 : decode bC_sendClock 13 = .ok (.new 45, 3) := by decide +kernel
theorem dC_sendClock_16 : decode bC_sendClock 16 = .ok (.dup, 1) := by decide +kernel
theorem dC_sendClock_17 : decode bC_sendClock 17 = .ok (.iload_n 3, 1) := by decide +kernel
theorem dC_sendClock_18 : decode bC_sendClock 18 = .ok (.iload_n 1, 1) := by decide +kernel
theorem dC_sendClock_19 : decode bC_sendClock 19 = .ok (.iload_n 2, 1) := by decide +kernel
theorem dC_sendClock_20 : decode bC_sendClock 20 = .ok (.iconst 3, 1) := by decide +kernel
theorem dC_sendClock_21 : decode bC_sendClock 21 = .ok (.aload_n 0, 1) := by decide +kernel
theorem dC_sendClock_22 : decode bC_sendClock 22 = .ok (.getfield 18, 3) := by decide +kernel
theorem dC_sendClock_25 : decode bC_sendClock 25 = .ok (.iadd, 1) := by decide +kernel
theorem dC_sendClock_26 : decode bC_sendClock 26 = .ok (.aload_n 0, 1) := by decide +kernel
theorem dC_sendClock_27 : decode bC_sendClock 27 = .ok (.getfield 29, 3) := by decide +kernel
theorem dC_sendClock_30 : decode bC_sendClock 30 = .ok (.iload_n 1, 1) := by decide +kernel
theorem dC_sendClock_31 : decode bC_sendClock 31 = .ok (.laload, 1) := by decide +kernel
theorem dC_sendClock_32 : decode bC_sendClock 32 = .ok (.getstatic 185, 3) := by decide +kernel
theorem dC_sendClock_35 : decode bC_sendClock 35 = .ok (.invokespecial 138, 3) := by decide +kernel
theorem dC_sendClock_38 : decode bC_sendClock 38 = .ok (.invokevirtual 141, 3) := by decide +kernel
theorem dC_sendClock_41 : decode bC_sendClock 41 = .ok (.return_, 1) := by decide +kernel
theorem dC_countAsSent_0 : decode bC_countAsSent 0 = .ok (.aload_n 0, 1) := by decide +kernel
theorem dC_countAsSent_1 : decode bC_countAsSent 1 = .ok (.dup, 1) := by decide +kernel
theorem dC_countAsSent_2 : decode bC_countAsSent 2 = .ok (.getfield 119, 3) := by decide +kernel
theorem dC_countAsSent_5 : decode bC_countAsSent 5 = .ok (.iconst 1, 1) := by decide +kernel
theorem dC_countAsSent_6 : decode bC_countAsSent 6 = .ok (.iadd, 1) := by decide +kernel
theorem dC_countAsSent_7 : decode bC_countAsSent 7 = .ok (.putfield 119, 3) := by decide +kernel
theorem dC_countAsSent_10 : decode bC_countAsSent 10 = .ok (.aload_n 0, 1) := by decide +kernel
theorem dC_countAsSent_11 : decode bC_countAsSent 11 = .ok (.getfield 156, 3) := by decide +kernel
theorem dC_countAsSent_14 : decode bC_countAsSent 14 = .ok (.bipush 120, 2) := by decide +kernel
theorem dC_countAsSent_16 : decode bC_countAsSent 16 = .ok (.if_icmp .ge 5, 3) := by decide +kernel
theorem dC_countAsSent_19 : decode bC_countAsSent 19 = .ok (.iconst 1, 1) := by decide +kernel
theorem dC_countAsSent_20 : decode bC_countAsSent 20 = .ok (.ireturn, 1) := by decide +kernel
theorem dC_countAsSent_21 : decode bC_countAsSent 21 = .ok (.aload_n 0, 1) := by decide +kernel
theorem dC_countAsSent_22 : decode bC_countAsSent 22 = .ok (.dup, 1) := by decide +kernel
theorem dC_countAsSent_23 : decode bC_countAsSent 23 = .ok (.getfield 116, 3) := by decide +kernel
theorem dC_countAsSent_26 : decode bC_countAsSent 26 = .ok (.iconst 1, 1) := by decide +kernel
theorem dC_countAsSent_27 : decode bC_countAsSent 27 = .ok (.iadd, 1) := by decide +kernel
theorem dC_countAsSent_28 : decode bC_countAsSent 28 = .ok (.putfield 116, 3) := by decide +kernel
theorem dC_countAsSent_31 : decode bC_countAsSent 31 = .ok (.iconst 0, 1) := by decide +kernel
theorem dC_countAsSent_32 : decode bC_countAsSent 32 = .ok (.ireturn, 1) := by decide +kernel
theorem dM_init_0 : decode bM_init 0 = .ok (.aload_n 0, 1) := by decide +kernel
theorem dM_init_1 : decode bM_init 1 = .ok (.invokespecial 3, 3) := by decide +kernel
theorem dM_init_4 : decode bM_init 4 = .ok (.aload_n 0, 1) := by decide +kernel
theorem dM_init_5 : decode bM_init 5 = .ok (.iload_n 1, 1) := by decide +kernel
theorem dM_init_6 : decode bM_init 6 = .ok (.putfield 9, 3) := by decide +kernel
theorem dM_init_9 : decode bM_init 9 = .ok (.aload_n 0, 1) := by decide +kernel
theorem dM_init_10 : decode bM_init 10 = .ok (.iload_n 2, 1) := by decide +kernel
theorem dM_init_11 : decode bM_init 11 = .ok (.putfield 15, 3) := by decide +kernel
theorem dM_init_14 : decode bM_init 14 = .ok (.aload_n 0, 1) := by decide +kernel
theorem dM_init_15 : decode bM_init 15 = .ok (.iload_n 3, 1) := by decide +kernel
theorem dM_init_16 : decode bM_init 16 = .ok (.putfield 18, 3) := by decide +kernel
theorem dM_init_19 : decode bM_init 19 = .ok (.aload_n 0, 1) := by decide +kernel
theorem dM_init_20 : decode bM_init 20 = .ok (.iload 4, 2) := by decide +kernel
theorem dM_init_22 : decode bM_init 22 = .ok (.putfield 21, 3) := by decide +kernel
theorem dM_init_25 : decode bM_init 25 = .ok (.aload_n 0, 1) := by decide +kernel
theorem dM_init_26 : decode bM_init 26 = .ok (.lload 5, 2) := by decide +kernel
theorem dM_init_28 : decode bM_init 28 = .ok (.putfield 24, 3) := by decide +kernel
theorem dM_init_31 : decode bM_init 31 = .ok (.aload_n 0, 1) := by decide +kernel
theorem dM_init_32 : decode bM_init 32 = .ok (.aload 7, 2) := by decide +kernel
theorem dM_init_34 : decode bM_init 34 = .ok (.putfield 28, 3) := by decide +kernel
theorem dM_init_37 : decode bM_init 37 = .ok (.return_, 1) := by decide +kernel
theorem dC_putInFlight_0 : decode bC_putInFlight 0 = .ok (.aload_n 0, 1) := by decide +kernel
theorem dC_putInFlight_1 : decode bC_putInFlight 1 = .ok (.getfield 156, 3) := by decide +kernel
theorem dC_putInFlight_4 : decode bC_putInFlight 4 = .ok (.aload_n 0, 1) := by decide +kernel
theorem dC_putInFlight_5 : decode bC_putInFlight 5 = .ok (.getfield 47, 3) := by decide +kernel
theorem dC_putInFlight_8 : decode bC_putInFlight 8 = .ok (.arraylength, 1) := by decide +kernel
theorem dC_putInFlight_9 : decode bC_putInFlight 9 = .ok (.if_icmp .ge 23, 3) := by decide +kernel
theorem dC_putInFlight_12 : decode bC_putInFlight 12 = .ok (.aload_n 0, 1) := by decide +kernel
theorem dC_putInFlight_13 : decode bC_putInFlight 13 = .ok (.getfield 47, 3) := by decide +kernel
theorem dC_putInFlight_16 : decode bC_putInFlight 16 = .ok (.aload_n 0, 1) := by decide +kernel
theorem dC_putInFlight_17 : decode bC_putInFlight 17 = .ok (.getfield 156, 3) := by decide +kernel
theorem dC_putInFlight_20 : decode bC_putInFlight 20 = .ok (.aload_n 1, 1) := by decide +kernel
theorem dC_putInFlight_21 : decode bC_putInFlight 21 = .ok (.aastore, 1) := by decide +kernel
theorem dC_putInFlight_22 : decode bC_putInFlight 22 = .ok (.aload_n 0, 1) := by decide +kernel
theorem dC_putInFlight_23 : decode bC_putInFlight 23 = .ok (.dup, 1) := by decide +kernel
theorem dC_putInFlight_24 : decode bC_putInFlight 24 = .ok (.getfield 156, 3) := by decide +kernel
theorem dC_putInFlight_27 : decode bC_putInFlight 27 = .ok (.iconst 1, 1) := by decide +kernel
theorem dC_putInFlight_28 : decode bC_putInFlight 28 = .ok (.iadd, 1) := by decide +kernel
theorem dC_putInFlight_29 : decode bC_putInFlight 29 = .ok (.putfield 156, 3) := by decide +kernel
theorem dC_putInFlight_32 : decode bC_putInFlight 32 = .ok (.return_, 1) := by decide +kernel
theorem dC_deliver_0 : decode bC_deliver 0 = .ok (.aload_n 0, 1) := by decide +kernel
theorem dC_deliver_1 : decode bC_deliver 1 = .ok (.iload_n 1, 1) := by decide +kernel
theorem dC_deliver_2 : decode bC_deliver 2 = .ok (.invokevirtual 89, 3) := by decide +kernel
theorem dC_deliver_5 : decode bC_deliver 5 = .ok (.astore_n 2, 1) := by decide +kernel
theorem dC_deliver_6 : decode bC_deliver 6 = .ok (.aload_n 2, 1) := by decide +kernel
theorem dC_deliver_7 : decode bC_deliver 7 = .ok (.ifnonnull 13, 3) := by decide +kernel
theorem dC_deliver_10 : decode bC_deliver 10 = .ok (.new 58, 3) := by decide +kernel
theorem dC_deliver_13 : decode bC_deliver 13 = .ok (.dup, 1) := by decide +kernel
theorem dC_deliver_14 : decode bC_deliver 14 = .ok (.ldc 93, 2) := by decide +kernel
theorem dC_deliver_16 : decode bC_deliver 16 = .ok (.invokespecial 62, 3) := by decide +kernel
theorem dC_deliver_19 : decode bC_deliver 19 = .ok (.athrow, 1) := by decide +kernel
theorem dC_deliver_20 : decode bC_deliver 20 = .ok (.aload_n 0, 1) := by decide +kernel
theorem dC_deliver_21 : decode bC_deliver 21 = .ok (.iload_n 1, 1) := by decide +kernel
theorem dC_deliver_22 : decode bC_deliver 22 = .ok (.invokevirtual 95, 3) := by decide +kernel
theorem dC_deliver_25 : decode bC_deliver 25 = .ok (.aload_n 0, 1) := by decide +kernel
theorem dC_deliver_26 : decode bC_deliver 26 = .ok (.getfield 25, 3) := by decide +kernel
theorem dC_deliver_29 : decode bC_deliver 29 = .ok (.aload_n 2, 1) := by decide +kernel
theorem dC_deliver_30 : decode bC_deliver 30 = .ok (.getfield 99, 3) := by decide +kernel
theorem dC_deliver_33 : decode bC_deliver 33 = .ok (.baload, 1) := by decide +kernel
theorem dC_deliver_34 : decode bC_deliver 34 = .ok (.ifCond .eq 15, 3) := by decide +kernel
theorem dC_deliver_37 : decode bC_deliver 37 = .ok (.aload_n 0, 1) := by decide +kernel
theorem dC_deliver_38 : decode bC_deliver 38 = .ok (.dup, 1) := by decide +kernel
theorem dC_deliver_39 : decode bC_deliver 39 = .ok (.getfield 102, 3) := by decide +kernel
theorem dC_deliver_42 : decode bC_deliver 42 = .ok (.iconst 1, 1) := by decide +kernel
theorem dC_deliver_43 : decode bC_deliver 43 = .ok (.iadd, 1) := by decide +kernel
theorem dC_deliver_44 : decode bC_deliver 44 = .ok (.putfield 102, 3) := by decide +kernel
theorem dC_deliver_47 : decode bC_deliver 47 = .ok (.iconst 0, 1) := by decide +kernel
theorem dC_deliver_48 : decode bC_deliver 48 = .ok (.ireturn, 1) := by decide +kernel
theorem dC_deliver_49 : decode bC_deliver 49 = .ok (.aload_n 2, 1) := by decide +kernel
theorem dC_deliver_50 : decode bC_deliver 50 = .ok (.invokevirtual 105, 3) := by decide +kernel
theorem dC_deliver_53 : decode bC_deliver 53 = .ok (.ifCond .eq 11, 3) := by decide +kernel
theorem dC_deliver_56 : decode bC_deliver 56 = .ok (.aload_n 0, 1) := by decide +kernel
theorem dC_deliver_57 : decode bC_deliver 57 = .ok (.aload_n 2, 1) := by decide +kernel
theorem dC_deliver_58 : decode bC_deliver 58 = .ok (.invokevirtual 109, 3) := by decide +kernel
theorem dC_deliver_61 : decode bC_deliver 61 = .ok (.goto 8, 3) := by decide +kernel
theorem dC_deliver_64 : decode bC_deliver 64 = .ok (.aload_n 0, 1) := by decide +kernel
theorem dC_deliver_65 : decode bC_deliver 65 = .ok (.aload_n 2, 1) := by decide +kernel
theorem dC_deliver_66 : decode bC_deliver 66 = .ok (.invokevirtual 113, 3) := by decide +kernel
theorem dC_deliver_69 : decode bC_deliver 69 = .ok (.ireturn, 1) := by decide +kernel
theorem dM_isClock_0 : decode bM_isClock 0 = .ok (.aload_n 0, 1) := by decide +kernel
theorem dM_isClock_1 : decode bM_isClock 1 = .ok (.getfield 24, 3) := by decide +kernel
theorem dM_isClock_4 : decode bM_isClock 4 = .ok (.ldc2_w 32, 3) := by decide +kernel
theorem dM_isClock_7 : decode bM_isClock 7 = .ok (.lcmp, 1) := by decide +kernel
theorem dM_isClock_8 : decode bM_isClock 8 = .ok (.ifCond .eq 7, 3) := by decide +kernel
theorem dM_isClock_11 : decode bM_isClock 11 = .ok (.iconst 1, 1) := by decide +kernel
theorem dM_isClock_12 : decode bM_isClock 12 = .ok (.goto 4, 3) := by decide +kernel
theorem dM_isClock_15 : decode bM_isClock 15 = .ok (.iconst 0, 1) := by decide +kernel
theorem dM_isClock_16 : decode bM_isClock 16 = .ok (.ireturn, 1) := by decide +kernel
theorem dC_answer_0 : decode bC_answer 0 = .ok (.aload_n 1, 1) := by decide +kernel
theorem dC_answer_1 : decode bC_answer 1 = .ok (.getfield 99, 3) := by decide +kernel
theorem dC_answer_4 : decode bC_answer 4 = .ok (.istore_n 2, 1) := by decide +kernel
theorem dC_answer_5 : decode bC_answer 5 = .ok (.iconst 0, 1) := by decide +kernel
theorem dC_answer_6 : decode bC_answer 6 = .ok (.istore_n 3, 1) := by decide +kernel
theorem dC_answer_7 : decode bC_answer 7 = .ok (.iconst 0, 1) := by decide +kernel
theorem dC_answer_8 : decode bC_answer 8 = .ok (.istore 4, 2) := by decide +kernel
theorem dC_answer_10 : decode bC_answer 10 = .ok (.iconst 3, 1) := by decide +kernel
theorem dC_answer_11 : decode bC_answer 11 = .ok (.istore 5, 2) := by decide +kernel
theorem dC_answer_13 : decode bC_answer 13 = .ok (.iconst 0, 1) := by decide +kernel
theorem dC_answer_14 : decode bC_answer 14 = .ok (.istore 6, 2) := by decide +kernel
theorem dC_answer_16 : decode bC_answer 16 = .ok (.iload 6, 2) := by decide +kernel
theorem dC_answer_18 : decode bC_answer 18 = .ok (.aload_n 0, 1) := by decide +kernel
theorem dC_answer_19 : decode bC_answer 19 = .ok (.getfield 38, 3) := by decide +kernel
theorem dC_answer_22 : decode bC_answer 22 = .ok (.iload_n 2, 1) := by decide +kernel
theorem dC_answer_23 : decode bC_answer 23 = .ok (.iaload, 1) := by decide +kernel
theorem dC_answer_24 : decode bC_answer 24 = .ok (.if_icmp .ge 127, 3) := by decide +kernel
theorem dC_answer_27 : decode bC_answer 27 = .ok (.iload 4, 2) := by decide +kernel
theorem dC_answer_29 : decode bC_answer 29 = .ok (.aload_n 0, 1) := by decide +kernel
theorem dC_answer_30 : decode bC_answer 30 = .ok (.getfield 51, 3) := by decide +kernel
theorem dC_answer_33 : decode bC_answer 33 = .ok (.arraylength, 1) := by decide +kernel
theorem dC_answer_34 : decode bC_answer 34 = .ok (.if_icmp .ge 117, 3) := by decide +kernel
theorem dC_answer_37 : decode bC_answer 37 = .ok (.aload_n 0, 1) := by decide +kernel
theorem dC_answer_38 : decode bC_answer 38 = .ok (.getfield 35, 3) := by decide +kernel
theorem dC_answer_41 : decode bC_answer 41 = .ok (.iload_n 2, 1) := by decide +kernel
theorem dC_answer_42 : decode bC_answer 42 = .ok (.aaload, 1) := by decide +kernel
theorem dC_answer_43 : decode bC_answer 43 = .ok (.iload 6, 2) := by decide +kernel
theorem dC_answer_45 : decode bC_answer 45 = .ok (.iaload, 1) := by decide +kernel
theorem dC_answer_46 : decode bC_answer 46 = .ok (.istore 7, 2) := by decide +kernel
theorem dC_answer_48 : decode bC_answer 48 = .ok (.iload 7, 2) := by decide +kernel
theorem dC_answer_50 : decode bC_answer 50 = .ok (.invokestatic 175, 3) := by decide +kernel
theorem dC_answer_53 : decode bC_answer 53 = .ok (.aload_n 1, 1) := by decide +kernel
theorem dC_answer_54 : decode bC_answer 54 = .ok (.getfield 131, 3) := by decide +kernel
theorem dC_answer_57 : decode bC_answer 57 = .ok (.iload 7, 2) := by decide +kernel
theorem dC_answer_59 : decode bC_answer 59 = .ok (.invokestatic 172, 3) := by decide +kernel
theorem dC_answer_62 : decode bC_answer 62 = .ok (.invokestatic 168, 3) := by decide +kernel
theorem dC_answer_65 : decode bC_answer 65 = .ok (.if_icmp .gt 6, 3) := by decide +kernel
theorem dC_answer_68 : decode bC_answer 68 = .ok (.goto 77, 3) := by decide +kernel
theorem dC_answer_71 : decode bC_answer 71 = .ok (.aload_n 0, 1) := by decide +kernel
theorem dC_answer_72 : decode bC_answer 72 = .ok (.iload 7, 2) := by decide +kernel
theorem dC_answer_74 : decode bC_answer 74 = .ok (.invokestatic 172, 3) := by decide +kernel
theorem dC_answer_77 : decode bC_answer 77 = .ok (.iload 7, 2) := by decide +kernel
theorem dC_answer_79 : decode bC_answer 79 = .ok (.invokestatic 175, 3) := by decide +kernel
theorem dC_answer_82 : decode bC_answer 82 = .ok (.invokevirtual 178, 3) := by decide +kernel
theorem dC_answer_85 : decode bC_answer 85 = .ok (.istore 8, 2) := by decide +kernel
theorem dC_answer_87 : decode bC_answer 87 = .ok (.iload 4, 2) := by decide +kernel
theorem dC_answer_89 : decode bC_answer 89 = .ok (.ifCond .le 37, 3) := by decide +kernel
theorem dC_answer_92 : decode bC_answer 92 = .ok (.iload 5, 2) := by decide +kernel
theorem dC_answer_94 : decode bC_answer 94 = .ok (.iload 8, 2) := by decide +kernel
theorem dC_answer_96 : decode bC_answer 96 = .ok (.iadd, 1) := by decide +kernel
theorem dC_answer_97 : decode bC_answer 97 = .ok (.aload_n 0, 1) := by decide +kernel
theorem dC_answer_98 : decode bC_answer 98 = .ok (.getfield 22, 3) := by decide +kernel
theorem dC_answer_101 : decode bC_answer 101 = .ok (.if_icmp .le 25, 3) := by decide +kernel
theorem dC_answer_104 : decode bC_answer 104 = .ok (.aload_n 0, 1) := by decide +kernel
theorem dC_answer_105 : decode bC_answer 105 = .ok (.iload_n 2, 1) := by decide +kernel
theorem dC_answer_106 : decode bC_answer 106 = .ok (.aload_n 1, 1) := by decide +kernel
theorem dC_answer_107 : decode bC_answer 107 = .ok (.getfield 125, 3) := by decide +kernel
theorem dC_answer_110 : decode bC_answer 110 = .ok (.iload 5, 2) := by decide +kernel
theorem dC_answer_112 : decode bC_answer 112 = .ok (.iload 4, 2) := by decide +kernel
theorem dC_answer_114 : decode bC_answer 114 = .ok (.invokevirtual 181, 3) := by decide +kernel
theorem dC_answer_117 : decode bC_answer 117 = .ok (.iinc 3 1, 3) := by decide +kernel
theorem dC_answer_120 : decode bC_answer 120 = .ok (.iconst 0, 1) := by decide +kernel
theorem dC_answer_121 : decode bC_answer 121 = .ok (.istore 4, 2) := by decide +kernel
theorem dC_answer_123 : decode bC_answer 123 = .ok (.iconst 3, 1) := by decide +kernel
theorem dC_answer_124 : decode bC_answer 124 = .ok (.istore 5, 2) := by decide +kernel
theorem dC_answer_126 : decode bC_answer 126 = .ok (.aload_n 0, 1) := by decide +kernel
theorem dC_answer_127 : decode bC_answer 127 = .ok (.getfield 51, 3) := by decide +kernel
theorem dC_answer_130 : decode bC_answer 130 = .ok (.iload 4, 2) := by decide +kernel
theorem dC_answer_132 : decode bC_answer 132 = .ok (.iload 7, 2) := by decide +kernel
theorem dC_answer_134 : decode bC_answer 134 = .ok (.iastore, 1) := by decide +kernel
theorem dC_answer_135 : decode bC_answer 135 = .ok (.iinc 4 1, 3) := by decide +kernel
theorem dC_answer_138 : decode bC_answer 138 = .ok (.iload 5, 2) := by decide +kernel
theorem dC_answer_140 : decode bC_answer 140 = .ok (.iload 8, 2) := by decide +kernel
theorem dC_answer_142 : decode bC_answer 142 = .ok (.iadd, 1) := by decide +kernel
theorem dC_answer_143 : decode bC_answer 143 = .ok (.istore 5, 2) := by decide +kernel
theorem dC_answer_145 : decode bC_answer 145 = .ok (.iinc 6 1, 3) := by decide +kernel
theorem dC_answer_148 : decode bC_answer 148 = .ok (.goto (-132), 3) := by decide +kernel
theorem dC_answer_151 : decode bC_answer 151 = .ok (.iload 4, 2) := by decide +kernel
theorem dC_answer_153 : decode bC_answer 153 = .ok (.ifCond .le 19, 3) := by decide +kernel
theorem dC_answer_156 : decode bC_answer 156 = .ok (.aload_n 0, 1) := by decide +kernel
theorem dC_answer_157 : decode bC_answer 157 = .ok (.iload_n 2, 1) := by decide +kernel
theorem dC_answer_158 : decode bC_answer 158 = .ok (.aload_n 1, 1) := by decide +kernel
theorem dC_answer_159 : decode bC_answer 159 = .ok (.getfield 125, 3) := by decide +kernel
theorem dC_answer_162 : decode bC_answer 162 = .ok (.iload 5, 2) := by decide +kernel
theorem dC_answer_164 : decode bC_answer 164 = .ok (.iload 4, 2) := by decide +kernel
theorem dC_answer_166 : decode bC_answer 166 = .ok (.invokevirtual 181, 3) := by decide +kernel
theorem dC_answer_169 : decode bC_answer 169 = .ok (.iinc 3 1, 3) := by decide +kernel
theorem dC_answer_172 : decode bC_answer 172 = .ok (.iload_n 3, 1) := by decide +kernel
theorem dC_answer_173 : decode bC_answer 173 = .ok (.ireturn, 1) := by decide +kernel
theorem dC_sendGathered_0 : decode bC_sendGathered 0 = .ok (.aload_n 0, 1) := by decide +kernel
theorem dC_sendGathered_1 : decode bC_sendGathered 1 = .ok (.getfield 119, 3) := by decide +kernel
theorem dC_sendGathered_4 : decode bC_sendGathered 4 = .ok (.istore 5, 2) := by decide +kernel
theorem dC_sendGathered_6 : decode bC_sendGathered 6 = .ok (.aload_n 0, 1) := by decide +kernel
theorem dC_sendGathered_7 : decode bC_sendGathered 7 = .ok (.invokevirtual 122, 3) := by decide +kernel
theorem dC_sendGathered_10 : decode bC_sendGathered 10 = .ok (.ifCond .eq 31, 3) := by decide +kernel
theorem dC_sendGathered_13 : decode bC_sendGathered 13 = .ok (.aload_n 0, 1) := by decide +kernel
theorem dC_sendGathered_14 : decode bC_sendGathered 14 = .ok (.new 45, 3) := by decide +kernel
theorem dC_sendGathered_17 : decode bC_sendGathered 17 = .ok (.dup, 1) := by decide +kernel
theorem dC_sendGathered_18 : decode bC_sendGathered 18 = .ok (.iload 5, 2) := by decide +kernel
theorem dC_sendGathered_20 : decode bC_sendGathered 20 = .ok (.iload_n 1, 1) := by decide +kernel
theorem dC_sendGathered_21 : decode bC_sendGathered 21 = .ok (.iload_n 2, 1) := by decide +kernel
theorem dC_sendGathered_22 : decode bC_sendGathered 22 = .ok (.iload_n 3, 1) := by decide +kernel
theorem dC_sendGathered_23 : decode bC_sendGathered 23 = .ok (.ldc2_w 150, 3) := by decide +kernel
theorem dC_sendGathered_26 : decode bC_sendGathered 26 = .ok (.aload_n 0, 1) := by decide +kernel
theorem dC_sendGathered_27 : decode bC_sendGathered 27 = .ok (.getfield 51, 3) := by decide +kernel
theorem dC_sendGathered_30 : decode bC_sendGathered 30 = .ok (.iload 4, 2) := by decide +kernel
theorem dC_sendGathered_32 : decode bC_sendGathered 32 = .ok (.invokestatic 188, 3) := by decide +kernel
theorem dC_sendGathered_35 : decode bC_sendGathered 35 = .ok (.invokespecial 138, 3) := by decide +kernel
theorem dC_sendGathered_38 : decode bC_sendGathered 38 = .ok (.invokevirtual 141, 3) := by decide +kernel
theorem dC_sendGathered_41 : decode bC_sendGathered 41 = .ok (.return_, 1) := by decide +kernel
theorem dA_copyOf_0 : decode bA_copyOf 0 = .ok (.iload_n 1, 1) := by decide +kernel
theorem dA_copyOf_1 : decode bA_copyOf 1 = .ok (.aload_n 0, 1) := by decide +kernel
theorem dA_copyOf_2 : decode bA_copyOf 2 = .ok (.arraylength, 1) := by decide +kernel
theorem dA_copyOf_3 : decode bA_copyOf 3 = .ok (.if_icmp .ne 11, 3) := by decide +kernel
theorem dA_copyOf_6 : decode bA_copyOf 6 = .ok (.aload_n 0, 1) := by decide +kernel
theorem dA_copyOf_7 : decode bA_copyOf 7 = .ok (.invokevirtual 316, 3) := by decide +kernel
theorem dA_copyOf_10 : decode bA_copyOf 10 = .ok (.checkcast 317, 3) := by decide +kernel
theorem dA_copyOf_13 : decode bA_copyOf 13 = .ok (.areturn, 1) := by decide +kernel
theorem dA_copyOf_14 : decode bA_copyOf 14 = .ok (.iload_n 1, 1) := by decide +kernel
theorem dA_copyOf_15 : decode bA_copyOf 15 = .ok (.newarray .int, 2) := by decide +kernel
theorem dA_copyOf_17 : decode bA_copyOf 17 = .ok (.astore_n 2, 1) := by decide +kernel
theorem dA_copyOf_18 : decode bA_copyOf 18 = .ok (.aload_n 0, 1) := by decide +kernel
theorem dA_copyOf_19 : decode bA_copyOf 19 = .ok (.iconst 0, 1) := by decide +kernel
theorem dA_copyOf_20 : decode bA_copyOf 20 = .ok (.aload_n 2, 1) := by decide +kernel
theorem dA_copyOf_21 : decode bA_copyOf 21 = .ok (.iconst 0, 1) := by decide +kernel
theorem dA_copyOf_22 : decode bA_copyOf 22 = .ok (.aload_n 0, 1) := by decide +kernel
theorem dA_copyOf_23 : decode bA_copyOf 23 = .ok (.arraylength, 1) := by decide +kernel
theorem dA_copyOf_24 : decode bA_copyOf 24 = .ok (.iload_n 1, 1) := by decide +kernel
theorem dA_copyOf_25 : decode bA_copyOf 25 = .ok (.invokestatic 304, 3) := by decide +kernel
theorem dA_copyOf_28 : decode bA_copyOf 28 = .ok (.invokestatic 150, 3) := by decide +kernel
theorem dA_copyOf_31 : decode bA_copyOf 31 = .ok (.aload_n 2, 1) := by decide +kernel
theorem dA_copyOf_32 : decode bA_copyOf 32 = .ok (.areturn, 1) := by decide +kernel
theorem dC_takeChanges_0 : decode bC_takeChanges 0 = .ok (.iconst 0, 1) := by decide +kernel
theorem dC_takeChanges_1 : decode bC_takeChanges 1 = .ok (.istore_n 2, 1) := by decide +kernel
theorem dC_takeChanges_2 : decode bC_takeChanges 2 = .ok (.aload_n 1, 1) := by decide +kernel
theorem dC_takeChanges_3 : decode bC_takeChanges 3 = .ok (.getfield 135, 3) := by decide +kernel
theorem dC_takeChanges_6 : decode bC_takeChanges 6 = .ok (.astore_n 3, 1) := by decide +kernel
theorem dC_takeChanges_7 : decode bC_takeChanges 7 = .ok (.aload_n 3, 1) := by decide +kernel
theorem dC_takeChanges_8 : decode bC_takeChanges 8 = .ok (.arraylength, 1) := by decide +kernel
theorem dC_takeChanges_9 : decode bC_takeChanges 9 = .ok (.istore 4, 2) := by decide +kernel
theorem dC_takeChanges_11 : decode bC_takeChanges 11 = .ok (.iconst 0, 1) := by decide +kernel
theorem dC_takeChanges_12 : decode bC_takeChanges 12 = .ok (.istore 5, 2) := by decide +kernel
theorem dC_takeChanges_14 : decode bC_takeChanges 14 = .ok (.iload 5, 2) := by decide +kernel
theorem dC_takeChanges_16 : decode bC_takeChanges 16 = .ok (.iload 4, 2) := by decide +kernel
theorem dC_takeChanges_18 : decode bC_takeChanges 18 = .ok (.if_icmp .ge 44, 3) := by decide +kernel
theorem dC_takeChanges_21 : decode bC_takeChanges 21 = .ok (.aload_n 3, 1) := by decide +kernel
theorem dC_takeChanges_22 : decode bC_takeChanges 22 = .ok (.iload 5, 2) := by decide +kernel
theorem dC_takeChanges_24 : decode bC_takeChanges 24 = .ok (.iaload, 1) := by decide +kernel
theorem dC_takeChanges_25 : decode bC_takeChanges 25 = .ok (.istore 6, 2) := by decide +kernel
theorem dC_takeChanges_27 : decode bC_takeChanges 27 = .ok (.aload_n 0, 1) := by decide +kernel
theorem dC_takeChanges_28 : decode bC_takeChanges 28 = .ok (.aload_n 1, 1) := by decide +kernel
theorem dC_takeChanges_29 : decode bC_takeChanges 29 = .ok (.getfield 99, 3) := by decide +kernel
theorem dC_takeChanges_32 : decode bC_takeChanges 32 = .ok (.iload 6, 2) := by decide +kernel
theorem dC_takeChanges_34 : decode bC_takeChanges 34 = .ok (.invokevirtual 79, 3) := by decide +kernel
theorem dC_takeChanges_37 : decode bC_takeChanges 37 = .ok (.ifCond .eq 9, 3) := by decide +kernel
theorem dC_takeChanges_40 : decode bC_takeChanges 40 = .ok (.iinc 2 1, 3) := by decide +kernel
theorem dC_takeChanges_43 : decode bC_takeChanges 43 = .ok (.goto 13, 3) := by decide +kernel
theorem dC_takeChanges_46 : decode bC_takeChanges 46 = .ok (.aload_n 0, 1) := by decide +kernel
theorem dC_takeChanges_47 : decode bC_takeChanges 47 = .ok (.dup, 1) := by decide +kernel
theorem dC_takeChanges_48 : decode bC_takeChanges 48 = .ok (.getfield 159, 3) := by decide +kernel
theorem dC_takeChanges_51 : decode bC_takeChanges 51 = .ok (.iconst 1, 1) := by decide +kernel
theorem dC_takeChanges_52 : decode bC_takeChanges 52 = .ok (.iadd, 1) := by decide +kernel
theorem dC_takeChanges_53 : decode bC_takeChanges 53 = .ok (.putfield 159, 3) := by decide +kernel
theorem dC_takeChanges_56 : decode bC_takeChanges 56 = .ok (.iinc 5 1, 3) := by decide +kernel
theorem dC_takeChanges_59 : decode bC_takeChanges 59 = .ok (.goto (-45), 3) := by decide +kernel
theorem dC_takeChanges_62 : decode bC_takeChanges 62 = .ok (.iload_n 2, 1) := by decide +kernel
theorem dC_takeChanges_63 : decode bC_takeChanges 63 = .ok (.ireturn, 1) := by decide +kernel
theorem dC_twice_0 : decode bC_twice 0 = .ok (.aload_n 0, 1) := by decide +kernel
theorem dC_twice_1 : decode bC_twice 1 = .ok (.iload_n 1, 1) := by decide +kernel
theorem dC_twice_2 : decode bC_twice 2 = .ok (.invokevirtual 89, 3) := by decide +kernel
theorem dC_twice_5 : decode bC_twice 5 = .ok (.astore_n 2, 1) := by decide +kernel
theorem dC_twice_6 : decode bC_twice 6 = .ok (.aload_n 2, 1) := by decide +kernel
theorem dC_twice_7 : decode bC_twice 7 = .ok (.ifnonnull 13, 3) := by decide +kernel
theorem dC_twice_10 : decode bC_twice 10 = .ok (.new 58, 3) := by decide +kernel
theorem dC_twice_13 : decode bC_twice 13 = .ok (.dup, 1) := by decide +kernel
theorem dC_twice_14 : decode bC_twice 14 = .ok (.ldc 93, 2) := by decide +kernel
theorem dC_twice_16 : decode bC_twice 16 = .ok (.invokespecial 62, 3) := by decide +kernel
theorem dC_twice_19 : decode bC_twice 19 = .ok (.athrow, 1) := by decide +kernel
theorem dC_twice_20 : decode bC_twice 20 = .ok (.aload_n 0, 1) := by decide +kernel
theorem dC_twice_21 : decode bC_twice 21 = .ok (.getfield 119, 3) := by decide +kernel
theorem dC_twice_24 : decode bC_twice 24 = .ok (.istore_n 3, 1) := by decide +kernel
theorem dC_twice_25 : decode bC_twice 25 = .ok (.aload_n 0, 1) := by decide +kernel
theorem dC_twice_26 : decode bC_twice 26 = .ok (.invokevirtual 122, 3) := by decide +kernel
theorem dC_twice_29 : decode bC_twice 29 = .ok (.ifCond .eq 35, 3) := by decide +kernel
theorem dC_twice_32 : decode bC_twice 32 = .ok (.aload_n 0, 1) := by decide +kernel
theorem dC_twice_33 : decode bC_twice 33 = .ok (.new 45, 3) := by decide +kernel
theorem dC_twice_36 : decode bC_twice 36 = .ok (.dup, 1) := by decide +kernel
theorem dC_twice_37 : decode bC_twice 37 = .ok (.iload_n 3, 1) := by decide +kernel
theorem dC_twice_38 : decode bC_twice 38 = .ok (.aload_n 2, 1) := by decide +kernel
theorem dC_twice_39 : decode bC_twice 39 = .ok (.getfield 125, 3) := by decide +kernel
theorem dC_twice_42 : decode bC_twice 42 = .ok (.aload_n 2, 1) := by decide +kernel
theorem dC_twice_43 : decode bC_twice 43 = .ok (.getfield 99, 3) := by decide +kernel
theorem dC_twice_46 : decode bC_twice 46 = .ok (.aload_n 2, 1) := by decide +kernel
theorem dC_twice_47 : decode bC_twice 47 = .ok (.getfield 128, 3) := by decide +kernel
theorem dC_twice_50 : decode bC_twice 50 = .ok (.aload_n 2, 1) := by decide +kernel
theorem dC_twice_51 : decode bC_twice 51 = .ok (.getfield 131, 3) := by decide +kernel
theorem dC_twice_54 : decode bC_twice 54 = .ok (.aload_n 2, 1) := by decide +kernel
theorem dC_twice_55 : decode bC_twice 55 = .ok (.getfield 135, 3) := by decide +kernel
theorem dC_twice_58 : decode bC_twice 58 = .ok (.invokespecial 138, 3) := by decide +kernel
theorem dC_twice_61 : decode bC_twice 61 = .ok (.invokevirtual 141, 3) := by decide +kernel
theorem dC_twice_64 : decode bC_twice 64 = .ok (.iload_n 3, 1) := by decide +kernel
theorem dC_twice_65 : decode bC_twice 65 = .ok (.ireturn, 1) := by decide +kernel
theorem dC_message_0 : decode bC_message 0 = .ok (.aload_n 0, 1) := by decide +kernel
theorem dC_message_1 : decode bC_message 1 = .ok (.iload_n 1, 1) := by decide +kernel
theorem dC_message_2 : decode bC_message 2 = .ok (.invokevirtual 89, 3) := by decide +kernel
theorem dC_message_5 : decode bC_message 5 = .ok (.astore_n 3, 1) := by decide +kernel
theorem dC_message_6 : decode bC_message 6 = .ok (.aload_n 3, 1) := by decide +kernel
theorem dC_message_7 : decode bC_message 7 = .ok (.ifnull 12, 3) := by decide +kernel
theorem dC_message_10 : decode bC_message 10 = .ok (.iload_n 2, 1) := by decide +kernel
theorem dC_message_11 : decode bC_message 11 = .ok (.ifCond .lt 8, 3) := by decide +kernel
theorem dC_message_14 : decode bC_message 14 = .ok (.iload_n 2, 1) := by decide +kernel
theorem dC_message_15 : decode bC_message 15 = .ok (.iconst 4, 1) := by decide +kernel
theorem dC_message_16 : decode bC_message 16 = .ok (.if_icmp .le 13, 3) := by decide +kernel
theorem dC_message_19 : decode bC_message 19 = .ok (.new 58, 3) := by decide +kernel
theorem dC_message_22 : decode bC_message 22 = .ok (.dup, 1) := by decide +kernel
theorem dC_message_23 : decode bC_message 23 = .ok (.ldc 145, 2) := by decide +kernel
theorem dC_message_25 : decode bC_message 25 = .ok (.invokespecial 62, 3) := by decide +kernel
theorem dC_message_28 : decode bC_message 28 = .ok (.athrow, 1) := by decide +kernel
theorem dC_message_29 : decode bC_message 29 = .ok (.iload_n 2, 1) := by decide +kernel
theorem dC_message_30 : decode bC_message 30 = .ok (.tableswitch 50 0 3 #[30, 35, 40, 45], 30) := by decide +kernel
theorem dC_message_60 : decode bC_message 60 = .ok (.aload_n 3, 1) := by decide +kernel
theorem dC_message_61 : decode bC_message 61 = .ok (.getfield 147, 3) := by decide +kernel
theorem dC_message_64 : decode bC_message 64 = .ok (.ireturn, 1) := by decide +kernel
theorem dC_message_65 : decode bC_message 65 = .ok (.aload_n 3, 1) := by decide +kernel
theorem dC_message_66 : decode bC_message 66 = .ok (.getfield 125, 3) := by decide +kernel
theorem dC_message_69 : decode bC_message 69 = .ok (.ireturn, 1) := by decide +kernel
theorem dC_message_70 : decode bC_message 70 = .ok (.aload_n 3, 1) := by decide +kernel
theorem dC_message_71 : decode bC_message 71 = .ok (.getfield 99, 3) := by decide +kernel
theorem dC_message_74 : decode bC_message 74 = .ok (.ireturn, 1) := by decide +kernel
theorem dC_message_75 : decode bC_message 75 = .ok (.aload_n 3, 1) := by decide +kernel
theorem dC_message_76 : decode bC_message 76 = .ok (.getfield 128, 3) := by decide +kernel
theorem dC_message_79 : decode bC_message 79 = .ok (.ireturn, 1) := by decide +kernel
theorem dC_message_80 : decode bC_message 80 = .ok (.aload_n 3, 1) := by decide +kernel
theorem dC_message_81 : decode bC_message 81 = .ok (.invokevirtual 105, 3) := by decide +kernel
theorem dC_message_84 : decode bC_message 84 = .ok (.ifCond .eq 7, 3) := by decide +kernel
theorem dC_message_87 : decode bC_message 87 = .ok (.iconst (-1), 1) := by decide +kernel
theorem dC_message_88 : decode bC_message 88 = .ok (.goto 8, 3) := by decide +kernel
theorem dC_message_91 : decode bC_message 91 = .ok (.aload_n 3, 1) := by decide +kernel
theorem dC_message_92 : decode bC_message 92 = .ok (.getfield 135, 3) := by decide +kernel
theorem dC_message_95 : decode bC_message 95 = .ok (.arraylength, 1) := by decide +kernel
theorem dC_message_96 : decode bC_message 96 = .ok (.ireturn, 1) := by decide +kernel
theorem dC_clock_0 : decode bC_clock 0 = .ok (.aload_n 0, 1) := by decide +kernel
theorem dC_clock_1 : decode bC_clock 1 = .ok (.iload_n 1, 1) := by decide +kernel
theorem dC_clock_2 : decode bC_clock 2 = .ok (.invokevirtual 54, 3) := by decide +kernel
theorem dC_clock_5 : decode bC_clock 5 = .ok (.ifCond .ne 13, 3) := by decide +kernel
theorem dC_clock_8 : decode bC_clock 8 = .ok (.new 58, 3) := by decide +kernel
theorem dC_clock_11 : decode bC_clock 11 = .ok (.dup, 1) := by decide +kernel
theorem dC_clock_12 : decode bC_clock 12 = .ok (.ldc 60, 2) := by decide +kernel
theorem dC_clock_14 : decode bC_clock 14 = .ok (.invokespecial 62, 3) := by decide +kernel
theorem dC_clock_17 : decode bC_clock 17 = .ok (.athrow, 1) := by decide +kernel
theorem dC_clock_18 : decode bC_clock 18 = .ok (.aload_n 0, 1) := by decide +kernel
theorem dC_clock_19 : decode bC_clock 19 = .ok (.getfield 29, 3) := by decide +kernel
theorem dC_clock_22 : decode bC_clock 22 = .ok (.iload_n 1, 1) := by decide +kernel
theorem dC_clock_23 : decode bC_clock 23 = .ok (.laload, 1) := by decide +kernel
theorem dC_clock_24 : decode bC_clock 24 = .ok (.lreturn, 1) := by decide +kernel
theorem dC_lacks_0 : decode bC_lacks 0 = .ok (.aload_n 0, 1) := by decide +kernel
theorem dC_lacks_1 : decode bC_lacks 1 = .ok (.iload_n 1, 1) := by decide +kernel
theorem dC_lacks_2 : decode bC_lacks 2 = .ok (.invokevirtual 54, 3) := by decide +kernel
theorem dC_lacks_5 : decode bC_lacks 5 = .ok (.ifCond .ne 13, 3) := by decide +kernel
theorem dC_lacks_8 : decode bC_lacks 8 = .ok (.new 58, 3) := by decide +kernel
theorem dC_lacks_11 : decode bC_lacks 11 = .ok (.dup, 1) := by decide +kernel
theorem dC_lacks_12 : decode bC_lacks 12 = .ok (.ldc 60, 2) := by decide +kernel
theorem dC_lacks_14 : decode bC_lacks 14 = .ok (.invokespecial 62, 3) := by decide +kernel
theorem dC_lacks_17 : decode bC_lacks 17 = .ok (.athrow, 1) := by decide +kernel
theorem dC_lacks_18 : decode bC_lacks 18 = .ok (.aload_n 0, 1) := by decide +kernel
theorem dC_lacks_19 : decode bC_lacks 19 = .ok (.invokevirtual 152, 3) := by decide +kernel
theorem dC_lacks_22 : decode bC_lacks 22 = .ok (.aload_n 0, 1) := by decide +kernel
theorem dC_lacks_23 : decode bC_lacks 23 = .ok (.getfield 38, 3) := by decide +kernel
theorem dC_lacks_26 : decode bC_lacks 26 = .ok (.iload_n 1, 1) := by decide +kernel
theorem dC_lacks_27 : decode bC_lacks 27 = .ok (.iaload, 1) := by decide +kernel
theorem dC_lacks_28 : decode bC_lacks 28 = .ok (.isub, 1) := by decide +kernel
theorem dC_lacks_29 : decode bC_lacks 29 = .ok (.ireturn, 1) := by decide +kernel
