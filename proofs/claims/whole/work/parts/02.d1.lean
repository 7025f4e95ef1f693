theorem dX0_init_0 : decode cX0_init 0 = .ok (.aload_n 0, 1) := by decide +kernel
theorem dX0_init_1 : decode cX0_init 1 = .ok (.invokespecial 3, 3) := by decide +kernel
theorem dX0_init_4 : decode cX0_init 4 = .ok (.aload_n 0, 1) := by decide +kernel
theorem dX0_init_5 : decode cX0_init 5 = .ok (.new 9, 3) := by decide +kernel
theorem dX0_init_8 : decode cX0_init 8 = .ok (.dup, 1) := by decide +kernel
theorem dX0_init_9 : decode cX0_init 9 = .ok (.invokespecial 11, 3) := by decide +kernel
theorem dX0_init_12 : decode cX0_init 12 = .ok (.putfield 12, 3) := by decide +kernel
theorem dX0_init_15 : decode cX0_init 15 = .ok (.aload_n 0, 1) := by decide +kernel
theorem dX0_init_16 : decode cX0_init 16 = .ok (.new 9, 3) := by decide +kernel
theorem dX0_init_19 : decode cX0_init 19 = .ok (.dup, 1) := by decide +kernel
theorem dX0_init_20 : decode cX0_init 20 = .ok (.invokespecial 11, 3) := by decide +kernel
theorem dX0_init_23 : decode cX0_init 23 = .ok (.putfield 18, 3) := by decide +kernel
theorem dX0_init_26 : decode cX0_init 26 = .ok (.aload_n 0, 1) := by decide +kernel
theorem dX0_init_27 : decode cX0_init 27 = .ok (.iconst (-1), 1) := by decide +kernel
theorem dX0_init_28 : decode cX0_init 28 = .ok (.putfield 21, 3) := by decide +kernel
theorem dX0_init_31 : decode cX0_init 31 = .ok (.aload_n 0, 1) := by decide +kernel
theorem dX0_init_32 : decode cX0_init 32 = .ok (.iconst (-1), 1) := by decide +kernel
theorem dX0_init_33 : decode cX0_init 33 = .ok (.putfield 25, 3) := by decide +kernel
theorem dX0_init_36 : decode cX0_init 36 = .ok (.aload_n 0, 1) := by decide +kernel
theorem dX0_init_37 : decode cX0_init 37 = .ok (.iload_n 1, 1) := by decide +kernel
theorem dX0_init_38 : decode cX0_init 38 = .ok (.putfield 28, 3) := by decide +kernel
theorem dX0_init_41 : decode cX0_init 41 = .ok (.return_, 1) := by decide +kernel
theorem dX0_becomeLike_0 : decode cX0_becomeLike 0 = .ok (.aload_n 0, 1) := by decide +kernel
theorem dX0_becomeLike_1 : decode cX0_becomeLike 1 = .ok (.getfield 12, 3) := by decide +kernel
theorem dX0_becomeLike_4 : decode cX0_becomeLike 4 = .ok (.aload_n 1, 1) := by decide +kernel
theorem dX0_becomeLike_5 : decode cX0_becomeLike 5 = .ok (.getfield 12, 3) := by decide +kernel
theorem dX0_becomeLike_8 : decode cX0_becomeLike 8 = .ok (.invokevirtual 31, 3) := by decide +kernel
theorem dX0_becomeLike_11 : decode cX0_becomeLike 11 = .ok (.aload_n 0, 1) := by decide +kernel
theorem dX0_becomeLike_12 : decode cX0_becomeLike 12 = .ok (.getfield 18, 3) := by decide +kernel
theorem dX0_becomeLike_15 : decode cX0_becomeLike 15 = .ok (.aload_n 1, 1) := by decide +kernel
theorem dX0_becomeLike_16 : decode cX0_becomeLike 16 = .ok (.getfield 18, 3) := by decide +kernel
theorem dX0_becomeLike_19 : decode cX0_becomeLike 19 = .ok (.invokevirtual 31, 3) := by decide +kernel
theorem dX0_becomeLike_22 : decode cX0_becomeLike 22 = .ok (.aload_n 0, 1) := by decide +kernel
theorem dX0_becomeLike_23 : decode cX0_becomeLike 23 = .ok (.aload_n 1, 1) := by decide +kernel
theorem dX0_becomeLike_24 : decode cX0_becomeLike 24 = .ok (.getfield 28, 3) := by decide +kernel
theorem dX0_becomeLike_27 : decode cX0_becomeLike 27 = .ok (.putfield 28, 3) := by decide +kernel
theorem dX0_becomeLike_30 : decode cX0_becomeLike 30 = .ok (.aload_n 0, 1) := by decide +kernel
theorem dX0_becomeLike_31 : decode cX0_becomeLike 31 = .ok (.aload_n 1, 1) := by decide +kernel
theorem dX0_becomeLike_32 : decode cX0_becomeLike 32 = .ok (.getfield 35, 3) := by decide +kernel
theorem dX0_becomeLike_35 : decode cX0_becomeLike 35 = .ok (.putfield 35, 3) := by decide +kernel
theorem dX0_becomeLike_38 : decode cX0_becomeLike 38 = .ok (.aload_n 0, 1) := by decide +kernel
theorem dX0_becomeLike_39 : decode cX0_becomeLike 39 = .ok (.aload_n 1, 1) := by decide +kernel
theorem dX0_becomeLike_40 : decode cX0_becomeLike 40 = .ok (.getfield 21, 3) := by decide +kernel
theorem dX0_becomeLike_43 : decode cX0_becomeLike 43 = .ok (.putfield 21, 3) := by decide +kernel
theorem dX0_becomeLike_46 : decode cX0_becomeLike 46 = .ok (.aload_n 0, 1) := by decide +kernel
theorem dX0_becomeLike_47 : decode cX0_becomeLike 47 = .ok (.aload_n 1, 1) := by decide +kernel
theorem dX0_becomeLike_48 : decode cX0_becomeLike 48 = .ok (.getfield 25, 3) := by decide +kernel
theorem dX0_becomeLike_51 : decode cX0_becomeLike 51 = .ok (.putfield 25, 3) := by decide +kernel
theorem dX0_becomeLike_54 : decode cX0_becomeLike 54 = .ok (.aload_n 0, 1) := by decide +kernel
theorem dX0_becomeLike_55 : decode cX0_becomeLike 55 = .ok (.aload_n 1, 1) := by decide +kernel
theorem dX0_becomeLike_56 : decode cX0_becomeLike 56 = .ok (.getfield 38, 3) := by decide +kernel
theorem dX0_becomeLike_59 : decode cX0_becomeLike 59 = .ok (.putfield 38, 3) := by decide +kernel
theorem dX0_becomeLike_62 : decode cX0_becomeLike 62 = .ok (.aload_n 0, 1) := by decide +kernel
theorem dX0_becomeLike_63 : decode cX0_becomeLike 63 = .ok (.aload_n 1, 1) := by decide +kernel
theorem dX0_becomeLike_64 : decode cX0_becomeLike 64 = .ok (.getfield 41, 3) := by decide +kernel
theorem dX0_becomeLike_67 : decode cX0_becomeLike 67 = .ok (.putfield 41, 3) := by decide +kernel
theorem dX0_becomeLike_70 : decode cX0_becomeLike 70 = .ok (.return_, 1) := by decide +kernel
theorem dX0_leather_0 : decode cX0_leather 0 = .ok (.iload_n 1, 1) := by decide +kernel
theorem dX0_leather_1 : decode cX0_leather 1 = .ok (.ifCond .ne 10, 3) := by decide +kernel
theorem dX0_leather_4 : decode cX0_leather 4 = .ok (.aload_n 0, 1) := by decide +kernel
theorem dX0_leather_5 : decode cX0_leather 5 = .ok (.getfield 12, 3) := by decide +kernel
theorem dX0_leather_8 : decode cX0_leather 8 = .ok (.goto 7, 3) := by decide +kernel
theorem dX0_leather_11 : decode cX0_leather 11 = .ok (.aload_n 0, 1) := by decide +kernel
theorem dX0_leather_12 : decode cX0_leather 12 = .ok (.getfield 18, 3) := by decide +kernel
theorem dX0_leather_15 : decode cX0_leather 15 = .ok (.areturn, 1) := by decide +kernel
theorem dX0_strokesLeft_0 : decode cX0_strokesLeft 0 = .ok (.aload_n 0, 1) := by decide +kernel
theorem dX0_strokesLeft_1 : decode cX0_strokesLeft 1 = .ok (.iload_n 1, 1) := by decide +kernel
theorem dX0_strokesLeft_2 : decode cX0_strokesLeft 2 = .ok (.invokevirtual 44, 3) := by decide +kernel
theorem dX0_strokesLeft_5 : decode cX0_strokesLeft 5 = .ok (.aload_n 0, 1) := by decide +kernel
theorem dX0_strokesLeft_6 : decode cX0_strokesLeft 6 = .ok (.getfield 28, 3) := by decide +kernel
theorem dX0_strokesLeft_9 : decode cX0_strokesLeft 9 = .ok (.invokevirtual 48, 3) := by decide +kernel
theorem dX0_strokesLeft_12 : decode cX0_strokesLeft 12 = .ok (.ireturn, 1) := by decide +kernel
theorem dX0_turn_0 : decode cX0_turn 0 = .ok (.aload_n 0, 1) := by decide +kernel
theorem dX0_turn_1 : decode cX0_turn 1 = .ok (.iconst 1, 1) := by decide +kernel
theorem dX0_turn_2 : decode cX0_turn 2 = .ok (.aload_n 0, 1) := by decide +kernel
theorem dX0_turn_3 : decode cX0_turn 3 = .ok (.getfield 35, 3) := by decide +kernel
theorem dX0_turn_6 : decode cX0_turn 6 = .ok (.isub, 1) := by decide +kernel
theorem dX0_turn_7 : decode cX0_turn 7 = .ok (.putfield 35, 3) := by decide +kernel
theorem dX0_turn_10 : decode cX0_turn 10 = .ok (.aload_n 0, 1) := by decide +kernel
theorem dX0_turn_11 : decode cX0_turn 11 = .ok (.dup, 1) := by decide +kernel
theorem dX0_turn_12 : decode cX0_turn 12 = .ok (.getfield 41, 3) := by decide +kernel
theorem dX0_turn_15 : decode cX0_turn 15 = .ok (.iconst 1, 1) := by decide +kernel
theorem dX0_turn_16 : decode cX0_turn 16 = .ok (.iadd, 1) := by decide +kernel
theorem dX0_turn_17 : decode cX0_turn 17 = .ok (.putfield 41, 3) := by decide +kernel
theorem dX0_turn_20 : decode cX0_turn 20 = .ok (.return_, 1) := by decide +kernel
theorem dX1_init_0 : decode cX1_init 0 = .ok (.aload_n 0, 1) := by decide +kernel
theorem dX1_init_1 : decode cX1_init 1 = .ok (.invokespecial 1, 3) := by decide +kernel
theorem dX1_init_4 : decode cX1_init 4 = .ok (.return_, 1) := by decide +kernel
theorem dX1_becomeLike_0 : decode cX1_becomeLike 0 = .ok (.aload_n 0, 1) := by decide +kernel
theorem dX1_becomeLike_1 : decode cX1_becomeLike 1 = .ok (.aload_n 1, 1) := by decide +kernel
theorem dX1_becomeLike_2 : decode cX1_becomeLike 2 = .ok (.getfield 7, 3) := by decide +kernel
theorem dX1_becomeLike_5 : decode cX1_becomeLike 5 = .ok (.putfield 7, 3) := by decide +kernel
theorem dX1_becomeLike_8 : decode cX1_becomeLike 8 = .ok (.aload_n 0, 1) := by decide +kernel
theorem dX1_becomeLike_9 : decode cX1_becomeLike 9 = .ok (.aload_n 1, 1) := by decide +kernel
theorem dX1_becomeLike_10 : decode cX1_becomeLike 10 = .ok (.getfield 13, 3) := by decide +kernel
theorem dX1_becomeLike_13 : decode cX1_becomeLike 13 = .ok (.putfield 13, 3) := by decide +kernel
theorem dX1_becomeLike_16 : decode cX1_becomeLike 16 = .ok (.return_, 1) := by decide +kernel
theorem dX1_renew_0 : decode cX1_renew 0 = .ok (.aload_n 0, 1) := by decide +kernel
theorem dX1_renew_1 : decode cX1_renew 1 = .ok (.iload_n 1, 1) := by decide +kernel
theorem dX1_renew_2 : decode cX1_renew 2 = .ok (.putfield 7, 3) := by decide +kernel
theorem dX1_renew_5 : decode cX1_renew 5 = .ok (.aload_n 0, 1) := by decide +kernel
theorem dX1_renew_6 : decode cX1_renew 6 = .ok (.iconst 0, 1) := by decide +kernel
theorem dX1_renew_7 : decode cX1_renew 7 = .ok (.putfield 13, 3) := by decide +kernel
theorem dX1_renew_10 : decode cX1_renew 10 = .ok (.return_, 1) := by decide +kernel
theorem dX1_reach_0 : decode cX1_reach 0 = .ok (.aload_n 0, 1) := by decide +kernel
theorem dX1_reach_1 : decode cX1_reach 1 = .ok (.getfield 7, 3) := by decide +kernel
theorem dX1_reach_4 : decode cX1_reach 4 = .ok (.ifCond .le 17, 3) := by decide +kernel
theorem dX1_reach_7 : decode cX1_reach 7 = .ok (.bipush 10, 2) := by decide +kernel
theorem dX1_reach_9 : decode cX1_reach 9 = .ok (.iload_n 1, 1) := by decide +kernel
theorem dX1_reach_10 : decode cX1_reach 10 = .ok (.imul, 1) := by decide +kernel
theorem dX1_reach_11 : decode cX1_reach 11 = .ok (.iconst 1, 1) := by decide +kernel
theorem dX1_reach_12 : decode cX1_reach 12 = .ok (.aload_n 0, 1) := by decide +kernel
theorem dX1_reach_13 : decode cX1_reach 13 = .ok (.getfield 7, 3) := by decide +kernel
theorem dX1_reach_16 : decode cX1_reach 16 = .ok (.iadd, 1) := by decide +kernel
theorem dX1_reach_17 : decode cX1_reach 17 = .ok (.idiv, 1) := by decide +kernel
theorem dX1_reach_18 : decode cX1_reach 18 = .ok (.goto 7, 3) := by decide +kernel
theorem dX1_reach_21 : decode cX1_reach 21 = .ok (.bipush 10, 2) := by decide +kernel
theorem dX1_reach_23 : decode cX1_reach 23 = .ok (.iload_n 1, 1) := by decide +kernel
theorem dX1_reach_24 : decode cX1_reach 24 = .ok (.imul, 1) := by decide +kernel
theorem dX1_reach_25 : decode cX1_reach 25 = .ok (.ireturn, 1) := by decide +kernel
theorem dX1_wear_0 : decode cX1_wear 0 = .ok (.aload_n 0, 1) := by decide +kernel
theorem dX1_wear_1 : decode cX1_wear 1 = .ok (.getfield 7, 3) := by decide +kernel
theorem dX1_wear_4 : decode cX1_wear 4 = .ok (.ifCond .ne 4, 3) := by decide +kernel
theorem dX1_wear_7 : decode cX1_wear 7 = .ok (.return_, 1) := by decide +kernel
theorem dX1_wear_8 : decode cX1_wear 8 = .ok (.aload_n 0, 1) := by decide +kernel
theorem dX1_wear_9 : decode cX1_wear 9 = .ok (.dup, 1) := by decide +kernel
theorem dX1_wear_10 : decode cX1_wear 10 = .ok (.getfield 13, 3) := by decide +kernel
theorem dX1_wear_13 : decode cX1_wear 13 = .ok (.iload_n 1, 1) := by decide +kernel
theorem dX1_wear_14 : decode cX1_wear 14 = .ok (.iadd, 1) := by decide +kernel
theorem dX1_wear_15 : decode cX1_wear 15 = .ok (.putfield 13, 3) := by decide +kernel
theorem dX1_wear_18 : decode cX1_wear 18 = .ok (.aload_n 0, 1) := by decide +kernel
theorem dX1_wear_19 : decode cX1_wear 19 = .ok (.getfield 13, 3) := by decide +kernel
theorem dX1_wear_22 : decode cX1_wear 22 = .ok (.bipush 10, 2) := by decide +kernel
theorem dX1_wear_24 : decode cX1_wear 24 = .ok (.aload_n 0, 1) := by decide +kernel
theorem dX1_wear_25 : decode cX1_wear 25 = .ok (.getfield 7, 3) := by decide +kernel
theorem dX1_wear_28 : decode cX1_wear 28 = .ok (.imul, 1) := by decide +kernel
theorem dX1_wear_29 : decode cX1_wear 29 = .ok (.if_icmp .lt 8, 3) := by decide +kernel
theorem dX1_wear_32 : decode cX1_wear 32 = .ok (.aload_n 0, 1) := by decide +kernel
theorem dX1_wear_33 : decode cX1_wear 33 = .ok (.iconst 0, 1) := by decide +kernel
theorem dX1_wear_34 : decode cX1_wear 34 = .ok (.invokevirtual 16, 3) := by decide +kernel
theorem dX1_wear_37 : decode cX1_wear 37 = .ok (.return_, 1) := by decide +kernel
theorem dX1_strokesLeft_0 : decode cX1_strokesLeft 0 = .ok (.aload_n 0, 1) := by decide +kernel
theorem dX1_strokesLeft_1 : decode cX1_strokesLeft 1 = .ok (.getfield 7, 3) := by decide +kernel
theorem dX1_strokesLeft_4 : decode cX1_strokesLeft 4 = .ok (.ifCond .eq 7, 3) := by decide +kernel
theorem dX1_strokesLeft_7 : decode cX1_strokesLeft 7 = .ok (.iload_n 1, 1) := by decide +kernel
theorem dX1_strokesLeft_8 : decode cX1_strokesLeft 8 = .ok (.ifCond .gt 5, 3) := by decide +kernel
theorem dX1_strokesLeft_11 : decode cX1_strokesLeft 11 = .ok (.iconst 0, 1) := by decide +kernel
theorem dX1_strokesLeft_12 : decode cX1_strokesLeft 12 = .ok (.ireturn, 1) := by decide +kernel
theorem dX1_strokesLeft_13 : decode cX1_strokesLeft 13 = .ok (.bipush 10, 2) := by decide +kernel
theorem dX1_strokesLeft_15 : decode cX1_strokesLeft 15 = .ok (.aload_n 0, 1) := by decide +kernel
theorem dX1_strokesLeft_16 : decode cX1_strokesLeft 16 = .ok (.getfield 7, 3) := by decide +kernel
theorem dX1_strokesLeft_19 : decode cX1_strokesLeft 19 = .ok (.imul, 1) := by decide +kernel
theorem dX1_strokesLeft_20 : decode cX1_strokesLeft 20 = .ok (.aload_n 0, 1) := by decide +kernel
theorem dX1_strokesLeft_21 : decode cX1_strokesLeft 21 = .ok (.getfield 13, 3) := by decide +kernel
theorem dX1_strokesLeft_24 : decode cX1_strokesLeft 24 = .ok (.isub, 1) := by decide +kernel
theorem dX1_strokesLeft_25 : decode cX1_strokesLeft 25 = .ok (.iload_n 1, 1) := by decide +kernel
theorem dX1_strokesLeft_26 : decode cX1_strokesLeft 26 = .ok (.iadd, 1) := by decide +kernel
theorem dX1_strokesLeft_27 : decode cX1_strokesLeft 27 = .ok (.iconst 1, 1) := by decide +kernel
theorem dX1_strokesLeft_28 : decode cX1_strokesLeft 28 = .ok (.isub, 1) := by decide +kernel
theorem dX1_strokesLeft_29 : decode cX1_strokesLeft 29 = .ok (.iload_n 1, 1) := by decide +kernel
theorem dX1_strokesLeft_30 : decode cX1_strokesLeft 30 = .ok (.idiv, 1) := by decide +kernel
theorem dX1_strokesLeft_31 : decode cX1_strokesLeft 31 = .ok (.ireturn, 1) := by decide +kernel
theorem dX2_init_0 : decode cX2_init 0 = .ok (.aload_n 0, 1) := by decide +kernel
theorem dX2_init_1 : decode cX2_init 1 = .ok (.invokespecial 3, 3) := by decide +kernel
theorem dX2_init_4 : decode cX2_init 4 = .ok (.aload_n 0, 1) := by decide +kernel
theorem dX2_init_5 : decode cX2_init 5 = .ok (.iconst (-1), 1) := by decide +kernel
theorem dX2_init_6 : decode cX2_init 6 = .ok (.putfield 9, 3) := by decide +kernel
theorem dX2_init_9 : decode cX2_init 9 = .ok (.return_, 1) := by decide +kernel
theorem dX2_becomeLike_0 : decode cX2_becomeLike 0 = .ok (.aload_n 0, 1) := by decide +kernel
theorem dX2_becomeLike_1 : decode cX2_becomeLike 1 = .ok (.aload_n 1, 1) := by decide +kernel
theorem dX2_becomeLike_2 : decode cX2_becomeLike 2 = .ok (.getfield 15, 3) := by decide +kernel
theorem dX2_becomeLike_5 : decode cX2_becomeLike 5 = .ok (.putfield 15, 3) := by decide +kernel
theorem dX2_becomeLike_8 : decode cX2_becomeLike 8 = .ok (.aload_n 0, 1) := by decide +kernel
theorem dX2_becomeLike_9 : decode cX2_becomeLike 9 = .ok (.aload_n 1, 1) := by decide +kernel
theorem dX2_becomeLike_10 : decode cX2_becomeLike 10 = .ok (.getfield 18, 3) := by decide +kernel
theorem dX2_becomeLike_13 : decode cX2_becomeLike 13 = .ok (.putfield 18, 3) := by decide +kernel
theorem dX2_becomeLike_16 : decode cX2_becomeLike 16 = .ok (.aload_n 0, 1) := by decide +kernel
theorem dX2_becomeLike_17 : decode cX2_becomeLike 17 = .ok (.aload_n 1, 1) := by decide +kernel
theorem dX2_becomeLike_18 : decode cX2_becomeLike 18 = .ok (.getfield 9, 3) := by decide +kernel
theorem dX2_becomeLike_21 : decode cX2_becomeLike 21 = .ok (.putfield 9, 3) := by decide +kernel
theorem dX2_becomeLike_24 : decode cX2_becomeLike 24 = .ok (.aload_n 0, 1) := by decide +kernel
theorem dX2_becomeLike_25 : decode cX2_becomeLike 25 = .ok (.aload_n 1, 1) := by decide +kernel
theorem dX2_becomeLike_26 : decode cX2_becomeLike 26 = .ok (.getfield 21, 3) := by decide +kernel
theorem dX2_becomeLike_29 : decode cX2_becomeLike 29 = .ok (.putfield 21, 3) := by decide +kernel
theorem dX2_becomeLike_32 : decode cX2_becomeLike 32 = .ok (.aload_n 0, 1) := by decide +kernel
theorem dX2_becomeLike_33 : decode cX2_becomeLike 33 = .ok (.aload_n 1, 1) := by decide +kernel
theorem dX2_becomeLike_34 : decode cX2_becomeLike 34 = .ok (.getfield 24, 3) := by decide +kernel
theorem dX2_becomeLike_37 : decode cX2_becomeLike 37 = .ok (.putfield 24, 3) := by decide +kernel
theorem dX2_becomeLike_40 : decode cX2_becomeLike 40 = .ok (.return_, 1) := by decide +kernel
theorem dX2_rests_0 : decode cX2_rests 0 = .ok (.aload_n 0, 1) := by decide +kernel
theorem dX2_rests_1 : decode cX2_rests 1 = .ok (.getfield 9, 3) := by decide +kernel
theorem dX2_rests_4 : decode cX2_rests 4 = .ok (.iconst (-1), 1) := by decide +kernel
theorem dX2_rests_5 : decode cX2_rests 5 = .ok (.if_icmp .ne 7, 3) := by decide +kernel
theorem dX2_rests_8 : decode cX2_rests 8 = .ok (.iconst 1, 1) := by decide +kernel
theorem dX2_rests_9 : decode cX2_rests 9 = .ok (.goto 4, 3) := by decide +kernel
theorem dX2_rests_12 : decode cX2_rests 12 = .ok (.iconst 0, 1) := by decide +kernel
theorem dX2_rests_13 : decode cX2_rests 13 = .ok (.ireturn, 1) := by decide +kernel
theorem dX2_canPull_0 : decode cX2_canPull 0 = .ok (.aload_n 0, 1) := by decide +kernel
theorem dX2_canPull_1 : decode cX2_canPull 1 = .ok (.getfield 18, 3) := by decide +kernel
theorem dX2_canPull_4 : decode cX2_canPull 4 = .ok (.iload_n 1, 1) := by decide +kernel
theorem dX2_canPull_5 : decode cX2_canPull 5 = .ok (.iadd, 1) := by decide +kernel
theorem dX2_canPull_6 : decode cX2_canPull 6 = .ok (.bipush 10, 2) := by decide +kernel
theorem dX2_canPull_8 : decode cX2_canPull 8 = .ok (.aload_n 0, 1) := by decide +kernel
theorem dX2_canPull_9 : decode cX2_canPull 9 = .ok (.getfield 15, 3) := by decide +kernel
theorem dX2_canPull_12 : decode cX2_canPull 12 = .ok (.imul, 1) := by decide +kernel
theorem dX2_canPull_13 : decode cX2_canPull 13 = .ok (.if_icmp .gt 7, 3) := by decide +kernel
theorem dX2_canPull_16 : decode cX2_canPull 16 = .ok (.iconst 1, 1) := by decide +kernel
theorem dX2_canPull_17 : decode cX2_canPull 17 = .ok (.goto 4, 3) := by decide +kernel
theorem dX2_canPull_20 : decode cX2_canPull 20 = .ok (.iconst 0, 1) := by decide +kernel
theorem dX2_canPull_21 : decode cX2_canPull 21 = .ok (.ireturn, 1) := by decide +kernel
theorem dX2_pull_0 : decode cX2_pull 0 = .ok (.aload_n 0, 1) := by decide +kernel
theorem dX2_pull_1 : decode cX2_pull 1 = .ok (.dup, 1) := by decide +kernel
theorem dX2_pull_2 : decode cX2_pull 2 = .ok (.getfield 18, 3) := by decide +kernel
theorem dX2_pull_5 : decode cX2_pull 5 = .ok (.iload_n 1, 1) := by decide +kernel
theorem dX2_pull_6 : decode cX2_pull 6 = .ok (.iadd, 1) := by decide +kernel
theorem dX2_pull_7 : decode cX2_pull 7 = .ok (.putfield 18, 3) := by decide +kernel
theorem dX2_pull_10 : decode cX2_pull 10 = .ok (.aload_n 0, 1) := by decide +kernel
theorem dX2_pull_11 : decode cX2_pull 11 = .ok (.dup, 1) := by decide +kernel
theorem dX2_pull_12 : decode cX2_pull 12 = .ok (.getfield 21, 3) := by decide +kernel
theorem dX2_pull_15 : decode cX2_pull 15 = .ok (.iconst 1, 1) := by decide +kernel
theorem dX2_pull_16 : decode cX2_pull 16 = .ok (.iadd, 1) := by decide +kernel
theorem dX2_pull_17 : decode cX2_pull 17 = .ok (.putfield 21, 3) := by decide +kernel
theorem dX2_pull_20 : decode cX2_pull 20 = .ok (.return_, 1) := by decide +kernel
theorem dX2_restIfFree_0 : decode cX2_restIfFree 0 = .ok (.aload_n 0, 1) := by decide +kernel
theorem dX2_restIfFree_1 : decode cX2_restIfFree 1 = .ok (.invokevirtual 27, 3) := by decide +kernel
theorem dX2_restIfFree_4 : decode cX2_restIfFree 4 = .ok (.ifCond .eq 17, 3) := by decide +kernel
theorem dX2_restIfFree_7 : decode cX2_restIfFree 7 = .ok (.aload_n 0, 1) := by decide +kernel
theorem dX2_restIfFree_8 : decode cX2_restIfFree 8 = .ok (.iconst 0, 1) := by decide +kernel
theorem dX2_restIfFree_9 : decode cX2_restIfFree 9 = .ok (.aload_n 0, 1) := by decide +kernel
theorem dX2_restIfFree_10 : decode cX2_restIfFree 10 = .ok (.getfield 18, 3) := by decide +kernel
theorem dX2_restIfFree_13 : decode cX2_restIfFree 13 = .ok (.iconst 2, 1) := by decide +kernel
theorem dX2_restIfFree_14 : decode cX2_restIfFree 14 = .ok (.isub, 1) := by decide +kernel
theorem dX2_restIfFree_15 : decode cX2_restIfFree 15 = .ok (.invokestatic 31, 3) := by decide +kernel
theorem dX2_restIfFree_18 : decode cX2_restIfFree 18 = .ok (.putfield 18, 3) := by decide +kernel
theorem dX2_restIfFree_21 : decode cX2_restIfFree 21 = .ok (.return_, 1) := by decide +kernel
theorem dX2_fact_0 : decode cX2_fact 0 = .ok (.iload_n 1, 1) := by decide +kernel
theorem dX2_fact_1 : decode cX2_fact 1 = .ok (.tableswitch 51 0 3 #[31, 36, 41, 46], 31) := by decide +kernel
theorem dX2_fact_32 : decode cX2_fact 32 = .ok (.aload_n 0, 1) := by decide +kernel
theorem dX2_fact_33 : decode cX2_fact 33 = .ok (.getfield 15, 3) := by decide +kernel
theorem dX2_fact_36 : decode cX2_fact 36 = .ok (.ireturn, 1) := by decide +kernel
theorem dX2_fact_37 : decode cX2_fact 37 = .ok (.aload_n 0, 1) := by decide +kernel
theorem dX2_fact_38 : decode cX2_fact 38 = .ok (.getfield 18, 3) := by decide +kernel
theorem dX2_fact_41 : decode cX2_fact 41 = .ok (.ireturn, 1) := by decide +kernel
theorem dX2_fact_42 : decode cX2_fact 42 = .ok (.aload_n 0, 1) := by decide +kernel
theorem dX2_fact_43 : decode cX2_fact 43 = .ok (.getfield 9, 3) := by decide +kernel
theorem dX2_fact_46 : decode cX2_fact 46 = .ok (.ireturn, 1) := by decide +kernel
theorem dX2_fact_47 : decode cX2_fact 47 = .ok (.aload_n 0, 1) := by decide +kernel
theorem dX2_fact_48 : decode cX2_fact 48 = .ok (.getfield 21, 3) := by decide +kernel
theorem dX2_fact_51 : decode cX2_fact 51 = .ok (.ireturn, 1) := by decide +kernel
theorem dX2_fact_52 : decode cX2_fact 52 = .ok (.aload_n 0, 1) := by decide +kernel
theorem dX2_fact_53 : decode cX2_fact 53 = .ok (.getfield 24, 3) := by decide +kernel
theorem dX2_fact_56 : decode cX2_fact 56 = .ok (.ireturn, 1) := by decide +kernel
theorem dX3_init_0 : decode cX3_init 0 = .ok (.aload_n 0, 1) := by decide +kernel
theorem dX3_init_1 : decode cX3_init 1 = .ok (.invokespecial 3, 3) := by decide +kernel
theorem dX3_init_4 : decode cX3_init 4 = .ok (.aload_n 0, 1) := by decide +kernel
theorem dX3_init_5 : decode cX3_init 5 = .ok (.iconst (-1), 1) := by decide +kernel
theorem dX3_init_6 : decode cX3_init 6 = .ok (.putfield 9, 3) := by decide +kernel
theorem dX3_init_9 : decode cX3_init 9 = .ok (.aload_n 0, 1) := by decide +kernel
theorem dX3_init_10 : decode cX3_init 10 = .ok (.iload_n 1, 1) := by decide +kernel
theorem dX3_init_11 : decode cX3_init 11 = .ok (.ifCond .eq 8, 3) := by decide +kernel
theorem dX3_init_14 : decode cX3_init 14 = .ok (.bipush 91, 2) := by decide +kernel
theorem dX3_init_16 : decode cX3_init 16 = .ok (.goto 4, 3) := by decide +kernel
theorem dX3_init_19 : decode cX3_init 19 = .ok (.iconst 0, 1) := by decide +kernel
theorem dX3_init_20 : decode cX3_init 20 = .ok (.newarray .int, 2) := by decide +kernel
theorem dX3_init_22 : decode cX3_init 22 = .ok (.putfield 15, 3) := by decide +kernel
theorem dX3_init_25 : decode cX3_init 25 = .ok (.return_, 1) := by decide +kernel
theorem dX3_becomeLike_0 : decode cX3_becomeLike 0 = .ok (.aload_n 0, 1) := by decide +kernel
theorem dX3_becomeLike_1 : decode cX3_becomeLike 1 = .ok (.aload_n 1, 1) := by decide +kernel
theorem dX3_becomeLike_2 : decode cX3_becomeLike 2 = .ok (.getfield 19, 3) := by decide +kernel
theorem dX3_becomeLike_5 : decode cX3_becomeLike 5 = .ok (.putfield 19, 3) := by decide +kernel
theorem dX3_becomeLike_8 : decode cX3_becomeLike 8 = .ok (.aload_n 0, 1) := by decide +kernel
theorem dX3_becomeLike_9 : decode cX3_becomeLike 9 = .ok (.aload_n 1, 1) := by decide +kernel
theorem dX3_becomeLike_10 : decode cX3_becomeLike 10 = .ok (.getfield 22, 3) := by decide +kernel
theorem dX3_becomeLike_13 : decode cX3_becomeLike 13 = .ok (.putfield 22, 3) := by decide +kernel
theorem dX3_becomeLike_16 : decode cX3_becomeLike 16 = .ok (.aload_n 0, 1) := by decide +kernel
theorem dX3_becomeLike_17 : decode cX3_becomeLike 17 = .ok (.aload_n 1, 1) := by decide +kernel
theorem dX3_becomeLike_18 : decode cX3_becomeLike 18 = .ok (.getfield 25, 3) := by decide +kernel
theorem dX3_becomeLike_21 : decode cX3_becomeLike 21 = .ok (.putfield 25, 3) := by decide +kernel
theorem dX3_becomeLike_24 : decode cX3_becomeLike 24 = .ok (.aload_n 0, 1) := by decide +kernel
theorem dX3_becomeLike_25 : decode cX3_becomeLike 25 = .ok (.aload_n 1, 1) := by decide +kernel
theorem dX3_becomeLike_26 : decode cX3_becomeLike 26 = .ok (.getfield 28, 3) := by decide +kernel
theorem dX3_becomeLike_29 : decode cX3_becomeLike 29 = .ok (.putfield 28, 3) := by decide +kernel
theorem dX3_becomeLike_32 : decode cX3_becomeLike 32 = .ok (.aload_n 0, 1) := by decide +kernel
theorem dX3_becomeLike_33 : decode cX3_becomeLike 33 = .ok (.aload_n 1, 1) := by decide +kernel
theorem dX3_becomeLike_34 : decode cX3_becomeLike 34 = .ok (.getfield 31, 3) := by decide +kernel
theorem dX3_becomeLike_37 : decode cX3_becomeLike 37 = .ok (.putfield 31, 3) := by decide +kernel
theorem dX3_becomeLike_40 : decode cX3_becomeLike 40 = .ok (.aload_n 0, 1) := by decide +kernel
theorem dX3_becomeLike_41 : decode cX3_becomeLike 41 = .ok (.aload_n 1, 1) := by decide +kernel
theorem dX3_becomeLike_42 : decode cX3_becomeLike 42 = .ok (.getfield 34, 3) := by decide +kernel
theorem dX3_becomeLike_45 : decode cX3_becomeLike 45 = .ok (.putfield 34, 3) := by decide +kernel
theorem dX3_becomeLike_48 : decode cX3_becomeLike 48 = .ok (.aload_n 0, 1) := by decide +kernel
theorem dX3_becomeLike_49 : decode cX3_becomeLike 49 = .ok (.aload_n 1, 1) := by decide +kernel
theorem dX3_becomeLike_50 : decode cX3_becomeLike 50 = .ok (.getfield 9, 3) := by decide +kernel
theorem dX3_becomeLike_53 : decode cX3_becomeLike 53 = .ok (.putfield 9, 3) := by decide +kernel
theorem dX3_becomeLike_56 : decode cX3_becomeLike 56 = .ok (.return_, 1) := by decide +kernel
theorem dX3_begin_0 : decode cX3_begin 0 = .ok (.aload_n 0, 1) := by decide +kernel
theorem dX3_begin_1 : decode cX3_begin 1 = .ok (.iload_n 1, 1) := by decide +kernel
theorem dX3_begin_2 : decode cX3_begin 2 = .ok (.putfield 19, 3) := by decide +kernel
theorem dX3_begin_5 : decode cX3_begin 5 = .ok (.aload_n 0, 1) := by decide +kernel
theorem dX3_begin_6 : decode cX3_begin 6 = .ok (.iload_n 2, 1) := by decide +kernel
theorem dX3_begin_7 : decode cX3_begin 7 = .ok (.putfield 22, 3) := by decide +kernel
theorem dX3_begin_10 : decode cX3_begin 10 = .ok (.aload_n 0, 1) := by decide +kernel
theorem dX3_begin_11 : decode cX3_begin 11 = .ok (.iload_n 3, 1) := by decide +kernel
theorem dX3_begin_12 : decode cX3_begin 12 = .ok (.putfield 25, 3) := by decide +kernel
theorem dX3_begin_15 : decode cX3_begin 15 = .ok (.aload_n 0, 1) := by decide +kernel
theorem dX3_begin_16 : decode cX3_begin 16 = .ok (.iload 4, 2) := by decide +kernel
theorem dX3_begin_18 : decode cX3_begin 18 = .ok (.putfield 28, 3) := by decide +kernel
theorem dX3_begin_21 : decode cX3_begin 21 = .ok (.aload_n 0, 1) := by decide +kernel
theorem dX3_begin_22 : decode cX3_begin 22 = .ok (.iconst 0, 1) := by decide +kernel
theorem dX3_begin_23 : decode cX3_begin 23 = .ok (.putfield 31, 3) := by decide +kernel
theorem dX3_begin_26 : decode cX3_begin 26 = .ok (.aload_n 0, 1) := by decide +kernel
theorem dX3_begin_27 : decode cX3_begin 27 = .ok (.iconst 0, 1) := by decide +kernel
theorem dX3_begin_28 : decode cX3_begin 28 = .ok (.putfield 34, 3) := by decide +kernel
theorem dX3_begin_31 : decode cX3_begin 31 = .ok (.aload_n 0, 1) := by decide +kernel
theorem dX3_begin_32 : decode cX3_begin 32 = .ok (.iconst (-1), 1) := by decide +kernel
theorem dX3_begin_33 : decode cX3_begin 33 = .ok (.putfield 9, 3) := by decide +kernel
theorem dX3_begin_36 : decode cX3_begin 36 = .ok (.return_, 1) := by decide +kernel
theorem dX3_isDone_0 : decode cX3_isDone 0 = .ok (.aload_n 0, 1) := by decide +kernel
theorem dX3_isDone_1 : decode cX3_isDone 1 = .ok (.getfield 9, 3) := by decide +kernel
theorem dX3_isDone_4 : decode cX3_isDone 4 = .ok (.ifCond .lt 7, 3) := by decide +kernel
theorem dX3_isDone_7 : decode cX3_isDone 7 = .ok (.iconst 1, 1) := by decide +kernel
theorem dX3_isDone_8 : decode cX3_isDone 8 = .ok (.goto 4, 3) := by decide +kernel
theorem dX3_isDone_11 : decode cX3_isDone 11 = .ok (.iconst 0, 1) := by decide +kernel
theorem dX3_isDone_12 : decode cX3_isDone 12 = .ok (.ireturn, 1) := by decide +kernel
theorem dX3_tellers_0 : decode cX3_tellers 0 = .ok (.iconst 3, 1) := by decide +kernel
theorem dX3_tellers_1 : decode cX3_tellers 1 = .ok (.aload_n 0, 1) := by decide +kernel
theorem dX3_tellers_2 : decode cX3_tellers 2 = .ok (.getfield 22, 3) := by decide +kernel
theorem dX3_tellers_5 : decode cX3_tellers 5 = .ok (.iconst 1, 1) := by decide +kernel
theorem dX3_tellers_6 : decode cX3_tellers 6 = .ok (.iadd, 1) := by decide +kernel
theorem dX3_tellers_7 : decode cX3_tellers 7 = .ok (.imul, 1) := by decide +kernel
theorem dX3_tellers_8 : decode cX3_tellers 8 = .ok (.ireturn, 1) := by decide +kernel
theorem dX3_strokesDue_0 : decode cX3_strokesDue 0 = .ok (.aload_n 0, 1) := by decide +kernel
theorem dX3_strokesDue_1 : decode cX3_strokesDue 1 = .ok (.invokevirtual 37, 3) := by decide +kernel
theorem dX3_strokesDue_4 : decode cX3_strokesDue 4 = .ok (.aload_n 0, 1) := by decide +kernel
theorem dX3_strokesDue_5 : decode cX3_strokesDue 5 = .ok (.getfield 25, 3) := by decide +kernel
theorem dX3_strokesDue_8 : decode cX3_strokesDue 8 = .ok (.iadd, 1) := by decide +kernel
theorem dX3_strokesDue_9 : decode cX3_strokesDue 9 = .ok (.ireturn, 1) := by decide +kernel
theorem dX3_years_0 : decode cX3_years 0 = .ok (.iconst 0, 1) := by decide +kernel
theorem dX3_years_1 : decode cX3_years 1 = .ok (.aload_n 0, 1) := by decide +kernel
theorem dX3_years_2 : decode cX3_years 2 = .ok (.getfield 31, 3) := by decide +kernel
theorem dX3_years_5 : decode cX3_years 5 = .ok (.aload_n 0, 1) := by decide +kernel
theorem dX3_years_6 : decode cX3_years 6 = .ok (.invokevirtual 37, 3) := by decide +kernel
theorem dX3_years_9 : decode cX3_years 9 = .ok (.isub, 1) := by decide +kernel
theorem dX3_years_10 : decode cX3_years 10 = .ok (.invokestatic 41, 3) := by decide +kernel
theorem dX3_years_13 : decode cX3_years 13 = .ok (.ireturn, 1) := by decide +kernel
theorem dX3_sound_0 : decode cX3_sound 0 = .ok (.aload_n 0, 1) := by decide +kernel
theorem dX3_sound_1 : decode cX3_sound 1 = .ok (.dup, 1) := by decide +kernel
theorem dX3_sound_2 : decode cX3_sound 2 = .ok (.getfield 31, 3) := by decide +kernel
theorem dX3_sound_5 : decode cX3_sound 5 = .ok (.iconst 1, 1) := by decide +kernel
theorem dX3_sound_6 : decode cX3_sound 6 = .ok (.iadd, 1) := by decide +kernel
theorem dX3_sound_7 : decode cX3_sound 7 = .ok (.putfield 31, 3) := by decide +kernel
theorem dX3_sound_10 : decode cX3_sound 10 = .ok (.iload_n 1, 1) := by decide +kernel
theorem dX3_sound_11 : decode cX3_sound 11 = .ok (.ifCond .eq 13, 3) := by decide +kernel
theorem dX3_sound_14 : decode cX3_sound 14 = .ok (.aload_n 0, 1) := by decide +kernel
theorem dX3_sound_15 : decode cX3_sound 15 = .ok (.dup, 1) := by decide +kernel
theorem dX3_sound_16 : decode cX3_sound 16 = .ok (.getfield 34, 3) := by decide +kernel
theorem dX3_sound_19 : decode cX3_sound 19 = .ok (.iconst 1, 1) := by decide +kernel
theorem dX3_sound_20 : decode cX3_sound 20 = .ok (.iadd, 1) := by decide +kernel
theorem dX3_sound_21 : decode cX3_sound 21 = .ok (.putfield 34, 3) := by decide +kernel
theorem dX3_sound_24 : decode cX3_sound 24 = .ok (.aload_n 0, 1) := by decide +kernel
theorem dX3_sound_25 : decode cX3_sound 25 = .ok (.getfield 31, 3) := by decide +kernel
theorem dX3_sound_28 : decode cX3_sound 28 = .ok (.aload_n 0, 1) := by decide +kernel
theorem dX3_sound_29 : decode cX3_sound 29 = .ok (.invokevirtual 37, 3) := by decide +kernel
theorem dX3_sound_32 : decode cX3_sound 32 = .ok (.if_icmp .le 26, 3) := by decide +kernel
theorem dX3_sound_35 : decode cX3_sound 35 = .ok (.iload_n 2, 1) := by decide +kernel
theorem dX3_sound_36 : decode cX3_sound 36 = .ok (.ifCond .lt 22, 3) := by decide +kernel
theorem dX3_sound_39 : decode cX3_sound 39 = .ok (.iload_n 2, 1) := by decide +kernel
theorem dX3_sound_40 : decode cX3_sound 40 = .ok (.aload_n 0, 1) := by decide +kernel
theorem dX3_sound_41 : decode cX3_sound 41 = .ok (.getfield 15, 3) := by decide +kernel
theorem dX3_sound_44 : decode cX3_sound 44 = .ok (.arraylength, 1) := by decide +kernel
theorem dX3_sound_45 : decode cX3_sound 45 = .ok (.if_icmp .ge 13, 3) := by decide +kernel
theorem dX3_sound_48 : decode cX3_sound 48 = .ok (.aload_n 0, 1) := by decide +kernel
theorem dX3_sound_49 : decode cX3_sound 49 = .ok (.getfield 15, 3) := by decide +kernel
theorem dX3_sound_52 : decode cX3_sound 52 = .ok (.iload_n 2, 1) := by decide +kernel
theorem dX3_sound_53 : decode cX3_sound 53 = .ok (.dup2, 1) := by decide +kernel
theorem dX3_sound_54 : decode cX3_sound 54 = .ok (.iaload, 1) := by decide +kernel
theorem dX3_sound_55 : decode cX3_sound 55 = .ok (.iconst 1, 1) := by decide +kernel
theorem dX3_sound_56 : decode cX3_sound 56 = .ok (.iadd, 1) := by decide +kernel
theorem dX3_sound_57 : decode cX3_sound 57 = .ok (.iastore, 1) := by decide +kernel
theorem dX3_sound_58 : decode cX3_sound 58 = .ok (.return_, 1) := by decide +kernel
theorem dX3_pauseNow_0 : decode cX3_pauseNow 0 = .ok (.aload_n 0, 1) := by decide +kernel
theorem dX3_pauseNow_1 : decode cX3_pauseNow 1 = .ok (.getfield 22, 3) := by decide +kernel
theorem dX3_pauseNow_4 : decode cX3_pauseNow 4 = .ok (.iconst 1, 1) := by decide +kernel
theorem dX3_pauseNow_5 : decode cX3_pauseNow 5 = .ok (.iadd, 1) := by decide +kernel
theorem dX3_pauseNow_6 : decode cX3_pauseNow 6 = .ok (.istore_n 1, 1) := by decide +kernel
theorem dX3_pauseNow_7 : decode cX3_pauseNow 7 = .ok (.aload_n 0, 1) := by decide +kernel
theorem dX3_pauseNow_8 : decode cX3_pauseNow 8 = .ok (.getfield 31, 3) := by decide +kernel
theorem dX3_pauseNow_11 : decode cX3_pauseNow 11 = .ok (.iload_n 1, 1) := by decide +kernel
theorem dX3_pauseNow_12 : decode cX3_pauseNow 12 = .ok (.if_icmp .eq 23, 3) := by decide +kernel
theorem dX3_pauseNow_15 : decode cX3_pauseNow 15 = .ok (.aload_n 0, 1) := by decide +kernel
theorem dX3_pauseNow_16 : decode cX3_pauseNow 16 = .ok (.getfield 31, 3) := by decide +kernel
theorem dX3_pauseNow_19 : decode cX3_pauseNow 19 = .ok (.iconst 2, 1) := by decide +kernel
theorem dX3_pauseNow_20 : decode cX3_pauseNow 20 = .ok (.iload_n 1, 1) := by decide +kernel
theorem dX3_pauseNow_21 : decode cX3_pauseNow 21 = .ok (.imul, 1) := by decide +kernel
theorem dX3_pauseNow_22 : decode cX3_pauseNow 22 = .ok (.if_icmp .eq 13, 3) := by decide +kernel
theorem dX3_pauseNow_25 : decode cX3_pauseNow 25 = .ok (.aload_n 0, 1) := by decide +kernel
theorem dX3_pauseNow_26 : decode cX3_pauseNow 26 = .ok (.getfield 31, 3) := by decide +kernel
theorem dX3_pauseNow_29 : decode cX3_pauseNow 29 = .ok (.iconst 3, 1) := by decide +kernel
theorem dX3_pauseNow_30 : decode cX3_pauseNow 30 = .ok (.iload_n 1, 1) := by decide +kernel
theorem dX3_pauseNow_31 : decode cX3_pauseNow 31 = .ok (.imul, 1) := by decide +kernel
theorem dX3_pauseNow_32 : decode cX3_pauseNow 32 = .ok (.if_icmp .ne 7, 3) := by decide +kernel
theorem dX3_pauseNow_35 : decode cX3_pauseNow 35 = .ok (.iconst 1, 1) := by decide +kernel
theorem dX3_pauseNow_36 : decode cX3_pauseNow 36 = .ok (.goto 4, 3) := by decide +kernel
theorem dX3_pauseNow_39 : decode cX3_pauseNow 39 = .ok (.iconst 0, 1) := by decide +kernel
theorem dX3_pauseNow_40 : decode cX3_pauseNow 40 = .ok (.istore_n 2, 1) := by decide +kernel
theorem dX3_pauseNow_41 : decode cX3_pauseNow 41 = .ok (.iload_n 2, 1) := by decide +kernel
theorem dX3_pauseNow_42 : decode cX3_pauseNow 42 = .ok (.ifCond .eq 17, 3) := by decide +kernel
theorem dX3_pauseNow_45 : decode cX3_pauseNow 45 = .ok (.aload_n 0, 1) := by decide +kernel
theorem dX3_pauseNow_46 : decode cX3_pauseNow 46 = .ok (.getfield 28, 3) := by decide +kernel
theorem dX3_pauseNow_49 : decode cX3_pauseNow 49 = .ok (.iconst 1, 1) := by decide +kernel
theorem dX3_pauseNow_50 : decode cX3_pauseNow 50 = .ok (.isub, 1) := by decide +kernel
theorem dX3_pauseNow_51 : decode cX3_pauseNow 51 = .ok (.aload_n 0, 1) := by decide +kernel
theorem dX3_pauseNow_52 : decode cX3_pauseNow 52 = .ok (.getfield 28, 3) := by decide +kernel
theorem dX3_pauseNow_55 : decode cX3_pauseNow 55 = .ok (.iadd, 1) := by decide +kernel
theorem dX3_pauseNow_56 : decode cX3_pauseNow 56 = .ok (.goto 9, 3) := by decide +kernel
theorem dX3_pauseNow_59 : decode cX3_pauseNow 59 = .ok (.aload_n 0, 1) := by decide +kernel
theorem dX3_pauseNow_60 : decode cX3_pauseNow 60 = .ok (.getfield 28, 3) := by decide +kernel
theorem dX3_pauseNow_63 : decode cX3_pauseNow 63 = .ok (.iconst 1, 1) := by decide +kernel
theorem dX3_pauseNow_64 : decode cX3_pauseNow 64 = .ok (.isub, 1) := by decide +kernel
theorem dX3_pauseNow_65 : decode cX3_pauseNow 65 = .ok (.ireturn, 1) := by decide +kernel
theorem dX3_yearsCounted_0 : decode cX3_yearsCounted 0 = .ok (.iconst 0, 1) := by decide +kernel
theorem dX3_yearsCounted_1 : decode cX3_yearsCounted 1 = .ok (.istore_n 2, 1) := by decide +kernel
theorem dX3_yearsCounted_2 : decode cX3_yearsCounted 2 = .ok (.iconst 0, 1) := by decide +kernel
theorem dX3_yearsCounted_3 : decode cX3_yearsCounted 3 = .ok (.iload_n 1, 1) := by decide +kernel
theorem dX3_yearsCounted_4 : decode cX3_yearsCounted 4 = .ok (.invokestatic 41, 3) := by decide +kernel
theorem dX3_yearsCounted_7 : decode cX3_yearsCounted 7 = .ok (.istore_n 3, 1) := by decide +kernel
theorem dX3_yearsCounted_8 : decode cX3_yearsCounted 8 = .ok (.iload_n 3, 1) := by decide +kernel
theorem dX3_yearsCounted_9 : decode cX3_yearsCounted 9 = .ok (.aload_n 0, 1) := by decide +kernel
theorem dX3_yearsCounted_10 : decode cX3_yearsCounted 10 = .ok (.getfield 15, 3) := by decide +kernel
theorem dX3_yearsCounted_13 : decode cX3_yearsCounted 13 = .ok (.arraylength, 1) := by decide +kernel
theorem dX3_yearsCounted_14 : decode cX3_yearsCounted 14 = .ok (.if_icmp .ge 18, 3) := by decide +kernel
theorem dX3_yearsCounted_17 : decode cX3_yearsCounted 17 = .ok (.iload_n 2, 1) := by decide +kernel
theorem dX3_yearsCounted_18 : decode cX3_yearsCounted 18 = .ok (.aload_n 0, 1) := by decide +kernel
theorem dX3_yearsCounted_19 : decode cX3_yearsCounted 19 = .ok (.getfield 15, 3) := by decide +kernel
theorem dX3_yearsCounted_22 : decode cX3_yearsCounted 22 = .ok (.iload_n 3, 1) := by decide +kernel
theorem dX3_yearsCounted_23 : decode cX3_yearsCounted 23 = .ok (.iaload, 1) := by decide +kernel
theorem dX3_yearsCounted_24 : decode cX3_yearsCounted 24 = .ok (.iadd, 1) := by decide +kernel
theorem dX3_yearsCounted_25 : decode cX3_yearsCounted 25 = .ok (.istore_n 2, 1) := by decide +kernel
theorem dX3_yearsCounted_26 : decode cX3_yearsCounted 26 = .ok (.iinc 3 1, 3) := by decide +kernel
theorem dX3_yearsCounted_29 : decode cX3_yearsCounted 29 = .ok (.goto (-21), 3) := by decide +kernel
theorem dX3_yearsCounted_32 : decode cX3_yearsCounted 32 = .ok (.iload_n 2, 1) := by decide +kernel
theorem dX3_yearsCounted_33 : decode cX3_yearsCounted 33 = .ok (.ireturn, 1) := by decide +kernel
theorem dX3_state_0 : decode cX3_state 0 = .ok (.aload_n 0, 1) := by decide +kernel
theorem dX3_state_1 : decode cX3_state 1 = .ok (.invokevirtual 47, 3) := by decide +kernel
theorem dX3_state_4 : decode cX3_state 4 = .ok (.ifCond .eq 5, 3) := by decide +kernel
theorem dX3_state_7 : decode cX3_state 7 = .ok (.iconst 2, 1) := by decide +kernel
theorem dX3_state_8 : decode cX3_state 8 = .ok (.ireturn, 1) := by decide +kernel
theorem dX3_state_9 : decode cX3_state 9 = .ok (.aload_n 0, 1) := by decide +kernel
theorem dX3_state_10 : decode cX3_state 10 = .ok (.getfield 31, 3) := by decide +kernel
theorem dX3_state_13 : decode cX3_state 13 = .ok (.ifCond .le 7, 3) := by decide +kernel
theorem dX3_state_16 : decode cX3_state 16 = .ok (.iconst 1, 1) := by decide +kernel
theorem dX3_state_17 : decode cX3_state 17 = .ok (.goto 4, 3) := by decide +kernel
theorem dX3_state_20 : decode cX3_state 20 = .ok (.iconst 0, 1) := by decide +kernel
theorem dX3_state_21 : decode cX3_state 21 = .ok (.ireturn, 1) := by decide +kernel
theorem dX3_fact_0 : decode cX3_fact 0 = .ok (.iload_n 1, 1) := by decide +kernel
theorem dX3_fact_1 : decode cX3_fact 1 = .ok (.tableswitch 87 0 7 #[47, 52, 57, 62, 67, 72, 77, 82], 47) := by decide +kernel
theorem dX3_fact_48 : decode cX3_fact 48 = .ok (.aload_n 0, 1) := by decide +kernel
theorem dX3_fact_49 : decode cX3_fact 49 = .ok (.getfield 19, 3) := by decide +kernel
theorem dX3_fact_52 : decode cX3_fact 52 = .ok (.ireturn, 1) := by decide +kernel
theorem dX3_fact_53 : decode cX3_fact 53 = .ok (.aload_n 0, 1) := by decide +kernel
theorem dX3_fact_54 : decode cX3_fact 54 = .ok (.getfield 22, 3) := by decide +kernel
theorem dX3_fact_57 : decode cX3_fact 57 = .ok (.ireturn, 1) := by decide +kernel
theorem dX3_fact_58 : decode cX3_fact 58 = .ok (.aload_n 0, 1) := by decide +kernel
theorem dX3_fact_59 : decode cX3_fact 59 = .ok (.getfield 25, 3) := by decide +kernel
theorem dX3_fact_62 : decode cX3_fact 62 = .ok (.ireturn, 1) := by decide +kernel
theorem dX3_fact_63 : decode cX3_fact 63 = .ok (.aload_n 0, 1) := by decide +kernel
theorem dX3_fact_64 : decode cX3_fact 64 = .ok (.getfield 28, 3) := by decide +kernel
theorem dX3_fact_67 : decode cX3_fact 67 = .ok (.ireturn, 1) := by decide +kernel
theorem dX3_fact_68 : decode cX3_fact 68 = .ok (.aload_n 0, 1) := by decide +kernel
theorem dX3_fact_69 : decode cX3_fact 69 = .ok (.getfield 31, 3) := by decide +kernel
theorem dX3_fact_72 : decode cX3_fact 72 = .ok (.ireturn, 1) := by decide +kernel
theorem dX3_fact_73 : decode cX3_fact 73 = .ok (.aload_n 0, 1) := by decide +kernel
theorem dX3_fact_74 : decode cX3_fact 74 = .ok (.getfield 34, 3) := by decide +kernel
theorem dX3_fact_77 : decode cX3_fact 77 = .ok (.ireturn, 1) := by decide +kernel
theorem dX3_fact_78 : decode cX3_fact 78 = .ok (.aload_n 0, 1) := by decide +kernel
theorem dX3_fact_79 : decode cX3_fact 79 = .ok (.invokevirtual 51, 3) := by decide +kernel
theorem dX3_fact_82 : decode cX3_fact 82 = .ok (.ireturn, 1) := by decide +kernel
theorem dX3_fact_83 : decode cX3_fact 83 = .ok (.aload_n 0, 1) := by decide +kernel
theorem dX3_fact_84 : decode cX3_fact 84 = .ok (.invokevirtual 54, 3) := by decide +kernel
theorem dX3_fact_87 : decode cX3_fact 87 = .ok (.ireturn, 1) := by decide +kernel
theorem dX3_fact_88 : decode cX3_fact 88 = .ok (.aload_n 0, 1) := by decide +kernel
theorem dX3_fact_89 : decode cX3_fact 89 = .ok (.getfield 9, 3) := by decide +kernel
theorem dX3_fact_92 : decode cX3_fact 92 = .ok (.ireturn, 1) := by decide +kernel
theorem dX4_init_0 : decode cX4_init 0 = .ok (.aload_n 0, 1) := by decide +kernel
theorem dX4_init_1 : decode cX4_init 1 = .ok (.invokespecial 3, 3) := by decide +kernel
theorem dX4_init_4 : decode cX4_init 4 = .ok (.aload_n 0, 1) := by decide +kernel
theorem dX4_init_5 : decode cX4_init 5 = .ok (.iconst 4, 1) := by decide +kernel
theorem dX4_init_6 : decode cX4_init 6 = .ok (.anewarray 9, 3) := by decide +kernel
theorem dX4_init_9 : decode cX4_init 9 = .ok (.putfield 11, 3) := by decide +kernel
theorem dX4_init_12 : decode cX4_init 12 = .ok (.iconst 0, 1) := by decide +kernel
theorem dX4_init_13 : decode cX4_init 13 = .ok (.istore_n 2, 1) := by decide +kernel
theorem dX4_init_14 : decode cX4_init 14 = .ok (.iload_n 2, 1) := by decide +kernel
theorem dX4_init_15 : decode cX4_init 15 = .ok (.iconst 4, 1) := by decide +kernel
theorem dX4_init_16 : decode cX4_init 16 = .ok (.if_icmp .ge 25, 3) := by decide +kernel
theorem dX4_init_19 : decode cX4_init 19 = .ok (.aload_n 0, 1) := by decide +kernel
theorem dX4_init_20 : decode cX4_init 20 = .ok (.getfield 11, 3) := by decide +kernel
theorem dX4_init_23 : decode cX4_init 23 = .ok (.iload_n 2, 1) := by decide +kernel
theorem dX4_init_24 : decode cX4_init 24 = .ok (.new 9, 3) := by decide +kernel
theorem dX4_init_27 : decode cX4_init 27 = .ok (.dup, 1) := by decide +kernel
theorem dX4_init_28 : decode cX4_init 28 = .ok (.iload_n 2, 1) := by decide +kernel
theorem dX4_init_29 : decode cX4_init 29 = .ok (.iconst 3, 1) := by decide +kernel
theorem dX4_init_30 : decode cX4_init 30 = .ok (.iadd, 1) := by decide +kernel
theorem dX4_init_31 : decode cX4_init 31 = .ok (.invokespecial 17, 3) := by decide +kernel
theorem dX4_init_34 : decode cX4_init 34 = .ok (.aastore, 1) := by decide +kernel
theorem dX4_init_35 : decode cX4_init 35 = .ok (.iinc 2 1, 3) := by decide +kernel
theorem dX4_init_38 : decode cX4_init 38 = .ok (.goto (-24), 3) := by decide +kernel
theorem dX4_init_41 : decode cX4_init 41 = .ok (.aload_n 0, 1) := by decide +kernel
theorem dX4_init_42 : decode cX4_init 42 = .ok (.bipush 12, 2) := by decide +kernel
theorem dX4_init_44 : decode cX4_init 44 = .ok (.anewarray 20, 3) := by decide +kernel
theorem dX4_init_47 : decode cX4_init 47 = .ok (.putfield 22, 3) := by decide +kernel
theorem dX4_init_50 : decode cX4_init 50 = .ok (.iconst 0, 1) := by decide +kernel
theorem dX4_init_51 : decode cX4_init 51 = .ok (.istore_n 2, 1) := by decide +kernel
theorem dX4_init_52 : decode cX4_init 52 = .ok (.iload_n 2, 1) := by decide +kernel
theorem dX4_init_53 : decode cX4_init 53 = .ok (.bipush 12, 2) := by decide +kernel
theorem dX4_init_55 : decode cX4_init 55 = .ok (.if_icmp .ge 22, 3) := by decide +kernel
theorem dX4_init_58 : decode cX4_init 58 = .ok (.aload_n 0, 1) := by decide +kernel
theorem dX4_init_59 : decode cX4_init 59 = .ok (.getfield 22, 3) := by decide +kernel
theorem dX4_init_62 : decode cX4_init 62 = .ok (.iload_n 2, 1) := by decide +kernel
theorem dX4_init_63 : decode cX4_init 63 = .ok (.new 20, 3) := by decide +kernel
theorem dX4_init_66 : decode cX4_init 66 = .ok (.dup, 1) := by decide +kernel
theorem dX4_init_67 : decode cX4_init 67 = .ok (.invokespecial 26, 3) := by decide +kernel
theorem dX4_init_70 : decode cX4_init 70 = .ok (.aastore, 1) := by decide +kernel
theorem dX4_init_71 : decode cX4_init 71 = .ok (.iinc 2 1, 3) := by decide +kernel
theorem dX4_init_74 : decode cX4_init 74 = .ok (.goto (-22), 3) := by decide +kernel
theorem dX4_init_77 : decode cX4_init 77 = .ok (.aload_n 0, 1) := by decide +kernel
theorem dX4_init_78 : decode cX4_init 78 = .ok (.bipush 21, 2) := by decide +kernel
theorem dX4_init_80 : decode cX4_init 80 = .ok (.anewarray 27, 3) := by decide +kernel
theorem dX4_init_83 : decode cX4_init 83 = .ok (.putfield 29, 3) := by decide +kernel
theorem dX4_init_86 : decode cX4_init 86 = .ok (.iconst 0, 1) := by decide +kernel
theorem dX4_init_87 : decode cX4_init 87 = .ok (.istore_n 2, 1) := by decide +kernel
theorem dX4_init_88 : decode cX4_init 88 = .ok (.iload_n 2, 1) := by decide +kernel
theorem dX4_init_89 : decode cX4_init 89 = .ok (.bipush 20, 2) := by decide +kernel
theorem dX4_init_91 : decode cX4_init 91 = .ok (.if_icmp .gt 23, 3) := by decide +kernel
theorem dX4_init_94 : decode cX4_init 94 = .ok (.aload_n 0, 1) := by decide +kernel
theorem dX4_init_95 : decode cX4_init 95 = .ok (.getfield 29, 3) := by decide +kernel
theorem dX4_init_98 : decode cX4_init 98 = .ok (.iload_n 2, 1) := by decide +kernel
theorem dX4_init_99 : decode cX4_init 99 = .ok (.new 27, 3) := by decide +kernel
theorem dX4_init_102 : decode cX4_init 102 = .ok (.dup, 1) := by decide +kernel
theorem dX4_init_103 : decode cX4_init 103 = .ok (.iload_n 1, 1) := by decide +kernel
theorem dX4_init_104 : decode cX4_init 104 = .ok (.invokespecial 33, 3) := by decide +kernel
theorem dX4_init_107 : decode cX4_init 107 = .ok (.aastore, 1) := by decide +kernel
theorem dX4_init_108 : decode cX4_init 108 = .ok (.iinc 2 1, 3) := by decide +kernel
theorem dX4_init_111 : decode cX4_init 111 = .ok (.goto (-23), 3) := by decide +kernel
theorem dX4_init_114 : decode cX4_init 114 = .ok (.aload_n 0, 1) := by decide +kernel
theorem dX4_init_115 : decode cX4_init 115 = .ok (.bipush 20, 2) := by decide +kernel
theorem dX4_init_117 : decode cX4_init 117 = .ok (.putfield 36, 3) := by decide +kernel
theorem dX4_init_120 : decode cX4_init 120 = .ok (.return_, 1) := by decide +kernel
theorem dX4_becomeLike_0 : decode cX4_becomeLike 0 = .ok (.iconst 0, 1) := by decide +kernel
theorem dX4_becomeLike_1 : decode cX4_becomeLike 1 = .ok (.istore_n 2, 1) := by decide +kernel
theorem dX4_becomeLike_2 : decode cX4_becomeLike 2 = .ok (.iload_n 2, 1) := by decide +kernel
theorem dX4_becomeLike_3 : decode cX4_becomeLike 3 = .ok (.iconst 4, 1) := by decide +kernel
theorem dX4_becomeLike_4 : decode cX4_becomeLike 4 = .ok (.if_icmp .ge 24, 3) := by decide +kernel
theorem dX4_becomeLike_7 : decode cX4_becomeLike 7 = .ok (.aload_n 0, 1) := by decide +kernel
theorem dX4_becomeLike_8 : decode cX4_becomeLike 8 = .ok (.getfield 11, 3) := by decide +kernel
theorem dX4_becomeLike_11 : decode cX4_becomeLike 11 = .ok (.iload_n 2, 1) := by decide +kernel
theorem dX4_becomeLike_12 : decode cX4_becomeLike 12 = .ok (.aaload, 1) := by decide +kernel
theorem dX4_becomeLike_13 : decode cX4_becomeLike 13 = .ok (.aload_n 1, 1) := by decide +kernel
theorem dX4_becomeLike_14 : decode cX4_becomeLike 14 = .ok (.getfield 11, 3) := by decide +kernel
theorem dX4_becomeLike_17 : decode cX4_becomeLike 17 = .ok (.iload_n 2, 1) := by decide +kernel
theorem dX4_becomeLike_18 : decode cX4_becomeLike 18 = .ok (.aaload, 1) := by decide +kernel
theorem dX4_becomeLike_19 : decode cX4_becomeLike 19 = .ok (.invokevirtual 40, 3) := by decide +kernel
theorem dX4_becomeLike_22 : decode cX4_becomeLike 22 = .ok (.iinc 2 1, 3) := by decide +kernel
theorem dX4_becomeLike_25 : decode cX4_becomeLike 25 = .ok (.goto (-23), 3) := by decide +kernel
theorem dX4_becomeLike_28 : decode cX4_becomeLike 28 = .ok (.iconst 0, 1) := by decide +kernel
theorem dX4_becomeLike_29 : decode cX4_becomeLike 29 = .ok (.istore_n 2, 1) := by decide +kernel
theorem dX4_becomeLike_30 : decode cX4_becomeLike 30 = .ok (.iload_n 2, 1) := by decide +kernel
theorem dX4_becomeLike_31 : decode cX4_becomeLike 31 = .ok (.aload_n 1, 1) := by decide +kernel
theorem dX4_becomeLike_32 : decode cX4_becomeLike 32 = .ok (.getfield 44, 3) := by decide +kernel
theorem dX4_becomeLike_35 : decode cX4_becomeLike 35 = .ok (.if_icmp .ge 24, 3) := by decide +kernel
theorem dX4_becomeLike_38 : decode cX4_becomeLike 38 = .ok (.aload_n 0, 1) := by decide +kernel
theorem dX4_becomeLike_39 : decode cX4_becomeLike 39 = .ok (.getfield 22, 3) := by decide +kernel
theorem dX4_becomeLike_42 : decode cX4_becomeLike 42 = .ok (.iload_n 2, 1) := by decide +kernel
theorem dX4_becomeLike_43 : decode cX4_becomeLike 43 = .ok (.aaload, 1) := by decide +kernel
theorem dX4_becomeLike_44 : decode cX4_becomeLike 44 = .ok (.aload_n 1, 1) := by decide +kernel
theorem dX4_becomeLike_45 : decode cX4_becomeLike 45 = .ok (.getfield 22, 3) := by decide +kernel
theorem dX4_becomeLike_48 : decode cX4_becomeLike 48 = .ok (.iload_n 2, 1) := by decide +kernel
theorem dX4_becomeLike_49 : decode cX4_becomeLike 49 = .ok (.aaload, 1) := by decide +kernel
theorem dX4_becomeLike_50 : decode cX4_becomeLike 50 = .ok (.invokevirtual 47, 3) := by decide +kernel
theorem dX4_becomeLike_53 : decode cX4_becomeLike 53 = .ok (.iinc 2 1, 3) := by decide +kernel
theorem dX4_becomeLike_56 : decode cX4_becomeLike 56 = .ok (.goto (-26), 3) := by decide +kernel
theorem dX4_becomeLike_59 : decode cX4_becomeLike 59 = .ok (.iconst 0, 1) := by decide +kernel
theorem dX4_becomeLike_60 : decode cX4_becomeLike 60 = .ok (.istore_n 2, 1) := by decide +kernel
theorem dX4_becomeLike_61 : decode cX4_becomeLike 61 = .ok (.iload_n 2, 1) := by decide +kernel
theorem dX4_becomeLike_62 : decode cX4_becomeLike 62 = .ok (.aload_n 1, 1) := by decide +kernel
theorem dX4_becomeLike_63 : decode cX4_becomeLike 63 = .ok (.getfield 50, 3) := by decide +kernel
theorem dX4_becomeLike_66 : decode cX4_becomeLike 66 = .ok (.if_icmp .ge 24, 3) := by decide +kernel
theorem dX4_becomeLike_69 : decode cX4_becomeLike 69 = .ok (.aload_n 0, 1) := by decide +kernel
theorem dX4_becomeLike_70 : decode cX4_becomeLike 70 = .ok (.getfield 29, 3) := by decide +kernel
theorem dX4_becomeLike_73 : decode cX4_becomeLike 73 = .ok (.iload_n 2, 1) := by decide +kernel
theorem dX4_becomeLike_74 : decode cX4_becomeLike 74 = .ok (.aaload, 1) := by decide +kernel
theorem dX4_becomeLike_75 : decode cX4_becomeLike 75 = .ok (.aload_n 1, 1) := by decide +kernel
theorem dX4_becomeLike_76 : decode cX4_becomeLike 76 = .ok (.getfield 29, 3) := by decide +kernel
theorem dX4_becomeLike_79 : decode cX4_becomeLike 79 = .ok (.iload_n 2, 1) := by decide +kernel
theorem dX4_becomeLike_80 : decode cX4_becomeLike 80 = .ok (.aaload, 1) := by decide +kernel
theorem dX4_becomeLike_81 : decode cX4_becomeLike 81 = .ok (.invokevirtual 53, 3) := by decide +kernel
theorem dX4_becomeLike_84 : decode cX4_becomeLike 84 = .ok (.iinc 2 1, 3) := by decide +kernel
theorem dX4_becomeLike_87 : decode cX4_becomeLike 87 = .ok (.goto (-26), 3) := by decide +kernel
theorem dX4_becomeLike_90 : decode cX4_becomeLike 90 = .ok (.aload_n 0, 1) := by decide +kernel
theorem dX4_becomeLike_91 : decode cX4_becomeLike 91 = .ok (.aload_n 1, 1) := by decide +kernel
theorem dX4_becomeLike_92 : decode cX4_becomeLike 92 = .ok (.getfield 56, 3) := by decide +kernel
theorem dX4_becomeLike_95 : decode cX4_becomeLike 95 = .ok (.putfield 56, 3) := by decide +kernel
theorem dX4_becomeLike_98 : decode cX4_becomeLike 98 = .ok (.aload_n 0, 1) := by decide +kernel
theorem dX4_becomeLike_99 : decode cX4_becomeLike 99 = .ok (.aload_n 1, 1) := by decide +kernel
theorem dX4_becomeLike_100 : decode cX4_becomeLike 100 = .ok (.getfield 44, 3) := by decide +kernel
theorem dX4_becomeLike_103 : decode cX4_becomeLike 103 = .ok (.putfield 44, 3) := by decide +kernel
theorem dX4_becomeLike_106 : decode cX4_becomeLike 106 = .ok (.aload_n 0, 1) := by decide +kernel
theorem dX4_becomeLike_107 : decode cX4_becomeLike 107 = .ok (.aload_n 1, 1) := by decide +kernel
theorem dX4_becomeLike_108 : decode cX4_becomeLike 108 = .ok (.getfield 50, 3) := by decide +kernel
theorem dX4_becomeLike_111 : decode cX4_becomeLike 111 = .ok (.putfield 50, 3) := by decide +kernel
theorem dX4_becomeLike_114 : decode cX4_becomeLike 114 = .ok (.aload_n 0, 1) := by decide +kernel
theorem dX4_becomeLike_115 : decode cX4_becomeLike 115 = .ok (.aload_n 1, 1) := by decide +kernel
theorem dX4_becomeLike_116 : decode cX4_becomeLike 116 = .ok (.getfield 36, 3) := by decide +kernel
theorem dX4_becomeLike_119 : decode cX4_becomeLike 119 = .ok (.putfield 36, 3) := by decide +kernel
theorem dX4_becomeLike_122 : decode cX4_becomeLike 122 = .ok (.return_, 1) := by decide +kernel
theorem dX4_isRinger_0 : decode cX4_isRinger 0 = .ok (.iload_n 1, 1) := by decide +kernel
theorem dX4_isRinger_1 : decode cX4_isRinger 1 = .ok (.ifCond .lt 15, 3) := by decide +kernel
theorem dX4_isRinger_4 : decode cX4_isRinger 4 = .ok (.iload_n 1, 1) := by decide +kernel
theorem dX4_isRinger_5 : decode cX4_isRinger 5 = .ok (.aload_n 0, 1) := by decide +kernel
theorem dX4_isRinger_6 : decode cX4_isRinger 6 = .ok (.getfield 44, 3) := by decide +kernel
theorem dX4_isRinger_9 : decode cX4_isRinger 9 = .ok (.if_icmp .ge 7, 3) := by decide +kernel
theorem dX4_isRinger_12 : decode cX4_isRinger 12 = .ok (.iconst 1, 1) := by decide +kernel
theorem dX4_isRinger_13 : decode cX4_isRinger 13 = .ok (.goto 4, 3) := by decide +kernel
theorem dX4_isRinger_16 : decode cX4_isRinger 16 = .ok (.iconst 0, 1) := by decide +kernel
theorem dX4_isRinger_17 : decode cX4_isRinger 17 = .ok (.ireturn, 1) := by decide +kernel
theorem dX4_isToll_0 : decode cX4_isToll 0 = .ok (.iload_n 1, 1) := by decide +kernel
theorem dX4_isToll_1 : decode cX4_isToll 1 = .ok (.ifCond .lt 15, 3) := by decide +kernel
theorem dX4_isToll_4 : decode cX4_isToll 4 = .ok (.iload_n 1, 1) := by decide +kernel
theorem dX4_isToll_5 : decode cX4_isToll 5 = .ok (.aload_n 0, 1) := by decide +kernel
theorem dX4_isToll_6 : decode cX4_isToll 6 = .ok (.getfield 50, 3) := by decide +kernel
theorem dX4_isToll_9 : decode cX4_isToll 9 = .ok (.if_icmp .ge 7, 3) := by decide +kernel
theorem dX4_isToll_12 : decode cX4_isToll 12 = .ok (.iconst 1, 1) := by decide +kernel
theorem dX4_isToll_13 : decode cX4_isToll 13 = .ok (.goto 4, 3) := by decide +kernel
theorem dX4_isToll_16 : decode cX4_isToll 16 = .ok (.iconst 0, 1) := by decide +kernel
theorem dX4_isToll_17 : decode cX4_isToll 17 = .ok (.ireturn, 1) := by decide +kernel
theorem dX4_addRinger_0 : decode cX4_addRinger 0 = .ok (.aload_n 0, 1) := by decide +kernel
theorem dX4_addRinger_1 : decode cX4_addRinger 1 = .ok (.getfield 44, 3) := by decide +kernel
theorem dX4_addRinger_4 : decode cX4_addRinger 4 = .ok (.istore_n 2, 1) := by decide +kernel
theorem dX4_addRinger_5 : decode cX4_addRinger 5 = .ok (.iload_n 2, 1) := by decide +kernel
theorem dX4_addRinger_6 : decode cX4_addRinger 6 = .ok (.aload_n 0, 1) := by decide +kernel
theorem dX4_addRinger_7 : decode cX4_addRinger 7 = .ok (.getfield 22, 3) := by decide +kernel
theorem dX4_addRinger_10 : decode cX4_addRinger 10 = .ok (.arraylength, 1) := by decide +kernel
theorem dX4_addRinger_11 : decode cX4_addRinger 11 = .ok (.if_icmp .lt 5, 3) := by decide +kernel
theorem dX4_addRinger_14 : decode cX4_addRinger 14 = .ok (.iconst (-1), 1) := by decide +kernel
theorem dX4_addRinger_15 : decode cX4_addRinger 15 = .ok (.ireturn, 1) := by decide +kernel
theorem dX4_addRinger_16 : decode cX4_addRinger 16 = .ok (.aload_n 0, 1) := by decide +kernel
theorem dX4_addRinger_17 : decode cX4_addRinger 17 = .ok (.getfield 22, 3) := by decide +kernel
theorem dX4_addRinger_20 : decode cX4_addRinger 20 = .ok (.iload_n 2, 1) := by decide +kernel
theorem dX4_addRinger_21 : decode cX4_addRinger 21 = .ok (.aaload, 1) := by decide +kernel
theorem dX4_addRinger_22 : decode cX4_addRinger 22 = .ok (.iload_n 1, 1) := by decide +kernel
theorem dX4_addRinger_23 : decode cX4_addRinger 23 = .ok (.putfield 59, 3) := by decide +kernel
theorem dX4_addRinger_26 : decode cX4_addRinger 26 = .ok (.aload_n 0, 1) := by decide +kernel
theorem dX4_addRinger_27 : decode cX4_addRinger 27 = .ok (.dup, 1) := by decide +kernel
theorem dX4_addRinger_28 : decode cX4_addRinger 28 = .ok (.getfield 44, 3) := by decide +kernel
theorem dX4_addRinger_31 : decode cX4_addRinger 31 = .ok (.iconst 1, 1) := by decide +kernel
theorem dX4_addRinger_32 : decode cX4_addRinger 32 = .ok (.iadd, 1) := by decide +kernel
theorem dX4_addRinger_33 : decode cX4_addRinger 33 = .ok (.putfield 44, 3) := by decide +kernel
theorem dX4_addRinger_36 : decode cX4_addRinger 36 = .ok (.iload_n 2, 1) := by decide +kernel
theorem dX4_addRinger_37 : decode cX4_addRinger 37 = .ok (.ireturn, 1) := by decide +kernel
theorem dX4_addToll_0 : decode cX4_addToll 0 = .ok (.aload_n 0, 1) := by decide +kernel
theorem dX4_addToll_1 : decode cX4_addToll 1 = .ok (.getfield 50, 3) := by decide +kernel
theorem dX4_addToll_4 : decode cX4_addToll 4 = .ok (.istore 5, 2) := by decide +kernel
theorem dX4_addToll_6 : decode cX4_addToll 6 = .ok (.iload 5, 2) := by decide +kernel
theorem dX4_addToll_8 : decode cX4_addToll 8 = .ok (.aload_n 0, 1) := by decide +kernel
theorem dX4_addToll_9 : decode cX4_addToll 9 = .ok (.getfield 29, 3) := by decide +kernel
theorem dX4_addToll_12 : decode cX4_addToll 12 = .ok (.arraylength, 1) := by decide +kernel
theorem dX4_addToll_13 : decode cX4_addToll 13 = .ok (.if_icmp .lt 5, 3) := by decide +kernel
theorem dX4_addToll_16 : decode cX4_addToll 16 = .ok (.iconst (-1), 1) := by decide +kernel
theorem dX4_addToll_17 : decode cX4_addToll 17 = .ok (.ireturn, 1) := by decide +kernel
theorem dX4_addToll_18 : decode cX4_addToll 18 = .ok (.aload_n 0, 1) := by decide +kernel
theorem dX4_addToll_19 : decode cX4_addToll 19 = .ok (.getfield 29, 3) := by decide +kernel
theorem dX4_addToll_22 : decode cX4_addToll 22 = .ok (.iload 5, 2) := by decide +kernel
theorem dX4_addToll_24 : decode cX4_addToll 24 = .ok (.aaload, 1) := by decide +kernel
theorem dX4_addToll_25 : decode cX4_addToll 25 = .ok (.iload_n 1, 1) := by decide +kernel
theorem dX4_addToll_26 : decode cX4_addToll 26 = .ok (.iload_n 2, 1) := by decide +kernel
theorem dX4_addToll_27 : decode cX4_addToll 27 = .ok (.iload_n 3, 1) := by decide +kernel
theorem dX4_addToll_28 : decode cX4_addToll 28 = .ok (.iload 4, 2) := by decide +kernel
theorem dX4_addToll_30 : decode cX4_addToll 30 = .ok (.invokevirtual 62, 3) := by decide +kernel
theorem dX4_addToll_33 : decode cX4_addToll 33 = .ok (.aload_n 0, 1) := by decide +kernel
theorem dX4_addToll_34 : decode cX4_addToll 34 = .ok (.dup, 1) := by decide +kernel
theorem dX4_addToll_35 : decode cX4_addToll 35 = .ok (.getfield 50, 3) := by decide +kernel
theorem dX4_addToll_38 : decode cX4_addToll 38 = .ok (.iconst 1, 1) := by decide +kernel
theorem dX4_addToll_39 : decode cX4_addToll 39 = .ok (.iadd, 1) := by decide +kernel
theorem dX4_addToll_40 : decode cX4_addToll 40 = .ok (.putfield 50, 3) := by decide +kernel
theorem dX4_addToll_43 : decode cX4_addToll 43 = .ok (.aload_n 0, 1) := by decide +kernel
theorem dX4_addToll_44 : decode cX4_addToll 44 = .ok (.getfield 11, 3) := by decide +kernel
theorem dX4_addToll_47 : decode cX4_addToll 47 = .ok (.iload_n 1, 1) := by decide +kernel
theorem dX4_addToll_48 : decode cX4_addToll 48 = .ok (.aaload, 1) := by decide +kernel
theorem dX4_addToll_49 : decode cX4_addToll 49 = .ok (.getfield 66, 3) := by decide +kernel
theorem dX4_addToll_52 : decode cX4_addToll 52 = .ok (.iconst (-1), 1) := by decide +kernel
theorem dX4_addToll_53 : decode cX4_addToll 53 = .ok (.if_icmp .ne 14, 3) := by decide +kernel
theorem dX4_addToll_56 : decode cX4_addToll 56 = .ok (.aload_n 0, 1) := by decide +kernel
theorem dX4_addToll_57 : decode cX4_addToll 57 = .ok (.getfield 11, 3) := by decide +kernel
theorem dX4_addToll_60 : decode cX4_addToll 60 = .ok (.iload_n 1, 1) := by decide +kernel
theorem dX4_addToll_61 : decode cX4_addToll 61 = .ok (.aaload, 1) := by decide +kernel
theorem dX4_addToll_62 : decode cX4_addToll 62 = .ok (.iload 5, 2) := by decide +kernel
theorem dX4_addToll_64 : decode cX4_addToll 64 = .ok (.putfield 66, 3) := by decide +kernel
theorem dX4_addToll_67 : decode cX4_addToll 67 = .ok (.iload 5, 2) := by decide +kernel
theorem dX4_addToll_69 : decode cX4_addToll 69 = .ok (.ireturn, 1) := by decide +kernel
theorem dX4_endToll_0 : decode cX4_endToll 0 = .ok (.aload_n 0, 1) := by decide +kernel
theorem dX4_endToll_1 : decode cX4_endToll 1 = .ok (.getfield 29, 3) := by decide +kernel
theorem dX4_endToll_4 : decode cX4_endToll 4 = .ok (.iload_n 1, 1) := by decide +kernel
theorem dX4_endToll_5 : decode cX4_endToll 5 = .ok (.aaload, 1) := by decide +kernel
theorem dX4_endToll_6 : decode cX4_endToll 6 = .ok (.astore_n 2, 1) := by decide +kernel
theorem dX4_endToll_7 : decode cX4_endToll 7 = .ok (.aload_n 2, 1) := by decide +kernel
theorem dX4_endToll_8 : decode cX4_endToll 8 = .ok (.aload_n 0, 1) := by decide +kernel
theorem dX4_endToll_9 : decode cX4_endToll 9 = .ok (.getfield 56, 3) := by decide +kernel
theorem dX4_endToll_12 : decode cX4_endToll 12 = .ok (.putfield 69, 3) := by decide +kernel
theorem dX4_endToll_15 : decode cX4_endToll 15 = .ok (.aload_n 0, 1) := by decide +kernel
theorem dX4_endToll_16 : decode cX4_endToll 16 = .ok (.getfield 11, 3) := by decide +kernel
theorem dX4_endToll_19 : decode cX4_endToll 19 = .ok (.aload_n 2, 1) := by decide +kernel
theorem dX4_endToll_20 : decode cX4_endToll 20 = .ok (.getfield 72, 3) := by decide +kernel
theorem dX4_endToll_23 : decode cX4_endToll 23 = .ok (.aaload, 1) := by decide +kernel
theorem dX4_endToll_24 : decode cX4_endToll 24 = .ok (.astore_n 3, 1) := by decide +kernel
theorem dX4_endToll_25 : decode cX4_endToll 25 = .ok (.aload_n 3, 1) := by decide +kernel
theorem dX4_endToll_26 : decode cX4_endToll 26 = .ok (.getfield 66, 3) := by decide +kernel
theorem dX4_endToll_29 : decode cX4_endToll 29 = .ok (.iload_n 1, 1) := by decide +kernel
theorem dX4_endToll_30 : decode cX4_endToll 30 = .ok (.if_icmp .ne 20, 3) := by decide +kernel
theorem dX4_endToll_33 : decode cX4_endToll 33 = .ok (.aload_n 3, 1) := by decide +kernel
theorem dX4_endToll_34 : decode cX4_endToll 34 = .ok (.iconst 0, 1) := by decide +kernel
theorem dX4_endToll_35 : decode cX4_endToll 35 = .ok (.putfield 75, 3) := by decide +kernel
theorem dX4_endToll_38 : decode cX4_endToll 38 = .ok (.aload_n 3, 1) := by decide +kernel
theorem dX4_endToll_39 : decode cX4_endToll 39 = .ok (.aload_n 0, 1) := by decide +kernel
theorem dX4_endToll_40 : decode cX4_endToll 40 = .ok (.aload_n 2, 1) := by decide +kernel
theorem dX4_endToll_41 : decode cX4_endToll 41 = .ok (.getfield 72, 3) := by decide +kernel
theorem dX4_endToll_44 : decode cX4_endToll 44 = .ok (.invokevirtual 78, 3) := by decide +kernel
theorem dX4_endToll_47 : decode cX4_endToll 47 = .ok (.putfield 66, 3) := by decide +kernel
theorem dX4_endToll_50 : decode cX4_endToll 50 = .ok (.aload_n 3, 1) := by decide +kernel
theorem dX4_endToll_51 : decode cX4_endToll 51 = .ok (.getfield 66, 3) := by decide +kernel
theorem dX4_endToll_54 : decode cX4_endToll 54 = .ok (.iconst (-1), 1) := by decide +kernel
theorem dX4_endToll_55 : decode cX4_endToll 55 = .ok (.if_icmp .ne 8, 3) := by decide +kernel
theorem dX4_endToll_58 : decode cX4_endToll 58 = .ok (.aload_n 0, 1) := by decide +kernel
theorem dX4_endToll_59 : decode cX4_endToll 59 = .ok (.aload_n 3, 1) := by decide +kernel
theorem dX4_endToll_60 : decode cX4_endToll 60 = .ok (.invokevirtual 82, 3) := by decide +kernel
theorem dX4_endToll_63 : decode cX4_endToll 63 = .ok (.return_, 1) := by decide +kernel
theorem dX4_firstNotDone_0 : decode cX4_firstNotDone 0 = .ok (.iconst 0, 1) := by decide +kernel
theorem dX4_firstNotDone_1 : decode cX4_firstNotDone 1 = .ok (.istore_n 2, 1) := by decide +kernel
theorem dX4_firstNotDone_2 : decode cX4_firstNotDone 2 = .ok (.iload_n 2, 1) := by decide +kernel
theorem dX4_firstNotDone_3 : decode cX4_firstNotDone 3 = .ok (.aload_n 0, 1) := by decide +kernel
theorem dX4_firstNotDone_4 : decode cX4_firstNotDone 4 = .ok (.getfield 50, 3) := by decide +kernel
theorem dX4_firstNotDone_7 : decode cX4_firstNotDone 7 = .ok (.if_icmp .ge 36, 3) := by decide +kernel
theorem dX4_firstNotDone_10 : decode cX4_firstNotDone 10 = .ok (.aload_n 0, 1) := by decide +kernel
theorem dX4_firstNotDone_11 : decode cX4_firstNotDone 11 = .ok (.getfield 29, 3) := by decide +kernel
theorem dX4_firstNotDone_14 : decode cX4_firstNotDone 14 = .ok (.iload_n 2, 1) := by decide +kernel
theorem dX4_firstNotDone_15 : decode cX4_firstNotDone 15 = .ok (.aaload, 1) := by decide +kernel
theorem dX4_firstNotDone_16 : decode cX4_firstNotDone 16 = .ok (.getfield 72, 3) := by decide +kernel
theorem dX4_firstNotDone_19 : decode cX4_firstNotDone 19 = .ok (.iload_n 1, 1) := by decide +kernel
theorem dX4_firstNotDone_20 : decode cX4_firstNotDone 20 = .ok (.if_icmp .ne 17, 3) := by decide +kernel
theorem dX4_firstNotDone_23 : decode cX4_firstNotDone 23 = .ok (.aload_n 0, 1) := by decide +kernel
theorem dX4_firstNotDone_24 : decode cX4_firstNotDone 24 = .ok (.getfield 29, 3) := by decide +kernel
theorem dX4_firstNotDone_27 : decode cX4_firstNotDone 27 = .ok (.iload_n 2, 1) := by decide +kernel
theorem dX4_firstNotDone_28 : decode cX4_firstNotDone 28 = .ok (.aaload, 1) := by decide +kernel
theorem dX4_firstNotDone_29 : decode cX4_firstNotDone 29 = .ok (.invokevirtual 85, 3) := by decide +kernel
theorem dX4_firstNotDone_32 : decode cX4_firstNotDone 32 = .ok (.ifCond .ne 5, 3) := by decide +kernel
theorem dX4_firstNotDone_35 : decode cX4_firstNotDone 35 = .ok (.iload_n 2, 1) := by decide +kernel
theorem dX4_firstNotDone_36 : decode cX4_firstNotDone 36 = .ok (.ireturn, 1) := by decide +kernel
theorem dX4_firstNotDone_37 : decode cX4_firstNotDone 37 = .ok (.iinc 2 1, 3) := by decide +kernel
theorem dX4_firstNotDone_40 : decode cX4_firstNotDone 40 = .ok (.goto (-38), 3) := by decide +kernel
theorem dX4_firstNotDone_43 : decode cX4_firstNotDone 43 = .ok (.iconst (-1), 1) := by decide +kernel
theorem dX4_firstNotDone_44 : decode cX4_firstNotDone 44 = .ok (.ireturn, 1) := by decide +kernel
theorem dX4_bringToRope_0 : decode cX4_bringToRope 0 = .ok (.aload_n 0, 1) := by decide +kernel
theorem dX4_bringToRope_1 : decode cX4_bringToRope 1 = .ok (.aload_n 0, 1) := by decide +kernel
theorem dX4_bringToRope_2 : decode cX4_bringToRope 2 = .ok (.getfield 11, 3) := by decide +kernel
theorem dX4_bringToRope_5 : decode cX4_bringToRope 5 = .ok (.iload_n 1, 1) := by decide +kernel
theorem dX4_bringToRope_6 : decode cX4_bringToRope 6 = .ok (.aaload, 1) := by decide +kernel
theorem dX4_bringToRope_7 : decode cX4_bringToRope 7 = .ok (.invokevirtual 82, 3) := by decide +kernel
theorem dX4_bringToRope_10 : decode cX4_bringToRope 10 = .ok (.aload_n 0, 1) := by decide +kernel
theorem dX4_bringToRope_11 : decode cX4_bringToRope 11 = .ok (.getfield 11, 3) := by decide +kernel
theorem dX4_bringToRope_14 : decode cX4_bringToRope 14 = .ok (.iload_n 1, 1) := by decide +kernel
theorem dX4_bringToRope_15 : decode cX4_bringToRope 15 = .ok (.aaload, 1) := by decide +kernel
theorem dX4_bringToRope_16 : decode cX4_bringToRope 16 = .ok (.iload_n 2, 1) := by decide +kernel
theorem dX4_bringToRope_17 : decode cX4_bringToRope 17 = .ok (.putfield 89, 3) := by decide +kernel
theorem dX4_bringToRope_20 : decode cX4_bringToRope 20 = .ok (.aload_n 0, 1) := by decide +kernel
theorem dX4_bringToRope_21 : decode cX4_bringToRope 21 = .ok (.getfield 22, 3) := by decide +kernel
theorem dX4_bringToRope_24 : decode cX4_bringToRope 24 = .ok (.iload_n 2, 1) := by decide +kernel
theorem dX4_bringToRope_25 : decode cX4_bringToRope 25 = .ok (.aaload, 1) := by decide +kernel
theorem dX4_bringToRope_26 : decode cX4_bringToRope 26 = .ok (.iload_n 1, 1) := by decide +kernel
theorem dX4_bringToRope_27 : decode cX4_bringToRope 27 = .ok (.putfield 92, 3) := by decide +kernel
theorem dX4_bringToRope_30 : decode cX4_bringToRope 30 = .ok (.return_, 1) := by decide +kernel
theorem dX4_emptyRope_0 : decode cX4_emptyRope 0 = .ok (.aload_n 1, 1) := by decide +kernel
theorem dX4_emptyRope_1 : decode cX4_emptyRope 1 = .ok (.getfield 89, 3) := by decide +kernel
theorem dX4_emptyRope_4 : decode cX4_emptyRope 4 = .ok (.ifCond .lt 27, 3) := by decide +kernel
theorem dX4_emptyRope_7 : decode cX4_emptyRope 7 = .ok (.aload_n 1, 1) := by decide +kernel
theorem dX4_emptyRope_8 : decode cX4_emptyRope 8 = .ok (.getfield 89, 3) := by decide +kernel
theorem dX4_emptyRope_11 : decode cX4_emptyRope 11 = .ok (.aload_n 0, 1) := by decide +kernel
theorem dX4_emptyRope_12 : decode cX4_emptyRope 12 = .ok (.getfield 44, 3) := by decide +kernel
theorem dX4_emptyRope_15 : decode cX4_emptyRope 15 = .ok (.if_icmp .ge 16, 3) := by decide +kernel
theorem dX4_emptyRope_18 : decode cX4_emptyRope 18 = .ok (.aload_n 0, 1) := by decide +kernel
theorem dX4_emptyRope_19 : decode cX4_emptyRope 19 = .ok (.getfield 22, 3) := by decide +kernel
theorem dX4_emptyRope_22 : decode cX4_emptyRope 22 = .ok (.aload_n 1, 1) := by decide +kernel
theorem dX4_emptyRope_23 : decode cX4_emptyRope 23 = .ok (.getfield 89, 3) := by decide +kernel
theorem dX4_emptyRope_26 : decode cX4_emptyRope 26 = .ok (.aaload, 1) := by decide +kernel
theorem dX4_emptyRope_27 : decode cX4_emptyRope 27 = .ok (.iconst (-1), 1) := by decide +kernel
theorem dX4_emptyRope_28 : decode cX4_emptyRope 28 = .ok (.putfield 92, 3) := by decide +kernel
theorem dX4_emptyRope_31 : decode cX4_emptyRope 31 = .ok (.aload_n 1, 1) := by decide +kernel
theorem dX4_emptyRope_32 : decode cX4_emptyRope 32 = .ok (.iconst (-1), 1) := by decide +kernel
theorem dX4_emptyRope_33 : decode cX4_emptyRope 33 = .ok (.putfield 89, 3) := by decide +kernel
theorem dX4_emptyRope_36 : decode cX4_emptyRope 36 = .ok (.return_, 1) := by decide +kernel
theorem dX4_passMinutes_0 : decode cX4_passMinutes 0 = .ok (.iconst 0, 1) := by decide +kernel
theorem dX4_passMinutes_1 : decode cX4_passMinutes 1 = .ok (.istore_n 2, 1) := by decide +kernel
theorem dX4_passMinutes_2 : decode cX4_passMinutes 2 = .ok (.iconst 0, 1) := by decide +kernel
theorem dX4_passMinutes_3 : decode cX4_passMinutes 3 = .ok (.istore_n 3, 1) := by decide +kernel
theorem dX4_passMinutes_4 : decode cX4_passMinutes 4 = .ok (.iload_n 3, 1) := by decide +kernel
theorem dX4_passMinutes_5 : decode cX4_passMinutes 5 = .ok (.iload_n 1, 1) := by decide +kernel
theorem dX4_passMinutes_6 : decode cX4_passMinutes 6 = .ok (.if_icmp .ge 16, 3) := by decide +kernel
theorem dX4_passMinutes_9 : decode cX4_passMinutes 9 = .ok (.iload_n 2, 1) := by decide +kernel
theorem dX4_passMinutes_10 : decode cX4_passMinutes 10 = .ok (.aload_n 0, 1) := by decide +kernel
theorem dX4_passMinutes_11 : decode cX4_passMinutes 11 = .ok (.invokevirtual 93, 3) := by decide +kernel
theorem dX4_passMinutes_14 : decode cX4_passMinutes 14 = .ok (.iadd, 1) := by decide +kernel
theorem dX4_passMinutes_15 : decode cX4_passMinutes 15 = .ok (.istore_n 2, 1) := by decide +kernel
theorem dX4_passMinutes_16 : decode cX4_passMinutes 16 = .ok (.iinc 3 1, 3) := by decide +kernel
theorem dX4_passMinutes_19 : decode cX4_passMinutes 19 = .ok (.goto (-15), 3) := by decide +kernel
theorem dX4_passMinutes_22 : decode cX4_passMinutes 22 = .ok (.iload_n 2, 1) := by decide +kernel
theorem dX4_passMinutes_23 : decode cX4_passMinutes 23 = .ok (.ireturn, 1) := by decide +kernel
theorem dX4_passTillDone_0 : decode cX4_passTillDone 0 = .ok (.aload_n 0, 1) := by decide +kernel
theorem dX4_passTillDone_1 : decode cX4_passTillDone 1 = .ok (.iload_n 1, 1) := by decide +kernel
theorem dX4_passTillDone_2 : decode cX4_passTillDone 2 = .ok (.invokevirtual 97, 3) := by decide +kernel
theorem dX4_passTillDone_5 : decode cX4_passTillDone 5 = .ok (.ifCond .ne 5, 3) := by decide +kernel
theorem dX4_passTillDone_8 : decode cX4_passTillDone 8 = .ok (.iconst (-1), 1) := by decide +kernel
theorem dX4_passTillDone_9 : decode cX4_passTillDone 9 = .ok (.ireturn, 1) := by decide +kernel
theorem dX4_passTillDone_10 : decode cX4_passTillDone 10 = .ok (.aload_n 0, 1) := by decide +kernel
theorem dX4_passTillDone_11 : decode cX4_passTillDone 11 = .ok (.getfield 29, 3) := by decide +kernel
theorem dX4_passTillDone_14 : decode cX4_passTillDone 14 = .ok (.iload_n 1, 1) := by decide +kernel
theorem dX4_passTillDone_15 : decode cX4_passTillDone 15 = .ok (.aaload, 1) := by decide +kernel
theorem dX4_passTillDone_16 : decode cX4_passTillDone 16 = .ok (.astore_n 3, 1) := by decide +kernel
theorem dX4_passTillDone_17 : decode cX4_passTillDone 17 = .ok (.iconst 0, 1) := by decide +kernel
theorem dX4_passTillDone_18 : decode cX4_passTillDone 18 = .ok (.istore 4, 2) := by decide +kernel
theorem dX4_passTillDone_20 : decode cX4_passTillDone 20 = .ok (.aload_n 3, 1) := by decide +kernel
theorem dX4_passTillDone_21 : decode cX4_passTillDone 21 = .ok (.invokevirtual 85, 3) := by decide +kernel
theorem dX4_passTillDone_24 : decode cX4_passTillDone 24 = .ok (.ifCond .ne 20, 3) := by decide +kernel
theorem dX4_passTillDone_27 : decode cX4_passTillDone 27 = .ok (.iload 4, 2) := by decide +kernel
theorem dX4_passTillDone_29 : decode cX4_passTillDone 29 = .ok (.iload_n 2, 1) := by decide +kernel
theorem dX4_passTillDone_30 : decode cX4_passTillDone 30 = .ok (.if_icmp .ge 14, 3) := by decide +kernel
theorem dX4_passTillDone_33 : decode cX4_passTillDone 33 = .ok (.aload_n 0, 1) := by decide +kernel
theorem dX4_passTillDone_34 : decode cX4_passTillDone 34 = .ok (.invokevirtual 93, 3) := by decide +kernel
theorem dX4_passTillDone_37 : decode cX4_passTillDone 37 = .ok (.pop, 1) := by decide +kernel
theorem dX4_passTillDone_38 : decode cX4_passTillDone 38 = .ok (.iinc 4 1, 3) := by decide +kernel
theorem dX4_passTillDone_41 : decode cX4_passTillDone 41 = .ok (.goto (-21), 3) := by decide +kernel
theorem dX4_passTillDone_44 : decode cX4_passTillDone 44 = .ok (.aload_n 3, 1) := by decide +kernel
theorem dX4_passTillDone_45 : decode cX4_passTillDone 45 = .ok (.invokevirtual 85, 3) := by decide +kernel
theorem dX4_passTillDone_48 : decode cX4_passTillDone 48 = .ok (.ifCond .eq 8, 3) := by decide +kernel
theorem dX4_passTillDone_51 : decode cX4_passTillDone 51 = .ok (.iload 4, 2) := by decide +kernel
theorem dX4_passTillDone_53 : decode cX4_passTillDone 53 = .ok (.goto 4, 3) := by decide +kernel
theorem dX4_passTillDone_56 : decode cX4_passTillDone 56 = .ok (.iconst (-1), 1) := by decide +kernel
theorem dX4_passTillDone_57 : decode cX4_passTillDone 57 = .ok (.ireturn, 1) := by decide +kernel
theorem dX4_passMinute_0 : decode cX4_passMinute 0 = .ok (.iconst 0, 1) := by decide +kernel
theorem dX4_passMinute_1 : decode cX4_passMinute 1 = .ok (.istore_n 1, 1) := by decide +kernel
theorem dX4_passMinute_2 : decode cX4_passMinute 2 = .ok (.iconst 0, 1) := by decide +kernel
theorem dX4_passMinute_3 : decode cX4_passMinute 3 = .ok (.istore_n 2, 1) := by decide +kernel
theorem dX4_passMinute_4 : decode cX4_passMinute 4 = .ok (.iload_n 2, 1) := by decide +kernel
theorem dX4_passMinute_5 : decode cX4_passMinute 5 = .ok (.iconst 4, 1) := by decide +kernel
theorem dX4_passMinute_6 : decode cX4_passMinute 6 = .ok (.if_icmp .ge 42, 3) := by decide +kernel
theorem dX4_passMinute_9 : decode cX4_passMinute 9 = .ok (.aload_n 0, 1) := by decide +kernel
theorem dX4_passMinute_10 : decode cX4_passMinute 10 = .ok (.iload_n 2, 1) := by decide +kernel
theorem dX4_passMinute_11 : decode cX4_passMinute 11 = .ok (.invokevirtual 101, 3) := by decide +kernel
theorem dX4_passMinute_14 : decode cX4_passMinute 14 = .ok (.istore_n 3, 1) := by decide +kernel
theorem dX4_passMinute_15 : decode cX4_passMinute 15 = .ok (.aload_n 0, 1) := by decide +kernel
theorem dX4_passMinute_16 : decode cX4_passMinute 16 = .ok (.iload_n 3, 1) := by decide +kernel
theorem dX4_passMinute_17 : decode cX4_passMinute 17 = .ok (.invokevirtual 104, 3) := by decide +kernel
theorem dX4_passMinute_20 : decode cX4_passMinute 20 = .ok (.ifCond .eq 22, 3) := by decide +kernel
theorem dX4_passMinute_23 : decode cX4_passMinute 23 = .ok (.aload_n 0, 1) := by decide +kernel
theorem dX4_passMinute_24 : decode cX4_passMinute 24 = .ok (.aload_n 0, 1) := by decide +kernel
theorem dX4_passMinute_25 : decode cX4_passMinute 25 = .ok (.getfield 11, 3) := by decide +kernel
theorem dX4_passMinute_28 : decode cX4_passMinute 28 = .ok (.iload_n 2, 1) := by decide +kernel
theorem dX4_passMinute_29 : decode cX4_passMinute 29 = .ok (.aaload, 1) := by decide +kernel
theorem dX4_passMinute_30 : decode cX4_passMinute 30 = .ok (.aload_n 0, 1) := by decide +kernel
theorem dX4_passMinute_31 : decode cX4_passMinute 31 = .ok (.getfield 22, 3) := by decide +kernel
theorem dX4_passMinute_34 : decode cX4_passMinute 34 = .ok (.iload_n 3, 1) := by decide +kernel
theorem dX4_passMinute_35 : decode cX4_passMinute 35 = .ok (.aaload, 1) := by decide +kernel
theorem dX4_passMinute_36 : decode cX4_passMinute 36 = .ok (.invokevirtual 107, 3) := by decide +kernel
theorem dX4_passMinute_39 : decode cX4_passMinute 39 = .ok (.iinc 1 1, 3) := by decide +kernel
theorem dX4_passMinute_42 : decode cX4_passMinute 42 = .ok (.iinc 2 1, 3) := by decide +kernel
theorem dX4_passMinute_45 : decode cX4_passMinute 45 = .ok (.goto (-41), 3) := by decide +kernel
theorem dX4_passMinute_48 : decode cX4_passMinute 48 = .ok (.iconst 0, 1) := by decide +kernel
theorem dX4_passMinute_49 : decode cX4_passMinute 49 = .ok (.istore_n 2, 1) := by decide +kernel
theorem dX4_passMinute_50 : decode cX4_passMinute 50 = .ok (.iload_n 2, 1) := by decide +kernel
theorem dX4_passMinute_51 : decode cX4_passMinute 51 = .ok (.aload_n 0, 1) := by decide +kernel
theorem dX4_passMinute_52 : decode cX4_passMinute 52 = .ok (.getfield 44, 3) := by decide +kernel
theorem dX4_passMinute_55 : decode cX4_passMinute 55 = .ok (.if_icmp .ge 18, 3) := by decide +kernel
theorem dX4_passMinute_58 : decode cX4_passMinute 58 = .ok (.aload_n 0, 1) := by decide +kernel
theorem dX4_passMinute_59 : decode cX4_passMinute 59 = .ok (.getfield 22, 3) := by decide +kernel
theorem dX4_passMinute_62 : decode cX4_passMinute 62 = .ok (.iload_n 2, 1) := by decide +kernel
theorem dX4_passMinute_63 : decode cX4_passMinute 63 = .ok (.aaload, 1) := by decide +kernel
theorem dX4_passMinute_64 : decode cX4_passMinute 64 = .ok (.invokevirtual 111, 3) := by decide +kernel
theorem dX4_passMinute_67 : decode cX4_passMinute 67 = .ok (.iinc 2 1, 3) := by decide +kernel
theorem dX4_passMinute_70 : decode cX4_passMinute 70 = .ok (.goto (-20), 3) := by decide +kernel
theorem dX4_passMinute_73 : decode cX4_passMinute 73 = .ok (.aload_n 0, 1) := by decide +kernel
theorem dX4_passMinute_74 : decode cX4_passMinute 74 = .ok (.dup, 1) := by decide +kernel
theorem dX4_passMinute_75 : decode cX4_passMinute 75 = .ok (.getfield 56, 3) := by decide +kernel
theorem dX4_passMinute_78 : decode cX4_passMinute 78 = .ok (.iconst 1, 1) := by decide +kernel
theorem dX4_passMinute_79 : decode cX4_passMinute 79 = .ok (.iadd, 1) := by decide +kernel
theorem dX4_passMinute_80 : decode cX4_passMinute 80 = .ok (.putfield 56, 3) := by decide +kernel
theorem dX4_passMinute_83 : decode cX4_passMinute 83 = .ok (.iload_n 1, 1) := by decide +kernel
theorem dX4_passMinute_84 : decode cX4_passMinute 84 = .ok (.ireturn, 1) := by decide +kernel
theorem dX4_goOn_0 : decode cX4_goOn 0 = .ok (.aload_n 0, 1) := by decide +kernel
theorem dX4_goOn_1 : decode cX4_goOn 1 = .ok (.getfield 11, 3) := by decide +kernel
theorem dX4_goOn_4 : decode cX4_goOn 4 = .ok (.iload_n 1, 1) := by decide +kernel
theorem dX4_goOn_5 : decode cX4_goOn 5 = .ok (.aaload, 1) := by decide +kernel
theorem dX4_goOn_6 : decode cX4_goOn 6 = .ok (.astore_n 2, 1) := by decide +kernel
theorem dX4_goOn_7 : decode cX4_goOn 7 = .ok (.aload_n 0, 1) := by decide +kernel
theorem dX4_goOn_8 : decode cX4_goOn 8 = .ok (.aload_n 2, 1) := by decide +kernel
theorem dX4_goOn_9 : decode cX4_goOn 9 = .ok (.getfield 66, 3) := by decide +kernel
theorem dX4_goOn_12 : decode cX4_goOn 12 = .ok (.invokevirtual 97, 3) := by decide +kernel
theorem dX4_goOn_15 : decode cX4_goOn 15 = .ok (.ifCond .ne 5, 3) := by decide +kernel
theorem dX4_goOn_18 : decode cX4_goOn 18 = .ok (.iconst (-1), 1) := by decide +kernel
theorem dX4_goOn_19 : decode cX4_goOn 19 = .ok (.ireturn, 1) := by decide +kernel
theorem dX4_goOn_20 : decode cX4_goOn 20 = .ok (.aload_n 2, 1) := by decide +kernel
theorem dX4_goOn_21 : decode cX4_goOn 21 = .ok (.getfield 75, 3) := by decide +kernel
theorem dX4_goOn_24 : decode cX4_goOn 24 = .ok (.ifCond .le 15, 3) := by decide +kernel
theorem dX4_goOn_27 : decode cX4_goOn 27 = .ok (.aload_n 2, 1) := by decide +kernel
theorem dX4_goOn_28 : decode cX4_goOn 28 = .ok (.dup, 1) := by decide +kernel
theorem dX4_goOn_29 : decode cX4_goOn 29 = .ok (.getfield 75, 3) := by decide +kernel
theorem dX4_goOn_32 : decode cX4_goOn 32 = .ok (.iconst 1, 1) := by decide +kernel
theorem dX4_goOn_33 : decode cX4_goOn 33 = .ok (.isub, 1) := by decide +kernel
theorem dX4_goOn_34 : decode cX4_goOn 34 = .ok (.putfield 75, 3) := by decide +kernel
theorem dX4_goOn_37 : decode cX4_goOn 37 = .ok (.iconst (-1), 1) := by decide +kernel
theorem dX4_goOn_38 : decode cX4_goOn 38 = .ok (.ireturn, 1) := by decide +kernel
theorem dX4_goOn_39 : decode cX4_goOn 39 = .ok (.aload_n 0, 1) := by decide +kernel
theorem dX4_goOn_40 : decode cX4_goOn 40 = .ok (.iload_n 1, 1) := by decide +kernel
theorem dX4_goOn_41 : decode cX4_goOn 41 = .ok (.invokevirtual 114, 3) := by decide +kernel
theorem dX4_goOn_44 : decode cX4_goOn 44 = .ok (.ireturn, 1) := by decide +kernel
theorem dX4_findPuller_0 : decode cX4_findPuller 0 = .ok (.aload_n 0, 1) := by decide +kernel
theorem dX4_findPuller_1 : decode cX4_findPuller 1 = .ok (.getfield 11, 3) := by decide +kernel
theorem dX4_findPuller_4 : decode cX4_findPuller 4 = .ok (.iload_n 1, 1) := by decide +kernel
theorem dX4_findPuller_5 : decode cX4_findPuller 5 = .ok (.aaload, 1) := by decide +kernel
theorem dX4_findPuller_6 : decode cX4_findPuller 6 = .ok (.astore_n 2, 1) := by decide +kernel
theorem dX4_findPuller_7 : decode cX4_findPuller 7 = .ok (.aload_n 0, 1) := by decide +kernel
theorem dX4_findPuller_8 : decode cX4_findPuller 8 = .ok (.aload_n 2, 1) := by decide +kernel
theorem dX4_findPuller_9 : decode cX4_findPuller 9 = .ok (.getfield 89, 3) := by decide +kernel
theorem dX4_findPuller_12 : decode cX4_findPuller 12 = .ok (.invokevirtual 104, 3) := by decide +kernel
theorem dX4_findPuller_15 : decode cX4_findPuller 15 = .ok (.ifCond .eq 27, 3) := by decide +kernel
theorem dX4_findPuller_18 : decode cX4_findPuller 18 = .ok (.aload_n 0, 1) := by decide +kernel
theorem dX4_findPuller_19 : decode cX4_findPuller 19 = .ok (.getfield 22, 3) := by decide +kernel
theorem dX4_findPuller_22 : decode cX4_findPuller 22 = .ok (.aload_n 2, 1) := by decide +kernel
theorem dX4_findPuller_23 : decode cX4_findPuller 23 = .ok (.getfield 89, 3) := by decide +kernel
theorem dX4_findPuller_26 : decode cX4_findPuller 26 = .ok (.aaload, 1) := by decide +kernel
theorem dX4_findPuller_27 : decode cX4_findPuller 27 = .ok (.aload_n 2, 1) := by decide +kernel
theorem dX4_findPuller_28 : decode cX4_findPuller 28 = .ok (.getfield 117, 3) := by decide +kernel
theorem dX4_findPuller_31 : decode cX4_findPuller 31 = .ok (.invokevirtual 120, 3) := by decide +kernel
theorem dX4_findPuller_34 : decode cX4_findPuller 34 = .ok (.ifCond .eq 8, 3) := by decide +kernel
theorem dX4_findPuller_37 : decode cX4_findPuller 37 = .ok (.aload_n 2, 1) := by decide +kernel
theorem dX4_findPuller_38 : decode cX4_findPuller 38 = .ok (.getfield 89, 3) := by decide +kernel
theorem dX4_findPuller_41 : decode cX4_findPuller 41 = .ok (.ireturn, 1) := by decide +kernel
theorem dX4_findPuller_42 : decode cX4_findPuller 42 = .ok (.aload_n 0, 1) := by decide +kernel
theorem dX4_findPuller_43 : decode cX4_findPuller 43 = .ok (.aload_n 2, 1) := by decide +kernel
theorem dX4_findPuller_44 : decode cX4_findPuller 44 = .ok (.getfield 117, 3) := by decide +kernel
theorem dX4_findPuller_47 : decode cX4_findPuller 47 = .ok (.invokevirtual 123, 3) := by decide +kernel
theorem dX4_findPuller_50 : decode cX4_findPuller 50 = .ok (.istore_n 3, 1) := by decide +kernel
theorem dX4_findPuller_51 : decode cX4_findPuller 51 = .ok (.aload_n 0, 1) := by decide +kernel
theorem dX4_findPuller_52 : decode cX4_findPuller 52 = .ok (.iload_n 3, 1) := by decide +kernel
theorem dX4_findPuller_53 : decode cX4_findPuller 53 = .ok (.invokevirtual 104, 3) := by decide +kernel
theorem dX4_findPuller_56 : decode cX4_findPuller 56 = .ok (.ifCond .eq 24, 3) := by decide +kernel
theorem dX4_findPuller_59 : decode cX4_findPuller 59 = .ok (.aload_n 0, 1) := by decide +kernel
theorem dX4_findPuller_60 : decode cX4_findPuller 60 = .ok (.iload_n 1, 1) := by decide +kernel
theorem dX4_findPuller_61 : decode cX4_findPuller 61 = .ok (.iload_n 3, 1) := by decide +kernel
theorem dX4_findPuller_62 : decode cX4_findPuller 62 = .ok (.invokevirtual 126, 3) := by decide +kernel
theorem dX4_findPuller_65 : decode cX4_findPuller 65 = .ok (.aload_n 0, 1) := by decide +kernel
theorem dX4_findPuller_66 : decode cX4_findPuller 66 = .ok (.getfield 22, 3) := by decide +kernel
theorem dX4_findPuller_69 : decode cX4_findPuller 69 = .ok (.iload_n 3, 1) := by decide +kernel
theorem dX4_findPuller_70 : decode cX4_findPuller 70 = .ok (.aaload, 1) := by decide +kernel
theorem dX4_findPuller_71 : decode cX4_findPuller 71 = .ok (.dup, 1) := by decide +kernel
theorem dX4_findPuller_72 : decode cX4_findPuller 72 = .ok (.getfield 130, 3) := by decide +kernel
theorem dX4_findPuller_75 : decode cX4_findPuller 75 = .ok (.iconst 1, 1) := by decide +kernel
theorem dX4_findPuller_76 : decode cX4_findPuller 76 = .ok (.iadd, 1) := by decide +kernel
theorem dX4_findPuller_77 : decode cX4_findPuller 77 = .ok (.putfield 130, 3) := by decide +kernel
theorem dX4_findPuller_80 : decode cX4_findPuller 80 = .ok (.iload_n 3, 1) := by decide +kernel
theorem dX4_findPuller_81 : decode cX4_findPuller 81 = .ok (.ireturn, 1) := by decide +kernel
theorem dX4_leastTiredAtRest_0 : decode cX4_leastTiredAtRest 0 = .ok (.iconst (-1), 1) := by decide +kernel
theorem dX4_leastTiredAtRest_1 : decode cX4_leastTiredAtRest 1 = .ok (.istore_n 2, 1) := by decide +kernel
theorem dX4_leastTiredAtRest_2 : decode cX4_leastTiredAtRest 2 = .ok (.iconst 0, 1) := by decide +kernel
theorem dX4_leastTiredAtRest_3 : decode cX4_leastTiredAtRest 3 = .ok (.istore_n 3, 1) := by decide +kernel
theorem dX4_leastTiredAtRest_4 : decode cX4_leastTiredAtRest 4 = .ok (.iconst 0, 1) := by decide +kernel
theorem dX4_leastTiredAtRest_5 : decode cX4_leastTiredAtRest 5 = .ok (.istore 4, 2) := by decide +kernel
theorem dX4_leastTiredAtRest_7 : decode cX4_leastTiredAtRest 7 = .ok (.iload 4, 2) := by decide +kernel
theorem dX4_leastTiredAtRest_9 : decode cX4_leastTiredAtRest 9 = .ok (.aload_n 0, 1) := by decide +kernel
theorem dX4_leastTiredAtRest_10 : decode cX4_leastTiredAtRest 10 = .ok (.getfield 44, 3) := by decide +kernel
theorem dX4_leastTiredAtRest_13 : decode cX4_leastTiredAtRest 13 = .ok (.if_icmp .ge 70, 3) := by decide +kernel
theorem dX4_leastTiredAtRest_16 : decode cX4_leastTiredAtRest 16 = .ok (.aload_n 0, 1) := by decide +kernel
theorem dX4_leastTiredAtRest_17 : decode cX4_leastTiredAtRest 17 = .ok (.getfield 22, 3) := by decide +kernel
theorem dX4_leastTiredAtRest_20 : decode cX4_leastTiredAtRest 20 = .ok (.iload 4, 2) := by decide +kernel
theorem dX4_leastTiredAtRest_22 : decode cX4_leastTiredAtRest 22 = .ok (.aaload, 1) := by decide +kernel
theorem dX4_leastTiredAtRest_23 : decode cX4_leastTiredAtRest 23 = .ok (.astore 5, 2) := by decide +kernel
theorem dX4_leastTiredAtRest_25 : decode cX4_leastTiredAtRest 25 = .ok (.aload 5, 2) := by decide +kernel
theorem dX4_leastTiredAtRest_27 : decode cX4_leastTiredAtRest 27 = .ok (.invokevirtual 133, 3) := by decide +kernel
theorem dX4_leastTiredAtRest_30 : decode cX4_leastTiredAtRest 30 = .ok (.ifCond .eq 16, 3) := by decide +kernel
theorem dX4_leastTiredAtRest_33 : decode cX4_leastTiredAtRest 33 = .ok (.aload 5, 2) := by decide +kernel
theorem dX4_leastTiredAtRest_35 : decode cX4_leastTiredAtRest 35 = .ok (.iload_n 1, 1) := by decide +kernel
theorem dX4_leastTiredAtRest_36 : decode cX4_leastTiredAtRest 36 = .ok (.invokevirtual 120, 3) := by decide +kernel
theorem dX4_leastTiredAtRest_39 : decode cX4_leastTiredAtRest 39 = .ok (.ifCond .eq 7, 3) := by decide +kernel
theorem dX4_leastTiredAtRest_42 : decode cX4_leastTiredAtRest 42 = .ok (.iconst 1, 1) := by decide +kernel
theorem dX4_leastTiredAtRest_43 : decode cX4_leastTiredAtRest 43 = .ok (.goto 4, 3) := by decide +kernel
theorem dX4_leastTiredAtRest_46 : decode cX4_leastTiredAtRest 46 = .ok (.iconst 0, 1) := by decide +kernel
theorem dX4_leastTiredAtRest_47 : decode cX4_leastTiredAtRest 47 = .ok (.istore 6, 2) := by decide +kernel
theorem dX4_leastTiredAtRest_49 : decode cX4_leastTiredAtRest 49 = .ok (.iload 6, 2) := by decide +kernel
theorem dX4_leastTiredAtRest_51 : decode cX4_leastTiredAtRest 51 = .ok (.ifCond .eq 26, 3) := by decide +kernel
theorem dX4_leastTiredAtRest_54 : decode cX4_leastTiredAtRest 54 = .ok (.iload_n 2, 1) := by decide +kernel
theorem dX4_leastTiredAtRest_55 : decode cX4_leastTiredAtRest 55 = .ok (.iconst (-1), 1) := by decide +kernel
theorem dX4_leastTiredAtRest_56 : decode cX4_leastTiredAtRest 56 = .ok (.if_icmp .eq 12, 3) := by decide +kernel
theorem dX4_leastTiredAtRest_59 : decode cX4_leastTiredAtRest 59 = .ok (.aload 5, 2) := by decide +kernel
theorem dX4_leastTiredAtRest_61 : decode cX4_leastTiredAtRest 61 = .ok (.getfield 136, 3) := by decide +kernel
theorem dX4_leastTiredAtRest_64 : decode cX4_leastTiredAtRest 64 = .ok (.iload_n 3, 1) := by decide +kernel
theorem dX4_leastTiredAtRest_65 : decode cX4_leastTiredAtRest 65 = .ok (.if_icmp .ge 12, 3) := by decide +kernel
theorem dX4_leastTiredAtRest_68 : decode cX4_leastTiredAtRest 68 = .ok (.iload 4, 2) := by decide +kernel
theorem dX4_leastTiredAtRest_70 : decode cX4_leastTiredAtRest 70 = .ok (.istore_n 2, 1) := by decide +kernel
theorem dX4_leastTiredAtRest_71 : decode cX4_leastTiredAtRest 71 = .ok (.aload 5, 2) := by decide +kernel
theorem dX4_leastTiredAtRest_73 : decode cX4_leastTiredAtRest 73 = .ok (.getfield 136, 3) := by decide +kernel
theorem dX4_leastTiredAtRest_76 : decode cX4_leastTiredAtRest 76 = .ok (.istore_n 3, 1) := by decide +kernel
theorem dX4_leastTiredAtRest_77 : decode cX4_leastTiredAtRest 77 = .ok (.iinc 4 1, 3) := by decide +kernel
theorem dX4_leastTiredAtRest_80 : decode cX4_leastTiredAtRest 80 = .ok (.goto (-73), 3) := by decide +kernel
theorem dX4_leastTiredAtRest_83 : decode cX4_leastTiredAtRest 83 = .ok (.iload_n 2, 1) := by decide +kernel
theorem dX4_leastTiredAtRest_84 : decode cX4_leastTiredAtRest 84 = .ok (.ireturn, 1) := by decide +kernel
theorem dX4_strike_0 : decode cX4_strike 0 = .ok (.aload_n 1, 1) := by decide +kernel
theorem dX4_strike_1 : decode cX4_strike 1 = .ok (.getfield 66, 3) := by decide +kernel
theorem dX4_strike_4 : decode cX4_strike 4 = .ok (.istore_n 3, 1) := by decide +kernel
theorem dX4_strike_5 : decode cX4_strike 5 = .ok (.aload_n 0, 1) := by decide +kernel
theorem dX4_strike_6 : decode cX4_strike 6 = .ok (.getfield 29, 3) := by decide +kernel
theorem dX4_strike_9 : decode cX4_strike 9 = .ok (.iload_n 3, 1) := by decide +kernel
theorem dX4_strike_10 : decode cX4_strike 10 = .ok (.aaload, 1) := by decide +kernel
theorem dX4_strike_11 : decode cX4_strike 11 = .ok (.astore 4, 2) := by decide +kernel
theorem dX4_strike_13 : decode cX4_strike 13 = .ok (.aload_n 2, 1) := by decide +kernel
theorem dX4_strike_14 : decode cX4_strike 14 = .ok (.aload_n 1, 1) := by decide +kernel
theorem dX4_strike_15 : decode cX4_strike 15 = .ok (.getfield 117, 3) := by decide +kernel
theorem dX4_strike_18 : decode cX4_strike 18 = .ok (.invokevirtual 139, 3) := by decide +kernel
theorem dX4_strike_21 : decode cX4_strike 21 = .ok (.aload_n 1, 1) := by decide +kernel
theorem dX4_strike_22 : decode cX4_strike 22 = .ok (.aload_n 1, 1) := by decide +kernel
theorem dX4_strike_23 : decode cX4_strike 23 = .ok (.getfield 142, 3) := by decide +kernel
theorem dX4_strike_26 : decode cX4_strike 26 = .ok (.invokevirtual 145, 3) := by decide +kernel
theorem dX4_strike_29 : decode cX4_strike 29 = .ok (.astore 5, 2) := by decide +kernel
theorem dX4_strike_31 : decode cX4_strike 31 = .ok (.aload 4, 2) := by decide +kernel
theorem dX4_strike_33 : decode cX4_strike 33 = .ok (.aload 5, 2) := by decide +kernel
theorem dX4_strike_35 : decode cX4_strike 35 = .ok (.getfield 149, 3) := by decide +kernel
theorem dX4_strike_38 : decode cX4_strike 38 = .ok (.ifCond .ne 7, 3) := by decide +kernel
theorem dX4_strike_41 : decode cX4_strike 41 = .ok (.iconst 1, 1) := by decide +kernel
theorem dX4_strike_42 : decode cX4_strike 42 = .ok (.goto 4, 3) := by decide +kernel
theorem dX4_strike_45 : decode cX4_strike 45 = .ok (.iconst 0, 1) := by decide +kernel
theorem dX4_strike_46 : decode cX4_strike 46 = .ok (.aload 5, 2) := by decide +kernel
theorem dX4_strike_48 : decode cX4_strike 48 = .ok (.aload_n 1, 1) := by decide +kernel
theorem dX4_strike_49 : decode cX4_strike 49 = .ok (.getfield 117, 3) := by decide +kernel
theorem dX4_strike_52 : decode cX4_strike 52 = .ok (.invokevirtual 154, 3) := by decide +kernel
theorem dX4_strike_55 : decode cX4_strike 55 = .ok (.invokevirtual 157, 3) := by decide +kernel
theorem dX4_strike_58 : decode cX4_strike 58 = .ok (.aload 5, 2) := by decide +kernel
theorem dX4_strike_60 : decode cX4_strike 60 = .ok (.aload_n 1, 1) := by decide +kernel
theorem dX4_strike_61 : decode cX4_strike 61 = .ok (.getfield 117, 3) := by decide +kernel
theorem dX4_strike_64 : decode cX4_strike 64 = .ok (.invokevirtual 161, 3) := by decide +kernel
theorem dX4_strike_67 : decode cX4_strike 67 = .ok (.aload_n 1, 1) := by decide +kernel
theorem dX4_strike_68 : decode cX4_strike 68 = .ok (.invokevirtual 164, 3) := by decide +kernel
theorem dX4_strike_71 : decode cX4_strike 71 = .ok (.aload 4, 2) := by decide +kernel
theorem dX4_strike_73 : decode cX4_strike 73 = .ok (.getfield 167, 3) := by decide +kernel
theorem dX4_strike_76 : decode cX4_strike 76 = .ok (.aload 4, 2) := by decide +kernel
theorem dX4_strike_78 : decode cX4_strike 78 = .ok (.invokevirtual 170, 3) := by decide +kernel
theorem dX4_strike_81 : decode cX4_strike 81 = .ok (.if_icmp .lt 11, 3) := by decide +kernel
theorem dX4_strike_84 : decode cX4_strike 84 = .ok (.aload_n 0, 1) := by decide +kernel
theorem dX4_strike_85 : decode cX4_strike 85 = .ok (.iload_n 3, 1) := by decide +kernel
theorem dX4_strike_86 : decode cX4_strike 86 = .ok (.invokevirtual 173, 3) := by decide +kernel
theorem dX4_strike_89 : decode cX4_strike 89 = .ok (.goto 12, 3) := by decide +kernel
theorem dX4_strike_92 : decode cX4_strike 92 = .ok (.aload_n 1, 1) := by decide +kernel
theorem dX4_strike_93 : decode cX4_strike 93 = .ok (.aload 4, 2) := by decide +kernel
theorem dX4_strike_95 : decode cX4_strike 95 = .ok (.invokevirtual 176, 3) := by decide +kernel
theorem dX4_strike_98 : decode cX4_strike 98 = .ok (.putfield 75, 3) := by decide +kernel
theorem dX4_strike_101 : decode cX4_strike 101 = .ok (.return_, 1) := by decide +kernel
theorem dX4_inAll_0 : decode cX4_inAll 0 = .ok (.iload_n 1, 1) := by decide +kernel
theorem dX4_inAll_1 : decode cX4_inAll 1 = .ok (.tableswitch 87 0 7 #[47, 52, 57, 62, 67, 72, 77, 82], 47) := by decide +kernel
theorem dX4_inAll_48 : decode cX4_inAll 48 = .ok (.aload_n 0, 1) := by decide +kernel
theorem dX4_inAll_49 : decode cX4_inAll 49 = .ok (.getfield 56, 3) := by decide +kernel
theorem dX4_inAll_52 : decode cX4_inAll 52 = .ok (.ireturn, 1) := by decide +kernel
theorem dX4_inAll_53 : decode cX4_inAll 53 = .ok (.aload_n 0, 1) := by decide +kernel
theorem dX4_inAll_54 : decode cX4_inAll 54 = .ok (.getfield 44, 3) := by decide +kernel
theorem dX4_inAll_57 : decode cX4_inAll 57 = .ok (.ireturn, 1) := by decide +kernel
theorem dX4_inAll_58 : decode cX4_inAll 58 = .ok (.aload_n 0, 1) := by decide +kernel
theorem dX4_inAll_59 : decode cX4_inAll 59 = .ok (.invokevirtual 179, 3) := by decide +kernel
theorem dX4_inAll_62 : decode cX4_inAll 62 = .ok (.ireturn, 1) := by decide +kernel
theorem dX4_inAll_63 : decode cX4_inAll 63 = .ok (.aload_n 0, 1) := by decide +kernel
theorem dX4_inAll_64 : decode cX4_inAll 64 = .ok (.getfield 50, 3) := by decide +kernel
theorem dX4_inAll_67 : decode cX4_inAll 67 = .ok (.ireturn, 1) := by decide +kernel
theorem dX4_inAll_68 : decode cX4_inAll 68 = .ok (.aload_n 0, 1) := by decide +kernel
theorem dX4_inAll_69 : decode cX4_inAll 69 = .ok (.invokevirtual 182, 3) := by decide +kernel
theorem dX4_inAll_72 : decode cX4_inAll 72 = .ok (.ireturn, 1) := by decide +kernel
theorem dX4_inAll_73 : decode cX4_inAll 73 = .ok (.aload_n 0, 1) := by decide +kernel
theorem dX4_inAll_74 : decode cX4_inAll 74 = .ok (.invokevirtual 185, 3) := by decide +kernel
theorem dX4_inAll_77 : decode cX4_inAll 77 = .ok (.ireturn, 1) := by decide +kernel
theorem dX4_inAll_78 : decode cX4_inAll 78 = .ok (.aload_n 0, 1) := by decide +kernel
theorem dX4_inAll_79 : decode cX4_inAll 79 = .ok (.invokevirtual 188, 3) := by decide +kernel
theorem dX4_inAll_82 : decode cX4_inAll 82 = .ok (.ireturn, 1) := by decide +kernel
theorem dX4_inAll_83 : decode cX4_inAll 83 = .ok (.aload_n 0, 1) := by decide +kernel
theorem dX4_inAll_84 : decode cX4_inAll 84 = .ok (.getfield 36, 3) := by decide +kernel
theorem dX4_inAll_87 : decode cX4_inAll 87 = .ok (.ireturn, 1) := by decide +kernel
theorem dX4_inAll_88 : decode cX4_inAll 88 = .ok (.aload_n 0, 1) := by decide +kernel
theorem dX4_inAll_89 : decode cX4_inAll 89 = .ok (.invokevirtual 191, 3) := by decide +kernel
theorem dX4_inAll_92 : decode cX4_inAll 92 = .ok (.ireturn, 1) := by decide +kernel
theorem dX4_ringersAtRopes_0 : decode cX4_ringersAtRopes 0 = .ok (.iconst 0, 1) := by decide +kernel
theorem dX4_ringersAtRopes_1 : decode cX4_ringersAtRopes 1 = .ok (.istore_n 1, 1) := by decide +kernel
theorem dX4_ringersAtRopes_2 : decode cX4_ringersAtRopes 2 = .ok (.iconst 0, 1) := by decide +kernel
theorem dX4_ringersAtRopes_3 : decode cX4_ringersAtRopes 3 = .ok (.istore_n 2, 1) := by decide +kernel
theorem dX4_ringersAtRopes_4 : decode cX4_ringersAtRopes 4 = .ok (.iload_n 2, 1) := by decide +kernel
theorem dX4_ringersAtRopes_5 : decode cX4_ringersAtRopes 5 = .ok (.aload_n 0, 1) := by decide +kernel
theorem dX4_ringersAtRopes_6 : decode cX4_ringersAtRopes 6 = .ok (.getfield 44, 3) := by decide +kernel
theorem dX4_ringersAtRopes_9 : decode cX4_ringersAtRopes 9 = .ok (.if_icmp .ge 29, 3) := by decide +kernel
theorem dX4_ringersAtRopes_12 : decode cX4_ringersAtRopes 12 = .ok (.iload_n 1, 1) := by decide +kernel
theorem dX4_ringersAtRopes_13 : decode cX4_ringersAtRopes 13 = .ok (.aload_n 0, 1) := by decide +kernel
theorem dX4_ringersAtRopes_14 : decode cX4_ringersAtRopes 14 = .ok (.getfield 22, 3) := by decide +kernel
theorem dX4_ringersAtRopes_17 : decode cX4_ringersAtRopes 17 = .ok (.iload_n 2, 1) := by decide +kernel
theorem dX4_ringersAtRopes_18 : decode cX4_ringersAtRopes 18 = .ok (.aaload, 1) := by decide +kernel
theorem dX4_ringersAtRopes_19 : decode cX4_ringersAtRopes 19 = .ok (.invokevirtual 133, 3) := by decide +kernel
theorem dX4_ringersAtRopes_22 : decode cX4_ringersAtRopes 22 = .ok (.ifCond .eq 7, 3) := by decide +kernel
theorem dX4_ringersAtRopes_25 : decode cX4_ringersAtRopes 25 = .ok (.iconst 0, 1) := by decide +kernel
theorem dX4_ringersAtRopes_26 : decode cX4_ringersAtRopes 26 = .ok (.goto 4, 3) := by decide +kernel
theorem dX4_ringersAtRopes_29 : decode cX4_ringersAtRopes 29 = .ok (.iconst 1, 1) := by decide +kernel
theorem dX4_ringersAtRopes_30 : decode cX4_ringersAtRopes 30 = .ok (.iadd, 1) := by decide +kernel
theorem dX4_ringersAtRopes_31 : decode cX4_ringersAtRopes 31 = .ok (.istore_n 1, 1) := by decide +kernel
theorem dX4_ringersAtRopes_32 : decode cX4_ringersAtRopes 32 = .ok (.iinc 2 1, 3) := by decide +kernel
theorem dX4_ringersAtRopes_35 : decode cX4_ringersAtRopes 35 = .ok (.goto (-31), 3) := by decide +kernel
theorem dX4_ringersAtRopes_38 : decode cX4_ringersAtRopes 38 = .ok (.iload_n 1, 1) := by decide +kernel
theorem dX4_ringersAtRopes_39 : decode cX4_ringersAtRopes 39 = .ok (.ireturn, 1) := by decide +kernel
theorem dX4_tollsDone_0 : decode cX4_tollsDone 0 = .ok (.iconst 0, 1) := by decide +kernel
theorem dX4_tollsDone_1 : decode cX4_tollsDone 1 = .ok (.istore_n 1, 1) := by decide +kernel
theorem dX4_tollsDone_2 : decode cX4_tollsDone 2 = .ok (.iconst 0, 1) := by decide +kernel
theorem dX4_tollsDone_3 : decode cX4_tollsDone 3 = .ok (.istore_n 2, 1) := by decide +kernel
theorem dX4_tollsDone_4 : decode cX4_tollsDone 4 = .ok (.iload_n 2, 1) := by decide +kernel
theorem dX4_tollsDone_5 : decode cX4_tollsDone 5 = .ok (.aload_n 0, 1) := by decide +kernel
theorem dX4_tollsDone_6 : decode cX4_tollsDone 6 = .ok (.getfield 50, 3) := by decide +kernel
theorem dX4_tollsDone_9 : decode cX4_tollsDone 9 = .ok (.if_icmp .ge 29, 3) := by decide +kernel
theorem dX4_tollsDone_12 : decode cX4_tollsDone 12 = .ok (.iload_n 1, 1) := by decide +kernel
theorem dX4_tollsDone_13 : decode cX4_tollsDone 13 = .ok (.aload_n 0, 1) := by decide +kernel
theorem dX4_tollsDone_14 : decode cX4_tollsDone 14 = .ok (.getfield 29, 3) := by decide +kernel
theorem dX4_tollsDone_17 : decode cX4_tollsDone 17 = .ok (.iload_n 2, 1) := by decide +kernel
theorem dX4_tollsDone_18 : decode cX4_tollsDone 18 = .ok (.aaload, 1) := by decide +kernel
theorem dX4_tollsDone_19 : decode cX4_tollsDone 19 = .ok (.invokevirtual 85, 3) := by decide +kernel
theorem dX4_tollsDone_22 : decode cX4_tollsDone 22 = .ok (.ifCond .eq 7, 3) := by decide +kernel
theorem dX4_tollsDone_25 : decode cX4_tollsDone 25 = .ok (.iconst 1, 1) := by decide +kernel
theorem dX4_tollsDone_26 : decode cX4_tollsDone 26 = .ok (.goto 4, 3) := by decide +kernel
theorem dX4_tollsDone_29 : decode cX4_tollsDone 29 = .ok (.iconst 0, 1) := by decide +kernel
theorem dX4_tollsDone_30 : decode cX4_tollsDone 30 = .ok (.iadd, 1) := by decide +kernel
theorem dX4_tollsDone_31 : decode cX4_tollsDone 31 = .ok (.istore_n 1, 1) := by decide +kernel
theorem dX4_tollsDone_32 : decode cX4_tollsDone 32 = .ok (.iinc 2 1, 3) := by decide +kernel
theorem dX4_tollsDone_35 : decode cX4_tollsDone 35 = .ok (.goto (-31), 3) := by decide +kernel
theorem dX4_tollsDone_38 : decode cX4_tollsDone 38 = .ok (.iload_n 1, 1) := by decide +kernel
theorem dX4_tollsDone_39 : decode cX4_tollsDone 39 = .ok (.ireturn, 1) := by decide +kernel
theorem dX4_strokesInAll_0 : decode cX4_strokesInAll 0 = .ok (.iconst 0, 1) := by decide +kernel
theorem dX4_strokesInAll_1 : decode cX4_strokesInAll 1 = .ok (.istore_n 1, 1) := by decide +kernel
theorem dX4_strokesInAll_2 : decode cX4_strokesInAll 2 = .ok (.iconst 0, 1) := by decide +kernel
theorem dX4_strokesInAll_3 : decode cX4_strokesInAll 3 = .ok (.istore_n 2, 1) := by decide +kernel
theorem dX4_strokesInAll_4 : decode cX4_strokesInAll 4 = .ok (.iload_n 2, 1) := by decide +kernel
theorem dX4_strokesInAll_5 : decode cX4_strokesInAll 5 = .ok (.iconst 4, 1) := by decide +kernel
theorem dX4_strokesInAll_6 : decode cX4_strokesInAll 6 = .ok (.if_icmp .ge 21, 3) := by decide +kernel
theorem dX4_strokesInAll_9 : decode cX4_strokesInAll 9 = .ok (.iload_n 1, 1) := by decide +kernel
theorem dX4_strokesInAll_10 : decode cX4_strokesInAll 10 = .ok (.aload_n 0, 1) := by decide +kernel
theorem dX4_strokesInAll_11 : decode cX4_strokesInAll 11 = .ok (.getfield 11, 3) := by decide +kernel
theorem dX4_strokesInAll_14 : decode cX4_strokesInAll 14 = .ok (.iload_n 2, 1) := by decide +kernel
theorem dX4_strokesInAll_15 : decode cX4_strokesInAll 15 = .ok (.aaload, 1) := by decide +kernel
theorem dX4_strokesInAll_16 : decode cX4_strokesInAll 16 = .ok (.getfield 194, 3) := by decide +kernel
theorem dX4_strokesInAll_19 : decode cX4_strokesInAll 19 = .ok (.iadd, 1) := by decide +kernel
theorem dX4_strokesInAll_20 : decode cX4_strokesInAll 20 = .ok (.istore_n 1, 1) := by decide +kernel
theorem dX4_strokesInAll_21 : decode cX4_strokesInAll 21 = .ok (.iinc 2 1, 3) := by decide +kernel
theorem dX4_strokesInAll_24 : decode cX4_strokesInAll 24 = .ok (.goto (-20), 3) := by decide +kernel
theorem dX4_strokesInAll_27 : decode cX4_strokesInAll 27 = .ok (.iload_n 1, 1) := by decide +kernel
theorem dX4_strokesInAll_28 : decode cX4_strokesInAll 28 = .ok (.ireturn, 1) := by decide +kernel
theorem dX4_loudInAll_0 : decode cX4_loudInAll 0 = .ok (.iconst 0, 1) := by decide +kernel
theorem dX4_loudInAll_1 : decode cX4_loudInAll 1 = .ok (.istore_n 1, 1) := by decide +kernel
theorem dX4_loudInAll_2 : decode cX4_loudInAll 2 = .ok (.iconst 0, 1) := by decide +kernel
theorem dX4_loudInAll_3 : decode cX4_loudInAll 3 = .ok (.istore_n 2, 1) := by decide +kernel
theorem dX4_loudInAll_4 : decode cX4_loudInAll 4 = .ok (.iload_n 2, 1) := by decide +kernel
theorem dX4_loudInAll_5 : decode cX4_loudInAll 5 = .ok (.aload_n 0, 1) := by decide +kernel
theorem dX4_loudInAll_6 : decode cX4_loudInAll 6 = .ok (.getfield 50, 3) := by decide +kernel
theorem dX4_loudInAll_9 : decode cX4_loudInAll 9 = .ok (.if_icmp .ge 21, 3) := by decide +kernel
theorem dX4_loudInAll_12 : decode cX4_loudInAll 12 = .ok (.iload_n 1, 1) := by decide +kernel
theorem dX4_loudInAll_13 : decode cX4_loudInAll 13 = .ok (.aload_n 0, 1) := by decide +kernel
theorem dX4_loudInAll_14 : decode cX4_loudInAll 14 = .ok (.getfield 29, 3) := by decide +kernel
theorem dX4_loudInAll_17 : decode cX4_loudInAll 17 = .ok (.iload_n 2, 1) := by decide +kernel
theorem dX4_loudInAll_18 : decode cX4_loudInAll 18 = .ok (.aaload, 1) := by decide +kernel
theorem dX4_loudInAll_19 : decode cX4_loudInAll 19 = .ok (.getfield 195, 3) := by decide +kernel
theorem dX4_loudInAll_22 : decode cX4_loudInAll 22 = .ok (.iadd, 1) := by decide +kernel
theorem dX4_loudInAll_23 : decode cX4_loudInAll 23 = .ok (.istore_n 1, 1) := by decide +kernel
theorem dX4_loudInAll_24 : decode cX4_loudInAll 24 = .ok (.iinc 2 1, 3) := by decide +kernel
theorem dX4_loudInAll_27 : decode cX4_loudInAll 27 = .ok (.goto (-23), 3) := by decide +kernel
theorem dX4_loudInAll_30 : decode cX4_loudInAll 30 = .ok (.iload_n 1, 1) := by decide +kernel
theorem dX4_loudInAll_31 : decode cX4_loudInAll 31 = .ok (.ireturn, 1) := by decide +kernel
theorem dX4_leathersOnBells_0 : decode cX4_leathersOnBells 0 = .ok (.iconst 0, 1) := by decide +kernel
theorem dX4_leathersOnBells_1 : decode cX4_leathersOnBells 1 = .ok (.istore_n 1, 1) := by decide +kernel
theorem dX4_leathersOnBells_2 : decode cX4_leathersOnBells 2 = .ok (.iconst 0, 1) := by decide +kernel
theorem dX4_leathersOnBells_3 : decode cX4_leathersOnBells 3 = .ok (.istore_n 2, 1) := by decide +kernel
theorem dX4_leathersOnBells_4 : decode cX4_leathersOnBells 4 = .ok (.iload_n 2, 1) := by decide +kernel
theorem dX4_leathersOnBells_5 : decode cX4_leathersOnBells 5 = .ok (.iconst 4, 1) := by decide +kernel
theorem dX4_leathersOnBells_6 : decode cX4_leathersOnBells 6 = .ok (.if_icmp .ge 46, 3) := by decide +kernel
theorem dX4_leathersOnBells_9 : decode cX4_leathersOnBells 9 = .ok (.iconst 0, 1) := by decide +kernel
theorem dX4_leathersOnBells_10 : decode cX4_leathersOnBells 10 = .ok (.istore_n 3, 1) := by decide +kernel
theorem dX4_leathersOnBells_11 : decode cX4_leathersOnBells 11 = .ok (.iload_n 3, 1) := by decide +kernel
theorem dX4_leathersOnBells_12 : decode cX4_leathersOnBells 12 = .ok (.iconst 2, 1) := by decide +kernel
theorem dX4_leathersOnBells_13 : decode cX4_leathersOnBells 13 = .ok (.if_icmp .ge 33, 3) := by decide +kernel
theorem dX4_leathersOnBells_16 : decode cX4_leathersOnBells 16 = .ok (.iload_n 1, 1) := by decide +kernel
theorem dX4_leathersOnBells_17 : decode cX4_leathersOnBells 17 = .ok (.aload_n 0, 1) := by decide +kernel
theorem dX4_leathersOnBells_18 : decode cX4_leathersOnBells 18 = .ok (.getfield 11, 3) := by decide +kernel
theorem dX4_leathersOnBells_21 : decode cX4_leathersOnBells 21 = .ok (.iload_n 2, 1) := by decide +kernel
theorem dX4_leathersOnBells_22 : decode cX4_leathersOnBells 22 = .ok (.aaload, 1) := by decide +kernel
theorem dX4_leathersOnBells_23 : decode cX4_leathersOnBells 23 = .ok (.iload_n 3, 1) := by decide +kernel
theorem dX4_leathersOnBells_24 : decode cX4_leathersOnBells 24 = .ok (.invokevirtual 145, 3) := by decide +kernel
theorem dX4_leathersOnBells_27 : decode cX4_leathersOnBells 27 = .ok (.getfield 149, 3) := by decide +kernel
theorem dX4_leathersOnBells_30 : decode cX4_leathersOnBells 30 = .ok (.ifCond .le 7, 3) := by decide +kernel
theorem dX4_leathersOnBells_33 : decode cX4_leathersOnBells 33 = .ok (.iconst 1, 1) := by decide +kernel
theorem dX4_leathersOnBells_34 : decode cX4_leathersOnBells 34 = .ok (.goto 4, 3) := by decide +kernel
theorem dX4_leathersOnBells_37 : decode cX4_leathersOnBells 37 = .ok (.iconst 0, 1) := by decide +kernel
theorem dX4_leathersOnBells_38 : decode cX4_leathersOnBells 38 = .ok (.iadd, 1) := by decide +kernel
theorem dX4_leathersOnBells_39 : decode cX4_leathersOnBells 39 = .ok (.istore_n 1, 1) := by decide +kernel
theorem dX4_leathersOnBells_40 : decode cX4_leathersOnBells 40 = .ok (.iinc 3 1, 3) := by decide +kernel
theorem dX4_leathersOnBells_43 : decode cX4_leathersOnBells 43 = .ok (.goto (-32), 3) := by decide +kernel
theorem dX4_leathersOnBells_46 : decode cX4_leathersOnBells 46 = .ok (.iinc 2 1, 3) := by decide +kernel
theorem dX4_leathersOnBells_49 : decode cX4_leathersOnBells 49 = .ok (.goto (-45), 3) := by decide +kernel
theorem dX4_leathersOnBells_52 : decode cX4_leathersOnBells 52 = .ok (.iload_n 1, 1) := by decide +kernel
theorem dX4_leathersOnBells_53 : decode cX4_leathersOnBells 53 = .ok (.ireturn, 1) := by decide +kernel
theorem dX4_ofBell_0 : decode cX4_ofBell 0 = .ok (.aload_n 0, 1) := by decide +kernel
theorem dX4_ofBell_1 : decode cX4_ofBell 1 = .ok (.getfield 11, 3) := by decide +kernel
theorem dX4_ofBell_4 : decode cX4_ofBell 4 = .ok (.iload_n 1, 1) := by decide +kernel
theorem dX4_ofBell_5 : decode cX4_ofBell 5 = .ok (.aaload, 1) := by decide +kernel
theorem dX4_ofBell_6 : decode cX4_ofBell 6 = .ok (.astore_n 3, 1) := by decide +kernel
theorem dX4_ofBell_7 : decode cX4_ofBell 7 = .ok (.iload_n 2, 1) := by decide +kernel
theorem dX4_ofBell_8 : decode cX4_ofBell 8 = .ok (.tableswitch 95 0 7 #[48, 53, 61, 69, 74, 79, 84, 89], 48) := by decide +kernel
theorem dX4_ofBell_56 : decode cX4_ofBell 56 = .ok (.aload_n 3, 1) := by decide +kernel
theorem dX4_ofBell_57 : decode cX4_ofBell 57 = .ok (.getfield 117, 3) := by decide +kernel
theorem dX4_ofBell_60 : decode cX4_ofBell 60 = .ok (.ireturn, 1) := by decide +kernel
theorem dX4_ofBell_61 : decode cX4_ofBell 61 = .ok (.aload_n 3, 1) := by decide +kernel
theorem dX4_ofBell_62 : decode cX4_ofBell 62 = .ok (.getfield 198, 3) := by decide +kernel
theorem dX4_ofBell_65 : decode cX4_ofBell 65 = .ok (.getfield 149, 3) := by decide +kernel
theorem dX4_ofBell_68 : decode cX4_ofBell 68 = .ok (.ireturn, 1) := by decide +kernel
theorem dX4_ofBell_69 : decode cX4_ofBell 69 = .ok (.aload_n 3, 1) := by decide +kernel
theorem dX4_ofBell_70 : decode cX4_ofBell 70 = .ok (.getfield 202, 3) := by decide +kernel
theorem dX4_ofBell_73 : decode cX4_ofBell 73 = .ok (.getfield 149, 3) := by decide +kernel
theorem dX4_ofBell_76 : decode cX4_ofBell 76 = .ok (.ireturn, 1) := by decide +kernel
theorem dX4_ofBell_77 : decode cX4_ofBell 77 = .ok (.aload_n 3, 1) := by decide +kernel
theorem dX4_ofBell_78 : decode cX4_ofBell 78 = .ok (.getfield 142, 3) := by decide +kernel
theorem dX4_ofBell_81 : decode cX4_ofBell 81 = .ok (.ireturn, 1) := by decide +kernel
theorem dX4_ofBell_82 : decode cX4_ofBell 82 = .ok (.aload_n 3, 1) := by decide +kernel
theorem dX4_ofBell_83 : decode cX4_ofBell 83 = .ok (.getfield 89, 3) := by decide +kernel
theorem dX4_ofBell_86 : decode cX4_ofBell 86 = .ok (.ireturn, 1) := by decide +kernel
theorem dX4_ofBell_87 : decode cX4_ofBell 87 = .ok (.aload_n 3, 1) := by decide +kernel
theorem dX4_ofBell_88 : decode cX4_ofBell 88 = .ok (.getfield 66, 3) := by decide +kernel
theorem dX4_ofBell_91 : decode cX4_ofBell 91 = .ok (.ireturn, 1) := by decide +kernel
theorem dX4_ofBell_92 : decode cX4_ofBell 92 = .ok (.aload_n 3, 1) := by decide +kernel
theorem dX4_ofBell_93 : decode cX4_ofBell 93 = .ok (.getfield 75, 3) := by decide +kernel
theorem dX4_ofBell_96 : decode cX4_ofBell 96 = .ok (.ireturn, 1) := by decide +kernel
theorem dX4_ofBell_97 : decode cX4_ofBell 97 = .ok (.aload_n 0, 1) := by decide +kernel
theorem dX4_ofBell_98 : decode cX4_ofBell 98 = .ok (.iload_n 1, 1) := by decide +kernel
theorem dX4_ofBell_99 : decode cX4_ofBell 99 = .ok (.invokevirtual 205, 3) := by decide +kernel
theorem dX4_ofBell_102 : decode cX4_ofBell 102 = .ok (.ireturn, 1) := by decide +kernel
theorem dX4_ofBell_103 : decode cX4_ofBell 103 = .ok (.aload_n 3, 1) := by decide +kernel
theorem dX4_ofBell_104 : decode cX4_ofBell 104 = .ok (.getfield 194, 3) := by decide +kernel
theorem dX4_ofBell_107 : decode cX4_ofBell 107 = .ok (.ireturn, 1) := by decide +kernel
theorem dX4_tollsNotDone_0 : decode cX4_tollsNotDone 0 = .ok (.iconst 0, 1) := by decide +kernel
theorem dX4_tollsNotDone_1 : decode cX4_tollsNotDone 1 = .ok (.istore_n 2, 1) := by decide +kernel
theorem dX4_tollsNotDone_2 : decode cX4_tollsNotDone 2 = .ok (.iconst 0, 1) := by decide +kernel
theorem dX4_tollsNotDone_3 : decode cX4_tollsNotDone 3 = .ok (.istore_n 3, 1) := by decide +kernel
theorem dX4_tollsNotDone_4 : decode cX4_tollsNotDone 4 = .ok (.iload_n 3, 1) := by decide +kernel
theorem dX4_tollsNotDone_5 : decode cX4_tollsNotDone 5 = .ok (.aload_n 0, 1) := by decide +kernel
theorem dX4_tollsNotDone_6 : decode cX4_tollsNotDone 6 = .ok (.getfield 50, 3) := by decide +kernel
theorem dX4_tollsNotDone_9 : decode cX4_tollsNotDone 9 = .ok (.if_icmp .ge 37, 3) := by decide +kernel
theorem dX4_tollsNotDone_12 : decode cX4_tollsNotDone 12 = .ok (.aload_n 0, 1) := by decide +kernel
theorem dX4_tollsNotDone_13 : decode cX4_tollsNotDone 13 = .ok (.getfield 29, 3) := by decide +kernel
theorem dX4_tollsNotDone_16 : decode cX4_tollsNotDone 16 = .ok (.iload_n 3, 1) := by decide +kernel
theorem dX4_tollsNotDone_17 : decode cX4_tollsNotDone 17 = .ok (.aaload, 1) := by decide +kernel
theorem dX4_tollsNotDone_18 : decode cX4_tollsNotDone 18 = .ok (.getfield 72, 3) := by decide +kernel
theorem dX4_tollsNotDone_21 : decode cX4_tollsNotDone 21 = .ok (.iload_n 1, 1) := by decide +kernel
theorem dX4_tollsNotDone_22 : decode cX4_tollsNotDone 22 = .ok (.if_icmp .ne 18, 3) := by decide +kernel
theorem dX4_tollsNotDone_25 : decode cX4_tollsNotDone 25 = .ok (.aload_n 0, 1) := by decide +kernel
theorem dX4_tollsNotDone_26 : decode cX4_tollsNotDone 26 = .ok (.getfield 29, 3) := by decide +kernel
theorem dX4_tollsNotDone_29 : decode cX4_tollsNotDone 29 = .ok (.iload_n 3, 1) := by decide +kernel
theorem dX4_tollsNotDone_30 : decode cX4_tollsNotDone 30 = .ok (.aaload, 1) := by decide +kernel
theorem dX4_tollsNotDone_31 : decode cX4_tollsNotDone 31 = .ok (.invokevirtual 85, 3) := by decide +kernel
theorem dX4_tollsNotDone_34 : decode cX4_tollsNotDone 34 = .ok (.ifCond .ne 6, 3) := by decide +kernel
theorem dX4_tollsNotDone_37 : decode cX4_tollsNotDone 37 = .ok (.iinc 2 1, 3) := by decide +kernel
theorem dX4_tollsNotDone_40 : decode cX4_tollsNotDone 40 = .ok (.iinc 3 1, 3) := by decide +kernel
theorem dX4_tollsNotDone_43 : decode cX4_tollsNotDone 43 = .ok (.goto (-39), 3) := by decide +kernel
theorem dX4_tollsNotDone_46 : decode cX4_tollsNotDone 46 = .ok (.iload_n 2, 1) := by decide +kernel
theorem dX4_tollsNotDone_47 : decode cX4_tollsNotDone 47 = .ok (.ireturn, 1) := by decide +kernel
theorem dX5_init_0 : decode cX5_init 0 = .ok (.aload_n 0, 1) := by decide +kernel
theorem dX5_init_1 : decode cX5_init 1 = .ok (.invokespecial 1, 3) := by decide +kernel
theorem dX5_init_4 : decode cX5_init 4 = .ok (.aload_n 0, 1) := by decide +kernel
theorem dX5_init_5 : decode cX5_init 5 = .ok (.new 7, 3) := by decide +kernel
theorem dX5_init_8 : decode cX5_init 8 = .ok (.dup, 1) := by decide +kernel
theorem dX5_init_9 : decode cX5_init 9 = .ok (.iconst 1, 1) := by decide +kernel
theorem dX5_init_10 : decode cX5_init 10 = .ok (.invokespecial 9, 3) := by decide +kernel
theorem dX5_init_13 : decode cX5_init 13 = .ok (.putfield 12, 3) := by decide +kernel
theorem dX5_init_16 : decode cX5_init 16 = .ok (.aload_n 0, 1) := by decide +kernel
theorem dX5_init_17 : decode cX5_init 17 = .ok (.new 7, 3) := by decide +kernel
theorem dX5_init_20 : decode cX5_init 20 = .ok (.dup, 1) := by decide +kernel
theorem dX5_init_21 : decode cX5_init 21 = .ok (.iconst 0, 1) := by decide +kernel
theorem dX5_init_22 : decode cX5_init 22 = .ok (.invokespecial 9, 3) := by decide +kernel
theorem dX5_init_25 : decode cX5_init 25 = .ok (.putfield 18, 3) := by decide +kernel
theorem dX5_init_28 : decode cX5_init 28 = .ok (.return_, 1) := by decide +kernel
theorem dX5_weigh_0 : decode cX5_weigh 0 = .ok (.iload_n 1, 1) := by decide +kernel
theorem dX5_weigh_1 : decode cX5_weigh 1 = .ok (.invokestatic 21, 3) := by decide +kernel
theorem dX5_weigh_4 : decode cX5_weigh 4 = .ok (.iload_n 2, 1) := by decide +kernel
theorem dX5_weigh_5 : decode cX5_weigh 5 = .ok (.iconst 1, 1) := by decide +kernel
theorem dX5_weigh_6 : decode cX5_weigh 6 = .ok (.bipush 9, 2) := by decide +kernel
theorem dX5_weigh_8 : decode cX5_weigh 8 = .ok (.invokestatic 25, 3) := by decide +kernel
theorem dX5_weigh_11 : decode cX5_weigh 11 = .ok (.aload_n 0, 1) := by decide +kernel
theorem dX5_weigh_12 : decode cX5_weigh 12 = .ok (.getfield 12, 3) := by decide +kernel
theorem dX5_weigh_15 : decode cX5_weigh 15 = .ok (.getfield 29, 3) := by decide +kernel
theorem dX5_weigh_18 : decode cX5_weigh 18 = .ok (.iload_n 1, 1) := by decide +kernel
theorem dX5_weigh_19 : decode cX5_weigh 19 = .ok (.aaload, 1) := by decide +kernel
theorem dX5_weigh_20 : decode cX5_weigh 20 = .ok (.getfield 33, 3) := by decide +kernel
theorem dX5_weigh_23 : decode cX5_weigh 23 = .ok (.istore_n 3, 1) := by decide +kernel
theorem dX5_weigh_24 : decode cX5_weigh 24 = .ok (.aload_n 0, 1) := by decide +kernel
theorem dX5_weigh_25 : decode cX5_weigh 25 = .ok (.getfield 12, 3) := by decide +kernel
theorem dX5_weigh_28 : decode cX5_weigh 28 = .ok (.getfield 29, 3) := by decide +kernel
theorem dX5_weigh_31 : decode cX5_weigh 31 = .ok (.iload_n 1, 1) := by decide +kernel
theorem dX5_weigh_32 : decode cX5_weigh 32 = .ok (.aaload, 1) := by decide +kernel
theorem dX5_weigh_33 : decode cX5_weigh 33 = .ok (.iload_n 2, 1) := by decide +kernel
theorem dX5_weigh_34 : decode cX5_weigh 34 = .ok (.putfield 33, 3) := by decide +kernel
theorem dX5_weigh_37 : decode cX5_weigh 37 = .ok (.iload_n 3, 1) := by decide +kernel
theorem dX5_weigh_38 : decode cX5_weigh 38 = .ok (.ireturn, 1) := by decide +kernel
theorem dX5_fit_0 : decode cX5_fit 0 = .ok (.iload_n 1, 1) := by decide +kernel
theorem dX5_fit_1 : decode cX5_fit 1 = .ok (.invokestatic 21, 3) := by decide +kernel
theorem dX5_fit_4 : decode cX5_fit 4 = .ok (.iload_n 2, 1) := by decide +kernel
theorem dX5_fit_5 : decode cX5_fit 5 = .ok (.iconst 2, 1) := by decide +kernel
theorem dX5_fit_6 : decode cX5_fit 6 = .ok (.invokestatic 39, 3) := by decide +kernel
theorem dX5_fit_9 : decode cX5_fit 9 = .ok (.iload_n 3, 1) := by decide +kernel
theorem dX5_fit_10 : decode cX5_fit 10 = .ok (.iconst 0, 1) := by decide +kernel
theorem dX5_fit_11 : decode cX5_fit 11 = .ok (.bipush 9, 2) := by decide +kernel
theorem dX5_fit_13 : decode cX5_fit 13 = .ok (.invokestatic 25, 3) := by decide +kernel
theorem dX5_fit_16 : decode cX5_fit 16 = .ok (.iload_n 3, 1) := by decide +kernel
theorem dX5_fit_17 : decode cX5_fit 17 = .ok (.ifCond .eq 23, 3) := by decide +kernel
theorem dX5_fit_20 : decode cX5_fit 20 = .ok (.aload_n 0, 1) := by decide +kernel
theorem dX5_fit_21 : decode cX5_fit 21 = .ok (.getfield 12, 3) := by decide +kernel
theorem dX5_fit_24 : decode cX5_fit 24 = .ok (.getfield 43, 3) := by decide +kernel
theorem dX5_fit_27 : decode cX5_fit 27 = .ok (.ifCond .ne 13, 3) := by decide +kernel
theorem dX5_fit_30 : decode cX5_fit 30 = .ok (.new 46, 3) := by decide +kernel
theorem dX5_fit_33 : decode cX5_fit 33 = .ok (.dup, 1) := by decide +kernel
theorem dX5_fit_34 : decode cX5_fit 34 = .ok (.ldc 48, 2) := by decide +kernel
theorem dX5_fit_36 : decode cX5_fit 36 = .ok (.invokespecial 50, 3) := by decide +kernel
theorem dX5_fit_39 : decode cX5_fit 39 = .ok (.athrow, 1) := by decide +kernel
theorem dX5_fit_40 : decode cX5_fit 40 = .ok (.aload_n 0, 1) := by decide +kernel
theorem dX5_fit_41 : decode cX5_fit 41 = .ok (.getfield 12, 3) := by decide +kernel
theorem dX5_fit_44 : decode cX5_fit 44 = .ok (.getfield 29, 3) := by decide +kernel
theorem dX5_fit_47 : decode cX5_fit 47 = .ok (.iload_n 1, 1) := by decide +kernel
theorem dX5_fit_48 : decode cX5_fit 48 = .ok (.aaload, 1) := by decide +kernel
theorem dX5_fit_49 : decode cX5_fit 49 = .ok (.iload_n 2, 1) := by decide +kernel
theorem dX5_fit_50 : decode cX5_fit 50 = .ok (.invokevirtual 53, 3) := by decide +kernel
theorem dX5_fit_53 : decode cX5_fit 53 = .ok (.astore 4, 2) := by decide +kernel
theorem dX5_fit_55 : decode cX5_fit 55 = .ok (.aload 4, 2) := by decide +kernel
theorem dX5_fit_57 : decode cX5_fit 57 = .ok (.getfield 57, 3) := by decide +kernel
theorem dX5_fit_60 : decode cX5_fit 60 = .ok (.istore 5, 2) := by decide +kernel
theorem dX5_fit_62 : decode cX5_fit 62 = .ok (.aload 4, 2) := by decide +kernel
theorem dX5_fit_64 : decode cX5_fit 64 = .ok (.iload_n 3, 1) := by decide +kernel
theorem dX5_fit_65 : decode cX5_fit 65 = .ok (.invokevirtual 62, 3) := by decide +kernel
theorem dX5_fit_68 : decode cX5_fit 68 = .ok (.iload_n 3, 1) := by decide +kernel
theorem dX5_fit_69 : decode cX5_fit 69 = .ok (.ifCond .eq 16, 3) := by decide +kernel
theorem dX5_fit_72 : decode cX5_fit 72 = .ok (.aload_n 0, 1) := by decide +kernel
theorem dX5_fit_73 : decode cX5_fit 73 = .ok (.getfield 12, 3) := by decide +kernel
theorem dX5_fit_76 : decode cX5_fit 76 = .ok (.dup, 1) := by decide +kernel
theorem dX5_fit_77 : decode cX5_fit 77 = .ok (.getfield 43, 3) := by decide +kernel
theorem dX5_fit_80 : decode cX5_fit 80 = .ok (.iconst 1, 1) := by decide +kernel
theorem dX5_fit_81 : decode cX5_fit 81 = .ok (.isub, 1) := by decide +kernel
theorem dX5_fit_82 : decode cX5_fit 82 = .ok (.putfield 43, 3) := by decide +kernel
theorem dX5_fit_85 : decode cX5_fit 85 = .ok (.iload 5, 2) := by decide +kernel
theorem dX5_fit_87 : decode cX5_fit 87 = .ok (.ireturn, 1) := by decide +kernel
theorem dX5_store_0 : decode cX5_store 0 = .ok (.iload_n 1, 1) := by decide +kernel
theorem dX5_store_1 : decode cX5_store 1 = .ok (.iconst 1, 1) := by decide +kernel
theorem dX5_store_2 : decode cX5_store 2 = .ok (.bipush 50, 2) := by decide +kernel
theorem dX5_store_4 : decode cX5_store 4 = .ok (.invokestatic 25, 3) := by decide +kernel
theorem dX5_store_7 : decode cX5_store 7 = .ok (.aload_n 0, 1) := by decide +kernel
theorem dX5_store_8 : decode cX5_store 8 = .ok (.getfield 12, 3) := by decide +kernel
theorem dX5_store_11 : decode cX5_store 11 = .ok (.bipush 99, 2) := by decide +kernel
theorem dX5_store_13 : decode cX5_store 13 = .ok (.aload_n 0, 1) := by decide +kernel
theorem dX5_store_14 : decode cX5_store 14 = .ok (.getfield 12, 3) := by decide +kernel
theorem dX5_store_17 : decode cX5_store 17 = .ok (.getfield 43, 3) := by decide +kernel
theorem dX5_store_20 : decode cX5_store 20 = .ok (.iload_n 1, 1) := by decide +kernel
theorem dX5_store_21 : decode cX5_store 21 = .ok (.iadd, 1) := by decide +kernel
theorem dX5_store_22 : decode cX5_store 22 = .ok (.invokestatic 65, 3) := by decide +kernel
theorem dX5_store_25 : decode cX5_store 25 = .ok (.putfield 43, 3) := by decide +kernel
theorem dX5_store_28 : decode cX5_store 28 = .ok (.aload_n 0, 1) := by decide +kernel
theorem dX5_store_29 : decode cX5_store 29 = .ok (.getfield 12, 3) := by decide +kernel
theorem dX5_store_32 : decode cX5_store 32 = .ok (.getfield 43, 3) := by decide +kernel
theorem dX5_store_35 : decode cX5_store 35 = .ok (.ireturn, 1) := by decide +kernel
theorem dX5_lasts_0 : decode cX5_lasts 0 = .ok (.iload_n 1, 1) := by decide +kernel
theorem dX5_lasts_1 : decode cX5_lasts 1 = .ok (.invokestatic 21, 3) := by decide +kernel
theorem dX5_lasts_4 : decode cX5_lasts 4 = .ok (.iload_n 2, 1) := by decide +kernel
theorem dX5_lasts_5 : decode cX5_lasts 5 = .ok (.iconst 2, 1) := by decide +kernel
theorem dX5_lasts_6 : decode cX5_lasts 6 = .ok (.invokestatic 39, 3) := by decide +kernel
theorem dX5_lasts_9 : decode cX5_lasts 9 = .ok (.aload_n 0, 1) := by decide +kernel
theorem dX5_lasts_10 : decode cX5_lasts 10 = .ok (.getfield 12, 3) := by decide +kernel
theorem dX5_lasts_13 : decode cX5_lasts 13 = .ok (.getfield 29, 3) := by decide +kernel
theorem dX5_lasts_16 : decode cX5_lasts 16 = .ok (.iload_n 1, 1) := by decide +kernel
theorem dX5_lasts_17 : decode cX5_lasts 17 = .ok (.aaload, 1) := by decide +kernel
theorem dX5_lasts_18 : decode cX5_lasts 18 = .ok (.iload_n 2, 1) := by decide +kernel
theorem dX5_lasts_19 : decode cX5_lasts 19 = .ok (.invokevirtual 71, 3) := by decide +kernel
theorem dX5_lasts_22 : decode cX5_lasts 22 = .ok (.ireturn, 1) := by decide +kernel
theorem dX5_bell_0 : decode cX5_bell 0 = .ok (.iload_n 1, 1) := by decide +kernel
theorem dX5_bell_1 : decode cX5_bell 1 = .ok (.invokestatic 21, 3) := by decide +kernel
theorem dX5_bell_4 : decode cX5_bell 4 = .ok (.iload_n 2, 1) := by decide +kernel
theorem dX5_bell_5 : decode cX5_bell 5 = .ok (.bipush 9, 2) := by decide +kernel
theorem dX5_bell_7 : decode cX5_bell 7 = .ok (.invokestatic 39, 3) := by decide +kernel
theorem dX5_bell_10 : decode cX5_bell 10 = .ok (.aload_n 0, 1) := by decide +kernel
theorem dX5_bell_11 : decode cX5_bell 11 = .ok (.getfield 12, 3) := by decide +kernel
theorem dX5_bell_14 : decode cX5_bell 14 = .ok (.iload_n 1, 1) := by decide +kernel
theorem dX5_bell_15 : decode cX5_bell 15 = .ok (.iload_n 2, 1) := by decide +kernel
theorem dX5_bell_16 : decode cX5_bell 16 = .ok (.invokevirtual 75, 3) := by decide +kernel
theorem dX5_bell_19 : decode cX5_bell 19 = .ok (.ireturn, 1) := by decide +kernel
theorem dX5_ringer_0 : decode cX5_ringer 0 = .ok (.iload_n 1, 1) := by decide +kernel
theorem dX5_ringer_1 : decode cX5_ringer 1 = .ok (.iconst 1, 1) := by decide +kernel
theorem dX5_ringer_2 : decode cX5_ringer 2 = .ok (.bipush 9, 2) := by decide +kernel
theorem dX5_ringer_4 : decode cX5_ringer 4 = .ok (.invokestatic 25, 3) := by decide +kernel
theorem dX5_ringer_7 : decode cX5_ringer 7 = .ok (.aload_n 0, 1) := by decide +kernel
theorem dX5_ringer_8 : decode cX5_ringer 8 = .ok (.getfield 12, 3) := by decide +kernel
theorem dX5_ringer_11 : decode cX5_ringer 11 = .ok (.getfield 78, 3) := by decide +kernel
theorem dX5_ringer_14 : decode cX5_ringer 14 = .ok (.bipush 12, 2) := by decide +kernel
theorem dX5_ringer_16 : decode cX5_ringer 16 = .ok (.if_icmp .lt 13, 3) := by decide +kernel
theorem dX5_ringer_19 : decode cX5_ringer 19 = .ok (.new 46, 3) := by decide +kernel
theorem dX5_ringer_22 : decode cX5_ringer 22 = .ok (.dup, 1) := by decide +kernel
theorem dX5_ringer_23 : decode cX5_ringer 23 = .ok (.ldc 81, 2) := by decide +kernel
theorem dX5_ringer_25 : decode cX5_ringer 25 = .ok (.invokespecial 50, 3) := by decide +kernel
theorem dX5_ringer_28 : decode cX5_ringer 28 = .ok (.athrow, 1) := by decide +kernel
theorem dX5_ringer_29 : decode cX5_ringer 29 = .ok (.aload_n 0, 1) := by decide +kernel
theorem dX5_ringer_30 : decode cX5_ringer 30 = .ok (.getfield 12, 3) := by decide +kernel
theorem dX5_ringer_33 : decode cX5_ringer 33 = .ok (.iload_n 1, 1) := by decide +kernel
theorem dX5_ringer_34 : decode cX5_ringer 34 = .ok (.invokevirtual 83, 3) := by decide +kernel
theorem dX5_ringer_37 : decode cX5_ringer 37 = .ok (.ireturn, 1) := by decide +kernel
theorem dX5_send_0 : decode cX5_send 0 = .ok (.iload_n 1, 1) := by decide +kernel
theorem dX5_send_1 : decode cX5_send 1 = .ok (.invokestatic 21, 3) := by decide +kernel
theorem dX5_send_4 : decode cX5_send 4 = .ok (.iload_n 2, 1) := by decide +kernel
theorem dX5_send_5 : decode cX5_send 5 = .ok (.aload_n 0, 1) := by decide +kernel
theorem dX5_send_6 : decode cX5_send 6 = .ok (.getfield 12, 3) := by decide +kernel
theorem dX5_send_9 : decode cX5_send 9 = .ok (.getfield 78, 3) := by decide +kernel
theorem dX5_send_12 : decode cX5_send 12 = .ok (.invokestatic 39, 3) := by decide +kernel
theorem dX5_send_15 : decode cX5_send 15 = .ok (.aload_n 0, 1) := by decide +kernel
theorem dX5_send_16 : decode cX5_send 16 = .ok (.getfield 12, 3) := by decide +kernel
theorem dX5_send_19 : decode cX5_send 19 = .ok (.getfield 86, 3) := by decide +kernel
theorem dX5_send_22 : decode cX5_send 22 = .ok (.iload_n 2, 1) := by decide +kernel
theorem dX5_send_23 : decode cX5_send 23 = .ok (.aaload, 1) := by decide +kernel
theorem dX5_send_24 : decode cX5_send 24 = .ok (.invokevirtual 90, 3) := by decide +kernel
theorem dX5_send_27 : decode cX5_send 27 = .ok (.ifCond .ne 13, 3) := by decide +kernel
theorem dX5_send_30 : decode cX5_send 30 = .ok (.new 46, 3) := by decide +kernel
theorem dX5_send_33 : decode cX5_send 33 = .ok (.dup, 1) := by decide +kernel
theorem dX5_send_34 : decode cX5_send 34 = .ok (.ldc 96, 2) := by decide +kernel
theorem dX5_send_36 : decode cX5_send 36 = .ok (.invokespecial 50, 3) := by decide +kernel
theorem dX5_send_39 : decode cX5_send 39 = .ok (.athrow, 1) := by decide +kernel
theorem dX5_send_40 : decode cX5_send 40 = .ok (.aload_n 0, 1) := by decide +kernel
theorem dX5_send_41 : decode cX5_send 41 = .ok (.getfield 12, 3) := by decide +kernel
theorem dX5_send_44 : decode cX5_send 44 = .ok (.getfield 29, 3) := by decide +kernel
theorem dX5_send_47 : decode cX5_send 47 = .ok (.iload_n 1, 1) := by decide +kernel
theorem dX5_send_48 : decode cX5_send 48 = .ok (.aaload, 1) := by decide +kernel
theorem dX5_send_49 : decode cX5_send 49 = .ok (.getfield 98, 3) := by decide +kernel
theorem dX5_send_52 : decode cX5_send 52 = .ok (.istore_n 3, 1) := by decide +kernel
theorem dX5_send_53 : decode cX5_send 53 = .ok (.aload_n 0, 1) := by decide +kernel
theorem dX5_send_54 : decode cX5_send 54 = .ok (.getfield 12, 3) := by decide +kernel
theorem dX5_send_57 : decode cX5_send 57 = .ok (.iload_n 1, 1) := by decide +kernel
theorem dX5_send_58 : decode cX5_send 58 = .ok (.iload_n 2, 1) := by decide +kernel
theorem dX5_send_59 : decode cX5_send 59 = .ok (.invokevirtual 101, 3) := by decide +kernel
theorem dX5_send_62 : decode cX5_send 62 = .ok (.iload_n 3, 1) := by decide +kernel
theorem dX5_send_63 : decode cX5_send 63 = .ok (.ireturn, 1) := by decide +kernel
theorem dX5_told_0 : decode cX5_told 0 = .ok (.iload_n 1, 1) := by decide +kernel
theorem dX5_told_1 : decode cX5_told 1 = .ok (.aload_n 0, 1) := by decide +kernel
theorem dX5_told_2 : decode cX5_told 2 = .ok (.getfield 12, 3) := by decide +kernel
theorem dX5_told_5 : decode cX5_told 5 = .ok (.getfield 78, 3) := by decide +kernel
theorem dX5_told_8 : decode cX5_told 8 = .ok (.invokestatic 39, 3) := by decide +kernel
theorem dX5_told_11 : decode cX5_told 11 = .ok (.iload_n 2, 1) := by decide +kernel
theorem dX5_told_12 : decode cX5_told 12 = .ok (.iconst 5, 1) := by decide +kernel
theorem dX5_told_13 : decode cX5_told 13 = .ok (.invokestatic 39, 3) := by decide +kernel
theorem dX5_told_16 : decode cX5_told 16 = .ok (.aload_n 0, 1) := by decide +kernel
theorem dX5_told_17 : decode cX5_told 17 = .ok (.getfield 12, 3) := by decide +kernel
theorem dX5_told_20 : decode cX5_told 20 = .ok (.getfield 86, 3) := by decide +kernel
theorem dX5_told_23 : decode cX5_told 23 = .ok (.iload_n 1, 1) := by decide +kernel
theorem dX5_told_24 : decode cX5_told 24 = .ok (.aaload, 1) := by decide +kernel
theorem dX5_told_25 : decode cX5_told 25 = .ok (.iload_n 2, 1) := by decide +kernel
theorem dX5_told_26 : decode cX5_told 26 = .ok (.invokevirtual 104, 3) := by decide +kernel
theorem dX5_told_29 : decode cX5_told 29 = .ok (.ireturn, 1) := by decide +kernel
theorem dX5_toll_0 : decode cX5_toll 0 = .ok (.iload_n 1, 1) := by decide +kernel
theorem dX5_toll_1 : decode cX5_toll 1 = .ok (.invokestatic 21, 3) := by decide +kernel
theorem dX5_toll_4 : decode cX5_toll 4 = .ok (.iload_n 2, 1) := by decide +kernel
theorem dX5_toll_5 : decode cX5_toll 5 = .ok (.iload_n 3, 1) := by decide +kernel
theorem dX5_toll_6 : decode cX5_toll 6 = .ok (.iload 4, 2) := by decide +kernel
theorem dX5_toll_8 : decode cX5_toll 8 = .ok (.invokestatic 107, 3) := by decide +kernel
theorem dX5_toll_11 : decode cX5_toll 11 = .ok (.aload_n 0, 1) := by decide +kernel
theorem dX5_toll_12 : decode cX5_toll 12 = .ok (.getfield 12, 3) := by decide +kernel
theorem dX5_toll_15 : decode cX5_toll 15 = .ok (.getfield 110, 3) := by decide +kernel
theorem dX5_toll_18 : decode cX5_toll 18 = .ok (.bipush 20, 2) := by decide +kernel
theorem dX5_toll_20 : decode cX5_toll 20 = .ok (.if_icmp .lt 13, 3) := by decide +kernel
theorem dX5_toll_23 : decode cX5_toll 23 = .ok (.new 46, 3) := by decide +kernel
theorem dX5_toll_26 : decode cX5_toll 26 = .ok (.dup, 1) := by decide +kernel
theorem dX5_toll_27 : decode cX5_toll 27 = .ok (.ldc 113, 2) := by decide +kernel
theorem dX5_toll_29 : decode cX5_toll 29 = .ok (.invokespecial 50, 3) := by decide +kernel
theorem dX5_toll_32 : decode cX5_toll 32 = .ok (.athrow, 1) := by decide +kernel
theorem dX5_toll_33 : decode cX5_toll 33 = .ok (.aload_n 0, 1) := by decide +kernel
theorem dX5_toll_34 : decode cX5_toll 34 = .ok (.getfield 12, 3) := by decide +kernel
theorem dX5_toll_37 : decode cX5_toll 37 = .ok (.iload_n 1, 1) := by decide +kernel
theorem dX5_toll_38 : decode cX5_toll 38 = .ok (.iload_n 2, 1) := by decide +kernel
theorem dX5_toll_39 : decode cX5_toll 39 = .ok (.iload_n 3, 1) := by decide +kernel
theorem dX5_toll_40 : decode cX5_toll 40 = .ok (.iload 4, 2) := by decide +kernel
theorem dX5_toll_42 : decode cX5_toll 42 = .ok (.invokevirtual 115, 3) := by decide +kernel
theorem dX5_toll_45 : decode cX5_toll 45 = .ok (.ireturn, 1) := by decide +kernel
theorem dX5_stop_0 : decode cX5_stop 0 = .ok (.iload_n 1, 1) := by decide +kernel
theorem dX5_stop_1 : decode cX5_stop 1 = .ok (.aload_n 0, 1) := by decide +kernel
theorem dX5_stop_2 : decode cX5_stop 2 = .ok (.getfield 12, 3) := by decide +kernel
theorem dX5_stop_5 : decode cX5_stop 5 = .ok (.getfield 110, 3) := by decide +kernel
theorem dX5_stop_8 : decode cX5_stop 8 = .ok (.invokestatic 39, 3) := by decide +kernel
theorem dX5_stop_11 : decode cX5_stop 11 = .ok (.aload_n 0, 1) := by decide +kernel
theorem dX5_stop_12 : decode cX5_stop 12 = .ok (.getfield 12, 3) := by decide +kernel
theorem dX5_stop_15 : decode cX5_stop 15 = .ok (.getfield 119, 3) := by decide +kernel
theorem dX5_stop_18 : decode cX5_stop 18 = .ok (.iload_n 1, 1) := by decide +kernel
theorem dX5_stop_19 : decode cX5_stop 19 = .ok (.aaload, 1) := by decide +kernel
theorem dX5_stop_20 : decode cX5_stop 20 = .ok (.invokevirtual 123, 3) := by decide +kernel
theorem dX5_stop_23 : decode cX5_stop 23 = .ok (.ifCond .eq 13, 3) := by decide +kernel
theorem dX5_stop_26 : decode cX5_stop 26 = .ok (.new 46, 3) := by decide +kernel
theorem dX5_stop_29 : decode cX5_stop 29 = .ok (.dup, 1) := by decide +kernel
theorem dX5_stop_30 : decode cX5_stop 30 = .ok (.ldc 128, 2) := by decide +kernel
theorem dX5_stop_32 : decode cX5_stop 32 = .ok (.invokespecial 50, 3) := by decide +kernel
theorem dX5_stop_35 : decode cX5_stop 35 = .ok (.athrow, 1) := by decide +kernel
theorem dX5_stop_36 : decode cX5_stop 36 = .ok (.aload_n 0, 1) := by decide +kernel
theorem dX5_stop_37 : decode cX5_stop 37 = .ok (.getfield 12, 3) := by decide +kernel
theorem dX5_stop_40 : decode cX5_stop 40 = .ok (.iload_n 1, 1) := by decide +kernel
theorem dX5_stop_41 : decode cX5_stop 41 = .ok (.invokevirtual 130, 3) := by decide +kernel
theorem dX5_stop_44 : decode cX5_stop 44 = .ok (.aload_n 0, 1) := by decide +kernel
theorem dX5_stop_45 : decode cX5_stop 45 = .ok (.getfield 12, 3) := by decide +kernel
theorem dX5_stop_48 : decode cX5_stop 48 = .ok (.getfield 119, 3) := by decide +kernel
theorem dX5_stop_51 : decode cX5_stop 51 = .ok (.iload_n 1, 1) := by decide +kernel
theorem dX5_stop_52 : decode cX5_stop 52 = .ok (.aaload, 1) := by decide +kernel
theorem dX5_stop_53 : decode cX5_stop 53 = .ok (.invokevirtual 133, 3) := by decide +kernel
theorem dX5_stop_56 : decode cX5_stop 56 = .ok (.aload_n 0, 1) := by decide +kernel
theorem dX5_stop_57 : decode cX5_stop 57 = .ok (.getfield 12, 3) := by decide +kernel
theorem dX5_stop_60 : decode cX5_stop 60 = .ok (.getfield 119, 3) := by decide +kernel
theorem dX5_stop_63 : decode cX5_stop 63 = .ok (.iload_n 1, 1) := by decide +kernel
theorem dX5_stop_64 : decode cX5_stop 64 = .ok (.aaload, 1) := by decide +kernel
theorem dX5_stop_65 : decode cX5_stop 65 = .ok (.getfield 137, 3) := by decide +kernel
theorem dX5_stop_68 : decode cX5_stop 68 = .ok (.isub, 1) := by decide +kernel
theorem dX5_stop_69 : decode cX5_stop 69 = .ok (.ireturn, 1) := by decide +kernel
theorem dX5_about_0 : decode cX5_about 0 = .ok (.iload_n 1, 1) := by decide +kernel
theorem dX5_about_1 : decode cX5_about 1 = .ok (.aload_n 0, 1) := by decide +kernel
theorem dX5_about_2 : decode cX5_about 2 = .ok (.getfield 12, 3) := by decide +kernel
theorem dX5_about_5 : decode cX5_about 5 = .ok (.getfield 110, 3) := by decide +kernel
theorem dX5_about_8 : decode cX5_about 8 = .ok (.invokestatic 39, 3) := by decide +kernel
theorem dX5_about_11 : decode cX5_about 11 = .ok (.iload_n 2, 1) := by decide +kernel
theorem dX5_about_12 : decode cX5_about 12 = .ok (.bipush 9, 2) := by decide +kernel
theorem dX5_about_14 : decode cX5_about 14 = .ok (.invokestatic 39, 3) := by decide +kernel
theorem dX5_about_17 : decode cX5_about 17 = .ok (.aload_n 0, 1) := by decide +kernel
theorem dX5_about_18 : decode cX5_about 18 = .ok (.getfield 12, 3) := by decide +kernel
theorem dX5_about_21 : decode cX5_about 21 = .ok (.getfield 119, 3) := by decide +kernel
theorem dX5_about_24 : decode cX5_about 24 = .ok (.iload_n 1, 1) := by decide +kernel
theorem dX5_about_25 : decode cX5_about 25 = .ok (.aaload, 1) := by decide +kernel
theorem dX5_about_26 : decode cX5_about 26 = .ok (.iload_n 2, 1) := by decide +kernel
theorem dX5_about_27 : decode cX5_about 27 = .ok (.invokevirtual 140, 3) := by decide +kernel
theorem dX5_about_30 : decode cX5_about 30 = .ok (.ireturn, 1) := by decide +kernel
theorem dX5_heard_0 : decode cX5_heard 0 = .ok (.iload_n 1, 1) := by decide +kernel
theorem dX5_heard_1 : decode cX5_heard 1 = .ok (.aload_n 0, 1) := by decide +kernel
theorem dX5_heard_2 : decode cX5_heard 2 = .ok (.getfield 12, 3) := by decide +kernel
theorem dX5_heard_5 : decode cX5_heard 5 = .ok (.getfield 110, 3) := by decide +kernel
theorem dX5_heard_8 : decode cX5_heard 8 = .ok (.invokestatic 39, 3) := by decide +kernel
theorem dX5_heard_11 : decode cX5_heard 11 = .ok (.iload_n 2, 1) := by decide +kernel
theorem dX5_heard_12 : decode cX5_heard 12 = .ok (.iconst 0, 1) := by decide +kernel
theorem dX5_heard_13 : decode cX5_heard 13 = .ok (.bipush 90, 2) := by decide +kernel
theorem dX5_heard_15 : decode cX5_heard 15 = .ok (.invokestatic 25, 3) := by decide +kernel
theorem dX5_heard_18 : decode cX5_heard 18 = .ok (.aload_n 0, 1) := by decide +kernel
theorem dX5_heard_19 : decode cX5_heard 19 = .ok (.getfield 12, 3) := by decide +kernel
theorem dX5_heard_22 : decode cX5_heard 22 = .ok (.getfield 119, 3) := by decide +kernel
theorem dX5_heard_25 : decode cX5_heard 25 = .ok (.iload_n 1, 1) := by decide +kernel
theorem dX5_heard_26 : decode cX5_heard 26 = .ok (.aaload, 1) := by decide +kernel
theorem dX5_heard_27 : decode cX5_heard 27 = .ok (.iload_n 2, 1) := by decide +kernel
theorem dX5_heard_28 : decode cX5_heard 28 = .ok (.invokevirtual 141, 3) := by decide +kernel
theorem dX5_heard_31 : decode cX5_heard 31 = .ok (.ireturn, 1) := by decide +kernel
theorem dX5_count_0 : decode cX5_count 0 = .ok (.iload_n 1, 1) := by decide +kernel
theorem dX5_count_1 : decode cX5_count 1 = .ok (.bipush 9, 2) := by decide +kernel
theorem dX5_count_3 : decode cX5_count 3 = .ok (.invokestatic 39, 3) := by decide +kernel
theorem dX5_count_6 : decode cX5_count 6 = .ok (.aload_n 0, 1) := by decide +kernel
theorem dX5_count_7 : decode cX5_count 7 = .ok (.getfield 12, 3) := by decide +kernel
theorem dX5_count_10 : decode cX5_count 10 = .ok (.iload_n 1, 1) := by decide +kernel
theorem dX5_count_11 : decode cX5_count 11 = .ok (.invokevirtual 144, 3) := by decide +kernel
theorem dX5_count_14 : decode cX5_count 14 = .ok (.ireturn, 1) := by decide +kernel
theorem dX5_pass_0 : decode cX5_pass 0 = .ok (.iload_n 1, 1) := by decide +kernel
theorem dX5_pass_1 : decode cX5_pass 1 = .ok (.iconst 1, 1) := by decide +kernel
theorem dX5_pass_2 : decode cX5_pass 2 = .ok (.sipush 240, 3) := by decide +kernel
theorem dX5_pass_5 : decode cX5_pass 5 = .ok (.invokestatic 25, 3) := by decide +kernel
theorem dX5_pass_8 : decode cX5_pass 8 = .ok (.aload_n 0, 1) := by decide +kernel
theorem dX5_pass_9 : decode cX5_pass 9 = .ok (.getfield 12, 3) := by decide +kernel
theorem dX5_pass_12 : decode cX5_pass 12 = .ok (.iload_n 1, 1) := by decide +kernel
theorem dX5_pass_13 : decode cX5_pass 13 = .ok (.invokevirtual 147, 3) := by decide +kernel
theorem dX5_pass_16 : decode cX5_pass 16 = .ok (.ireturn, 1) := by decide +kernel
theorem dX5_ends_0 : decode cX5_ends 0 = .ok (.iload_n 1, 1) := by decide +kernel
theorem dX5_ends_1 : decode cX5_ends 1 = .ok (.aload_n 0, 1) := by decide +kernel
theorem dX5_ends_2 : decode cX5_ends 2 = .ok (.getfield 12, 3) := by decide +kernel
theorem dX5_ends_5 : decode cX5_ends 5 = .ok (.getfield 110, 3) := by decide +kernel
theorem dX5_ends_8 : decode cX5_ends 8 = .ok (.invokestatic 39, 3) := by decide +kernel
theorem dX5_ends_11 : decode cX5_ends 11 = .ok (.aload_n 0, 1) := by decide +kernel
theorem dX5_ends_12 : decode cX5_ends 12 = .ok (.getfield 18, 3) := by decide +kernel
theorem dX5_ends_15 : decode cX5_ends 15 = .ok (.aload_n 0, 1) := by decide +kernel
theorem dX5_ends_16 : decode cX5_ends 16 = .ok (.getfield 12, 3) := by decide +kernel
theorem dX5_ends_19 : decode cX5_ends 19 = .ok (.invokevirtual 150, 3) := by decide +kernel
theorem dX5_ends_22 : decode cX5_ends 22 = .ok (.aload_n 0, 1) := by decide +kernel
theorem dX5_ends_23 : decode cX5_ends 23 = .ok (.getfield 18, 3) := by decide +kernel
theorem dX5_ends_26 : decode cX5_ends 26 = .ok (.iload_n 1, 1) := by decide +kernel
theorem dX5_ends_27 : decode cX5_ends 27 = .ok (.sipush 600, 3) := by decide +kernel
theorem dX5_ends_30 : decode cX5_ends 30 = .ok (.invokevirtual 154, 3) := by decide +kernel
theorem dX5_ends_33 : decode cX5_ends 33 = .ok (.ireturn, 1) := by decide +kernel
theorem dX5_foresee_0 : decode cX5_foresee 0 = .ok (.iload_n 1, 1) := by decide +kernel
theorem dX5_foresee_1 : decode cX5_foresee 1 = .ok (.iconst 1, 1) := by decide +kernel
theorem dX5_foresee_2 : decode cX5_foresee 2 = .ok (.sipush 240, 3) := by decide +kernel
theorem dX5_foresee_5 : decode cX5_foresee 5 = .ok (.invokestatic 25, 3) := by decide +kernel
theorem dX5_foresee_8 : decode cX5_foresee 8 = .ok (.iload_n 2, 1) := by decide +kernel
theorem dX5_foresee_9 : decode cX5_foresee 9 = .ok (.iconst 2, 1) := by decide +kernel
theorem dX5_foresee_10 : decode cX5_foresee 10 = .ok (.if_icmp .eq 35, 3) := by decide +kernel
theorem dX5_foresee_13 : decode cX5_foresee 13 = .ok (.iload_n 2, 1) := by decide +kernel
theorem dX5_foresee_14 : decode cX5_foresee 14 = .ok (.iconst 4, 1) := by decide +kernel
theorem dX5_foresee_15 : decode cX5_foresee 15 = .ok (.if_icmp .eq 30, 3) := by decide +kernel
theorem dX5_foresee_18 : decode cX5_foresee 18 = .ok (.iload_n 2, 1) := by decide +kernel
theorem dX5_foresee_19 : decode cX5_foresee 19 = .ok (.iconst 5, 1) := by decide +kernel
theorem dX5_foresee_20 : decode cX5_foresee 20 = .ok (.if_icmp .eq 25, 3) := by decide +kernel
theorem dX5_foresee_23 : decode cX5_foresee 23 = .ok (.iload_n 2, 1) := by decide +kernel
theorem dX5_foresee_24 : decode cX5_foresee 24 = .ok (.bipush 6, 2) := by decide +kernel
theorem dX5_foresee_26 : decode cX5_foresee 26 = .ok (.if_icmp .eq 19, 3) := by decide +kernel
theorem dX5_foresee_29 : decode cX5_foresee 29 = .ok (.iload_n 2, 1) := by decide +kernel
theorem dX5_foresee_30 : decode cX5_foresee 30 = .ok (.bipush 8, 2) := by decide +kernel
theorem dX5_foresee_32 : decode cX5_foresee 32 = .ok (.if_icmp .eq 13, 3) := by decide +kernel
theorem dX5_foresee_35 : decode cX5_foresee 35 = .ok (.new 157, 3) := by decide +kernel
theorem dX5_foresee_38 : decode cX5_foresee 38 = .ok (.dup, 1) := by decide +kernel
theorem dX5_foresee_39 : decode cX5_foresee 39 = .ok (.ldc 159, 2) := by decide +kernel
theorem dX5_foresee_41 : decode cX5_foresee 41 = .ok (.invokespecial 161, 3) := by decide +kernel
theorem dX5_foresee_44 : decode cX5_foresee 44 = .ok (.athrow, 1) := by decide +kernel
theorem dX5_foresee_45 : decode cX5_foresee 45 = .ok (.aload_n 0, 1) := by decide +kernel
theorem dX5_foresee_46 : decode cX5_foresee 46 = .ok (.getfield 18, 3) := by decide +kernel
theorem dX5_foresee_49 : decode cX5_foresee 49 = .ok (.aload_n 0, 1) := by decide +kernel
theorem dX5_foresee_50 : decode cX5_foresee 50 = .ok (.getfield 12, 3) := by decide +kernel
theorem dX5_foresee_53 : decode cX5_foresee 53 = .ok (.invokevirtual 150, 3) := by decide +kernel
theorem dX5_foresee_56 : decode cX5_foresee 56 = .ok (.aload_n 0, 1) := by decide +kernel
theorem dX5_foresee_57 : decode cX5_foresee 57 = .ok (.getfield 18, 3) := by decide +kernel
theorem dX5_foresee_60 : decode cX5_foresee 60 = .ok (.iload_n 1, 1) := by decide +kernel
theorem dX5_foresee_61 : decode cX5_foresee 61 = .ok (.invokevirtual 147, 3) := by decide +kernel
theorem dX5_foresee_64 : decode cX5_foresee 64 = .ok (.pop, 1) := by decide +kernel
theorem dX5_foresee_65 : decode cX5_foresee 65 = .ok (.aload_n 0, 1) := by decide +kernel
theorem dX5_foresee_66 : decode cX5_foresee 66 = .ok (.getfield 18, 3) := by decide +kernel
theorem dX5_foresee_69 : decode cX5_foresee 69 = .ok (.iload_n 2, 1) := by decide +kernel
theorem dX5_foresee_70 : decode cX5_foresee 70 = .ok (.invokevirtual 144, 3) := by decide +kernel
theorem dX5_foresee_73 : decode cX5_foresee 73 = .ok (.ireturn, 1) := by decide +kernel
theorem dX5_choose_0 : decode cX5_choose 0 = .ok (.iload_n 1, 1) := by decide +kernel
theorem dX5_choose_1 : decode cX5_choose 1 = .ok (.iload_n 2, 1) := by decide +kernel
theorem dX5_choose_2 : decode cX5_choose 2 = .ok (.iload_n 3, 1) := by decide +kernel
theorem dX5_choose_3 : decode cX5_choose 3 = .ok (.invokestatic 107, 3) := by decide +kernel
theorem dX5_choose_6 : decode cX5_choose 6 = .ok (.iconst (-1), 1) := by decide +kernel
theorem dX5_choose_7 : decode cX5_choose 7 = .ok (.istore 4, 2) := by decide +kernel
theorem dX5_choose_9 : decode cX5_choose 9 = .ok (.sipush 600, 3) := by decide +kernel
theorem dX5_choose_12 : decode cX5_choose 12 = .ok (.istore 5, 2) := by decide +kernel
theorem dX5_choose_14 : decode cX5_choose 14 = .ok (.iconst 0, 1) := by decide +kernel
theorem dX5_choose_15 : decode cX5_choose 15 = .ok (.istore 6, 2) := by decide +kernel
theorem dX5_choose_17 : decode cX5_choose 17 = .ok (.iload 6, 2) := by decide +kernel
theorem dX5_choose_19 : decode cX5_choose 19 = .ok (.iconst 4, 1) := by decide +kernel
theorem dX5_choose_20 : decode cX5_choose 20 = .ok (.if_icmp .ge 62, 3) := by decide +kernel
theorem dX5_choose_23 : decode cX5_choose 23 = .ok (.aload_n 0, 1) := by decide +kernel
theorem dX5_choose_24 : decode cX5_choose 24 = .ok (.getfield 18, 3) := by decide +kernel
theorem dX5_choose_27 : decode cX5_choose 27 = .ok (.aload_n 0, 1) := by decide +kernel
theorem dX5_choose_28 : decode cX5_choose 28 = .ok (.getfield 12, 3) := by decide +kernel
theorem dX5_choose_31 : decode cX5_choose 31 = .ok (.invokevirtual 150, 3) := by decide +kernel
theorem dX5_choose_34 : decode cX5_choose 34 = .ok (.aload_n 0, 1) := by decide +kernel
theorem dX5_choose_35 : decode cX5_choose 35 = .ok (.getfield 18, 3) := by decide +kernel
theorem dX5_choose_38 : decode cX5_choose 38 = .ok (.iload 6, 2) := by decide +kernel
theorem dX5_choose_40 : decode cX5_choose 40 = .ok (.iload_n 1, 1) := by decide +kernel
theorem dX5_choose_41 : decode cX5_choose 41 = .ok (.iload_n 2, 1) := by decide +kernel
theorem dX5_choose_42 : decode cX5_choose 42 = .ok (.iload_n 3, 1) := by decide +kernel
theorem dX5_choose_43 : decode cX5_choose 43 = .ok (.invokevirtual 115, 3) := by decide +kernel
theorem dX5_choose_46 : decode cX5_choose 46 = .ok (.istore 7, 2) := by decide +kernel
theorem dX5_choose_48 : decode cX5_choose 48 = .ok (.aload_n 0, 1) := by decide +kernel
theorem dX5_choose_49 : decode cX5_choose 49 = .ok (.getfield 18, 3) := by decide +kernel
theorem dX5_choose_52 : decode cX5_choose 52 = .ok (.iload 7, 2) := by decide +kernel
theorem dX5_choose_54 : decode cX5_choose 54 = .ok (.iload 5, 2) := by decide +kernel
theorem dX5_choose_56 : decode cX5_choose 56 = .ok (.invokevirtual 154, 3) := by decide +kernel
theorem dX5_choose_59 : decode cX5_choose 59 = .ok (.istore 8, 2) := by decide +kernel
theorem dX5_choose_61 : decode cX5_choose 61 = .ok (.iload 8, 2) := by decide +kernel
theorem dX5_choose_63 : decode cX5_choose 63 = .ok (.ifCond .lt 13, 3) := by decide +kernel
theorem dX5_choose_66 : decode cX5_choose 66 = .ok (.iload 6, 2) := by decide +kernel
theorem dX5_choose_68 : decode cX5_choose 68 = .ok (.istore 4, 2) := by decide +kernel
theorem dX5_choose_70 : decode cX5_choose 70 = .ok (.iload 8, 2) := by decide +kernel
theorem dX5_choose_72 : decode cX5_choose 72 = .ok (.iconst 1, 1) := by decide +kernel
theorem dX5_choose_73 : decode cX5_choose 73 = .ok (.isub, 1) := by decide +kernel
theorem dX5_choose_74 : decode cX5_choose 74 = .ok (.istore 5, 2) := by decide +kernel
theorem dX5_choose_76 : decode cX5_choose 76 = .ok (.iinc 6 1, 3) := by decide +kernel
theorem dX5_choose_79 : decode cX5_choose 79 = .ok (.goto (-62), 3) := by decide +kernel
theorem dX5_choose_82 : decode cX5_choose 82 = .ok (.iload 4, 2) := by decide +kernel
theorem dX5_choose_84 : decode cX5_choose 84 = .ok (.ireturn, 1) := by decide +kernel
theorem dX5_mean_0 : decode cX5_mean 0 = .ok (.aload_n 0, 1) := by decide +kernel
theorem dX5_mean_1 : decode cX5_mean 1 = .ok (.getfield 12, 3) := by decide +kernel
theorem dX5_mean_4 : decode cX5_mean 4 = .ok (.getfield 78, 3) := by decide +kernel
theorem dX5_mean_7 : decode cX5_mean 7 = .ok (.ifCond .ne 5, 3) := by decide +kernel
theorem dX5_mean_10 : decode cX5_mean 10 = .ok (.dconst 0, 1) := by decide +kernel
theorem dX5_mean_11 : decode cX5_mean 11 = .ok (.dreturn, 1) := by decide +kernel
theorem dX5_mean_12 : decode cX5_mean 12 = .ok (.iconst 0, 1) := by decide +kernel
theorem dX5_mean_13 : decode cX5_mean 13 = .ok (.istore_n 1, 1) := by decide +kernel
theorem dX5_mean_14 : decode cX5_mean 14 = .ok (.iconst 0, 1) := by decide +kernel
theorem dX5_mean_15 : decode cX5_mean 15 = .ok (.istore_n 2, 1) := by decide +kernel
theorem dX5_mean_16 : decode cX5_mean 16 = .ok (.iload_n 2, 1) := by decide +kernel
theorem dX5_mean_17 : decode cX5_mean 17 = .ok (.aload_n 0, 1) := by decide +kernel
theorem dX5_mean_18 : decode cX5_mean 18 = .ok (.getfield 12, 3) := by decide +kernel
theorem dX5_mean_21 : decode cX5_mean 21 = .ok (.getfield 78, 3) := by decide +kernel
theorem dX5_mean_24 : decode cX5_mean 24 = .ok (.if_icmp .ge 24, 3) := by decide +kernel
theorem dX5_mean_27 : decode cX5_mean 27 = .ok (.iload_n 1, 1) := by decide +kernel
theorem dX5_mean_28 : decode cX5_mean 28 = .ok (.aload_n 0, 1) := by decide +kernel
theorem dX5_mean_29 : decode cX5_mean 29 = .ok (.getfield 12, 3) := by decide +kernel
theorem dX5_mean_32 : decode cX5_mean 32 = .ok (.getfield 86, 3) := by decide +kernel
theorem dX5_mean_35 : decode cX5_mean 35 = .ok (.iload_n 2, 1) := by decide +kernel
theorem dX5_mean_36 : decode cX5_mean 36 = .ok (.aaload, 1) := by decide +kernel
theorem dX5_mean_37 : decode cX5_mean 37 = .ok (.getfield 162, 3) := by decide +kernel
theorem dX5_mean_40 : decode cX5_mean 40 = .ok (.iadd, 1) := by decide +kernel
theorem dX5_mean_41 : decode cX5_mean 41 = .ok (.istore_n 1, 1) := by decide +kernel
theorem dX5_mean_42 : decode cX5_mean 42 = .ok (.iinc 2 1, 3) := by decide +kernel
theorem dX5_mean_45 : decode cX5_mean 45 = .ok (.goto (-29), 3) := by decide +kernel
theorem dX5_mean_48 : decode cX5_mean 48 = .ok (.iload_n 1, 1) := by decide +kernel
theorem dX5_mean_49 : decode cX5_mean 49 = .ok (.i2d, 1) := by decide +kernel
theorem dX5_mean_50 : decode cX5_mean 50 = .ok (.aload_n 0, 1) := by decide +kernel
theorem dX5_mean_51 : decode cX5_mean 51 = .ok (.getfield 12, 3) := by decide +kernel
