theorem dX0_init_0 : decode cX0_init 0 = .ok (.aload_n 0, 1) := by decide +kernel
theorem dX0_init_1 : decode cX0_init 1 = .ok (.invokespecial 3, 3) := by decide +kernel
theorem dX0_init_4 : decode cX0_init 4 = .ok (.aload_n 0, 1) := by decide +kernel
theorem dX0_init_5 : decode cX0_init 5 = .ok (.iload_n 1, 1) := by decide +kernel
theorem dX0_init_6 : decode cX0_init 6 = .ok (.putfield 9, 3) := by decide +kernel
theorem dX0_init_9 : decode cX0_init 9 = .ok (.aload_n 0, 1) := by decide +kernel
theorem dX0_init_10 : decode cX0_init 10 = .ok (.new 15, 3) := by decide +kernel
theorem dX0_init_13 : decode cX0_init 13 = .ok (.dup, 1) := by decide +kernel
theorem dX0_init_14 : decode cX0_init 14 = .ok (.bipush 16, 2) := by decide +kernel
theorem dX0_init_16 : decode cX0_init 16 = .ok (.newarray .int, 2) := by decide +kernel
theorem dX0_init_18 : decode cX0_init 18 = .ok (.invokespecial 17, 3) := by decide +kernel
theorem dX0_init_21 : decode cX0_init 21 = .ok (.putfield 20, 3) := by decide +kernel
theorem dX0_init_24 : decode cX0_init 24 = .ok (.aload_n 0, 1) := by decide +kernel
theorem dX0_init_25 : decode cX0_init 25 = .ok (.bipush 16, 2) := by decide +kernel
theorem dX0_init_27 : decode cX0_init 27 = .ok (.newarray .int, 2) := by decide +kernel
theorem dX0_init_29 : decode cX0_init 29 = .ok (.putfield 24, 3) := by decide +kernel
theorem dX0_init_32 : decode cX0_init 32 = .ok (.iconst 0, 1) := by decide +kernel
theorem dX0_init_33 : decode cX0_init 33 = .ok (.istore_n 2, 1) := by decide +kernel
theorem dX0_init_34 : decode cX0_init 34 = .ok (.iload_n 2, 1) := by decide +kernel
theorem dX0_init_35 : decode cX0_init 35 = .ok (.aload_n 0, 1) := by decide +kernel
theorem dX0_init_36 : decode cX0_init 36 = .ok (.getfield 24, 3) := by decide +kernel
theorem dX0_init_39 : decode cX0_init 39 = .ok (.arraylength, 1) := by decide +kernel
theorem dX0_init_40 : decode cX0_init 40 = .ok (.if_icmp .ge 16, 3) := by decide +kernel
theorem dX0_init_43 : decode cX0_init 43 = .ok (.aload_n 0, 1) := by decide +kernel
theorem dX0_init_44 : decode cX0_init 44 = .ok (.getfield 24, 3) := by decide +kernel
theorem dX0_init_47 : decode cX0_init 47 = .ok (.iload_n 2, 1) := by decide +kernel
theorem dX0_init_48 : decode cX0_init 48 = .ok (.iconst (-1), 1) := by decide +kernel
theorem dX0_init_49 : decode cX0_init 49 = .ok (.iastore, 1) := by decide +kernel
theorem dX0_init_50 : decode cX0_init 50 = .ok (.iinc 2 1, 3) := by decide +kernel
theorem dX0_init_53 : decode cX0_init 53 = .ok (.goto (-19), 3) := by decide +kernel
theorem dX0_init_56 : decode cX0_init 56 = .ok (.return_, 1) := by decide +kernel
theorem dX0_hasOfferFor_0 : decode cX0_hasOfferFor 0 = .ok (.aload_n 0, 1) := by decide +kernel
theorem dX0_hasOfferFor_1 : decode cX0_hasOfferFor 1 = .ok (.getfield 24, 3) := by decide +kernel
theorem dX0_hasOfferFor_4 : decode cX0_hasOfferFor 4 = .ok (.iload_n 1, 1) := by decide +kernel
theorem dX0_hasOfferFor_5 : decode cX0_hasOfferFor 5 = .ok (.iaload, 1) := by decide +kernel
theorem dX0_hasOfferFor_6 : decode cX0_hasOfferFor 6 = .ok (.iconst (-1), 1) := by decide +kernel
theorem dX0_hasOfferFor_7 : decode cX0_hasOfferFor 7 = .ok (.if_icmp .eq 7, 3) := by decide +kernel
theorem dX0_hasOfferFor_10 : decode cX0_hasOfferFor 10 = .ok (.iconst 1, 1) := by decide +kernel
theorem dX0_hasOfferFor_11 : decode cX0_hasOfferFor 11 = .ok (.goto 4, 3) := by decide +kernel
theorem dX0_hasOfferFor_14 : decode cX0_hasOfferFor 14 = .ok (.iconst 0, 1) := by decide +kernel
theorem dX0_hasOfferFor_15 : decode cX0_hasOfferFor 15 = .ok (.ireturn, 1) := by decide +kernel
theorem dX0_offers_0 : decode cX0_offers 0 = .ok (.iconst 0, 1) := by decide +kernel
theorem dX0_offers_1 : decode cX0_offers 1 = .ok (.istore_n 1, 1) := by decide +kernel
theorem dX0_offers_2 : decode cX0_offers 2 = .ok (.aload_n 0, 1) := by decide +kernel
theorem dX0_offers_3 : decode cX0_offers 3 = .ok (.getfield 24, 3) := by decide +kernel
theorem dX0_offers_6 : decode cX0_offers 6 = .ok (.astore_n 2, 1) := by decide +kernel
theorem dX0_offers_7 : decode cX0_offers 7 = .ok (.aload_n 2, 1) := by decide +kernel
theorem dX0_offers_8 : decode cX0_offers 8 = .ok (.arraylength, 1) := by decide +kernel
theorem dX0_offers_9 : decode cX0_offers 9 = .ok (.istore_n 3, 1) := by decide +kernel
theorem dX0_offers_10 : decode cX0_offers 10 = .ok (.iconst 0, 1) := by decide +kernel
theorem dX0_offers_11 : decode cX0_offers 11 = .ok (.istore 4, 2) := by decide +kernel
theorem dX0_offers_13 : decode cX0_offers 13 = .ok (.iload 4, 2) := by decide +kernel
theorem dX0_offers_15 : decode cX0_offers 15 = .ok (.iload_n 3, 1) := by decide +kernel
theorem dX0_offers_16 : decode cX0_offers 16 = .ok (.if_icmp .ge 24, 3) := by decide +kernel
theorem dX0_offers_19 : decode cX0_offers 19 = .ok (.aload_n 2, 1) := by decide +kernel
theorem dX0_offers_20 : decode cX0_offers 20 = .ok (.iload 4, 2) := by decide +kernel
theorem dX0_offers_22 : decode cX0_offers 22 = .ok (.iaload, 1) := by decide +kernel
theorem dX0_offers_23 : decode cX0_offers 23 = .ok (.istore 5, 2) := by decide +kernel
theorem dX0_offers_25 : decode cX0_offers 25 = .ok (.iload 5, 2) := by decide +kernel
theorem dX0_offers_27 : decode cX0_offers 27 = .ok (.iconst (-1), 1) := by decide +kernel
theorem dX0_offers_28 : decode cX0_offers 28 = .ok (.if_icmp .eq 6, 3) := by decide +kernel
theorem dX0_offers_31 : decode cX0_offers 31 = .ok (.iinc 1 1, 3) := by decide +kernel
theorem dX0_offers_34 : decode cX0_offers 34 = .ok (.iinc 4 1, 3) := by decide +kernel
theorem dX0_offers_37 : decode cX0_offers 37 = .ok (.goto (-24), 3) := by decide +kernel
theorem dX0_offers_40 : decode cX0_offers 40 = .ok (.iload_n 1, 1) := by decide +kernel
theorem dX0_offers_41 : decode cX0_offers 41 = .ok (.ireturn, 1) := by decide +kernel
theorem dX0_takeOff_0 : decode cX0_takeOff 0 = .ok (.aload_n 0, 1) := by decide +kernel
theorem dX0_takeOff_1 : decode cX0_takeOff 1 = .ok (.getfield 20, 3) := by decide +kernel
theorem dX0_takeOff_4 : decode cX0_takeOff 4 = .ok (.iload_n 1, 1) := by decide +kernel
theorem dX0_takeOff_5 : decode cX0_takeOff 5 = .ok (.invokevirtual 28, 3) := by decide +kernel
theorem dX0_takeOff_8 : decode cX0_takeOff 8 = .ok (.aload_n 0, 1) := by decide +kernel
theorem dX0_takeOff_9 : decode cX0_takeOff 9 = .ok (.getfield 24, 3) := by decide +kernel
theorem dX0_takeOff_12 : decode cX0_takeOff 12 = .ok (.iload_n 1, 1) := by decide +kernel
theorem dX0_takeOff_13 : decode cX0_takeOff 13 = .ok (.iconst (-1), 1) := by decide +kernel
theorem dX0_takeOff_14 : decode cX0_takeOff 14 = .ok (.iastore, 1) := by decide +kernel
theorem dX0_takeOff_15 : decode cX0_takeOff 15 = .ok (.return_, 1) := by decide +kernel
theorem dX1_init_0 : decode cX1_init 0 = .ok (.aload_n 0, 1) := by decide +kernel
theorem dX1_init_1 : decode cX1_init 1 = .ok (.invokespecial 3, 3) := by decide +kernel
theorem dX1_init_4 : decode cX1_init 4 = .ok (.aload_n 0, 1) := by decide +kernel
theorem dX1_init_5 : decode cX1_init 5 = .ok (.aload_n 1, 1) := by decide +kernel
theorem dX1_init_6 : decode cX1_init 6 = .ok (.putfield 9, 3) := by decide +kernel
theorem dX1_init_9 : decode cX1_init 9 = .ok (.aload_n 0, 1) := by decide +kernel
theorem dX1_init_10 : decode cX1_init 10 = .ok (.iconst 0, 1) := by decide +kernel
theorem dX1_init_11 : decode cX1_init 11 = .ok (.putfield 15, 3) := by decide +kernel
theorem dX1_init_14 : decode cX1_init 14 = .ok (.return_, 1) := by decide +kernel
theorem dX1_size_0 : decode cX1_size 0 = .ok (.aload_n 0, 1) := by decide +kernel
theorem dX1_size_1 : decode cX1_size 1 = .ok (.getfield 15, 3) := by decide +kernel
theorem dX1_size_4 : decode cX1_size 4 = .ok (.ireturn, 1) := by decide +kernel
theorem dX1_at_0 : decode cX1_at 0 = .ok (.iload_n 1, 1) := by decide +kernel
theorem dX1_at_1 : decode cX1_at 1 = .ok (.ifCond .lt 11, 3) := by decide +kernel
theorem dX1_at_4 : decode cX1_at 4 = .ok (.iload_n 1, 1) := by decide +kernel
theorem dX1_at_5 : decode cX1_at 5 = .ok (.aload_n 0, 1) := by decide +kernel
theorem dX1_at_6 : decode cX1_at 6 = .ok (.getfield 15, 3) := by decide +kernel
theorem dX1_at_9 : decode cX1_at 9 = .ok (.if_icmp .lt 7, 3) := by decide +kernel
theorem dX1_at_12 : decode cX1_at 12 = .ok (.iconst (-1), 1) := by decide +kernel
theorem dX1_at_13 : decode cX1_at 13 = .ok (.goto 9, 3) := by decide +kernel
theorem dX1_at_16 : decode cX1_at 16 = .ok (.aload_n 0, 1) := by decide +kernel
theorem dX1_at_17 : decode cX1_at 17 = .ok (.getfield 9, 3) := by decide +kernel
theorem dX1_at_20 : decode cX1_at 20 = .ok (.iload_n 1, 1) := by decide +kernel
theorem dX1_at_21 : decode cX1_at 21 = .ok (.iaload, 1) := by decide +kernel
theorem dX1_at_22 : decode cX1_at 22 = .ok (.ireturn, 1) := by decide +kernel
theorem dX1_placeOf_0 : decode cX1_placeOf 0 = .ok (.iconst 0, 1) := by decide +kernel
theorem dX1_placeOf_1 : decode cX1_placeOf 1 = .ok (.istore_n 2, 1) := by decide +kernel
theorem dX1_placeOf_2 : decode cX1_placeOf 2 = .ok (.iload_n 2, 1) := by decide +kernel
theorem dX1_placeOf_3 : decode cX1_placeOf 3 = .ok (.aload_n 0, 1) := by decide +kernel
theorem dX1_placeOf_4 : decode cX1_placeOf 4 = .ok (.getfield 15, 3) := by decide +kernel
theorem dX1_placeOf_7 : decode cX1_placeOf 7 = .ok (.if_icmp .ge 21, 3) := by decide +kernel
theorem dX1_placeOf_10 : decode cX1_placeOf 10 = .ok (.aload_n 0, 1) := by decide +kernel
theorem dX1_placeOf_11 : decode cX1_placeOf 11 = .ok (.getfield 9, 3) := by decide +kernel
theorem dX1_placeOf_14 : decode cX1_placeOf 14 = .ok (.iload_n 2, 1) := by decide +kernel
theorem dX1_placeOf_15 : decode cX1_placeOf 15 = .ok (.iaload, 1) := by decide +kernel
theorem dX1_placeOf_16 : decode cX1_placeOf 16 = .ok (.iload_n 1, 1) := by decide +kernel
theorem dX1_placeOf_17 : decode cX1_placeOf 17 = .ok (.if_icmp .ne 5, 3) := by decide +kernel
theorem dX1_placeOf_20 : decode cX1_placeOf 20 = .ok (.iload_n 2, 1) := by decide +kernel
theorem dX1_placeOf_21 : decode cX1_placeOf 21 = .ok (.ireturn, 1) := by decide +kernel
theorem dX1_placeOf_22 : decode cX1_placeOf 22 = .ok (.iinc 2 1, 3) := by decide +kernel
theorem dX1_placeOf_25 : decode cX1_placeOf 25 = .ok (.goto (-23), 3) := by decide +kernel
theorem dX1_placeOf_28 : decode cX1_placeOf 28 = .ok (.iconst (-1), 1) := by decide +kernel
theorem dX1_placeOf_29 : decode cX1_placeOf 29 = .ok (.ireturn, 1) := by decide +kernel
theorem dX1_add_0 : decode cX1_add 0 = .ok (.aload_n 0, 1) := by decide +kernel
theorem dX1_add_1 : decode cX1_add 1 = .ok (.getfield 15, 3) := by decide +kernel
theorem dX1_add_4 : decode cX1_add 4 = .ok (.aload_n 0, 1) := by decide +kernel
theorem dX1_add_5 : decode cX1_add 5 = .ok (.getfield 9, 3) := by decide +kernel
theorem dX1_add_8 : decode cX1_add 8 = .ok (.arraylength, 1) := by decide +kernel
theorem dX1_add_9 : decode cX1_add 9 = .ok (.if_icmp .ge 23, 3) := by decide +kernel
theorem dX1_add_12 : decode cX1_add 12 = .ok (.aload_n 0, 1) := by decide +kernel
theorem dX1_add_13 : decode cX1_add 13 = .ok (.getfield 9, 3) := by decide +kernel
theorem dX1_add_16 : decode cX1_add 16 = .ok (.aload_n 0, 1) := by decide +kernel
theorem dX1_add_17 : decode cX1_add 17 = .ok (.getfield 15, 3) := by decide +kernel
theorem dX1_add_20 : decode cX1_add 20 = .ok (.iload_n 1, 1) := by decide +kernel
theorem dX1_add_21 : decode cX1_add 21 = .ok (.iastore, 1) := by decide +kernel
theorem dX1_add_22 : decode cX1_add 22 = .ok (.aload_n 0, 1) := by decide +kernel
theorem dX1_add_23 : decode cX1_add 23 = .ok (.dup, 1) := by decide +kernel
theorem dX1_add_24 : decode cX1_add 24 = .ok (.getfield 15, 3) := by decide +kernel
theorem dX1_add_27 : decode cX1_add 27 = .ok (.iconst 1, 1) := by decide +kernel
theorem dX1_add_28 : decode cX1_add 28 = .ok (.iadd, 1) := by decide +kernel
theorem dX1_add_29 : decode cX1_add 29 = .ok (.putfield 15, 3) := by decide +kernel
theorem dX1_add_32 : decode cX1_add 32 = .ok (.return_, 1) := by decide +kernel
theorem dX1_remove_0 : decode cX1_remove 0 = .ok (.aload_n 0, 1) := by decide +kernel
theorem dX1_remove_1 : decode cX1_remove 1 = .ok (.iload_n 1, 1) := by decide +kernel
theorem dX1_remove_2 : decode cX1_remove 2 = .ok (.invokevirtual 19, 3) := by decide +kernel
theorem dX1_remove_5 : decode cX1_remove 5 = .ok (.istore_n 2, 1) := by decide +kernel
theorem dX1_remove_6 : decode cX1_remove 6 = .ok (.iload_n 2, 1) := by decide +kernel
theorem dX1_remove_7 : decode cX1_remove 7 = .ok (.iconst (-1), 1) := by decide +kernel
theorem dX1_remove_8 : decode cX1_remove 8 = .ok (.if_icmp .eq 45, 3) := by decide +kernel
theorem dX1_remove_11 : decode cX1_remove 11 = .ok (.iload_n 2, 1) := by decide +kernel
theorem dX1_remove_12 : decode cX1_remove 12 = .ok (.iconst 1, 1) := by decide +kernel
theorem dX1_remove_13 : decode cX1_remove 13 = .ok (.iadd, 1) := by decide +kernel
theorem dX1_remove_14 : decode cX1_remove 14 = .ok (.istore_n 3, 1) := by decide +kernel
theorem dX1_remove_15 : decode cX1_remove 15 = .ok (.iload_n 3, 1) := by decide +kernel
theorem dX1_remove_16 : decode cX1_remove 16 = .ok (.aload_n 0, 1) := by decide +kernel
theorem dX1_remove_17 : decode cX1_remove 17 = .ok (.getfield 15, 3) := by decide +kernel
theorem dX1_remove_20 : decode cX1_remove 20 = .ok (.if_icmp .ge 23, 3) := by decide +kernel
theorem dX1_remove_23 : decode cX1_remove 23 = .ok (.aload_n 0, 1) := by decide +kernel
theorem dX1_remove_24 : decode cX1_remove 24 = .ok (.getfield 9, 3) := by decide +kernel
theorem dX1_remove_27 : decode cX1_remove 27 = .ok (.iload_n 3, 1) := by decide +kernel
theorem dX1_remove_28 : decode cX1_remove 28 = .ok (.iconst 1, 1) := by decide +kernel
theorem dX1_remove_29 : decode cX1_remove 29 = .ok (.isub, 1) := by decide +kernel
theorem dX1_remove_30 : decode cX1_remove 30 = .ok (.aload_n 0, 1) := by decide +kernel
theorem dX1_remove_31 : decode cX1_remove 31 = .ok (.getfield 9, 3) := by decide +kernel
theorem dX1_remove_34 : decode cX1_remove 34 = .ok (.iload_n 3, 1) := by decide +kernel
theorem dX1_remove_35 : decode cX1_remove 35 = .ok (.iaload, 1) := by decide +kernel
theorem dX1_remove_36 : decode cX1_remove 36 = .ok (.iastore, 1) := by decide +kernel
theorem dX1_remove_37 : decode cX1_remove 37 = .ok (.iinc 3 1, 3) := by decide +kernel
theorem dX1_remove_40 : decode cX1_remove 40 = .ok (.goto (-25), 3) := by decide +kernel
theorem dX1_remove_43 : decode cX1_remove 43 = .ok (.aload_n 0, 1) := by decide +kernel
theorem dX1_remove_44 : decode cX1_remove 44 = .ok (.dup, 1) := by decide +kernel
theorem dX1_remove_45 : decode cX1_remove 45 = .ok (.getfield 15, 3) := by decide +kernel
theorem dX1_remove_48 : decode cX1_remove 48 = .ok (.iconst 1, 1) := by decide +kernel
theorem dX1_remove_49 : decode cX1_remove 49 = .ok (.isub, 1) := by decide +kernel
theorem dX1_remove_50 : decode cX1_remove 50 = .ok (.putfield 15, 3) := by decide +kernel
theorem dX1_remove_53 : decode cX1_remove 53 = .ok (.return_, 1) := by decide +kernel
theorem dX2_init_0 : decode cX2_init 0 = .ok (.aload_n 0, 1) := by decide +kernel
theorem dX2_init_1 : decode cX2_init 1 = .ok (.invokespecial 3, 3) := by decide +kernel
theorem dX2_init_4 : decode cX2_init 4 = .ok (.aload_n 0, 1) := by decide +kernel
theorem dX2_init_5 : decode cX2_init 5 = .ok (.iload_n 1, 1) := by decide +kernel
theorem dX2_init_6 : decode cX2_init 6 = .ok (.putfield 9, 3) := by decide +kernel
theorem dX2_init_9 : decode cX2_init 9 = .ok (.aload_n 0, 1) := by decide +kernel
theorem dX2_init_10 : decode cX2_init 10 = .ok (.new 15, 3) := by decide +kernel
theorem dX2_init_13 : decode cX2_init 13 = .ok (.dup, 1) := by decide +kernel
theorem dX2_init_14 : decode cX2_init 14 = .ok (.bipush 6, 2) := by decide +kernel
theorem dX2_init_16 : decode cX2_init 16 = .ok (.newarray .int, 2) := by decide +kernel
theorem dX2_init_18 : decode cX2_init 18 = .ok (.invokespecial 17, 3) := by decide +kernel
theorem dX2_init_21 : decode cX2_init 21 = .ok (.putfield 20, 3) := by decide +kernel
theorem dX2_init_24 : decode cX2_init 24 = .ok (.aload_n 0, 1) := by decide +kernel
theorem dX2_init_25 : decode cX2_init 25 = .ok (.iconst (-1), 1) := by decide +kernel
theorem dX2_init_26 : decode cX2_init 26 = .ok (.putfield 24, 3) := by decide +kernel
theorem dX2_init_29 : decode cX2_init 29 = .ok (.aload_n 0, 1) := by decide +kernel
theorem dX2_init_30 : decode cX2_init 30 = .ok (.iconst (-1), 1) := by decide +kernel
theorem dX2_init_31 : decode cX2_init 31 = .ok (.putfield 27, 3) := by decide +kernel
theorem dX2_init_34 : decode cX2_init 34 = .ok (.aload_n 0, 1) := by decide +kernel
theorem dX2_init_35 : decode cX2_init 35 = .ok (.iconst (-1), 1) := by decide +kernel
theorem dX2_init_36 : decode cX2_init 36 = .ok (.putfield 30, 3) := by decide +kernel
theorem dX2_init_39 : decode cX2_init 39 = .ok (.aload_n 0, 1) := by decide +kernel
theorem dX2_init_40 : decode cX2_init 40 = .ok (.iconst (-1), 1) := by decide +kernel
theorem dX2_init_41 : decode cX2_init 41 = .ok (.putfield 33, 3) := by decide +kernel
theorem dX2_init_44 : decode cX2_init 44 = .ok (.return_, 1) := by decide +kernel
theorem dX3_init_0 : decode cX3_init 0 = .ok (.aload_n 0, 1) := by decide +kernel
theorem dX3_init_1 : decode cX3_init 1 = .ok (.invokespecial 1, 3) := by decide +kernel
theorem dX3_init_4 : decode cX3_init 4 = .ok (.aload_n 0, 1) := by decide +kernel
theorem dX3_init_5 : decode cX3_init 5 = .ok (.bipush 20, 2) := by decide +kernel
theorem dX3_init_7 : decode cX3_init 7 = .ok (.anewarray 9, 3) := by decide +kernel
theorem dX3_init_10 : decode cX3_init 10 = .ok (.putfield 11, 3) := by decide +kernel
theorem dX3_init_13 : decode cX3_init 13 = .ok (.iconst 0, 1) := by decide +kernel
theorem dX3_init_14 : decode cX3_init 14 = .ok (.istore_n 1, 1) := by decide +kernel
theorem dX3_init_15 : decode cX3_init 15 = .ok (.iload_n 1, 1) := by decide +kernel
theorem dX3_init_16 : decode cX3_init 16 = .ok (.aload_n 0, 1) := by decide +kernel
theorem dX3_init_17 : decode cX3_init 17 = .ok (.getfield 11, 3) := by decide +kernel
theorem dX3_init_20 : decode cX3_init 20 = .ok (.arraylength, 1) := by decide +kernel
theorem dX3_init_21 : decode cX3_init 21 = .ok (.if_icmp .ge 23, 3) := by decide +kernel
theorem dX3_init_24 : decode cX3_init 24 = .ok (.aload_n 0, 1) := by decide +kernel
theorem dX3_init_25 : decode cX3_init 25 = .ok (.getfield 11, 3) := by decide +kernel
theorem dX3_init_28 : decode cX3_init 28 = .ok (.iload_n 1, 1) := by decide +kernel
theorem dX3_init_29 : decode cX3_init 29 = .ok (.new 9, 3) := by decide +kernel
theorem dX3_init_32 : decode cX3_init 32 = .ok (.dup, 1) := by decide +kernel
theorem dX3_init_33 : decode cX3_init 33 = .ok (.iload_n 1, 1) := by decide +kernel
theorem dX3_init_34 : decode cX3_init 34 = .ok (.invokespecial 15, 3) := by decide +kernel
theorem dX3_init_37 : decode cX3_init 37 = .ok (.aastore, 1) := by decide +kernel
theorem dX3_init_38 : decode cX3_init 38 = .ok (.iinc 1 1, 3) := by decide +kernel
theorem dX3_init_41 : decode cX3_init 41 = .ok (.goto (-26), 3) := by decide +kernel
theorem dX3_init_44 : decode cX3_init 44 = .ok (.aload_n 0, 1) := by decide +kernel
theorem dX3_init_45 : decode cX3_init 45 = .ok (.bipush 16, 2) := by decide +kernel
theorem dX3_init_47 : decode cX3_init 47 = .ok (.anewarray 18, 3) := by decide +kernel
theorem dX3_init_50 : decode cX3_init 50 = .ok (.putfield 20, 3) := by decide +kernel
theorem dX3_init_53 : decode cX3_init 53 = .ok (.iconst 0, 1) := by decide +kernel
theorem dX3_init_54 : decode cX3_init 54 = .ok (.istore_n 1, 1) := by decide +kernel
theorem dX3_init_55 : decode cX3_init 55 = .ok (.iload_n 1, 1) := by decide +kernel
theorem dX3_init_56 : decode cX3_init 56 = .ok (.aload_n 0, 1) := by decide +kernel
theorem dX3_init_57 : decode cX3_init 57 = .ok (.getfield 20, 3) := by decide +kernel
theorem dX3_init_60 : decode cX3_init 60 = .ok (.arraylength, 1) := by decide +kernel
theorem dX3_init_61 : decode cX3_init 61 = .ok (.if_icmp .ge 23, 3) := by decide +kernel
theorem dX3_init_64 : decode cX3_init 64 = .ok (.aload_n 0, 1) := by decide +kernel
theorem dX3_init_65 : decode cX3_init 65 = .ok (.getfield 20, 3) := by decide +kernel
theorem dX3_init_68 : decode cX3_init 68 = .ok (.iload_n 1, 1) := by decide +kernel
theorem dX3_init_69 : decode cX3_init 69 = .ok (.new 18, 3) := by decide +kernel
theorem dX3_init_72 : decode cX3_init 72 = .ok (.dup, 1) := by decide +kernel
theorem dX3_init_73 : decode cX3_init 73 = .ok (.iload_n 1, 1) := by decide +kernel
theorem dX3_init_74 : decode cX3_init 74 = .ok (.invokespecial 24, 3) := by decide +kernel
theorem dX3_init_77 : decode cX3_init 77 = .ok (.aastore, 1) := by decide +kernel
theorem dX3_init_78 : decode cX3_init 78 = .ok (.iinc 1 1, 3) := by decide +kernel
theorem dX3_init_81 : decode cX3_init 81 = .ok (.goto (-26), 3) := by decide +kernel
theorem dX3_init_84 : decode cX3_init 84 = .ok (.aload_n 0, 1) := by decide +kernel
theorem dX3_init_85 : decode cX3_init 85 = .ok (.iconst 0, 1) := by decide +kernel
theorem dX3_init_86 : decode cX3_init 86 = .ok (.putfield 25, 3) := by decide +kernel
theorem dX3_init_89 : decode cX3_init 89 = .ok (.aload_n 0, 1) := by decide +kernel
theorem dX3_init_90 : decode cX3_init 90 = .ok (.iconst 0, 1) := by decide +kernel
theorem dX3_init_91 : decode cX3_init 91 = .ok (.putfield 29, 3) := by decide +kernel
theorem dX3_init_94 : decode cX3_init 94 = .ok (.aload_n 0, 1) := by decide +kernel
theorem dX3_init_95 : decode cX3_init 95 = .ok (.iconst 0, 1) := by decide +kernel
theorem dX3_init_96 : decode cX3_init 96 = .ok (.putfield 32, 3) := by decide +kernel
theorem dX3_init_99 : decode cX3_init 99 = .ok (.aload_n 0, 1) := by decide +kernel
theorem dX3_init_100 : decode cX3_init 100 = .ok (.bipush 16, 2) := by decide +kernel
theorem dX3_init_102 : decode cX3_init 102 = .ok (.newarray .int, 2) := by decide +kernel
theorem dX3_init_104 : decode cX3_init 104 = .ok (.putfield 35, 3) := by decide +kernel
theorem dX3_init_107 : decode cX3_init 107 = .ok (.return_, 1) := by decide +kernel
theorem dX3_addCourse_0 : decode cX3_addCourse 0 = .ok (.iload_n 1, 1) := by decide +kernel
theorem dX3_addCourse_1 : decode cX3_addCourse 1 = .ok (.iconst 0, 1) := by decide +kernel
theorem dX3_addCourse_2 : decode cX3_addCourse 2 = .ok (.bipush 16, 2) := by decide +kernel
theorem dX3_addCourse_4 : decode cX3_addCourse 4 = .ok (.invokestatic 39, 3) := by decide +kernel
theorem dX3_addCourse_7 : decode cX3_addCourse 7 = .ok (.ifCond .ne 23, 3) := by decide +kernel
theorem dX3_addCourse_10 : decode cX3_addCourse 10 = .ok (.iload_n 2, 1) := by decide +kernel
theorem dX3_addCourse_11 : decode cX3_addCourse 11 = .ok (.iconst 1, 1) := by decide +kernel
theorem dX3_addCourse_12 : decode cX3_addCourse 12 = .ok (.bipush 12, 2) := by decide +kernel
theorem dX3_addCourse_14 : decode cX3_addCourse 14 = .ok (.invokestatic 39, 3) := by decide +kernel
theorem dX3_addCourse_17 : decode cX3_addCourse 17 = .ok (.ifCond .ne 13, 3) := by decide +kernel
theorem dX3_addCourse_20 : decode cX3_addCourse 20 = .ok (.iload_n 3, 1) := by decide +kernel
theorem dX3_addCourse_21 : decode cX3_addCourse 21 = .ok (.iconst 0, 1) := by decide +kernel
theorem dX3_addCourse_22 : decode cX3_addCourse 22 = .ok (.ldc 43, 2) := by decide +kernel
theorem dX3_addCourse_24 : decode cX3_addCourse 24 = .ok (.invokestatic 39, 3) := by decide +kernel
theorem dX3_addCourse_27 : decode cX3_addCourse 27 = .ok (.ifCond .eq 13, 3) := by decide +kernel
theorem dX3_addCourse_30 : decode cX3_addCourse 30 = .ok (.new 44, 3) := by decide +kernel
theorem dX3_addCourse_33 : decode cX3_addCourse 33 = .ok (.dup, 1) := by decide +kernel
theorem dX3_addCourse_34 : decode cX3_addCourse 34 = .ok (.ldc 46, 2) := by decide +kernel
theorem dX3_addCourse_36 : decode cX3_addCourse 36 = .ok (.invokespecial 48, 3) := by decide +kernel
theorem dX3_addCourse_39 : decode cX3_addCourse 39 = .ok (.athrow, 1) := by decide +kernel
theorem dX3_addCourse_40 : decode cX3_addCourse 40 = .ok (.aload_n 0, 1) := by decide +kernel
theorem dX3_addCourse_41 : decode cX3_addCourse 41 = .ok (.getfield 25, 3) := by decide +kernel
theorem dX3_addCourse_44 : decode cX3_addCourse 44 = .ok (.aload_n 0, 1) := by decide +kernel
theorem dX3_addCourse_45 : decode cX3_addCourse 45 = .ok (.getfield 11, 3) := by decide +kernel
theorem dX3_addCourse_48 : decode cX3_addCourse 48 = .ok (.arraylength, 1) := by decide +kernel
theorem dX3_addCourse_49 : decode cX3_addCourse 49 = .ok (.if_icmp .lt 13, 3) := by decide +kernel
theorem dX3_addCourse_52 : decode cX3_addCourse 52 = .ok (.new 51, 3) := by decide +kernel
theorem dX3_addCourse_55 : decode cX3_addCourse 55 = .ok (.dup, 1) := by decide +kernel
theorem dX3_addCourse_56 : decode cX3_addCourse 56 = .ok (.ldc 53, 2) := by decide +kernel
theorem dX3_addCourse_58 : decode cX3_addCourse 58 = .ok (.invokespecial 55, 3) := by decide +kernel
theorem dX3_addCourse_61 : decode cX3_addCourse 61 = .ok (.athrow, 1) := by decide +kernel
theorem dX3_addCourse_62 : decode cX3_addCourse 62 = .ok (.aload_n 0, 1) := by decide +kernel
theorem dX3_addCourse_63 : decode cX3_addCourse 63 = .ok (.getfield 11, 3) := by decide +kernel
theorem dX3_addCourse_66 : decode cX3_addCourse 66 = .ok (.aload_n 0, 1) := by decide +kernel
theorem dX3_addCourse_67 : decode cX3_addCourse 67 = .ok (.getfield 25, 3) := by decide +kernel
theorem dX3_addCourse_70 : decode cX3_addCourse 70 = .ok (.aaload, 1) := by decide +kernel
theorem dX3_addCourse_71 : decode cX3_addCourse 71 = .ok (.astore 4, 2) := by decide +kernel
theorem dX3_addCourse_73 : decode cX3_addCourse 73 = .ok (.aload 4, 2) := by decide +kernel
theorem dX3_addCourse_75 : decode cX3_addCourse 75 = .ok (.iload_n 1, 1) := by decide +kernel
theorem dX3_addCourse_76 : decode cX3_addCourse 76 = .ok (.putfield 56, 3) := by decide +kernel
theorem dX3_addCourse_79 : decode cX3_addCourse 79 = .ok (.aload 4, 2) := by decide +kernel
theorem dX3_addCourse_81 : decode cX3_addCourse 81 = .ok (.iload_n 2, 1) := by decide +kernel
theorem dX3_addCourse_82 : decode cX3_addCourse 82 = .ok (.putfield 59, 3) := by decide +kernel
theorem dX3_addCourse_85 : decode cX3_addCourse 85 = .ok (.aload 4, 2) := by decide +kernel
theorem dX3_addCourse_87 : decode cX3_addCourse 87 = .ok (.iload_n 3, 1) := by decide +kernel
theorem dX3_addCourse_88 : decode cX3_addCourse 88 = .ok (.putfield 62, 3) := by decide +kernel
theorem dX3_addCourse_91 : decode cX3_addCourse 91 = .ok (.aload_n 0, 1) := by decide +kernel
theorem dX3_addCourse_92 : decode cX3_addCourse 92 = .ok (.dup, 1) := by decide +kernel
theorem dX3_addCourse_93 : decode cX3_addCourse 93 = .ok (.getfield 25, 3) := by decide +kernel
theorem dX3_addCourse_96 : decode cX3_addCourse 96 = .ok (.iconst 1, 1) := by decide +kernel
theorem dX3_addCourse_97 : decode cX3_addCourse 97 = .ok (.iadd, 1) := by decide +kernel
theorem dX3_addCourse_98 : decode cX3_addCourse 98 = .ok (.putfield 25, 3) := by decide +kernel
theorem dX3_addCourse_101 : decode cX3_addCourse 101 = .ok (.aload 4, 2) := by decide +kernel
theorem dX3_addCourse_103 : decode cX3_addCourse 103 = .ok (.getfield 65, 3) := by decide +kernel
theorem dX3_addCourse_106 : decode cX3_addCourse 106 = .ok (.ireturn, 1) := by decide +kernel
theorem dX3_setSeats_0 : decode cX3_setSeats 0 = .ok (.aload_n 0, 1) := by decide +kernel
theorem dX3_setSeats_1 : decode cX3_setSeats 1 = .ok (.iload_n 1, 1) := by decide +kernel
theorem dX3_setSeats_2 : decode cX3_setSeats 2 = .ok (.invokevirtual 68, 3) := by decide +kernel
theorem dX3_setSeats_5 : decode cX3_setSeats 5 = .ok (.astore_n 3, 1) := by decide +kernel
theorem dX3_setSeats_6 : decode cX3_setSeats 6 = .ok (.iload_n 2, 1) := by decide +kernel
theorem dX3_setSeats_7 : decode cX3_setSeats 7 = .ok (.iconst 0, 1) := by decide +kernel
theorem dX3_setSeats_8 : decode cX3_setSeats 8 = .ok (.bipush 16, 2) := by decide +kernel
theorem dX3_setSeats_10 : decode cX3_setSeats 10 = .ok (.invokestatic 39, 3) := by decide +kernel
theorem dX3_setSeats_13 : decode cX3_setSeats 13 = .ok (.ifCond .eq 13, 3) := by decide +kernel
theorem dX3_setSeats_16 : decode cX3_setSeats 16 = .ok (.new 44, 3) := by decide +kernel
theorem dX3_setSeats_19 : decode cX3_setSeats 19 = .ok (.dup, 1) := by decide +kernel
theorem dX3_setSeats_20 : decode cX3_setSeats 20 = .ok (.ldc 72, 2) := by decide +kernel
theorem dX3_setSeats_22 : decode cX3_setSeats 22 = .ok (.invokespecial 48, 3) := by decide +kernel
theorem dX3_setSeats_25 : decode cX3_setSeats 25 = .ok (.athrow, 1) := by decide +kernel
theorem dX3_setSeats_26 : decode cX3_setSeats 26 = .ok (.iload_n 2, 1) := by decide +kernel
theorem dX3_setSeats_27 : decode cX3_setSeats 27 = .ok (.aload_n 0, 1) := by decide +kernel
theorem dX3_setSeats_28 : decode cX3_setSeats 28 = .ok (.aload_n 3, 1) := by decide +kernel
theorem dX3_setSeats_29 : decode cX3_setSeats 29 = .ok (.invokevirtual 74, 3) := by decide +kernel
theorem dX3_setSeats_32 : decode cX3_setSeats 32 = .ok (.if_icmp .ge 13, 3) := by decide +kernel
theorem dX3_setSeats_35 : decode cX3_setSeats 35 = .ok (.new 51, 3) := by decide +kernel
theorem dX3_setSeats_38 : decode cX3_setSeats 38 = .ok (.dup, 1) := by decide +kernel
theorem dX3_setSeats_39 : decode cX3_setSeats 39 = .ok (.ldc 78, 2) := by decide +kernel
theorem dX3_setSeats_41 : decode cX3_setSeats 41 = .ok (.invokespecial 55, 3) := by decide +kernel
theorem dX3_setSeats_44 : decode cX3_setSeats 44 = .ok (.athrow, 1) := by decide +kernel
theorem dX3_setSeats_45 : decode cX3_setSeats 45 = .ok (.aload_n 3, 1) := by decide +kernel
theorem dX3_setSeats_46 : decode cX3_setSeats 46 = .ok (.getfield 56, 3) := by decide +kernel
theorem dX3_setSeats_49 : decode cX3_setSeats 49 = .ok (.istore 4, 2) := by decide +kernel
theorem dX3_setSeats_51 : decode cX3_setSeats 51 = .ok (.aload_n 3, 1) := by decide +kernel
theorem dX3_setSeats_52 : decode cX3_setSeats 52 = .ok (.iload_n 2, 1) := by decide +kernel
theorem dX3_setSeats_53 : decode cX3_setSeats 53 = .ok (.putfield 56, 3) := by decide +kernel
theorem dX3_setSeats_56 : decode cX3_setSeats 56 = .ok (.aload_n 0, 1) := by decide +kernel
theorem dX3_setSeats_57 : decode cX3_setSeats 57 = .ok (.invokevirtual 80, 3) := by decide +kernel
theorem dX3_setSeats_60 : decode cX3_setSeats 60 = .ok (.iload 4, 2) := by decide +kernel
theorem dX3_setSeats_62 : decode cX3_setSeats 62 = .ok (.ireturn, 1) := by decide +kernel
theorem dX3_addPrerequisite_0 : decode cX3_addPrerequisite 0 = .ok (.aload_n 0, 1) := by decide +kernel
theorem dX3_addPrerequisite_1 : decode cX3_addPrerequisite 1 = .ok (.iload_n 1, 1) := by decide +kernel
theorem dX3_addPrerequisite_2 : decode cX3_addPrerequisite 2 = .ok (.invokevirtual 68, 3) := by decide +kernel
theorem dX3_addPrerequisite_5 : decode cX3_addPrerequisite 5 = .ok (.astore_n 3, 1) := by decide +kernel
theorem dX3_addPrerequisite_6 : decode cX3_addPrerequisite 6 = .ok (.aload_n 0, 1) := by decide +kernel
theorem dX3_addPrerequisite_7 : decode cX3_addPrerequisite 7 = .ok (.iload_n 2, 1) := by decide +kernel
theorem dX3_addPrerequisite_8 : decode cX3_addPrerequisite 8 = .ok (.invokevirtual 68, 3) := by decide +kernel
theorem dX3_addPrerequisite_11 : decode cX3_addPrerequisite 11 = .ok (.astore 4, 2) := by decide +kernel
theorem dX3_addPrerequisite_13 : decode cX3_addPrerequisite 13 = .ok (.iload_n 1, 1) := by decide +kernel
theorem dX3_addPrerequisite_14 : decode cX3_addPrerequisite 14 = .ok (.iload_n 2, 1) := by decide +kernel
theorem dX3_addPrerequisite_15 : decode cX3_addPrerequisite 15 = .ok (.if_icmp .eq 26, 3) := by decide +kernel
theorem dX3_addPrerequisite_18 : decode cX3_addPrerequisite 18 = .ok (.aload_n 3, 1) := by decide +kernel
theorem dX3_addPrerequisite_19 : decode cX3_addPrerequisite 19 = .ok (.getfield 83, 3) := by decide +kernel
theorem dX3_addPrerequisite_22 : decode cX3_addPrerequisite 22 = .ok (.iload_n 2, 1) := by decide +kernel
theorem dX3_addPrerequisite_23 : decode cX3_addPrerequisite 23 = .ok (.invokestatic 86, 3) := by decide +kernel
theorem dX3_addPrerequisite_26 : decode cX3_addPrerequisite 26 = .ok (.ifCond .ne 15, 3) := by decide +kernel
theorem dX3_addPrerequisite_29 : decode cX3_addPrerequisite 29 = .ok (.aload 4, 2) := by decide +kernel
theorem dX3_addPrerequisite_31 : decode cX3_addPrerequisite 31 = .ok (.getfield 90, 3) := by decide +kernel
theorem dX3_addPrerequisite_34 : decode cX3_addPrerequisite 34 = .ok (.iload_n 1, 1) := by decide +kernel
theorem dX3_addPrerequisite_35 : decode cX3_addPrerequisite 35 = .ok (.invokestatic 86, 3) := by decide +kernel
theorem dX3_addPrerequisite_38 : decode cX3_addPrerequisite 38 = .ok (.ifCond .eq 13, 3) := by decide +kernel
theorem dX3_addPrerequisite_41 : decode cX3_addPrerequisite 41 = .ok (.new 51, 3) := by decide +kernel
theorem dX3_addPrerequisite_44 : decode cX3_addPrerequisite 44 = .ok (.dup, 1) := by decide +kernel
theorem dX3_addPrerequisite_45 : decode cX3_addPrerequisite 45 = .ok (.ldc 93, 2) := by decide +kernel
theorem dX3_addPrerequisite_47 : decode cX3_addPrerequisite 47 = .ok (.invokespecial 55, 3) := by decide +kernel
theorem dX3_addPrerequisite_50 : decode cX3_addPrerequisite 50 = .ok (.athrow, 1) := by decide +kernel
theorem dX3_addPrerequisite_51 : decode cX3_addPrerequisite 51 = .ok (.aload_n 3, 1) := by decide +kernel
theorem dX3_addPrerequisite_52 : decode cX3_addPrerequisite 52 = .ok (.dup, 1) := by decide +kernel
theorem dX3_addPrerequisite_53 : decode cX3_addPrerequisite 53 = .ok (.getfield 83, 3) := by decide +kernel
theorem dX3_addPrerequisite_56 : decode cX3_addPrerequisite 56 = .ok (.iload_n 2, 1) := by decide +kernel
theorem dX3_addPrerequisite_57 : decode cX3_addPrerequisite 57 = .ok (.invokestatic 95, 3) := by decide +kernel
theorem dX3_addPrerequisite_60 : decode cX3_addPrerequisite 60 = .ok (.ior, 1) := by decide +kernel
theorem dX3_addPrerequisite_61 : decode cX3_addPrerequisite 61 = .ok (.putfield 83, 3) := by decide +kernel
theorem dX3_addPrerequisite_64 : decode cX3_addPrerequisite 64 = .ok (.aload_n 0, 1) := by decide +kernel
theorem dX3_addPrerequisite_65 : decode cX3_addPrerequisite 65 = .ok (.aload_n 3, 1) := by decide +kernel
theorem dX3_addPrerequisite_66 : decode cX3_addPrerequisite 66 = .ok (.aload 4, 2) := by decide +kernel
theorem dX3_addPrerequisite_68 : decode cX3_addPrerequisite 68 = .ok (.getfield 90, 3) := by decide +kernel
theorem dX3_addPrerequisite_71 : decode cX3_addPrerequisite 71 = .ok (.iload_n 2, 1) := by decide +kernel
theorem dX3_addPrerequisite_72 : decode cX3_addPrerequisite 72 = .ok (.invokestatic 95, 3) := by decide +kernel
theorem dX3_addPrerequisite_75 : decode cX3_addPrerequisite 75 = .ok (.ior, 1) := by decide +kernel
theorem dX3_addPrerequisite_76 : decode cX3_addPrerequisite 76 = .ok (.invokevirtual 99, 3) := by decide +kernel
theorem dX3_addPrerequisite_79 : decode cX3_addPrerequisite 79 = .ok (.aload_n 3, 1) := by decide +kernel
theorem dX3_addPrerequisite_80 : decode cX3_addPrerequisite 80 = .ok (.getfield 90, 3) := by decide +kernel
theorem dX3_addPrerequisite_83 : decode cX3_addPrerequisite 83 = .ok (.invokestatic 103, 3) := by decide +kernel
theorem dX3_addPrerequisite_86 : decode cX3_addPrerequisite 86 = .ok (.ireturn, 1) := by decide +kernel
theorem dX3_requires_0 : decode cX3_requires 0 = .ok (.aload_n 0, 1) := by decide +kernel
theorem dX3_requires_1 : decode cX3_requires 1 = .ok (.iload_n 1, 1) := by decide +kernel
theorem dX3_requires_2 : decode cX3_requires 2 = .ok (.invokevirtual 68, 3) := by decide +kernel
theorem dX3_requires_5 : decode cX3_requires 5 = .ok (.astore_n 3, 1) := by decide +kernel
theorem dX3_requires_6 : decode cX3_requires 6 = .ok (.aload_n 0, 1) := by decide +kernel
theorem dX3_requires_7 : decode cX3_requires 7 = .ok (.iload_n 2, 1) := by decide +kernel
theorem dX3_requires_8 : decode cX3_requires 8 = .ok (.invokevirtual 68, 3) := by decide +kernel
theorem dX3_requires_11 : decode cX3_requires 11 = .ok (.astore 4, 2) := by decide +kernel
theorem dX3_requires_13 : decode cX3_requires 13 = .ok (.aload_n 3, 1) := by decide +kernel
theorem dX3_requires_14 : decode cX3_requires 14 = .ok (.getfield 90, 3) := by decide +kernel
theorem dX3_requires_17 : decode cX3_requires 17 = .ok (.aload 4, 2) := by decide +kernel
theorem dX3_requires_19 : decode cX3_requires 19 = .ok (.getfield 65, 3) := by decide +kernel
theorem dX3_requires_22 : decode cX3_requires 22 = .ok (.invokestatic 86, 3) := by decide +kernel
theorem dX3_requires_25 : decode cX3_requires 25 = .ok (.ireturn, 1) := by decide +kernel
theorem dX3_level_0 : decode cX3_level 0 = .ok (.aload_n 0, 1) := by decide +kernel
theorem dX3_level_1 : decode cX3_level 1 = .ok (.aload_n 0, 1) := by decide +kernel
theorem dX3_level_2 : decode cX3_level 2 = .ok (.iload_n 1, 1) := by decide +kernel
theorem dX3_level_3 : decode cX3_level 3 = .ok (.invokevirtual 68, 3) := by decide +kernel
theorem dX3_level_6 : decode cX3_level 6 = .ok (.invokevirtual 108, 3) := by decide +kernel
theorem dX3_level_9 : decode cX3_level 9 = .ok (.ireturn, 1) := by decide +kernel
theorem dX3_courses_0 : decode cX3_courses 0 = .ok (.aload_n 0, 1) := by decide +kernel
theorem dX3_courses_1 : decode cX3_courses 1 = .ok (.getfield 25, 3) := by decide +kernel
theorem dX3_courses_4 : decode cX3_courses 4 = .ok (.ireturn, 1) := by decide +kernel
theorem dX3_enrolled_0 : decode cX3_enrolled 0 = .ok (.aload_n 0, 1) := by decide +kernel
theorem dX3_enrolled_1 : decode cX3_enrolled 1 = .ok (.aload_n 0, 1) := by decide +kernel
theorem dX3_enrolled_2 : decode cX3_enrolled 2 = .ok (.iload_n 1, 1) := by decide +kernel
theorem dX3_enrolled_3 : decode cX3_enrolled 3 = .ok (.invokevirtual 68, 3) := by decide +kernel
theorem dX3_enrolled_6 : decode cX3_enrolled 6 = .ok (.invokevirtual 111, 3) := by decide +kernel
theorem dX3_enrolled_9 : decode cX3_enrolled 9 = .ok (.ireturn, 1) := by decide +kernel
theorem dX3_freeSeats_0 : decode cX3_freeSeats 0 = .ok (.aload_n 0, 1) := by decide +kernel
theorem dX3_freeSeats_1 : decode cX3_freeSeats 1 = .ok (.aload_n 0, 1) := by decide +kernel
theorem dX3_freeSeats_2 : decode cX3_freeSeats 2 = .ok (.iload_n 1, 1) := by decide +kernel
theorem dX3_freeSeats_3 : decode cX3_freeSeats 3 = .ok (.invokevirtual 68, 3) := by decide +kernel
theorem dX3_freeSeats_6 : decode cX3_freeSeats 6 = .ok (.invokevirtual 114, 3) := by decide +kernel
theorem dX3_freeSeats_9 : decode cX3_freeSeats 9 = .ok (.ireturn, 1) := by decide +kernel
theorem dX3_addStudent_0 : decode cX3_addStudent 0 = .ok (.iload_n 1, 1) := by decide +kernel
theorem dX3_addStudent_1 : decode cX3_addStudent 1 = .ok (.iconst 0, 1) := by decide +kernel
theorem dX3_addStudent_2 : decode cX3_addStudent 2 = .ok (.iconst 3, 1) := by decide +kernel
theorem dX3_addStudent_3 : decode cX3_addStudent 3 = .ok (.invokestatic 39, 3) := by decide +kernel
theorem dX3_addStudent_6 : decode cX3_addStudent 6 = .ok (.ifCond .ne 13, 3) := by decide +kernel
theorem dX3_addStudent_9 : decode cX3_addStudent 9 = .ok (.iload_n 2, 1) := by decide +kernel
theorem dX3_addStudent_10 : decode cX3_addStudent 10 = .ok (.iconst 1, 1) := by decide +kernel
theorem dX3_addStudent_11 : decode cX3_addStudent 11 = .ok (.bipush 40, 2) := by decide +kernel
theorem dX3_addStudent_13 : decode cX3_addStudent 13 = .ok (.invokestatic 39, 3) := by decide +kernel
theorem dX3_addStudent_16 : decode cX3_addStudent 16 = .ok (.ifCond .eq 13, 3) := by decide +kernel
theorem dX3_addStudent_19 : decode cX3_addStudent 19 = .ok (.new 44, 3) := by decide +kernel
theorem dX3_addStudent_22 : decode cX3_addStudent 22 = .ok (.dup, 1) := by decide +kernel
theorem dX3_addStudent_23 : decode cX3_addStudent 23 = .ok (.ldc 117, 2) := by decide +kernel
theorem dX3_addStudent_25 : decode cX3_addStudent 25 = .ok (.invokespecial 48, 3) := by decide +kernel
theorem dX3_addStudent_28 : decode cX3_addStudent 28 = .ok (.athrow, 1) := by decide +kernel
theorem dX3_addStudent_29 : decode cX3_addStudent 29 = .ok (.aload_n 0, 1) := by decide +kernel
theorem dX3_addStudent_30 : decode cX3_addStudent 30 = .ok (.getfield 29, 3) := by decide +kernel
theorem dX3_addStudent_33 : decode cX3_addStudent 33 = .ok (.aload_n 0, 1) := by decide +kernel
theorem dX3_addStudent_34 : decode cX3_addStudent 34 = .ok (.getfield 20, 3) := by decide +kernel
theorem dX3_addStudent_37 : decode cX3_addStudent 37 = .ok (.arraylength, 1) := by decide +kernel
theorem dX3_addStudent_38 : decode cX3_addStudent 38 = .ok (.if_icmp .lt 13, 3) := by decide +kernel
theorem dX3_addStudent_41 : decode cX3_addStudent 41 = .ok (.new 51, 3) := by decide +kernel
theorem dX3_addStudent_44 : decode cX3_addStudent 44 = .ok (.dup, 1) := by decide +kernel
theorem dX3_addStudent_45 : decode cX3_addStudent 45 = .ok (.ldc 119, 2) := by decide +kernel
theorem dX3_addStudent_47 : decode cX3_addStudent 47 = .ok (.invokespecial 55, 3) := by decide +kernel
theorem dX3_addStudent_50 : decode cX3_addStudent 50 = .ok (.athrow, 1) := by decide +kernel
theorem dX3_addStudent_51 : decode cX3_addStudent 51 = .ok (.aload_n 0, 1) := by decide +kernel
theorem dX3_addStudent_52 : decode cX3_addStudent 52 = .ok (.getfield 20, 3) := by decide +kernel
theorem dX3_addStudent_55 : decode cX3_addStudent 55 = .ok (.aload_n 0, 1) := by decide +kernel
theorem dX3_addStudent_56 : decode cX3_addStudent 56 = .ok (.getfield 29, 3) := by decide +kernel
theorem dX3_addStudent_59 : decode cX3_addStudent 59 = .ok (.aaload, 1) := by decide +kernel
theorem dX3_addStudent_60 : decode cX3_addStudent 60 = .ok (.astore_n 3, 1) := by decide +kernel
theorem dX3_addStudent_61 : decode cX3_addStudent 61 = .ok (.aload_n 3, 1) := by decide +kernel
theorem dX3_addStudent_62 : decode cX3_addStudent 62 = .ok (.iload_n 1, 1) := by decide +kernel
theorem dX3_addStudent_63 : decode cX3_addStudent 63 = .ok (.putfield 121, 3) := by decide +kernel
theorem dX3_addStudent_66 : decode cX3_addStudent 66 = .ok (.aload_n 3, 1) := by decide +kernel
theorem dX3_addStudent_67 : decode cX3_addStudent 67 = .ok (.iload_n 2, 1) := by decide +kernel
theorem dX3_addStudent_68 : decode cX3_addStudent 68 = .ok (.putfield 124, 3) := by decide +kernel
theorem dX3_addStudent_71 : decode cX3_addStudent 71 = .ok (.aload_n 0, 1) := by decide +kernel
theorem dX3_addStudent_72 : decode cX3_addStudent 72 = .ok (.dup, 1) := by decide +kernel
theorem dX3_addStudent_73 : decode cX3_addStudent 73 = .ok (.getfield 29, 3) := by decide +kernel
theorem dX3_addStudent_76 : decode cX3_addStudent 76 = .ok (.iconst 1, 1) := by decide +kernel
theorem dX3_addStudent_77 : decode cX3_addStudent 77 = .ok (.iadd, 1) := by decide +kernel
theorem dX3_addStudent_78 : decode cX3_addStudent 78 = .ok (.putfield 29, 3) := by decide +kernel
theorem dX3_addStudent_81 : decode cX3_addStudent 81 = .ok (.aload_n 3, 1) := by decide +kernel
theorem dX3_addStudent_82 : decode cX3_addStudent 82 = .ok (.getfield 127, 3) := by decide +kernel
theorem dX3_addStudent_85 : decode cX3_addStudent 85 = .ok (.ireturn, 1) := by decide +kernel
theorem dX3_pass_0 : decode cX3_pass 0 = .ok (.aload_n 0, 1) := by decide +kernel
theorem dX3_pass_1 : decode cX3_pass 1 = .ok (.iload_n 1, 1) := by decide +kernel
theorem dX3_pass_2 : decode cX3_pass 2 = .ok (.invokevirtual 128, 3) := by decide +kernel
theorem dX3_pass_5 : decode cX3_pass 5 = .ok (.astore_n 3, 1) := by decide +kernel
theorem dX3_pass_6 : decode cX3_pass 6 = .ok (.aload_n 0, 1) := by decide +kernel
theorem dX3_pass_7 : decode cX3_pass 7 = .ok (.iload_n 2, 1) := by decide +kernel
theorem dX3_pass_8 : decode cX3_pass 8 = .ok (.invokevirtual 68, 3) := by decide +kernel
theorem dX3_pass_11 : decode cX3_pass 11 = .ok (.astore 4, 2) := by decide +kernel
theorem dX3_pass_13 : decode cX3_pass 13 = .ok (.aload_n 3, 1) := by decide +kernel
theorem dX3_pass_14 : decode cX3_pass 14 = .ok (.getfield 132, 3) := by decide +kernel
theorem dX3_pass_17 : decode cX3_pass 17 = .ok (.iload_n 2, 1) := by decide +kernel
theorem dX3_pass_18 : decode cX3_pass 18 = .ok (.invokestatic 86, 3) := by decide +kernel
theorem dX3_pass_21 : decode cX3_pass 21 = .ok (.ifCond .ne 14, 3) := by decide +kernel
theorem dX3_pass_24 : decode cX3_pass 24 = .ok (.aload_n 3, 1) := by decide +kernel
theorem dX3_pass_25 : decode cX3_pass 25 = .ok (.getfield 135, 3) := by decide +kernel
theorem dX3_pass_28 : decode cX3_pass 28 = .ok (.iload_n 2, 1) := by decide +kernel
theorem dX3_pass_29 : decode cX3_pass 29 = .ok (.invokestatic 86, 3) := by decide +kernel
theorem dX3_pass_32 : decode cX3_pass 32 = .ok (.ifCond .eq 13, 3) := by decide +kernel
theorem dX3_pass_35 : decode cX3_pass 35 = .ok (.new 51, 3) := by decide +kernel
theorem dX3_pass_38 : decode cX3_pass 38 = .ok (.dup, 1) := by decide +kernel
theorem dX3_pass_39 : decode cX3_pass 39 = .ok (.ldc 138, 2) := by decide +kernel
theorem dX3_pass_41 : decode cX3_pass 41 = .ok (.invokespecial 55, 3) := by decide +kernel
theorem dX3_pass_44 : decode cX3_pass 44 = .ok (.athrow, 1) := by decide +kernel
theorem dX3_pass_45 : decode cX3_pass 45 = .ok (.aload_n 3, 1) := by decide +kernel
theorem dX3_pass_46 : decode cX3_pass 46 = .ok (.dup, 1) := by decide +kernel
theorem dX3_pass_47 : decode cX3_pass 47 = .ok (.getfield 132, 3) := by decide +kernel
theorem dX3_pass_50 : decode cX3_pass 50 = .ok (.iload_n 2, 1) := by decide +kernel
theorem dX3_pass_51 : decode cX3_pass 51 = .ok (.invokestatic 95, 3) := by decide +kernel
theorem dX3_pass_54 : decode cX3_pass 54 = .ok (.ior, 1) := by decide +kernel
theorem dX3_pass_55 : decode cX3_pass 55 = .ok (.putfield 132, 3) := by decide +kernel
theorem dX3_pass_58 : decode cX3_pass 58 = .ok (.aload_n 3, 1) := by decide +kernel
theorem dX3_pass_59 : decode cX3_pass 59 = .ok (.getfield 140, 3) := by decide +kernel
theorem dX3_pass_62 : decode cX3_pass 62 = .ok (.iload_n 2, 1) := by decide +kernel
theorem dX3_pass_63 : decode cX3_pass 63 = .ok (.invokevirtual 144, 3) := by decide +kernel
theorem dX3_pass_66 : decode cX3_pass 66 = .ok (.aload 4, 2) := by decide +kernel
theorem dX3_pass_68 : decode cX3_pass 68 = .ok (.iload_n 1, 1) := by decide +kernel
theorem dX3_pass_69 : decode cX3_pass 69 = .ok (.invokevirtual 149, 3) := by decide +kernel
theorem dX3_pass_72 : decode cX3_pass 72 = .ok (.aload_n 0, 1) := by decide +kernel
theorem dX3_pass_73 : decode cX3_pass 73 = .ok (.invokevirtual 80, 3) := by decide +kernel
theorem dX3_pass_76 : decode cX3_pass 76 = .ok (.aload_n 3, 1) := by decide +kernel
theorem dX3_pass_77 : decode cX3_pass 77 = .ok (.getfield 132, 3) := by decide +kernel
theorem dX3_pass_80 : decode cX3_pass 80 = .ok (.invokestatic 103, 3) := by decide +kernel
theorem dX3_pass_83 : decode cX3_pass 83 = .ok (.ireturn, 1) := by decide +kernel
theorem dX3_students_0 : decode cX3_students 0 = .ok (.aload_n 0, 1) := by decide +kernel
theorem dX3_students_1 : decode cX3_students 1 = .ok (.getfield 29, 3) := by decide +kernel
theorem dX3_students_4 : decode cX3_students 4 = .ok (.ireturn, 1) := by decide +kernel
theorem dX3_hasPassed_0 : decode cX3_hasPassed 0 = .ok (.aload_n 0, 1) := by decide +kernel
theorem dX3_hasPassed_1 : decode cX3_hasPassed 1 = .ok (.iload_n 1, 1) := by decide +kernel
theorem dX3_hasPassed_2 : decode cX3_hasPassed 2 = .ok (.invokevirtual 128, 3) := by decide +kernel
theorem dX3_hasPassed_5 : decode cX3_hasPassed 5 = .ok (.astore_n 3, 1) := by decide +kernel
theorem dX3_hasPassed_6 : decode cX3_hasPassed 6 = .ok (.aload_n 3, 1) := by decide +kernel
theorem dX3_hasPassed_7 : decode cX3_hasPassed 7 = .ok (.getfield 132, 3) := by decide +kernel
theorem dX3_hasPassed_10 : decode cX3_hasPassed 10 = .ok (.aload_n 0, 1) := by decide +kernel
theorem dX3_hasPassed_11 : decode cX3_hasPassed 11 = .ok (.iload_n 2, 1) := by decide +kernel
theorem dX3_hasPassed_12 : decode cX3_hasPassed 12 = .ok (.invokevirtual 68, 3) := by decide +kernel
theorem dX3_hasPassed_15 : decode cX3_hasPassed 15 = .ok (.getfield 65, 3) := by decide +kernel
theorem dX3_hasPassed_18 : decode cX3_hasPassed 18 = .ok (.invokestatic 86, 3) := by decide +kernel
theorem dX3_hasPassed_21 : decode cX3_hasPassed 21 = .ok (.ireturn, 1) := by decide +kernel
theorem dX3_isEnrolled_0 : decode cX3_isEnrolled 0 = .ok (.aload_n 0, 1) := by decide +kernel
theorem dX3_isEnrolled_1 : decode cX3_isEnrolled 1 = .ok (.iload_n 1, 1) := by decide +kernel
theorem dX3_isEnrolled_2 : decode cX3_isEnrolled 2 = .ok (.invokevirtual 128, 3) := by decide +kernel
theorem dX3_isEnrolled_5 : decode cX3_isEnrolled 5 = .ok (.astore_n 3, 1) := by decide +kernel
theorem dX3_isEnrolled_6 : decode cX3_isEnrolled 6 = .ok (.aload_n 3, 1) := by decide +kernel
theorem dX3_isEnrolled_7 : decode cX3_isEnrolled 7 = .ok (.getfield 135, 3) := by decide +kernel
theorem dX3_isEnrolled_10 : decode cX3_isEnrolled 10 = .ok (.aload_n 0, 1) := by decide +kernel
theorem dX3_isEnrolled_11 : decode cX3_isEnrolled 11 = .ok (.iload_n 2, 1) := by decide +kernel
theorem dX3_isEnrolled_12 : decode cX3_isEnrolled 12 = .ok (.invokevirtual 68, 3) := by decide +kernel
theorem dX3_isEnrolled_15 : decode cX3_isEnrolled 15 = .ok (.getfield 65, 3) := by decide +kernel
theorem dX3_isEnrolled_18 : decode cX3_isEnrolled 18 = .ok (.invokestatic 86, 3) := by decide +kernel
theorem dX3_isEnrolled_21 : decode cX3_isEnrolled 21 = .ok (.ireturn, 1) := by decide +kernel
theorem dX3_credits_0 : decode cX3_credits 0 = .ok (.aload_n 0, 1) := by decide +kernel
theorem dX3_credits_1 : decode cX3_credits 1 = .ok (.aload_n 0, 1) := by decide +kernel
theorem dX3_credits_2 : decode cX3_credits 2 = .ok (.iload_n 1, 1) := by decide +kernel
theorem dX3_credits_3 : decode cX3_credits 3 = .ok (.invokevirtual 128, 3) := by decide +kernel
theorem dX3_credits_6 : decode cX3_credits 6 = .ok (.getfield 135, 3) := by decide +kernel
theorem dX3_credits_9 : decode cX3_credits 9 = .ok (.invokevirtual 152, 3) := by decide +kernel
theorem dX3_credits_12 : decode cX3_credits 12 = .ok (.ireturn, 1) := by decide +kernel
theorem dX3_missing_0 : decode cX3_missing 0 = .ok (.aload_n 0, 1) := by decide +kernel
theorem dX3_missing_1 : decode cX3_missing 1 = .ok (.iload_n 1, 1) := by decide +kernel
theorem dX3_missing_2 : decode cX3_missing 2 = .ok (.invokevirtual 128, 3) := by decide +kernel
theorem dX3_missing_5 : decode cX3_missing 5 = .ok (.astore_n 3, 1) := by decide +kernel
theorem dX3_missing_6 : decode cX3_missing 6 = .ok (.aload_n 0, 1) := by decide +kernel
theorem dX3_missing_7 : decode cX3_missing 7 = .ok (.iload_n 2, 1) := by decide +kernel
theorem dX3_missing_8 : decode cX3_missing 8 = .ok (.invokevirtual 68, 3) := by decide +kernel
theorem dX3_missing_11 : decode cX3_missing 11 = .ok (.getfield 90, 3) := by decide +kernel
theorem dX3_missing_14 : decode cX3_missing 14 = .ok (.aload_n 3, 1) := by decide +kernel
theorem dX3_missing_15 : decode cX3_missing 15 = .ok (.getfield 132, 3) := by decide +kernel
theorem dX3_missing_18 : decode cX3_missing 18 = .ok (.iconst (-1), 1) := by decide +kernel
theorem dX3_missing_19 : decode cX3_missing 19 = .ok (.ixor, 1) := by decide +kernel
theorem dX3_missing_20 : decode cX3_missing 20 = .ok (.iand, 1) := by decide +kernel
theorem dX3_missing_21 : decode cX3_missing 21 = .ok (.invokestatic 103, 3) := by decide +kernel
theorem dX3_missing_24 : decode cX3_missing 24 = .ok (.ireturn, 1) := by decide +kernel
theorem dX3_obstacle_0 : decode cX3_obstacle 0 = .ok (.aload_n 0, 1) := by decide +kernel
theorem dX3_obstacle_1 : decode cX3_obstacle 1 = .ok (.iload_n 1, 1) := by decide +kernel
theorem dX3_obstacle_2 : decode cX3_obstacle 2 = .ok (.invokevirtual 128, 3) := by decide +kernel
theorem dX3_obstacle_5 : decode cX3_obstacle 5 = .ok (.astore_n 3, 1) := by decide +kernel
theorem dX3_obstacle_6 : decode cX3_obstacle 6 = .ok (.aload_n 0, 1) := by decide +kernel
theorem dX3_obstacle_7 : decode cX3_obstacle 7 = .ok (.aload_n 3, 1) := by decide +kernel
theorem dX3_obstacle_8 : decode cX3_obstacle 8 = .ok (.aload_n 0, 1) := by decide +kernel
theorem dX3_obstacle_9 : decode cX3_obstacle 9 = .ok (.iload_n 2, 1) := by decide +kernel
theorem dX3_obstacle_10 : decode cX3_obstacle 10 = .ok (.invokevirtual 68, 3) := by decide +kernel
theorem dX3_obstacle_13 : decode cX3_obstacle 13 = .ok (.aload_n 3, 1) := by decide +kernel
theorem dX3_obstacle_14 : decode cX3_obstacle 14 = .ok (.getfield 135, 3) := by decide +kernel
theorem dX3_obstacle_17 : decode cX3_obstacle 17 = .ok (.invokevirtual 155, 3) := by decide +kernel
theorem dX3_obstacle_20 : decode cX3_obstacle 20 = .ok (.ireturn, 1) := by decide +kernel
theorem dX3_wish_0 : decode cX3_wish 0 = .ok (.aload_n 0, 1) := by decide +kernel
theorem dX3_wish_1 : decode cX3_wish 1 = .ok (.iload_n 1, 1) := by decide +kernel
theorem dX3_wish_2 : decode cX3_wish 2 = .ok (.invokevirtual 128, 3) := by decide +kernel
theorem dX3_wish_5 : decode cX3_wish 5 = .ok (.astore_n 3, 1) := by decide +kernel
theorem dX3_wish_6 : decode cX3_wish 6 = .ok (.aload_n 0, 1) := by decide +kernel
theorem dX3_wish_7 : decode cX3_wish 7 = .ok (.iload_n 2, 1) := by decide +kernel
theorem dX3_wish_8 : decode cX3_wish 8 = .ok (.invokevirtual 68, 3) := by decide +kernel
theorem dX3_wish_11 : decode cX3_wish 11 = .ok (.astore 4, 2) := by decide +kernel
theorem dX3_wish_13 : decode cX3_wish 13 = .ok (.aload_n 3, 1) := by decide +kernel
theorem dX3_wish_14 : decode cX3_wish 14 = .ok (.getfield 132, 3) := by decide +kernel
theorem dX3_wish_17 : decode cX3_wish 17 = .ok (.aload 4, 2) := by decide +kernel
theorem dX3_wish_19 : decode cX3_wish 19 = .ok (.getfield 65, 3) := by decide +kernel
theorem dX3_wish_22 : decode cX3_wish 22 = .ok (.invokestatic 86, 3) := by decide +kernel
theorem dX3_wish_25 : decode cX3_wish 25 = .ok (.ifCond .ne 18, 3) := by decide +kernel
theorem dX3_wish_28 : decode cX3_wish 28 = .ok (.aload_n 3, 1) := by decide +kernel
theorem dX3_wish_29 : decode cX3_wish 29 = .ok (.getfield 135, 3) := by decide +kernel
theorem dX3_wish_32 : decode cX3_wish 32 = .ok (.aload 4, 2) := by decide +kernel
theorem dX3_wish_34 : decode cX3_wish 34 = .ok (.getfield 65, 3) := by decide +kernel
theorem dX3_wish_37 : decode cX3_wish 37 = .ok (.invokestatic 86, 3) := by decide +kernel
theorem dX3_wish_40 : decode cX3_wish 40 = .ok (.ifCond .eq 13, 3) := by decide +kernel
theorem dX3_wish_43 : decode cX3_wish 43 = .ok (.new 51, 3) := by decide +kernel
theorem dX3_wish_46 : decode cX3_wish 46 = .ok (.dup, 1) := by decide +kernel
theorem dX3_wish_47 : decode cX3_wish 47 = .ok (.ldc 159, 2) := by decide +kernel
theorem dX3_wish_49 : decode cX3_wish 49 = .ok (.invokespecial 55, 3) := by decide +kernel
theorem dX3_wish_52 : decode cX3_wish 52 = .ok (.athrow, 1) := by decide +kernel
theorem dX3_wish_53 : decode cX3_wish 53 = .ok (.aload_n 3, 1) := by decide +kernel
theorem dX3_wish_54 : decode cX3_wish 54 = .ok (.getfield 140, 3) := by decide +kernel
theorem dX3_wish_57 : decode cX3_wish 57 = .ok (.iload_n 2, 1) := by decide +kernel
theorem dX3_wish_58 : decode cX3_wish 58 = .ok (.invokevirtual 161, 3) := by decide +kernel
theorem dX3_wish_61 : decode cX3_wish 61 = .ok (.iconst (-1), 1) := by decide +kernel
theorem dX3_wish_62 : decode cX3_wish 62 = .ok (.if_icmp .ne 15, 3) := by decide +kernel
theorem dX3_wish_65 : decode cX3_wish 65 = .ok (.aload_n 3, 1) := by decide +kernel
theorem dX3_wish_66 : decode cX3_wish 66 = .ok (.getfield 140, 3) := by decide +kernel
theorem dX3_wish_69 : decode cX3_wish 69 = .ok (.invokevirtual 164, 3) := by decide +kernel
theorem dX3_wish_72 : decode cX3_wish 72 = .ok (.bipush 6, 2) := by decide +kernel
theorem dX3_wish_74 : decode cX3_wish 74 = .ok (.if_icmp .lt 13, 3) := by decide +kernel
theorem dX3_wish_77 : decode cX3_wish 77 = .ok (.new 51, 3) := by decide +kernel
theorem dX3_wish_80 : decode cX3_wish 80 = .ok (.dup, 1) := by decide +kernel
theorem dX3_wish_81 : decode cX3_wish 81 = .ok (.ldc 168, 2) := by decide +kernel
theorem dX3_wish_83 : decode cX3_wish 83 = .ok (.invokespecial 55, 3) := by decide +kernel
theorem dX3_wish_86 : decode cX3_wish 86 = .ok (.athrow, 1) := by decide +kernel
theorem dX3_wish_87 : decode cX3_wish 87 = .ok (.aload_n 3, 1) := by decide +kernel
theorem dX3_wish_88 : decode cX3_wish 88 = .ok (.getfield 140, 3) := by decide +kernel
theorem dX3_wish_91 : decode cX3_wish 91 = .ok (.iload_n 2, 1) := by decide +kernel
theorem dX3_wish_92 : decode cX3_wish 92 = .ok (.invokevirtual 170, 3) := by decide +kernel
theorem dX3_wish_95 : decode cX3_wish 95 = .ok (.aload_n 3, 1) := by decide +kernel
theorem dX3_wish_96 : decode cX3_wish 96 = .ok (.getfield 140, 3) := by decide +kernel
theorem dX3_wish_99 : decode cX3_wish 99 = .ok (.invokevirtual 164, 3) := by decide +kernel
theorem dX3_wish_102 : decode cX3_wish 102 = .ok (.iconst 1, 1) := by decide +kernel
theorem dX3_wish_103 : decode cX3_wish 103 = .ok (.isub, 1) := by decide +kernel
theorem dX3_wish_104 : decode cX3_wish 104 = .ok (.ireturn, 1) := by decide +kernel
theorem dX3_dropWish_0 : decode cX3_dropWish 0 = .ok (.aload_n 0, 1) := by decide +kernel
theorem dX3_dropWish_1 : decode cX3_dropWish 1 = .ok (.iload_n 1, 1) := by decide +kernel
theorem dX3_dropWish_2 : decode cX3_dropWish 2 = .ok (.invokevirtual 128, 3) := by decide +kernel
theorem dX3_dropWish_5 : decode cX3_dropWish 5 = .ok (.astore_n 3, 1) := by decide +kernel
theorem dX3_dropWish_6 : decode cX3_dropWish 6 = .ok (.aload_n 0, 1) := by decide +kernel
theorem dX3_dropWish_7 : decode cX3_dropWish 7 = .ok (.iload_n 2, 1) := by decide +kernel
theorem dX3_dropWish_8 : decode cX3_dropWish 8 = .ok (.invokevirtual 68, 3) := by decide +kernel
theorem dX3_dropWish_11 : decode cX3_dropWish 11 = .ok (.astore 4, 2) := by decide +kernel
theorem dX3_dropWish_13 : decode cX3_dropWish 13 = .ok (.aload_n 3, 1) := by decide +kernel
theorem dX3_dropWish_14 : decode cX3_dropWish 14 = .ok (.getfield 140, 3) := by decide +kernel
theorem dX3_dropWish_17 : decode cX3_dropWish 17 = .ok (.aload 4, 2) := by decide +kernel
theorem dX3_dropWish_19 : decode cX3_dropWish 19 = .ok (.getfield 65, 3) := by decide +kernel
theorem dX3_dropWish_22 : decode cX3_dropWish 22 = .ok (.invokevirtual 161, 3) := by decide +kernel
theorem dX3_dropWish_25 : decode cX3_dropWish 25 = .ok (.iconst (-1), 1) := by decide +kernel
theorem dX3_dropWish_26 : decode cX3_dropWish 26 = .ok (.if_icmp .ne 13, 3) := by decide +kernel
theorem dX3_dropWish_29 : decode cX3_dropWish 29 = .ok (.new 51, 3) := by decide +kernel
theorem dX3_dropWish_32 : decode cX3_dropWish 32 = .ok (.dup, 1) := by decide +kernel
theorem dX3_dropWish_33 : decode cX3_dropWish 33 = .ok (.ldc 173, 2) := by decide +kernel
theorem dX3_dropWish_35 : decode cX3_dropWish 35 = .ok (.invokespecial 55, 3) := by decide +kernel
theorem dX3_dropWish_38 : decode cX3_dropWish 38 = .ok (.athrow, 1) := by decide +kernel
theorem dX3_dropWish_39 : decode cX3_dropWish 39 = .ok (.aload_n 3, 1) := by decide +kernel
theorem dX3_dropWish_40 : decode cX3_dropWish 40 = .ok (.getfield 140, 3) := by decide +kernel
theorem dX3_dropWish_43 : decode cX3_dropWish 43 = .ok (.iload_n 2, 1) := by decide +kernel
theorem dX3_dropWish_44 : decode cX3_dropWish 44 = .ok (.invokevirtual 144, 3) := by decide +kernel
theorem dX3_dropWish_47 : decode cX3_dropWish 47 = .ok (.aload_n 3, 1) := by decide +kernel
theorem dX3_dropWish_48 : decode cX3_dropWish 48 = .ok (.getfield 140, 3) := by decide +kernel
theorem dX3_dropWish_51 : decode cX3_dropWish 51 = .ok (.invokevirtual 164, 3) := by decide +kernel
theorem dX3_dropWish_54 : decode cX3_dropWish 54 = .ok (.ireturn, 1) := by decide +kernel
theorem dX3_wishes_0 : decode cX3_wishes 0 = .ok (.aload_n 0, 1) := by decide +kernel
theorem dX3_wishes_1 : decode cX3_wishes 1 = .ok (.iload_n 1, 1) := by decide +kernel
theorem dX3_wishes_2 : decode cX3_wishes 2 = .ok (.invokevirtual 128, 3) := by decide +kernel
theorem dX3_wishes_5 : decode cX3_wishes 5 = .ok (.getfield 140, 3) := by decide +kernel
theorem dX3_wishes_8 : decode cX3_wishes 8 = .ok (.invokevirtual 164, 3) := by decide +kernel
theorem dX3_wishes_11 : decode cX3_wishes 11 = .ok (.ireturn, 1) := by decide +kernel
theorem dX3_wishAt_0 : decode cX3_wishAt 0 = .ok (.aload_n 0, 1) := by decide +kernel
theorem dX3_wishAt_1 : decode cX3_wishAt 1 = .ok (.iload_n 1, 1) := by decide +kernel
theorem dX3_wishAt_2 : decode cX3_wishAt 2 = .ok (.invokevirtual 128, 3) := by decide +kernel
theorem dX3_wishAt_5 : decode cX3_wishAt 5 = .ok (.getfield 140, 3) := by decide +kernel
theorem dX3_wishAt_8 : decode cX3_wishAt 8 = .ok (.iload_n 2, 1) := by decide +kernel
theorem dX3_wishAt_9 : decode cX3_wishAt 9 = .ok (.invokestatic 175, 3) := by decide +kernel
theorem dX3_wishAt_12 : decode cX3_wishAt 12 = .ok (.ireturn, 1) := by decide +kernel
theorem dX3_request_0 : decode cX3_request 0 = .ok (.aload_n 0, 1) := by decide +kernel
theorem dX3_request_1 : decode cX3_request 1 = .ok (.iload_n 1, 1) := by decide +kernel
theorem dX3_request_2 : decode cX3_request 2 = .ok (.invokevirtual 128, 3) := by decide +kernel
theorem dX3_request_5 : decode cX3_request 5 = .ok (.astore_n 3, 1) := by decide +kernel
theorem dX3_request_6 : decode cX3_request 6 = .ok (.aload_n 0, 1) := by decide +kernel
theorem dX3_request_7 : decode cX3_request 7 = .ok (.iload_n 2, 1) := by decide +kernel
theorem dX3_request_8 : decode cX3_request 8 = .ok (.invokevirtual 68, 3) := by decide +kernel
theorem dX3_request_11 : decode cX3_request 11 = .ok (.astore 4, 2) := by decide +kernel
theorem dX3_request_13 : decode cX3_request 13 = .ok (.aload 4, 2) := by decide +kernel
theorem dX3_request_15 : decode cX3_request 15 = .ok (.getfield 179, 3) := by decide +kernel
theorem dX3_request_18 : decode cX3_request 18 = .ok (.iload_n 1, 1) := by decide +kernel
theorem dX3_request_19 : decode cX3_request 19 = .ok (.invokevirtual 161, 3) := by decide +kernel
theorem dX3_request_22 : decode cX3_request 22 = .ok (.iconst (-1), 1) := by decide +kernel
theorem dX3_request_23 : decode cX3_request 23 = .ok (.if_icmp .eq 13, 3) := by decide +kernel
theorem dX3_request_26 : decode cX3_request 26 = .ok (.new 51, 3) := by decide +kernel
theorem dX3_request_29 : decode cX3_request 29 = .ok (.dup, 1) := by decide +kernel
theorem dX3_request_30 : decode cX3_request 30 = .ok (.ldc 182, 2) := by decide +kernel
theorem dX3_request_32 : decode cX3_request 32 = .ok (.invokespecial 55, 3) := by decide +kernel
theorem dX3_request_35 : decode cX3_request 35 = .ok (.athrow, 1) := by decide +kernel
theorem dX3_request_36 : decode cX3_request 36 = .ok (.aload_n 0, 1) := by decide +kernel
theorem dX3_request_37 : decode cX3_request 37 = .ok (.aload_n 3, 1) := by decide +kernel
theorem dX3_request_38 : decode cX3_request 38 = .ok (.aload 4, 2) := by decide +kernel
theorem dX3_request_40 : decode cX3_request 40 = .ok (.aload_n 3, 1) := by decide +kernel
theorem dX3_request_41 : decode cX3_request 41 = .ok (.getfield 135, 3) := by decide +kernel
theorem dX3_request_44 : decode cX3_request 44 = .ok (.invokevirtual 155, 3) := by decide +kernel
theorem dX3_request_47 : decode cX3_request 47 = .ok (.ifCond .eq 13, 3) := by decide +kernel
theorem dX3_request_50 : decode cX3_request 50 = .ok (.new 51, 3) := by decide +kernel
theorem dX3_request_53 : decode cX3_request 53 = .ok (.dup, 1) := by decide +kernel
theorem dX3_request_54 : decode cX3_request 54 = .ok (.ldc 184, 2) := by decide +kernel
theorem dX3_request_56 : decode cX3_request 56 = .ok (.invokespecial 55, 3) := by decide +kernel
theorem dX3_request_59 : decode cX3_request 59 = .ok (.athrow, 1) := by decide +kernel
theorem dX3_request_60 : decode cX3_request 60 = .ok (.iconst 0, 1) := by decide +kernel
theorem dX3_request_61 : decode cX3_request 61 = .ok (.istore 5, 2) := by decide +kernel
theorem dX3_request_63 : decode cX3_request 63 = .ok (.aload_n 0, 1) := by decide +kernel
theorem dX3_request_64 : decode cX3_request 64 = .ok (.aload 4, 2) := by decide +kernel
theorem dX3_request_66 : decode cX3_request 66 = .ok (.invokevirtual 114, 3) := by decide +kernel
theorem dX3_request_69 : decode cX3_request 69 = .ok (.ifCond .le 13, 3) := by decide +kernel
theorem dX3_request_72 : decode cX3_request 72 = .ok (.aload_n 0, 1) := by decide +kernel
theorem dX3_request_73 : decode cX3_request 73 = .ok (.aload_n 3, 1) := by decide +kernel
theorem dX3_request_74 : decode cX3_request 74 = .ok (.aload 4, 2) := by decide +kernel
theorem dX3_request_76 : decode cX3_request 76 = .ok (.invokevirtual 186, 3) := by decide +kernel
theorem dX3_request_79 : decode cX3_request 79 = .ok (.goto 22, 3) := by decide +kernel
theorem dX3_request_82 : decode cX3_request 82 = .ok (.aload 4, 2) := by decide +kernel
theorem dX3_request_84 : decode cX3_request 84 = .ok (.getfield 179, 3) := by decide +kernel
theorem dX3_request_87 : decode cX3_request 87 = .ok (.iload_n 1, 1) := by decide +kernel
theorem dX3_request_88 : decode cX3_request 88 = .ok (.invokevirtual 170, 3) := by decide +kernel
theorem dX3_request_91 : decode cX3_request 91 = .ok (.aload 4, 2) := by decide +kernel
theorem dX3_request_93 : decode cX3_request 93 = .ok (.getfield 179, 3) := by decide +kernel
theorem dX3_request_96 : decode cX3_request 96 = .ok (.invokevirtual 164, 3) := by decide +kernel
theorem dX3_request_99 : decode cX3_request 99 = .ok (.istore 5, 2) := by decide +kernel
theorem dX3_request_101 : decode cX3_request 101 = .ok (.aload_n 0, 1) := by decide +kernel
theorem dX3_request_102 : decode cX3_request 102 = .ok (.invokevirtual 80, 3) := by decide +kernel
theorem dX3_request_105 : decode cX3_request 105 = .ok (.iload 5, 2) := by decide +kernel
theorem dX3_request_107 : decode cX3_request 107 = .ok (.ireturn, 1) := by decide +kernel
theorem dX3_drop_0 : decode cX3_drop 0 = .ok (.aload_n 0, 1) := by decide +kernel
theorem dX3_drop_1 : decode cX3_drop 1 = .ok (.iload_n 1, 1) := by decide +kernel
theorem dX3_drop_2 : decode cX3_drop 2 = .ok (.invokevirtual 128, 3) := by decide +kernel
theorem dX3_drop_5 : decode cX3_drop 5 = .ok (.astore_n 3, 1) := by decide +kernel
theorem dX3_drop_6 : decode cX3_drop 6 = .ok (.aload_n 0, 1) := by decide +kernel
theorem dX3_drop_7 : decode cX3_drop 7 = .ok (.iload_n 2, 1) := by decide +kernel
theorem dX3_drop_8 : decode cX3_drop 8 = .ok (.invokevirtual 68, 3) := by decide +kernel
theorem dX3_drop_11 : decode cX3_drop 11 = .ok (.astore 4, 2) := by decide +kernel
theorem dX3_drop_13 : decode cX3_drop 13 = .ok (.aload_n 3, 1) := by decide +kernel
theorem dX3_drop_14 : decode cX3_drop 14 = .ok (.getfield 135, 3) := by decide +kernel
theorem dX3_drop_17 : decode cX3_drop 17 = .ok (.iload_n 2, 1) := by decide +kernel
theorem dX3_drop_18 : decode cX3_drop 18 = .ok (.invokestatic 86, 3) := by decide +kernel
theorem dX3_drop_21 : decode cX3_drop 21 = .ok (.ifCond .ne 13, 3) := by decide +kernel
theorem dX3_drop_24 : decode cX3_drop 24 = .ok (.new 51, 3) := by decide +kernel
theorem dX3_drop_27 : decode cX3_drop 27 = .ok (.dup, 1) := by decide +kernel
theorem dX3_drop_28 : decode cX3_drop 28 = .ok (.ldc 190, 2) := by decide +kernel
theorem dX3_drop_30 : decode cX3_drop 30 = .ok (.invokespecial 55, 3) := by decide +kernel
theorem dX3_drop_33 : decode cX3_drop 33 = .ok (.athrow, 1) := by decide +kernel
theorem dX3_drop_34 : decode cX3_drop 34 = .ok (.aload_n 0, 1) := by decide +kernel
theorem dX3_drop_35 : decode cX3_drop 35 = .ok (.aload_n 3, 1) := by decide +kernel
theorem dX3_drop_36 : decode cX3_drop 36 = .ok (.aload 4, 2) := by decide +kernel
theorem dX3_drop_38 : decode cX3_drop 38 = .ok (.invokevirtual 192, 3) := by decide +kernel
theorem dX3_drop_41 : decode cX3_drop 41 = .ok (.aload_n 0, 1) := by decide +kernel
theorem dX3_drop_42 : decode cX3_drop 42 = .ok (.invokevirtual 80, 3) := by decide +kernel
theorem dX3_drop_45 : decode cX3_drop 45 = .ok (.aload_n 0, 1) := by decide +kernel
theorem dX3_drop_46 : decode cX3_drop 46 = .ok (.aload_n 3, 1) := by decide +kernel
theorem dX3_drop_47 : decode cX3_drop 47 = .ok (.getfield 135, 3) := by decide +kernel
theorem dX3_drop_50 : decode cX3_drop 50 = .ok (.invokevirtual 152, 3) := by decide +kernel
theorem dX3_drop_53 : decode cX3_drop 53 = .ok (.ireturn, 1) := by decide +kernel
theorem dX3_change_0 : decode cX3_change 0 = .ok (.aload_n 0, 1) := by decide +kernel
theorem dX3_change_1 : decode cX3_change 1 = .ok (.iload_n 1, 1) := by decide +kernel
theorem dX3_change_2 : decode cX3_change 2 = .ok (.invokevirtual 128, 3) := by decide +kernel
theorem dX3_change_5 : decode cX3_change 5 = .ok (.astore 4, 2) := by decide +kernel
theorem dX3_change_7 : decode cX3_change 7 = .ok (.aload_n 0, 1) := by decide +kernel
theorem dX3_change_8 : decode cX3_change 8 = .ok (.iload_n 2, 1) := by decide +kernel
theorem dX3_change_9 : decode cX3_change 9 = .ok (.invokevirtual 68, 3) := by decide +kernel
theorem dX3_change_12 : decode cX3_change 12 = .ok (.astore 5, 2) := by decide +kernel
theorem dX3_change_14 : decode cX3_change 14 = .ok (.aload_n 0, 1) := by decide +kernel
theorem dX3_change_15 : decode cX3_change 15 = .ok (.iload_n 3, 1) := by decide +kernel
theorem dX3_change_16 : decode cX3_change 16 = .ok (.invokevirtual 68, 3) := by decide +kernel
theorem dX3_change_19 : decode cX3_change 19 = .ok (.astore 6, 2) := by decide +kernel
theorem dX3_change_21 : decode cX3_change 21 = .ok (.aload 4, 2) := by decide +kernel
theorem dX3_change_23 : decode cX3_change 23 = .ok (.getfield 135, 3) := by decide +kernel
theorem dX3_change_26 : decode cX3_change 26 = .ok (.iload_n 2, 1) := by decide +kernel
theorem dX3_change_27 : decode cX3_change 27 = .ok (.invokestatic 86, 3) := by decide +kernel
theorem dX3_change_30 : decode cX3_change 30 = .ok (.ifCond .eq 8, 3) := by decide +kernel
theorem dX3_change_33 : decode cX3_change 33 = .ok (.iload_n 2, 1) := by decide +kernel
theorem dX3_change_34 : decode cX3_change 34 = .ok (.iload_n 3, 1) := by decide +kernel
theorem dX3_change_35 : decode cX3_change 35 = .ok (.if_icmp .ne 13, 3) := by decide +kernel
theorem dX3_change_38 : decode cX3_change 38 = .ok (.new 51, 3) := by decide +kernel
theorem dX3_change_41 : decode cX3_change 41 = .ok (.dup, 1) := by decide +kernel
theorem dX3_change_42 : decode cX3_change 42 = .ok (.ldc 195, 2) := by decide +kernel
theorem dX3_change_44 : decode cX3_change 44 = .ok (.invokespecial 55, 3) := by decide +kernel
theorem dX3_change_47 : decode cX3_change 47 = .ok (.athrow, 1) := by decide +kernel
theorem dX3_change_48 : decode cX3_change 48 = .ok (.aload_n 0, 1) := by decide +kernel
theorem dX3_change_49 : decode cX3_change 49 = .ok (.aload 4, 2) := by decide +kernel
theorem dX3_change_51 : decode cX3_change 51 = .ok (.aload 6, 2) := by decide +kernel
theorem dX3_change_53 : decode cX3_change 53 = .ok (.aload 4, 2) := by decide +kernel
theorem dX3_change_55 : decode cX3_change 55 = .ok (.getfield 135, 3) := by decide +kernel
theorem dX3_change_58 : decode cX3_change 58 = .ok (.iload_n 2, 1) := by decide +kernel
theorem dX3_change_59 : decode cX3_change 59 = .ok (.invokestatic 95, 3) := by decide +kernel
theorem dX3_change_62 : decode cX3_change 62 = .ok (.iconst (-1), 1) := by decide +kernel
theorem dX3_change_63 : decode cX3_change 63 = .ok (.ixor, 1) := by decide +kernel
theorem dX3_change_64 : decode cX3_change 64 = .ok (.iand, 1) := by decide +kernel
theorem dX3_change_65 : decode cX3_change 65 = .ok (.invokevirtual 155, 3) := by decide +kernel
theorem dX3_change_68 : decode cX3_change 68 = .ok (.ifCond .eq 13, 3) := by decide +kernel
theorem dX3_change_71 : decode cX3_change 71 = .ok (.new 51, 3) := by decide +kernel
theorem dX3_change_74 : decode cX3_change 74 = .ok (.dup, 1) := by decide +kernel
theorem dX3_change_75 : decode cX3_change 75 = .ok (.ldc 184, 2) := by decide +kernel
theorem dX3_change_77 : decode cX3_change 77 = .ok (.invokespecial 55, 3) := by decide +kernel
theorem dX3_change_80 : decode cX3_change 80 = .ok (.athrow, 1) := by decide +kernel
theorem dX3_change_81 : decode cX3_change 81 = .ok (.aload_n 0, 1) := by decide +kernel
theorem dX3_change_82 : decode cX3_change 82 = .ok (.aload 6, 2) := by decide +kernel
theorem dX3_change_84 : decode cX3_change 84 = .ok (.invokevirtual 114, 3) := by decide +kernel
theorem dX3_change_87 : decode cX3_change 87 = .ok (.ifCond .gt 13, 3) := by decide +kernel
theorem dX3_change_90 : decode cX3_change 90 = .ok (.new 51, 3) := by decide +kernel
theorem dX3_change_93 : decode cX3_change 93 = .ok (.dup, 1) := by decide +kernel
theorem dX3_change_94 : decode cX3_change 94 = .ok (.ldc 197, 2) := by decide +kernel
theorem dX3_change_96 : decode cX3_change 96 = .ok (.invokespecial 55, 3) := by decide +kernel
theorem dX3_change_99 : decode cX3_change 99 = .ok (.athrow, 1) := by decide +kernel
theorem dX3_change_100 : decode cX3_change 100 = .ok (.aload_n 0, 1) := by decide +kernel
theorem dX3_change_101 : decode cX3_change 101 = .ok (.aload 4, 2) := by decide +kernel
theorem dX3_change_103 : decode cX3_change 103 = .ok (.aload 5, 2) := by decide +kernel
theorem dX3_change_105 : decode cX3_change 105 = .ok (.invokevirtual 192, 3) := by decide +kernel
theorem dX3_change_108 : decode cX3_change 108 = .ok (.aload_n 0, 1) := by decide +kernel
theorem dX3_change_109 : decode cX3_change 109 = .ok (.aload 4, 2) := by decide +kernel
theorem dX3_change_111 : decode cX3_change 111 = .ok (.aload 6, 2) := by decide +kernel
theorem dX3_change_113 : decode cX3_change 113 = .ok (.invokevirtual 186, 3) := by decide +kernel
theorem dX3_change_116 : decode cX3_change 116 = .ok (.aload_n 0, 1) := by decide +kernel
theorem dX3_change_117 : decode cX3_change 117 = .ok (.invokevirtual 80, 3) := by decide +kernel
theorem dX3_change_120 : decode cX3_change 120 = .ok (.aload_n 0, 1) := by decide +kernel
theorem dX3_change_121 : decode cX3_change 121 = .ok (.aload 4, 2) := by decide +kernel
theorem dX3_change_123 : decode cX3_change 123 = .ok (.getfield 135, 3) := by decide +kernel
theorem dX3_change_126 : decode cX3_change 126 = .ok (.invokevirtual 152, 3) := by decide +kernel
theorem dX3_change_129 : decode cX3_change 129 = .ok (.ireturn, 1) := by decide +kernel
theorem dX3_accept_0 : decode cX3_accept 0 = .ok (.aload_n 0, 1) := by decide +kernel
theorem dX3_accept_1 : decode cX3_accept 1 = .ok (.iload_n 1, 1) := by decide +kernel
theorem dX3_accept_2 : decode cX3_accept 2 = .ok (.invokevirtual 128, 3) := by decide +kernel
theorem dX3_accept_5 : decode cX3_accept 5 = .ok (.astore_n 3, 1) := by decide +kernel
theorem dX3_accept_6 : decode cX3_accept 6 = .ok (.aload_n 0, 1) := by decide +kernel
theorem dX3_accept_7 : decode cX3_accept 7 = .ok (.iload_n 2, 1) := by decide +kernel
theorem dX3_accept_8 : decode cX3_accept 8 = .ok (.invokevirtual 68, 3) := by decide +kernel
theorem dX3_accept_11 : decode cX3_accept 11 = .ok (.astore 4, 2) := by decide +kernel
theorem dX3_accept_13 : decode cX3_accept 13 = .ok (.aload 4, 2) := by decide +kernel
theorem dX3_accept_15 : decode cX3_accept 15 = .ok (.iload_n 1, 1) := by decide +kernel
theorem dX3_accept_16 : decode cX3_accept 16 = .ok (.invokevirtual 199, 3) := by decide +kernel
theorem dX3_accept_19 : decode cX3_accept 19 = .ok (.ifCond .ne 13, 3) := by decide +kernel
theorem dX3_accept_22 : decode cX3_accept 22 = .ok (.new 51, 3) := by decide +kernel
theorem dX3_accept_25 : decode cX3_accept 25 = .ok (.dup, 1) := by decide +kernel
theorem dX3_accept_26 : decode cX3_accept 26 = .ok (.ldc 203, 2) := by decide +kernel
theorem dX3_accept_28 : decode cX3_accept 28 = .ok (.invokespecial 55, 3) := by decide +kernel
theorem dX3_accept_31 : decode cX3_accept 31 = .ok (.athrow, 1) := by decide +kernel
theorem dX3_accept_32 : decode cX3_accept 32 = .ok (.aload_n 0, 1) := by decide +kernel
theorem dX3_accept_33 : decode cX3_accept 33 = .ok (.aload_n 3, 1) := by decide +kernel
theorem dX3_accept_34 : decode cX3_accept 34 = .ok (.aload 4, 2) := by decide +kernel
theorem dX3_accept_36 : decode cX3_accept 36 = .ok (.aload_n 3, 1) := by decide +kernel
theorem dX3_accept_37 : decode cX3_accept 37 = .ok (.getfield 135, 3) := by decide +kernel
theorem dX3_accept_40 : decode cX3_accept 40 = .ok (.invokevirtual 155, 3) := by decide +kernel
theorem dX3_accept_43 : decode cX3_accept 43 = .ok (.ifCond .eq 13, 3) := by decide +kernel
theorem dX3_accept_46 : decode cX3_accept 46 = .ok (.new 51, 3) := by decide +kernel
theorem dX3_accept_49 : decode cX3_accept 49 = .ok (.dup, 1) := by decide +kernel
theorem dX3_accept_50 : decode cX3_accept 50 = .ok (.ldc 184, 2) := by decide +kernel
theorem dX3_accept_52 : decode cX3_accept 52 = .ok (.invokespecial 55, 3) := by decide +kernel
theorem dX3_accept_55 : decode cX3_accept 55 = .ok (.athrow, 1) := by decide +kernel
theorem dX3_accept_56 : decode cX3_accept 56 = .ok (.aload_n 0, 1) := by decide +kernel
theorem dX3_accept_57 : decode cX3_accept 57 = .ok (.aload_n 3, 1) := by decide +kernel
theorem dX3_accept_58 : decode cX3_accept 58 = .ok (.aload 4, 2) := by decide +kernel
theorem dX3_accept_60 : decode cX3_accept 60 = .ok (.invokevirtual 186, 3) := by decide +kernel
theorem dX3_accept_63 : decode cX3_accept 63 = .ok (.aload_n 0, 1) := by decide +kernel
theorem dX3_accept_64 : decode cX3_accept 64 = .ok (.invokevirtual 80, 3) := by decide +kernel
theorem dX3_accept_67 : decode cX3_accept 67 = .ok (.aload_n 0, 1) := by decide +kernel
theorem dX3_accept_68 : decode cX3_accept 68 = .ok (.aload_n 3, 1) := by decide +kernel
theorem dX3_accept_69 : decode cX3_accept 69 = .ok (.getfield 135, 3) := by decide +kernel
theorem dX3_accept_72 : decode cX3_accept 72 = .ok (.invokevirtual 152, 3) := by decide +kernel
theorem dX3_accept_75 : decode cX3_accept 75 = .ok (.ireturn, 1) := by decide +kernel
theorem dX3_leave_0 : decode cX3_leave 0 = .ok (.aload_n 0, 1) := by decide +kernel
theorem dX3_leave_1 : decode cX3_leave 1 = .ok (.iload_n 1, 1) := by decide +kernel
theorem dX3_leave_2 : decode cX3_leave 2 = .ok (.invokevirtual 128, 3) := by decide +kernel
theorem dX3_leave_5 : decode cX3_leave 5 = .ok (.astore_n 3, 1) := by decide +kernel
theorem dX3_leave_6 : decode cX3_leave 6 = .ok (.aload_n 0, 1) := by decide +kernel
theorem dX3_leave_7 : decode cX3_leave 7 = .ok (.iload_n 2, 1) := by decide +kernel
theorem dX3_leave_8 : decode cX3_leave 8 = .ok (.invokevirtual 68, 3) := by decide +kernel
theorem dX3_leave_11 : decode cX3_leave 11 = .ok (.astore 4, 2) := by decide +kernel
theorem dX3_leave_13 : decode cX3_leave 13 = .ok (.aload 4, 2) := by decide +kernel
theorem dX3_leave_15 : decode cX3_leave 15 = .ok (.getfield 179, 3) := by decide +kernel
theorem dX3_leave_18 : decode cX3_leave 18 = .ok (.aload_n 3, 1) := by decide +kernel
theorem dX3_leave_19 : decode cX3_leave 19 = .ok (.getfield 127, 3) := by decide +kernel
theorem dX3_leave_22 : decode cX3_leave 22 = .ok (.invokevirtual 161, 3) := by decide +kernel
theorem dX3_leave_25 : decode cX3_leave 25 = .ok (.iconst (-1), 1) := by decide +kernel
theorem dX3_leave_26 : decode cX3_leave 26 = .ok (.if_icmp .ne 13, 3) := by decide +kernel
theorem dX3_leave_29 : decode cX3_leave 29 = .ok (.new 51, 3) := by decide +kernel
theorem dX3_leave_32 : decode cX3_leave 32 = .ok (.dup, 1) := by decide +kernel
theorem dX3_leave_33 : decode cX3_leave 33 = .ok (.ldc 205, 2) := by decide +kernel
theorem dX3_leave_35 : decode cX3_leave 35 = .ok (.invokespecial 55, 3) := by decide +kernel
theorem dX3_leave_38 : decode cX3_leave 38 = .ok (.athrow, 1) := by decide +kernel
theorem dX3_leave_39 : decode cX3_leave 39 = .ok (.aload 4, 2) := by decide +kernel
theorem dX3_leave_41 : decode cX3_leave 41 = .ok (.iload_n 1, 1) := by decide +kernel
theorem dX3_leave_42 : decode cX3_leave 42 = .ok (.invokevirtual 199, 3) := by decide +kernel
theorem dX3_leave_45 : decode cX3_leave 45 = .ok (.istore 5, 2) := by decide +kernel
theorem dX3_leave_47 : decode cX3_leave 47 = .ok (.aload 4, 2) := by decide +kernel
theorem dX3_leave_49 : decode cX3_leave 49 = .ok (.iload_n 1, 1) := by decide +kernel
theorem dX3_leave_50 : decode cX3_leave 50 = .ok (.invokevirtual 149, 3) := by decide +kernel
theorem dX3_leave_53 : decode cX3_leave 53 = .ok (.aload_n 0, 1) := by decide +kernel
theorem dX3_leave_54 : decode cX3_leave 54 = .ok (.invokevirtual 80, 3) := by decide +kernel
theorem dX3_leave_57 : decode cX3_leave 57 = .ok (.iload 5, 2) := by decide +kernel
theorem dX3_leave_59 : decode cX3_leave 59 = .ok (.ireturn, 1) := by decide +kernel
theorem dX3_advance_0 : decode cX3_advance 0 = .ok (.iload_n 1, 1) := by decide +kernel
theorem dX3_advance_1 : decode cX3_advance 1 = .ok (.iconst 1, 1) := by decide +kernel
theorem dX3_advance_2 : decode cX3_advance 2 = .ok (.bipush 7, 2) := by decide +kernel
theorem dX3_advance_4 : decode cX3_advance 4 = .ok (.invokestatic 39, 3) := by decide +kernel
theorem dX3_advance_7 : decode cX3_advance 7 = .ok (.ifCond .eq 13, 3) := by decide +kernel
theorem dX3_advance_10 : decode cX3_advance 10 = .ok (.new 44, 3) := by decide +kernel
theorem dX3_advance_13 : decode cX3_advance 13 = .ok (.dup, 1) := by decide +kernel
theorem dX3_advance_14 : decode cX3_advance 14 = .ok (.ldc 207, 2) := by decide +kernel
theorem dX3_advance_16 : decode cX3_advance 16 = .ok (.invokespecial 48, 3) := by decide +kernel
theorem dX3_advance_19 : decode cX3_advance 19 = .ok (.athrow, 1) := by decide +kernel
theorem dX3_advance_20 : decode cX3_advance 20 = .ok (.iconst 0, 1) := by decide +kernel
theorem dX3_advance_21 : decode cX3_advance 21 = .ok (.istore_n 2, 1) := by decide +kernel
theorem dX3_advance_22 : decode cX3_advance 22 = .ok (.iconst 0, 1) := by decide +kernel
theorem dX3_advance_23 : decode cX3_advance 23 = .ok (.istore_n 3, 1) := by decide +kernel
theorem dX3_advance_24 : decode cX3_advance 24 = .ok (.iload_n 3, 1) := by decide +kernel
theorem dX3_advance_25 : decode cX3_advance 25 = .ok (.iload_n 1, 1) := by decide +kernel
theorem dX3_advance_26 : decode cX3_advance 26 = .ok (.if_icmp .ge 30, 3) := by decide +kernel
theorem dX3_advance_29 : decode cX3_advance 29 = .ok (.aload_n 0, 1) := by decide +kernel
theorem dX3_advance_30 : decode cX3_advance 30 = .ok (.dup, 1) := by decide +kernel
theorem dX3_advance_31 : decode cX3_advance 31 = .ok (.getfield 32, 3) := by decide +kernel
theorem dX3_advance_34 : decode cX3_advance 34 = .ok (.iconst 1, 1) := by decide +kernel
theorem dX3_advance_35 : decode cX3_advance 35 = .ok (.iadd, 1) := by decide +kernel
theorem dX3_advance_36 : decode cX3_advance 36 = .ok (.putfield 32, 3) := by decide +kernel
theorem dX3_advance_39 : decode cX3_advance 39 = .ok (.iload_n 2, 1) := by decide +kernel
theorem dX3_advance_40 : decode cX3_advance 40 = .ok (.aload_n 0, 1) := by decide +kernel
theorem dX3_advance_41 : decode cX3_advance 41 = .ok (.invokevirtual 209, 3) := by decide +kernel
theorem dX3_advance_44 : decode cX3_advance 44 = .ok (.iadd, 1) := by decide +kernel
theorem dX3_advance_45 : decode cX3_advance 45 = .ok (.istore_n 2, 1) := by decide +kernel
theorem dX3_advance_46 : decode cX3_advance 46 = .ok (.aload_n 0, 1) := by decide +kernel
theorem dX3_advance_47 : decode cX3_advance 47 = .ok (.invokevirtual 80, 3) := by decide +kernel
theorem dX3_advance_50 : decode cX3_advance 50 = .ok (.iinc 3 1, 3) := by decide +kernel
theorem dX3_advance_53 : decode cX3_advance 53 = .ok (.goto (-29), 3) := by decide +kernel
theorem dX3_advance_56 : decode cX3_advance 56 = .ok (.iload_n 2, 1) := by decide +kernel
theorem dX3_advance_57 : decode cX3_advance 57 = .ok (.ireturn, 1) := by decide +kernel
theorem dX3_day_0 : decode cX3_day 0 = .ok (.aload_n 0, 1) := by decide +kernel
theorem dX3_day_1 : decode cX3_day 1 = .ok (.getfield 32, 3) := by decide +kernel
theorem dX3_day_4 : decode cX3_day 4 = .ok (.ireturn, 1) := by decide +kernel
theorem dX3_waiting_0 : decode cX3_waiting 0 = .ok (.aload_n 0, 1) := by decide +kernel
theorem dX3_waiting_1 : decode cX3_waiting 1 = .ok (.iload_n 1, 1) := by decide +kernel
theorem dX3_waiting_2 : decode cX3_waiting 2 = .ok (.invokevirtual 68, 3) := by decide +kernel
theorem dX3_waiting_5 : decode cX3_waiting 5 = .ok (.getfield 179, 3) := by decide +kernel
theorem dX3_waiting_8 : decode cX3_waiting 8 = .ok (.invokevirtual 164, 3) := by decide +kernel
theorem dX3_waiting_11 : decode cX3_waiting 11 = .ok (.ireturn, 1) := by decide +kernel
theorem dX3_waitingAt_0 : decode cX3_waitingAt 0 = .ok (.aload_n 0, 1) := by decide +kernel
theorem dX3_waitingAt_1 : decode cX3_waitingAt 1 = .ok (.iload_n 1, 1) := by decide +kernel
theorem dX3_waitingAt_2 : decode cX3_waitingAt 2 = .ok (.invokevirtual 68, 3) := by decide +kernel
theorem dX3_waitingAt_5 : decode cX3_waitingAt 5 = .ok (.getfield 179, 3) := by decide +kernel
theorem dX3_waitingAt_8 : decode cX3_waitingAt 8 = .ok (.iload_n 2, 1) := by decide +kernel
theorem dX3_waitingAt_9 : decode cX3_waitingAt 9 = .ok (.invokestatic 175, 3) := by decide +kernel
theorem dX3_waitingAt_12 : decode cX3_waitingAt 12 = .ok (.ireturn, 1) := by decide +kernel
theorem dX3_offerDays_0 : decode cX3_offerDays 0 = .ok (.aload_n 0, 1) := by decide +kernel
theorem dX3_offerDays_1 : decode cX3_offerDays 1 = .ok (.iload_n 1, 1) := by decide +kernel
theorem dX3_offerDays_2 : decode cX3_offerDays 2 = .ok (.invokevirtual 128, 3) := by decide +kernel
theorem dX3_offerDays_5 : decode cX3_offerDays 5 = .ok (.astore_n 3, 1) := by decide +kernel
theorem dX3_offerDays_6 : decode cX3_offerDays 6 = .ok (.aload_n 0, 1) := by decide +kernel
theorem dX3_offerDays_7 : decode cX3_offerDays 7 = .ok (.iload_n 2, 1) := by decide +kernel
theorem dX3_offerDays_8 : decode cX3_offerDays 8 = .ok (.invokevirtual 68, 3) := by decide +kernel
theorem dX3_offerDays_11 : decode cX3_offerDays 11 = .ok (.astore 4, 2) := by decide +kernel
theorem dX3_offerDays_13 : decode cX3_offerDays 13 = .ok (.aload 4, 2) := by decide +kernel
theorem dX3_offerDays_15 : decode cX3_offerDays 15 = .ok (.aload_n 3, 1) := by decide +kernel
theorem dX3_offerDays_16 : decode cX3_offerDays 16 = .ok (.getfield 127, 3) := by decide +kernel
theorem dX3_offerDays_19 : decode cX3_offerDays 19 = .ok (.invokevirtual 199, 3) := by decide +kernel
theorem dX3_offerDays_22 : decode cX3_offerDays 22 = .ok (.ifCond .eq 16, 3) := by decide +kernel
theorem dX3_offerDays_25 : decode cX3_offerDays 25 = .ok (.aload_n 0, 1) := by decide +kernel
theorem dX3_offerDays_26 : decode cX3_offerDays 26 = .ok (.aload 4, 2) := by decide +kernel
theorem dX3_offerDays_28 : decode cX3_offerDays 28 = .ok (.aload_n 3, 1) := by decide +kernel
theorem dX3_offerDays_29 : decode cX3_offerDays 29 = .ok (.getfield 127, 3) := by decide +kernel
theorem dX3_offerDays_32 : decode cX3_offerDays 32 = .ok (.invokevirtual 212, 3) := by decide +kernel
theorem dX3_offerDays_35 : decode cX3_offerDays 35 = .ok (.goto 4, 3) := by decide +kernel
theorem dX3_offerDays_38 : decode cX3_offerDays 38 = .ok (.iconst 0, 1) := by decide +kernel
theorem dX3_offerDays_39 : decode cX3_offerDays 39 = .ok (.ireturn, 1) := by decide +kernel
theorem dX3_runLottery_0 : decode cX3_runLottery 0 = .ok (.iload_n 1, 1) := by decide +kernel
theorem dX3_runLottery_1 : decode cX3_runLottery 1 = .ok (.ifCond .ge 13, 3) := by decide +kernel
theorem dX3_runLottery_4 : decode cX3_runLottery 4 = .ok (.new 44, 3) := by decide +kernel
theorem dX3_runLottery_7 : decode cX3_runLottery 7 = .ok (.dup, 1) := by decide +kernel
theorem dX3_runLottery_8 : decode cX3_runLottery 8 = .ok (.ldc 216, 2) := by decide +kernel
theorem dX3_runLottery_10 : decode cX3_runLottery 10 = .ok (.invokespecial 48, 3) := by decide +kernel
theorem dX3_runLottery_13 : decode cX3_runLottery 13 = .ok (.athrow, 1) := by decide +kernel
theorem dX3_runLottery_14 : decode cX3_runLottery 14 = .ok (.aload_n 0, 1) := by decide +kernel
theorem dX3_runLottery_15 : decode cX3_runLottery 15 = .ok (.iload_n 1, 1) := by decide +kernel
theorem dX3_runLottery_16 : decode cX3_runLottery 16 = .ok (.invokevirtual 218, 3) := by decide +kernel
theorem dX3_runLottery_19 : decode cX3_runLottery 19 = .ok (.aload_n 0, 1) := by decide +kernel
theorem dX3_runLottery_20 : decode cX3_runLottery 20 = .ok (.invokevirtual 221, 3) := by decide +kernel
theorem dX3_runLottery_23 : decode cX3_runLottery 23 = .ok (.iconst 0, 1) := by decide +kernel
theorem dX3_runLottery_24 : decode cX3_runLottery 24 = .ok (.istore_n 2, 1) := by decide +kernel
theorem dX3_runLottery_25 : decode cX3_runLottery 25 = .ok (.iconst 0, 1) := by decide +kernel
theorem dX3_runLottery_26 : decode cX3_runLottery 26 = .ok (.istore_n 3, 1) := by decide +kernel
theorem dX3_runLottery_27 : decode cX3_runLottery 27 = .ok (.iload_n 3, 1) := by decide +kernel
theorem dX3_runLottery_28 : decode cX3_runLottery 28 = .ok (.aload_n 0, 1) := by decide +kernel
theorem dX3_runLottery_29 : decode cX3_runLottery 29 = .ok (.getfield 29, 3) := by decide +kernel
theorem dX3_runLottery_32 : decode cX3_runLottery 32 = .ok (.if_icmp .ge 32, 3) := by decide +kernel
theorem dX3_runLottery_35 : decode cX3_runLottery 35 = .ok (.aload_n 0, 1) := by decide +kernel
theorem dX3_runLottery_36 : decode cX3_runLottery 36 = .ok (.aload_n 0, 1) := by decide +kernel
theorem dX3_runLottery_37 : decode cX3_runLottery 37 = .ok (.aload_n 0, 1) := by decide +kernel
theorem dX3_runLottery_38 : decode cX3_runLottery 38 = .ok (.getfield 35, 3) := by decide +kernel
theorem dX3_runLottery_41 : decode cX3_runLottery 41 = .ok (.iload_n 3, 1) := by decide +kernel
theorem dX3_runLottery_42 : decode cX3_runLottery 42 = .ok (.iaload, 1) := by decide +kernel
theorem dX3_runLottery_43 : decode cX3_runLottery 43 = .ok (.bipush 16, 2) := by decide +kernel
theorem dX3_runLottery_45 : decode cX3_runLottery 45 = .ok (.irem, 1) := by decide +kernel
theorem dX3_runLottery_46 : decode cX3_runLottery 46 = .ok (.invokevirtual 128, 3) := by decide +kernel
theorem dX3_runLottery_49 : decode cX3_runLottery 49 = .ok (.invokevirtual 224, 3) := by decide +kernel
theorem dX3_runLottery_52 : decode cX3_runLottery 52 = .ok (.ifCond .eq 6, 3) := by decide +kernel
theorem dX3_runLottery_55 : decode cX3_runLottery 55 = .ok (.iinc 2 1, 3) := by decide +kernel
theorem dX3_runLottery_58 : decode cX3_runLottery 58 = .ok (.iinc 3 1, 3) := by decide +kernel
theorem dX3_runLottery_61 : decode cX3_runLottery 61 = .ok (.goto (-34), 3) := by decide +kernel
theorem dX3_runLottery_64 : decode cX3_runLottery 64 = .ok (.aload_n 0, 1) := by decide +kernel
theorem dX3_runLottery_65 : decode cX3_runLottery 65 = .ok (.invokevirtual 80, 3) := by decide +kernel
theorem dX3_runLottery_68 : decode cX3_runLottery 68 = .ok (.iload_n 2, 1) := by decide +kernel
theorem dX3_runLottery_69 : decode cX3_runLottery 69 = .ok (.ireturn, 1) := by decide +kernel
theorem dX3_lotteryNumber_0 : decode cX3_lotteryNumber 0 = .ok (.aload_n 0, 1) := by decide +kernel
theorem dX3_lotteryNumber_1 : decode cX3_lotteryNumber 1 = .ok (.iload_n 1, 1) := by decide +kernel
theorem dX3_lotteryNumber_2 : decode cX3_lotteryNumber 2 = .ok (.invokevirtual 128, 3) := by decide +kernel
theorem dX3_lotteryNumber_5 : decode cX3_lotteryNumber 5 = .ok (.getfield 228, 3) := by decide +kernel
theorem dX3_lotteryNumber_8 : decode cX3_lotteryNumber 8 = .ok (.ireturn, 1) := by decide +kernel
theorem dX3_putUp_0 : decode cX3_putUp 0 = .ok (.aload_n 0, 1) := by decide +kernel
theorem dX3_putUp_1 : decode cX3_putUp 1 = .ok (.iload_n 1, 1) := by decide +kernel
theorem dX3_putUp_2 : decode cX3_putUp 2 = .ok (.invokevirtual 128, 3) := by decide +kernel
theorem dX3_putUp_5 : decode cX3_putUp 5 = .ok (.astore_n 3, 1) := by decide +kernel
theorem dX3_putUp_6 : decode cX3_putUp 6 = .ok (.aload_n 0, 1) := by decide +kernel
theorem dX3_putUp_7 : decode cX3_putUp 7 = .ok (.iload_n 2, 1) := by decide +kernel
theorem dX3_putUp_8 : decode cX3_putUp 8 = .ok (.invokevirtual 68, 3) := by decide +kernel
theorem dX3_putUp_11 : decode cX3_putUp 11 = .ok (.astore 4, 2) := by decide +kernel
theorem dX3_putUp_13 : decode cX3_putUp 13 = .ok (.aload_n 3, 1) := by decide +kernel
theorem dX3_putUp_14 : decode cX3_putUp 14 = .ok (.getfield 135, 3) := by decide +kernel
theorem dX3_putUp_17 : decode cX3_putUp 17 = .ok (.aload 4, 2) := by decide +kernel
theorem dX3_putUp_19 : decode cX3_putUp 19 = .ok (.getfield 65, 3) := by decide +kernel
theorem dX3_putUp_22 : decode cX3_putUp 22 = .ok (.invokestatic 86, 3) := by decide +kernel
theorem dX3_putUp_25 : decode cX3_putUp 25 = .ok (.ifCond .ne 13, 3) := by decide +kernel
theorem dX3_putUp_28 : decode cX3_putUp 28 = .ok (.new 51, 3) := by decide +kernel
theorem dX3_putUp_31 : decode cX3_putUp 31 = .ok (.dup, 1) := by decide +kernel
theorem dX3_putUp_32 : decode cX3_putUp 32 = .ok (.ldc 190, 2) := by decide +kernel
theorem dX3_putUp_34 : decode cX3_putUp 34 = .ok (.invokespecial 55, 3) := by decide +kernel
theorem dX3_putUp_37 : decode cX3_putUp 37 = .ok (.athrow, 1) := by decide +kernel
theorem dX3_putUp_38 : decode cX3_putUp 38 = .ok (.aload_n 3, 1) := by decide +kernel
theorem dX3_putUp_39 : decode cX3_putUp 39 = .ok (.getfield 231, 3) := by decide +kernel
theorem dX3_putUp_42 : decode cX3_putUp 42 = .ok (.istore 5, 2) := by decide +kernel
theorem dX3_putUp_44 : decode cX3_putUp 44 = .ok (.aload_n 3, 1) := by decide +kernel
theorem dX3_putUp_45 : decode cX3_putUp 45 = .ok (.iload_n 2, 1) := by decide +kernel
theorem dX3_putUp_46 : decode cX3_putUp 46 = .ok (.putfield 231, 3) := by decide +kernel
theorem dX3_putUp_49 : decode cX3_putUp 49 = .ok (.iload 5, 2) := by decide +kernel
theorem dX3_putUp_51 : decode cX3_putUp 51 = .ok (.ireturn, 1) := by decide +kernel
theorem dX3_withdraw_0 : decode cX3_withdraw 0 = .ok (.aload_n 0, 1) := by decide +kernel
theorem dX3_withdraw_1 : decode cX3_withdraw 1 = .ok (.iload_n 1, 1) := by decide +kernel
theorem dX3_withdraw_2 : decode cX3_withdraw 2 = .ok (.invokevirtual 128, 3) := by decide +kernel
theorem dX3_withdraw_5 : decode cX3_withdraw 5 = .ok (.astore_n 2, 1) := by decide +kernel
theorem dX3_withdraw_6 : decode cX3_withdraw 6 = .ok (.aload_n 2, 1) := by decide +kernel
theorem dX3_withdraw_7 : decode cX3_withdraw 7 = .ok (.getfield 231, 3) := by decide +kernel
theorem dX3_withdraw_10 : decode cX3_withdraw 10 = .ok (.istore_n 3, 1) := by decide +kernel
theorem dX3_withdraw_11 : decode cX3_withdraw 11 = .ok (.aload_n 2, 1) := by decide +kernel
theorem dX3_withdraw_12 : decode cX3_withdraw 12 = .ok (.iconst (-1), 1) := by decide +kernel
theorem dX3_withdraw_13 : decode cX3_withdraw 13 = .ok (.putfield 231, 3) := by decide +kernel
theorem dX3_withdraw_16 : decode cX3_withdraw 16 = .ok (.iload_n 3, 1) := by decide +kernel
theorem dX3_withdraw_17 : decode cX3_withdraw 17 = .ok (.ireturn, 1) := by decide +kernel
theorem dX3_placeUp_0 : decode cX3_placeUp 0 = .ok (.aload_n 0, 1) := by decide +kernel
theorem dX3_placeUp_1 : decode cX3_placeUp 1 = .ok (.iload_n 1, 1) := by decide +kernel
theorem dX3_placeUp_2 : decode cX3_placeUp 2 = .ok (.invokevirtual 128, 3) := by decide +kernel
theorem dX3_placeUp_5 : decode cX3_placeUp 5 = .ok (.getfield 231, 3) := by decide +kernel
theorem dX3_placeUp_8 : decode cX3_placeUp 8 = .ok (.ireturn, 1) := by decide +kernel
theorem dX3_pointsTo_0 : decode cX3_pointsTo 0 = .ok (.aload_n 0, 1) := by decide +kernel
theorem dX3_pointsTo_1 : decode cX3_pointsTo 1 = .ok (.iload_n 1, 1) := by decide +kernel
theorem dX3_pointsTo_2 : decode cX3_pointsTo 2 = .ok (.invokevirtual 128, 3) := by decide +kernel
theorem dX3_pointsTo_5 : decode cX3_pointsTo 5 = .ok (.astore_n 2, 1) := by decide +kernel
theorem dX3_pointsTo_6 : decode cX3_pointsTo 6 = .ok (.aload_n 2, 1) := by decide +kernel
theorem dX3_pointsTo_7 : decode cX3_pointsTo 7 = .ok (.getfield 231, 3) := by decide +kernel
theorem dX3_pointsTo_10 : decode cX3_pointsTo 10 = .ok (.iconst (-1), 1) := by decide +kernel
theorem dX3_pointsTo_11 : decode cX3_pointsTo 11 = .ok (.if_icmp .ne 13, 3) := by decide +kernel
theorem dX3_pointsTo_14 : decode cX3_pointsTo 14 = .ok (.new 51, 3) := by decide +kernel
theorem dX3_pointsTo_17 : decode cX3_pointsTo 17 = .ok (.dup, 1) := by decide +kernel
theorem dX3_pointsTo_18 : decode cX3_pointsTo 18 = .ok (.ldc 234, 2) := by decide +kernel
theorem dX3_pointsTo_20 : decode cX3_pointsTo 20 = .ok (.invokespecial 55, 3) := by decide +kernel
theorem dX3_pointsTo_23 : decode cX3_pointsTo 23 = .ok (.athrow, 1) := by decide +kernel
theorem dX3_pointsTo_24 : decode cX3_pointsTo 24 = .ok (.aload_n 0, 1) := by decide +kernel
theorem dX3_pointsTo_25 : decode cX3_pointsTo 25 = .ok (.aload_n 2, 1) := by decide +kernel
theorem dX3_pointsTo_26 : decode cX3_pointsTo 26 = .ok (.aload_n 0, 1) := by decide +kernel
theorem dX3_pointsTo_27 : decode cX3_pointsTo 27 = .ok (.invokevirtual 236, 3) := by decide +kernel
theorem dX3_pointsTo_30 : decode cX3_pointsTo 30 = .ok (.invokevirtual 239, 3) := by decide +kernel
theorem dX3_pointsTo_33 : decode cX3_pointsTo 33 = .ok (.ireturn, 1) := by decide +kernel
theorem dX3_runExchange_0 : decode cX3_runExchange 0 = .ok (.aload_n 0, 1) := by decide +kernel
theorem dX3_runExchange_1 : decode cX3_runExchange 1 = .ok (.invokevirtual 236, 3) := by decide +kernel
theorem dX3_runExchange_4 : decode cX3_runExchange 4 = .ok (.istore_n 1, 1) := by decide +kernel
theorem dX3_runExchange_5 : decode cX3_runExchange 5 = .ok (.iload_n 1, 1) := by decide +kernel
theorem dX3_runExchange_6 : decode cX3_runExchange 6 = .ok (.istore_n 2, 1) := by decide +kernel
theorem dX3_runExchange_7 : decode cX3_runExchange 7 = .ok (.iconst 0, 1) := by decide +kernel
theorem dX3_runExchange_8 : decode cX3_runExchange 8 = .ok (.istore_n 3, 1) := by decide +kernel
theorem dX3_runExchange_9 : decode cX3_runExchange 9 = .ok (.iload_n 3, 1) := by decide +kernel
theorem dX3_runExchange_10 : decode cX3_runExchange 10 = .ok (.aload_n 0, 1) := by decide +kernel
theorem dX3_runExchange_11 : decode cX3_runExchange 11 = .ok (.getfield 29, 3) := by decide +kernel
theorem dX3_runExchange_14 : decode cX3_runExchange 14 = .ok (.if_icmp .ge 28, 3) := by decide +kernel
theorem dX3_runExchange_17 : decode cX3_runExchange 17 = .ok (.iload_n 2, 1) := by decide +kernel
theorem dX3_runExchange_18 : decode cX3_runExchange 18 = .ok (.ifCond .eq 24, 3) := by decide +kernel
theorem dX3_runExchange_21 : decode cX3_runExchange 21 = .ok (.aload_n 0, 1) := by decide +kernel
theorem dX3_runExchange_22 : decode cX3_runExchange 22 = .ok (.iload_n 2, 1) := by decide +kernel
theorem dX3_runExchange_23 : decode cX3_runExchange 23 = .ok (.invokevirtual 243, 3) := by decide +kernel
theorem dX3_runExchange_26 : decode cX3_runExchange 26 = .ok (.iload_n 2, 1) := by decide +kernel
theorem dX3_runExchange_27 : decode cX3_runExchange 27 = .ok (.aload_n 0, 1) := by decide +kernel
theorem dX3_runExchange_28 : decode cX3_runExchange 28 = .ok (.iload_n 2, 1) := by decide +kernel
theorem dX3_runExchange_29 : decode cX3_runExchange 29 = .ok (.invokevirtual 246, 3) := by decide +kernel
theorem dX3_runExchange_32 : decode cX3_runExchange 32 = .ok (.iconst (-1), 1) := by decide +kernel
theorem dX3_runExchange_33 : decode cX3_runExchange 33 = .ok (.ixor, 1) := by decide +kernel
theorem dX3_runExchange_34 : decode cX3_runExchange 34 = .ok (.iand, 1) := by decide +kernel
theorem dX3_runExchange_35 : decode cX3_runExchange 35 = .ok (.istore_n 2, 1) := by decide +kernel
theorem dX3_runExchange_36 : decode cX3_runExchange 36 = .ok (.iinc 3 1, 3) := by decide +kernel
theorem dX3_runExchange_39 : decode cX3_runExchange 39 = .ok (.goto (-30), 3) := by decide +kernel
theorem dX3_runExchange_42 : decode cX3_runExchange 42 = .ok (.aload_n 0, 1) := by decide +kernel
theorem dX3_runExchange_43 : decode cX3_runExchange 43 = .ok (.iload_n 1, 1) := by decide +kernel
theorem dX3_runExchange_44 : decode cX3_runExchange 44 = .ok (.invokevirtual 249, 3) := by decide +kernel
theorem dX3_runExchange_47 : decode cX3_runExchange 47 = .ok (.istore_n 3, 1) := by decide +kernel
theorem dX3_runExchange_48 : decode cX3_runExchange 48 = .ok (.aload_n 0, 1) := by decide +kernel
theorem dX3_runExchange_49 : decode cX3_runExchange 49 = .ok (.invokevirtual 80, 3) := by decide +kernel
theorem dX3_runExchange_52 : decode cX3_runExchange 52 = .ok (.iload_n 3, 1) := by decide +kernel
theorem dX3_runExchange_53 : decode cX3_runExchange 53 = .ok (.ireturn, 1) := by decide +kernel
theorem dX3_isOutside_0 : decode cX3_isOutside 0 = .ok (.iload_n 0, 1) := by decide +kernel
theorem dX3_isOutside_1 : decode cX3_isOutside 1 = .ok (.iload_n 1, 1) := by decide +kernel
theorem dX3_isOutside_2 : decode cX3_isOutside 2 = .ok (.if_icmp .lt 8, 3) := by decide +kernel
theorem dX3_isOutside_5 : decode cX3_isOutside 5 = .ok (.iload_n 0, 1) := by decide +kernel
theorem dX3_isOutside_6 : decode cX3_isOutside 6 = .ok (.iload_n 2, 1) := by decide +kernel
theorem dX3_isOutside_7 : decode cX3_isOutside 7 = .ok (.if_icmp .le 7, 3) := by decide +kernel
theorem dX3_isOutside_10 : decode cX3_isOutside 10 = .ok (.iconst 1, 1) := by decide +kernel
theorem dX3_isOutside_11 : decode cX3_isOutside 11 = .ok (.goto 4, 3) := by decide +kernel
theorem dX3_isOutside_14 : decode cX3_isOutside 14 = .ok (.iconst 0, 1) := by decide +kernel
theorem dX3_isOutside_15 : decode cX3_isOutside 15 = .ok (.ireturn, 1) := by decide +kernel
theorem dX3_bit_0 : decode cX3_bit 0 = .ok (.iconst 1, 1) := by decide +kernel
theorem dX3_bit_1 : decode cX3_bit 1 = .ok (.iload_n 0, 1) := by decide +kernel
theorem dX3_bit_2 : decode cX3_bit 2 = .ok (.ishl, 1) := by decide +kernel
theorem dX3_bit_3 : decode cX3_bit 3 = .ok (.ireturn, 1) := by decide +kernel
theorem dX3_isIn_0 : decode cX3_isIn 0 = .ok (.iload_n 0, 1) := by decide +kernel
theorem dX3_isIn_1 : decode cX3_isIn 1 = .ok (.iconst 1, 1) := by decide +kernel
theorem dX3_isIn_2 : decode cX3_isIn 2 = .ok (.iload_n 1, 1) := by decide +kernel
theorem dX3_isIn_3 : decode cX3_isIn 3 = .ok (.ishl, 1) := by decide +kernel
theorem dX3_isIn_4 : decode cX3_isIn 4 = .ok (.iand, 1) := by decide +kernel
theorem dX3_isIn_5 : decode cX3_isIn 5 = .ok (.ifCond .eq 7, 3) := by decide +kernel
theorem dX3_isIn_8 : decode cX3_isIn 8 = .ok (.iconst 1, 1) := by decide +kernel
theorem dX3_isIn_9 : decode cX3_isIn 9 = .ok (.goto 4, 3) := by decide +kernel
theorem dX3_isIn_12 : decode cX3_isIn 12 = .ok (.iconst 0, 1) := by decide +kernel
theorem dX3_isIn_13 : decode cX3_isIn 13 = .ok (.ireturn, 1) := by decide +kernel
theorem dX3_courseAt_0 : decode cX3_courseAt 0 = .ok (.iload_n 1, 1) := by decide +kernel
theorem dX3_courseAt_1 : decode cX3_courseAt 1 = .ok (.ifCond .lt 11, 3) := by decide +kernel
theorem dX3_courseAt_4 : decode cX3_courseAt 4 = .ok (.iload_n 1, 1) := by decide +kernel
theorem dX3_courseAt_5 : decode cX3_courseAt 5 = .ok (.aload_n 0, 1) := by decide +kernel
theorem dX3_courseAt_6 : decode cX3_courseAt 6 = .ok (.getfield 25, 3) := by decide +kernel
theorem dX3_courseAt_9 : decode cX3_courseAt 9 = .ok (.if_icmp .lt 13, 3) := by decide +kernel
theorem dX3_courseAt_12 : decode cX3_courseAt 12 = .ok (.new 252, 3) := by decide +kernel
theorem dX3_courseAt_15 : decode cX3_courseAt 15 = .ok (.dup, 1) := by decide +kernel
theorem dX3_courseAt_16 : decode cX3_courseAt 16 = .ok (.ldc 254, 2) := by decide +kernel
theorem dX3_courseAt_18 : decode cX3_courseAt 18 = .ok (.invokespecial 256, 3) := by decide +kernel
theorem dX3_courseAt_21 : decode cX3_courseAt 21 = .ok (.athrow, 1) := by decide +kernel
theorem dX3_courseAt_22 : decode cX3_courseAt 22 = .ok (.aload_n 0, 1) := by decide +kernel
theorem dX3_courseAt_23 : decode cX3_courseAt 23 = .ok (.getfield 11, 3) := by decide +kernel
theorem dX3_courseAt_26 : decode cX3_courseAt 26 = .ok (.iload_n 1, 1) := by decide +kernel
theorem dX3_courseAt_27 : decode cX3_courseAt 27 = .ok (.aaload, 1) := by decide +kernel
theorem dX3_courseAt_28 : decode cX3_courseAt 28 = .ok (.areturn, 1) := by decide +kernel
theorem dX3_studentAt_0 : decode cX3_studentAt 0 = .ok (.iload_n 1, 1) := by decide +kernel
theorem dX3_studentAt_1 : decode cX3_studentAt 1 = .ok (.ifCond .lt 11, 3) := by decide +kernel
theorem dX3_studentAt_4 : decode cX3_studentAt 4 = .ok (.iload_n 1, 1) := by decide +kernel
theorem dX3_studentAt_5 : decode cX3_studentAt 5 = .ok (.aload_n 0, 1) := by decide +kernel
theorem dX3_studentAt_6 : decode cX3_studentAt 6 = .ok (.getfield 29, 3) := by decide +kernel
theorem dX3_studentAt_9 : decode cX3_studentAt 9 = .ok (.if_icmp .lt 14, 3) := by decide +kernel
theorem dX3_studentAt_12 : decode cX3_studentAt 12 = .ok (.new 252, 3) := by decide +kernel
theorem dX3_studentAt_15 : decode cX3_studentAt 15 = .ok (.dup, 1) := by decide +kernel
theorem dX3_studentAt_16 : decode cX3_studentAt 16 = .ok (.ldc_w 257, 3) := by decide +kernel
theorem dX3_studentAt_19 : decode cX3_studentAt 19 = .ok (.invokespecial 256, 3) := by decide +kernel
theorem dX3_studentAt_22 : decode cX3_studentAt 22 = .ok (.athrow, 1) := by decide +kernel
theorem dX3_studentAt_23 : decode cX3_studentAt 23 = .ok (.aload_n 0, 1) := by decide +kernel
theorem dX3_studentAt_24 : decode cX3_studentAt 24 = .ok (.getfield 20, 3) := by decide +kernel
theorem dX3_studentAt_27 : decode cX3_studentAt 27 = .ok (.iload_n 1, 1) := by decide +kernel
theorem dX3_studentAt_28 : decode cX3_studentAt 28 = .ok (.aaload, 1) := by decide +kernel
theorem dX3_studentAt_29 : decode cX3_studentAt 29 = .ok (.areturn, 1) := by decide +kernel
theorem dX3_foundAt_0 : decode cX3_foundAt 0 = .ok (.aload_n 0, 1) := by decide +kernel
theorem dX3_foundAt_1 : decode cX3_foundAt 1 = .ok (.iload_n 1, 1) := by decide +kernel
theorem dX3_foundAt_2 : decode cX3_foundAt 2 = .ok (.invokevirtual 259, 3) := by decide +kernel
theorem dX3_foundAt_5 : decode cX3_foundAt 5 = .ok (.istore_n 2, 1) := by decide +kernel
theorem dX3_foundAt_6 : decode cX3_foundAt 6 = .ok (.iload_n 2, 1) := by decide +kernel
theorem dX3_foundAt_7 : decode cX3_foundAt 7 = .ok (.iconst (-1), 1) := by decide +kernel
theorem dX3_foundAt_8 : decode cX3_foundAt 8 = .ok (.if_icmp .ne 14, 3) := by decide +kernel
theorem dX3_foundAt_11 : decode cX3_foundAt 11 = .ok (.new 252, 3) := by decide +kernel
theorem dX3_foundAt_14 : decode cX3_foundAt 14 = .ok (.dup, 1) := by decide +kernel
theorem dX3_foundAt_15 : decode cX3_foundAt 15 = .ok (.ldc_w 262, 3) := by decide +kernel
theorem dX3_foundAt_18 : decode cX3_foundAt 18 = .ok (.invokespecial 256, 3) := by decide +kernel
theorem dX3_foundAt_21 : decode cX3_foundAt 21 = .ok (.athrow, 1) := by decide +kernel
theorem dX3_foundAt_22 : decode cX3_foundAt 22 = .ok (.iload_n 2, 1) := by decide +kernel
theorem dX3_foundAt_23 : decode cX3_foundAt 23 = .ok (.ireturn, 1) := by decide +kernel
theorem dX3_spreadRequired_0 : decode cX3_spreadRequired 0 = .ok (.iconst 0, 1) := by decide +kernel
theorem dX3_spreadRequired_1 : decode cX3_spreadRequired 1 = .ok (.istore_n 3, 1) := by decide +kernel
theorem dX3_spreadRequired_2 : decode cX3_spreadRequired 2 = .ok (.iload_n 3, 1) := by decide +kernel
theorem dX3_spreadRequired_3 : decode cX3_spreadRequired 3 = .ok (.aload_n 0, 1) := by decide +kernel
theorem dX3_spreadRequired_4 : decode cX3_spreadRequired 4 = .ok (.getfield 25, 3) := by decide +kernel
theorem dX3_spreadRequired_7 : decode cX3_spreadRequired 7 = .ok (.if_icmp .ge 49, 3) := by decide +kernel
theorem dX3_spreadRequired_10 : decode cX3_spreadRequired 10 = .ok (.aload_n 0, 1) := by decide +kernel
theorem dX3_spreadRequired_11 : decode cX3_spreadRequired 11 = .ok (.getfield 11, 3) := by decide +kernel
theorem dX3_spreadRequired_14 : decode cX3_spreadRequired 14 = .ok (.iload_n 3, 1) := by decide +kernel
theorem dX3_spreadRequired_15 : decode cX3_spreadRequired 15 = .ok (.aaload, 1) := by decide +kernel
theorem dX3_spreadRequired_16 : decode cX3_spreadRequired 16 = .ok (.astore 4, 2) := by decide +kernel
theorem dX3_spreadRequired_18 : decode cX3_spreadRequired 18 = .ok (.aload 4, 2) := by decide +kernel
theorem dX3_spreadRequired_20 : decode cX3_spreadRequired 20 = .ok (.aload_n 1, 1) := by decide +kernel
theorem dX3_spreadRequired_21 : decode cX3_spreadRequired 21 = .ok (.if_acmp .eq 18, 3) := by decide +kernel
theorem dX3_spreadRequired_24 : decode cX3_spreadRequired 24 = .ok (.aload 4, 2) := by decide +kernel
theorem dX3_spreadRequired_26 : decode cX3_spreadRequired 26 = .ok (.getfield 90, 3) := by decide +kernel
theorem dX3_spreadRequired_29 : decode cX3_spreadRequired 29 = .ok (.aload_n 1, 1) := by decide +kernel
theorem dX3_spreadRequired_30 : decode cX3_spreadRequired 30 = .ok (.getfield 65, 3) := by decide +kernel
theorem dX3_spreadRequired_33 : decode cX3_spreadRequired 33 = .ok (.invokestatic 86, 3) := by decide +kernel
theorem dX3_spreadRequired_36 : decode cX3_spreadRequired 36 = .ok (.ifCond .eq 14, 3) := by decide +kernel
theorem dX3_spreadRequired_39 : decode cX3_spreadRequired 39 = .ok (.aload 4, 2) := by decide +kernel
theorem dX3_spreadRequired_41 : decode cX3_spreadRequired 41 = .ok (.dup, 1) := by decide +kernel
theorem dX3_spreadRequired_42 : decode cX3_spreadRequired 42 = .ok (.getfield 90, 3) := by decide +kernel
theorem dX3_spreadRequired_45 : decode cX3_spreadRequired 45 = .ok (.iload_n 2, 1) := by decide +kernel
theorem dX3_spreadRequired_46 : decode cX3_spreadRequired 46 = .ok (.ior, 1) := by decide +kernel
theorem dX3_spreadRequired_47 : decode cX3_spreadRequired 47 = .ok (.putfield 90, 3) := by decide +kernel
theorem dX3_spreadRequired_50 : decode cX3_spreadRequired 50 = .ok (.iinc 3 1, 3) := by decide +kernel
theorem dX3_spreadRequired_53 : decode cX3_spreadRequired 53 = .ok (.goto (-51), 3) := by decide +kernel
theorem dX3_spreadRequired_56 : decode cX3_spreadRequired 56 = .ok (.return_, 1) := by decide +kernel
theorem dX3_levelOf_0 : decode cX3_levelOf 0 = .ok (.iconst 0, 1) := by decide +kernel
theorem dX3_levelOf_1 : decode cX3_levelOf 1 = .ok (.istore_n 2, 1) := by decide +kernel
theorem dX3_levelOf_2 : decode cX3_levelOf 2 = .ok (.aload_n 1, 1) := by decide +kernel
theorem dX3_levelOf_3 : decode cX3_levelOf 3 = .ok (.getfield 83, 3) := by decide +kernel
theorem dX3_levelOf_6 : decode cX3_levelOf 6 = .ok (.istore_n 3, 1) := by decide +kernel
theorem dX3_levelOf_7 : decode cX3_levelOf 7 = .ok (.iload_n 3, 1) := by decide +kernel
theorem dX3_levelOf_8 : decode cX3_levelOf 8 = .ok (.ifCond .eq 23, 3) := by decide +kernel
theorem dX3_levelOf_11 : decode cX3_levelOf 11 = .ok (.iload_n 2, 1) := by decide +kernel
theorem dX3_levelOf_12 : decode cX3_levelOf 12 = .ok (.aload_n 0, 1) := by decide +kernel
theorem dX3_levelOf_13 : decode cX3_levelOf 13 = .ok (.getfield 25, 3) := by decide +kernel
theorem dX3_levelOf_16 : decode cX3_levelOf 16 = .ok (.if_icmp .ge 15, 3) := by decide +kernel
theorem dX3_levelOf_19 : decode cX3_levelOf 19 = .ok (.aload_n 0, 1) := by decide +kernel
theorem dX3_levelOf_20 : decode cX3_levelOf 20 = .ok (.iload_n 3, 1) := by decide +kernel
theorem dX3_levelOf_21 : decode cX3_levelOf 21 = .ok (.invokevirtual 264, 3) := by decide +kernel
theorem dX3_levelOf_24 : decode cX3_levelOf 24 = .ok (.istore_n 3, 1) := by decide +kernel
theorem dX3_levelOf_25 : decode cX3_levelOf 25 = .ok (.iinc 2 1, 3) := by decide +kernel
theorem dX3_levelOf_28 : decode cX3_levelOf 28 = .ok (.goto (-21), 3) := by decide +kernel
theorem dX3_levelOf_31 : decode cX3_levelOf 31 = .ok (.iload_n 2, 1) := by decide +kernel
theorem dX3_levelOf_32 : decode cX3_levelOf 32 = .ok (.ireturn, 1) := by decide +kernel
theorem dX3_directOf_0 : decode cX3_directOf 0 = .ok (.iconst 0, 1) := by decide +kernel
theorem dX3_directOf_1 : decode cX3_directOf 1 = .ok (.istore_n 2, 1) := by decide +kernel
theorem dX3_directOf_2 : decode cX3_directOf 2 = .ok (.iconst 0, 1) := by decide +kernel
theorem dX3_directOf_3 : decode cX3_directOf 3 = .ok (.istore_n 3, 1) := by decide +kernel
theorem dX3_directOf_4 : decode cX3_directOf 4 = .ok (.iload_n 3, 1) := by decide +kernel
theorem dX3_directOf_5 : decode cX3_directOf 5 = .ok (.aload_n 0, 1) := by decide +kernel
theorem dX3_directOf_6 : decode cX3_directOf 6 = .ok (.getfield 25, 3) := by decide +kernel
theorem dX3_directOf_9 : decode cX3_directOf 9 = .ok (.if_icmp .ge 29, 3) := by decide +kernel
theorem dX3_directOf_12 : decode cX3_directOf 12 = .ok (.iload_n 1, 1) := by decide +kernel
theorem dX3_directOf_13 : decode cX3_directOf 13 = .ok (.iload_n 3, 1) := by decide +kernel
theorem dX3_directOf_14 : decode cX3_directOf 14 = .ok (.invokestatic 86, 3) := by decide +kernel
theorem dX3_directOf_17 : decode cX3_directOf 17 = .ok (.ifCond .eq 15, 3) := by decide +kernel
theorem dX3_directOf_20 : decode cX3_directOf 20 = .ok (.iload_n 2, 1) := by decide +kernel
theorem dX3_directOf_21 : decode cX3_directOf 21 = .ok (.aload_n 0, 1) := by decide +kernel
theorem dX3_directOf_22 : decode cX3_directOf 22 = .ok (.getfield 11, 3) := by decide +kernel
theorem dX3_directOf_25 : decode cX3_directOf 25 = .ok (.iload_n 3, 1) := by decide +kernel
theorem dX3_directOf_26 : decode cX3_directOf 26 = .ok (.aaload, 1) := by decide +kernel
theorem dX3_directOf_27 : decode cX3_directOf 27 = .ok (.getfield 83, 3) := by decide +kernel
theorem dX3_directOf_30 : decode cX3_directOf 30 = .ok (.ior, 1) := by decide +kernel
theorem dX3_directOf_31 : decode cX3_directOf 31 = .ok (.istore_n 2, 1) := by decide +kernel
theorem dX3_directOf_32 : decode cX3_directOf 32 = .ok (.iinc 3 1, 3) := by decide +kernel
theorem dX3_directOf_35 : decode cX3_directOf 35 = .ok (.goto (-31), 3) := by decide +kernel
theorem dX3_directOf_38 : decode cX3_directOf 38 = .ok (.iload_n 2, 1) := by decide +kernel
theorem dX3_directOf_39 : decode cX3_directOf 39 = .ok (.ireturn, 1) := by decide +kernel
theorem dX3_enrolledIn_0 : decode cX3_enrolledIn 0 = .ok (.iconst 0, 1) := by decide +kernel
theorem dX3_enrolledIn_1 : decode cX3_enrolledIn 1 = .ok (.istore_n 2, 1) := by decide +kernel
theorem dX3_enrolledIn_2 : decode cX3_enrolledIn 2 = .ok (.iconst 0, 1) := by decide +kernel
theorem dX3_enrolledIn_3 : decode cX3_enrolledIn 3 = .ok (.istore_n 3, 1) := by decide +kernel
theorem dX3_enrolledIn_4 : decode cX3_enrolledIn 4 = .ok (.iload_n 3, 1) := by decide +kernel
theorem dX3_enrolledIn_5 : decode cX3_enrolledIn 5 = .ok (.aload_n 0, 1) := by decide +kernel
theorem dX3_enrolledIn_6 : decode cX3_enrolledIn 6 = .ok (.getfield 29, 3) := by decide +kernel
theorem dX3_enrolledIn_9 : decode cX3_enrolledIn 9 = .ok (.if_icmp .ge 31, 3) := by decide +kernel
theorem dX3_enrolledIn_12 : decode cX3_enrolledIn 12 = .ok (.aload_n 0, 1) := by decide +kernel
theorem dX3_enrolledIn_13 : decode cX3_enrolledIn 13 = .ok (.getfield 20, 3) := by decide +kernel
theorem dX3_enrolledIn_16 : decode cX3_enrolledIn 16 = .ok (.iload_n 3, 1) := by decide +kernel
theorem dX3_enrolledIn_17 : decode cX3_enrolledIn 17 = .ok (.aaload, 1) := by decide +kernel
theorem dX3_enrolledIn_18 : decode cX3_enrolledIn 18 = .ok (.getfield 135, 3) := by decide +kernel
theorem dX3_enrolledIn_21 : decode cX3_enrolledIn 21 = .ok (.aload_n 1, 1) := by decide +kernel
theorem dX3_enrolledIn_22 : decode cX3_enrolledIn 22 = .ok (.getfield 65, 3) := by decide +kernel
theorem dX3_enrolledIn_25 : decode cX3_enrolledIn 25 = .ok (.invokestatic 86, 3) := by decide +kernel
theorem dX3_enrolledIn_28 : decode cX3_enrolledIn 28 = .ok (.ifCond .eq 6, 3) := by decide +kernel
theorem dX3_enrolledIn_31 : decode cX3_enrolledIn 31 = .ok (.iinc 2 1, 3) := by decide +kernel
theorem dX3_enrolledIn_34 : decode cX3_enrolledIn 34 = .ok (.iinc 3 1, 3) := by decide +kernel
theorem dX3_enrolledIn_37 : decode cX3_enrolledIn 37 = .ok (.goto (-33), 3) := by decide +kernel
theorem dX3_enrolledIn_40 : decode cX3_enrolledIn 40 = .ok (.iload_n 2, 1) := by decide +kernel
theorem dX3_enrolledIn_41 : decode cX3_enrolledIn 41 = .ok (.ireturn, 1) := by decide +kernel
theorem dX3_takenSeats_0 : decode cX3_takenSeats 0 = .ok (.aload_n 0, 1) := by decide +kernel
theorem dX3_takenSeats_1 : decode cX3_takenSeats 1 = .ok (.aload_n 1, 1) := by decide +kernel
theorem dX3_takenSeats_2 : decode cX3_takenSeats 2 = .ok (.invokevirtual 111, 3) := by decide +kernel
theorem dX3_takenSeats_5 : decode cX3_takenSeats 5 = .ok (.aload_n 1, 1) := by decide +kernel
theorem dX3_takenSeats_6 : decode cX3_takenSeats 6 = .ok (.invokevirtual 267, 3) := by decide +kernel
theorem dX3_takenSeats_9 : decode cX3_takenSeats 9 = .ok (.iadd, 1) := by decide +kernel
theorem dX3_takenSeats_10 : decode cX3_takenSeats 10 = .ok (.ireturn, 1) := by decide +kernel
theorem dX3_freeIn_0 : decode cX3_freeIn 0 = .ok (.aload_n 1, 1) := by decide +kernel
theorem dX3_freeIn_1 : decode cX3_freeIn 1 = .ok (.getfield 56, 3) := by decide +kernel
theorem dX3_freeIn_4 : decode cX3_freeIn 4 = .ok (.aload_n 0, 1) := by decide +kernel
theorem dX3_freeIn_5 : decode cX3_freeIn 5 = .ok (.aload_n 1, 1) := by decide +kernel
theorem dX3_freeIn_6 : decode cX3_freeIn 6 = .ok (.invokevirtual 74, 3) := by decide +kernel
theorem dX3_freeIn_9 : decode cX3_freeIn 9 = .ok (.isub, 1) := by decide +kernel
theorem dX3_freeIn_10 : decode cX3_freeIn 10 = .ok (.ireturn, 1) := by decide +kernel
theorem dX3_creditsOf_0 : decode cX3_creditsOf 0 = .ok (.iconst 0, 1) := by decide +kernel
theorem dX3_creditsOf_1 : decode cX3_creditsOf 1 = .ok (.istore_n 2, 1) := by decide +kernel
theorem dX3_creditsOf_2 : decode cX3_creditsOf 2 = .ok (.iconst 0, 1) := by decide +kernel
theorem dX3_creditsOf_3 : decode cX3_creditsOf 3 = .ok (.istore_n 3, 1) := by decide +kernel
theorem dX3_creditsOf_4 : decode cX3_creditsOf 4 = .ok (.iload_n 3, 1) := by decide +kernel
theorem dX3_creditsOf_5 : decode cX3_creditsOf 5 = .ok (.aload_n 0, 1) := by decide +kernel
theorem dX3_creditsOf_6 : decode cX3_creditsOf 6 = .ok (.getfield 25, 3) := by decide +kernel
theorem dX3_creditsOf_9 : decode cX3_creditsOf 9 = .ok (.if_icmp .ge 29, 3) := by decide +kernel
theorem dX3_creditsOf_12 : decode cX3_creditsOf 12 = .ok (.iload_n 1, 1) := by decide +kernel
theorem dX3_creditsOf_13 : decode cX3_creditsOf 13 = .ok (.iload_n 3, 1) := by decide +kernel
theorem dX3_creditsOf_14 : decode cX3_creditsOf 14 = .ok (.invokestatic 86, 3) := by decide +kernel
theorem dX3_creditsOf_17 : decode cX3_creditsOf 17 = .ok (.ifCond .eq 15, 3) := by decide +kernel
theorem dX3_creditsOf_20 : decode cX3_creditsOf 20 = .ok (.iload_n 2, 1) := by decide +kernel
theorem dX3_creditsOf_21 : decode cX3_creditsOf 21 = .ok (.aload_n 0, 1) := by decide +kernel
theorem dX3_creditsOf_22 : decode cX3_creditsOf 22 = .ok (.getfield 11, 3) := by decide +kernel
theorem dX3_creditsOf_25 : decode cX3_creditsOf 25 = .ok (.iload_n 3, 1) := by decide +kernel
theorem dX3_creditsOf_26 : decode cX3_creditsOf 26 = .ok (.aaload, 1) := by decide +kernel
theorem dX3_creditsOf_27 : decode cX3_creditsOf 27 = .ok (.getfield 59, 3) := by decide +kernel
theorem dX3_creditsOf_30 : decode cX3_creditsOf 30 = .ok (.iadd, 1) := by decide +kernel
theorem dX3_creditsOf_31 : decode cX3_creditsOf 31 = .ok (.istore_n 2, 1) := by decide +kernel
theorem dX3_creditsOf_32 : decode cX3_creditsOf 32 = .ok (.iinc 3 1, 3) := by decide +kernel
theorem dX3_creditsOf_35 : decode cX3_creditsOf 35 = .ok (.goto (-31), 3) := by decide +kernel
theorem dX3_creditsOf_38 : decode cX3_creditsOf 38 = .ok (.iload_n 2, 1) := by decide +kernel
theorem dX3_creditsOf_39 : decode cX3_creditsOf 39 = .ok (.ireturn, 1) := by decide +kernel
theorem dX3_hoursOf_0 : decode cX3_hoursOf 0 = .ok (.iconst 0, 1) := by decide +kernel
theorem dX3_hoursOf_1 : decode cX3_hoursOf 1 = .ok (.istore_n 2, 1) := by decide +kernel
theorem dX3_hoursOf_2 : decode cX3_hoursOf 2 = .ok (.iconst 0, 1) := by decide +kernel
theorem dX3_hoursOf_3 : decode cX3_hoursOf 3 = .ok (.istore_n 3, 1) := by decide +kernel
theorem dX3_hoursOf_4 : decode cX3_hoursOf 4 = .ok (.iload_n 3, 1) := by decide +kernel
theorem dX3_hoursOf_5 : decode cX3_hoursOf 5 = .ok (.aload_n 0, 1) := by decide +kernel
theorem dX3_hoursOf_6 : decode cX3_hoursOf 6 = .ok (.getfield 25, 3) := by decide +kernel
theorem dX3_hoursOf_9 : decode cX3_hoursOf 9 = .ok (.if_icmp .ge 29, 3) := by decide +kernel
theorem dX3_hoursOf_12 : decode cX3_hoursOf 12 = .ok (.iload_n 1, 1) := by decide +kernel
theorem dX3_hoursOf_13 : decode cX3_hoursOf 13 = .ok (.iload_n 3, 1) := by decide +kernel
theorem dX3_hoursOf_14 : decode cX3_hoursOf 14 = .ok (.invokestatic 86, 3) := by decide +kernel
theorem dX3_hoursOf_17 : decode cX3_hoursOf 17 = .ok (.ifCond .eq 15, 3) := by decide +kernel
theorem dX3_hoursOf_20 : decode cX3_hoursOf 20 = .ok (.iload_n 2, 1) := by decide +kernel
theorem dX3_hoursOf_21 : decode cX3_hoursOf 21 = .ok (.aload_n 0, 1) := by decide +kernel
theorem dX3_hoursOf_22 : decode cX3_hoursOf 22 = .ok (.getfield 11, 3) := by decide +kernel
theorem dX3_hoursOf_25 : decode cX3_hoursOf 25 = .ok (.iload_n 3, 1) := by decide +kernel
theorem dX3_hoursOf_26 : decode cX3_hoursOf 26 = .ok (.aaload, 1) := by decide +kernel
theorem dX3_hoursOf_27 : decode cX3_hoursOf 27 = .ok (.getfield 62, 3) := by decide +kernel
theorem dX3_hoursOf_30 : decode cX3_hoursOf 30 = .ok (.ior, 1) := by decide +kernel
theorem dX3_hoursOf_31 : decode cX3_hoursOf 31 = .ok (.istore_n 2, 1) := by decide +kernel
theorem dX3_hoursOf_32 : decode cX3_hoursOf 32 = .ok (.iinc 3 1, 3) := by decide +kernel
theorem dX3_hoursOf_35 : decode cX3_hoursOf 35 = .ok (.goto (-31), 3) := by decide +kernel
theorem dX3_hoursOf_38 : decode cX3_hoursOf 38 = .ok (.iload_n 2, 1) := by decide +kernel
theorem dX3_hoursOf_39 : decode cX3_hoursOf 39 = .ok (.ireturn, 1) := by decide +kernel
theorem dX3_obstacleFor_0 : decode cX3_obstacleFor 0 = .ok (.aload_n 1, 1) := by decide +kernel
theorem dX3_obstacleFor_1 : decode cX3_obstacleFor 1 = .ok (.getfield 132, 3) := by decide +kernel
theorem dX3_obstacleFor_4 : decode cX3_obstacleFor 4 = .ok (.aload_n 2, 1) := by decide +kernel
theorem dX3_obstacleFor_5 : decode cX3_obstacleFor 5 = .ok (.getfield 65, 3) := by decide +kernel
theorem dX3_obstacleFor_8 : decode cX3_obstacleFor 8 = .ok (.invokestatic 86, 3) := by decide +kernel
theorem dX3_obstacleFor_11 : decode cX3_obstacleFor 11 = .ok (.ifCond .eq 5, 3) := by decide +kernel
theorem dX3_obstacleFor_14 : decode cX3_obstacleFor 14 = .ok (.iconst 1, 1) := by decide +kernel
theorem dX3_obstacleFor_15 : decode cX3_obstacleFor 15 = .ok (.ireturn, 1) := by decide +kernel
theorem dX3_obstacleFor_16 : decode cX3_obstacleFor 16 = .ok (.iload_n 3, 1) := by decide +kernel
theorem dX3_obstacleFor_17 : decode cX3_obstacleFor 17 = .ok (.aload_n 2, 1) := by decide +kernel
theorem dX3_obstacleFor_18 : decode cX3_obstacleFor 18 = .ok (.getfield 65, 3) := by decide +kernel
theorem dX3_obstacleFor_21 : decode cX3_obstacleFor 21 = .ok (.invokestatic 86, 3) := by decide +kernel
theorem dX3_obstacleFor_24 : decode cX3_obstacleFor 24 = .ok (.ifCond .eq 5, 3) := by decide +kernel
theorem dX3_obstacleFor_27 : decode cX3_obstacleFor 27 = .ok (.iconst 2, 1) := by decide +kernel
theorem dX3_obstacleFor_28 : decode cX3_obstacleFor 28 = .ok (.ireturn, 1) := by decide +kernel
theorem dX3_obstacleFor_29 : decode cX3_obstacleFor 29 = .ok (.aload_n 2, 1) := by decide +kernel
theorem dX3_obstacleFor_30 : decode cX3_obstacleFor 30 = .ok (.getfield 90, 3) := by decide +kernel
theorem dX3_obstacleFor_33 : decode cX3_obstacleFor 33 = .ok (.aload_n 1, 1) := by decide +kernel
theorem dX3_obstacleFor_34 : decode cX3_obstacleFor 34 = .ok (.getfield 132, 3) := by decide +kernel
theorem dX3_obstacleFor_37 : decode cX3_obstacleFor 37 = .ok (.iconst (-1), 1) := by decide +kernel
theorem dX3_obstacleFor_38 : decode cX3_obstacleFor 38 = .ok (.ixor, 1) := by decide +kernel
theorem dX3_obstacleFor_39 : decode cX3_obstacleFor 39 = .ok (.iand, 1) := by decide +kernel
theorem dX3_obstacleFor_40 : decode cX3_obstacleFor 40 = .ok (.ifCond .eq 5, 3) := by decide +kernel
theorem dX3_obstacleFor_43 : decode cX3_obstacleFor 43 = .ok (.iconst 3, 1) := by decide +kernel
theorem dX3_obstacleFor_44 : decode cX3_obstacleFor 44 = .ok (.ireturn, 1) := by decide +kernel
theorem dX3_obstacleFor_45 : decode cX3_obstacleFor 45 = .ok (.aload_n 0, 1) := by decide +kernel
theorem dX3_obstacleFor_46 : decode cX3_obstacleFor 46 = .ok (.iload_n 3, 1) := by decide +kernel
theorem dX3_obstacleFor_47 : decode cX3_obstacleFor 47 = .ok (.invokevirtual 152, 3) := by decide +kernel
theorem dX3_obstacleFor_50 : decode cX3_obstacleFor 50 = .ok (.aload_n 2, 1) := by decide +kernel
theorem dX3_obstacleFor_51 : decode cX3_obstacleFor 51 = .ok (.getfield 59, 3) := by decide +kernel
theorem dX3_obstacleFor_54 : decode cX3_obstacleFor 54 = .ok (.iadd, 1) := by decide +kernel
theorem dX3_obstacleFor_55 : decode cX3_obstacleFor 55 = .ok (.aload_n 1, 1) := by decide +kernel
theorem dX3_obstacleFor_56 : decode cX3_obstacleFor 56 = .ok (.getfield 124, 3) := by decide +kernel
theorem dX3_obstacleFor_59 : decode cX3_obstacleFor 59 = .ok (.if_icmp .le 5, 3) := by decide +kernel
theorem dX3_obstacleFor_62 : decode cX3_obstacleFor 62 = .ok (.iconst 4, 1) := by decide +kernel
theorem dX3_obstacleFor_63 : decode cX3_obstacleFor 63 = .ok (.ireturn, 1) := by decide +kernel
theorem dX3_obstacleFor_64 : decode cX3_obstacleFor 64 = .ok (.aload_n 0, 1) := by decide +kernel
theorem dX3_obstacleFor_65 : decode cX3_obstacleFor 65 = .ok (.iload_n 3, 1) := by decide +kernel
theorem dX3_obstacleFor_66 : decode cX3_obstacleFor 66 = .ok (.invokevirtual 270, 3) := by decide +kernel
theorem dX3_obstacleFor_69 : decode cX3_obstacleFor 69 = .ok (.aload_n 2, 1) := by decide +kernel
theorem dX3_obstacleFor_70 : decode cX3_obstacleFor 70 = .ok (.getfield 62, 3) := by decide +kernel
theorem dX3_obstacleFor_73 : decode cX3_obstacleFor 73 = .ok (.iand, 1) := by decide +kernel
theorem dX3_obstacleFor_74 : decode cX3_obstacleFor 74 = .ok (.ifCond .eq 5, 3) := by decide +kernel
theorem dX3_obstacleFor_77 : decode cX3_obstacleFor 77 = .ok (.iconst 5, 1) := by decide +kernel
theorem dX3_obstacleFor_78 : decode cX3_obstacleFor 78 = .ok (.ireturn, 1) := by decide +kernel
theorem dX3_obstacleFor_79 : decode cX3_obstacleFor 79 = .ok (.iconst 0, 1) := by decide +kernel
theorem dX3_obstacleFor_80 : decode cX3_obstacleFor 80 = .ok (.ireturn, 1) := by decide +kernel
theorem dX3_enrol_0 : decode cX3_enrol 0 = .ok (.aload_n 1, 1) := by decide +kernel
theorem dX3_enrol_1 : decode cX3_enrol 1 = .ok (.dup, 1) := by decide +kernel
theorem dX3_enrol_2 : decode cX3_enrol 2 = .ok (.getfield 135, 3) := by decide +kernel
theorem dX3_enrol_5 : decode cX3_enrol 5 = .ok (.aload_n 2, 1) := by decide +kernel
theorem dX3_enrol_6 : decode cX3_enrol 6 = .ok (.getfield 65, 3) := by decide +kernel
theorem dX3_enrol_9 : decode cX3_enrol 9 = .ok (.invokestatic 95, 3) := by decide +kernel
theorem dX3_enrol_12 : decode cX3_enrol 12 = .ok (.ior, 1) := by decide +kernel
theorem dX3_enrol_13 : decode cX3_enrol 13 = .ok (.putfield 135, 3) := by decide +kernel
theorem dX3_enrol_16 : decode cX3_enrol 16 = .ok (.aload_n 1, 1) := by decide +kernel
theorem dX3_enrol_17 : decode cX3_enrol 17 = .ok (.getfield 140, 3) := by decide +kernel
theorem dX3_enrol_20 : decode cX3_enrol 20 = .ok (.aload_n 2, 1) := by decide +kernel
theorem dX3_enrol_21 : decode cX3_enrol 21 = .ok (.getfield 65, 3) := by decide +kernel
theorem dX3_enrol_24 : decode cX3_enrol 24 = .ok (.invokevirtual 144, 3) := by decide +kernel
theorem dX3_enrol_27 : decode cX3_enrol 27 = .ok (.aload_n 2, 1) := by decide +kernel
theorem dX3_enrol_28 : decode cX3_enrol 28 = .ok (.aload_n 1, 1) := by decide +kernel
theorem dX3_enrol_29 : decode cX3_enrol 29 = .ok (.getfield 127, 3) := by decide +kernel
theorem dX3_enrol_32 : decode cX3_enrol 32 = .ok (.invokevirtual 149, 3) := by decide +kernel
theorem dX3_enrol_35 : decode cX3_enrol 35 = .ok (.return_, 1) := by decide +kernel
theorem dX3_endEnrolment_0 : decode cX3_endEnrolment 0 = .ok (.aload_n 1, 1) := by decide +kernel
theorem dX3_endEnrolment_1 : decode cX3_endEnrolment 1 = .ok (.dup, 1) := by decide +kernel
theorem dX3_endEnrolment_2 : decode cX3_endEnrolment 2 = .ok (.getfield 135, 3) := by decide +kernel
theorem dX3_endEnrolment_5 : decode cX3_endEnrolment 5 = .ok (.aload_n 2, 1) := by decide +kernel
theorem dX3_endEnrolment_6 : decode cX3_endEnrolment 6 = .ok (.getfield 65, 3) := by decide +kernel
theorem dX3_endEnrolment_9 : decode cX3_endEnrolment 9 = .ok (.invokestatic 95, 3) := by decide +kernel
theorem dX3_endEnrolment_12 : decode cX3_endEnrolment 12 = .ok (.iconst (-1), 1) := by decide +kernel
theorem dX3_endEnrolment_13 : decode cX3_endEnrolment 13 = .ok (.ixor, 1) := by decide +kernel
theorem dX3_endEnrolment_14 : decode cX3_endEnrolment 14 = .ok (.iand, 1) := by decide +kernel
theorem dX3_endEnrolment_15 : decode cX3_endEnrolment 15 = .ok (.putfield 135, 3) := by decide +kernel
theorem dX3_endEnrolment_18 : decode cX3_endEnrolment 18 = .ok (.aload_n 1, 1) := by decide +kernel
theorem dX3_endEnrolment_19 : decode cX3_endEnrolment 19 = .ok (.getfield 231, 3) := by decide +kernel
theorem dX3_endEnrolment_22 : decode cX3_endEnrolment 22 = .ok (.aload_n 2, 1) := by decide +kernel
theorem dX3_endEnrolment_23 : decode cX3_endEnrolment 23 = .ok (.getfield 65, 3) := by decide +kernel
theorem dX3_endEnrolment_26 : decode cX3_endEnrolment 26 = .ok (.if_icmp .ne 8, 3) := by decide +kernel
theorem dX3_endEnrolment_29 : decode cX3_endEnrolment 29 = .ok (.aload_n 1, 1) := by decide +kernel
theorem dX3_endEnrolment_30 : decode cX3_endEnrolment 30 = .ok (.iconst (-1), 1) := by decide +kernel
theorem dX3_endEnrolment_31 : decode cX3_endEnrolment 31 = .ok (.putfield 231, 3) := by decide +kernel
theorem dX3_endEnrolment_34 : decode cX3_endEnrolment 34 = .ok (.return_, 1) := by decide +kernel
theorem dX3_makeOffers_0 : decode cX3_makeOffers 0 = .ok (.iconst 0, 1) := by decide +kernel
theorem dX3_makeOffers_1 : decode cX3_makeOffers 1 = .ok (.istore_n 1, 1) := by decide +kernel
theorem dX3_makeOffers_2 : decode cX3_makeOffers 2 = .ok (.iload_n 1, 1) := by decide +kernel
theorem dX3_makeOffers_3 : decode cX3_makeOffers 3 = .ok (.aload_n 0, 1) := by decide +kernel
theorem dX3_makeOffers_4 : decode cX3_makeOffers 4 = .ok (.getfield 25, 3) := by decide +kernel
theorem dX3_makeOffers_7 : decode cX3_makeOffers 7 = .ok (.if_icmp .ge 19, 3) := by decide +kernel
theorem dX3_makeOffers_10 : decode cX3_makeOffers 10 = .ok (.aload_n 0, 1) := by decide +kernel
theorem dX3_makeOffers_11 : decode cX3_makeOffers 11 = .ok (.aload_n 0, 1) := by decide +kernel
theorem dX3_makeOffers_12 : decode cX3_makeOffers 12 = .ok (.getfield 11, 3) := by decide +kernel
theorem dX3_makeOffers_15 : decode cX3_makeOffers 15 = .ok (.iload_n 1, 1) := by decide +kernel
theorem dX3_makeOffers_16 : decode cX3_makeOffers 16 = .ok (.aaload, 1) := by decide +kernel
theorem dX3_makeOffers_17 : decode cX3_makeOffers 17 = .ok (.invokevirtual 273, 3) := by decide +kernel
theorem dX3_makeOffers_20 : decode cX3_makeOffers 20 = .ok (.iinc 1 1, 3) := by decide +kernel
theorem dX3_makeOffers_23 : decode cX3_makeOffers 23 = .ok (.goto (-21), 3) := by decide +kernel
theorem dX3_makeOffers_26 : decode cX3_makeOffers 26 = .ok (.return_, 1) := by decide +kernel
theorem dX3_makeOffersFor_0 : decode cX3_makeOffersFor 0 = .ok (.aload_n 0, 1) := by decide +kernel
theorem dX3_makeOffersFor_1 : decode cX3_makeOffersFor 1 = .ok (.aload_n 1, 1) := by decide +kernel
theorem dX3_makeOffersFor_2 : decode cX3_makeOffersFor 2 = .ok (.invokevirtual 114, 3) := by decide +kernel
theorem dX3_makeOffersFor_5 : decode cX3_makeOffersFor 5 = .ok (.istore_n 2, 1) := by decide +kernel
theorem dX3_makeOffersFor_6 : decode cX3_makeOffersFor 6 = .ok (.iconst 0, 1) := by decide +kernel
theorem dX3_makeOffersFor_7 : decode cX3_makeOffersFor 7 = .ok (.istore_n 3, 1) := by decide +kernel
theorem dX3_makeOffersFor_8 : decode cX3_makeOffersFor 8 = .ok (.iload_n 3, 1) := by decide +kernel
theorem dX3_makeOffersFor_9 : decode cX3_makeOffersFor 9 = .ok (.aload_n 1, 1) := by decide +kernel
theorem dX3_makeOffersFor_10 : decode cX3_makeOffersFor 10 = .ok (.getfield 179, 3) := by decide +kernel
theorem dX3_makeOffersFor_13 : decode cX3_makeOffersFor 13 = .ok (.invokevirtual 164, 3) := by decide +kernel
theorem dX3_makeOffersFor_16 : decode cX3_makeOffersFor 16 = .ok (.if_icmp .ge 71, 3) := by decide +kernel
theorem dX3_makeOffersFor_19 : decode cX3_makeOffersFor 19 = .ok (.iload_n 2, 1) := by decide +kernel
theorem dX3_makeOffersFor_20 : decode cX3_makeOffersFor 20 = .ok (.ifCond .le 67, 3) := by decide +kernel
theorem dX3_makeOffersFor_23 : decode cX3_makeOffersFor 23 = .ok (.aload_n 0, 1) := by decide +kernel
theorem dX3_makeOffersFor_24 : decode cX3_makeOffersFor 24 = .ok (.aload_n 1, 1) := by decide +kernel
theorem dX3_makeOffersFor_25 : decode cX3_makeOffersFor 25 = .ok (.getfield 179, 3) := by decide +kernel
theorem dX3_makeOffersFor_28 : decode cX3_makeOffersFor 28 = .ok (.iload_n 3, 1) := by decide +kernel
theorem dX3_makeOffersFor_29 : decode cX3_makeOffersFor 29 = .ok (.invokevirtual 259, 3) := by decide +kernel
theorem dX3_makeOffersFor_32 : decode cX3_makeOffersFor 32 = .ok (.invokevirtual 128, 3) := by decide +kernel
theorem dX3_makeOffersFor_35 : decode cX3_makeOffersFor 35 = .ok (.astore 4, 2) := by decide +kernel
theorem dX3_makeOffersFor_37 : decode cX3_makeOffersFor 37 = .ok (.aload_n 1, 1) := by decide +kernel
theorem dX3_makeOffersFor_38 : decode cX3_makeOffersFor 38 = .ok (.aload 4, 2) := by decide +kernel
theorem dX3_makeOffersFor_40 : decode cX3_makeOffersFor 40 = .ok (.getfield 127, 3) := by decide +kernel
theorem dX3_makeOffersFor_43 : decode cX3_makeOffersFor 43 = .ok (.invokevirtual 199, 3) := by decide +kernel
theorem dX3_makeOffersFor_46 : decode cX3_makeOffersFor 46 = .ok (.ifCond .ne 35, 3) := by decide +kernel
theorem dX3_makeOffersFor_49 : decode cX3_makeOffersFor 49 = .ok (.aload_n 0, 1) := by decide +kernel
theorem dX3_makeOffersFor_50 : decode cX3_makeOffersFor 50 = .ok (.aload 4, 2) := by decide +kernel
theorem dX3_makeOffersFor_52 : decode cX3_makeOffersFor 52 = .ok (.aload_n 1, 1) := by decide +kernel
theorem dX3_makeOffersFor_53 : decode cX3_makeOffersFor 53 = .ok (.aload 4, 2) := by decide +kernel
theorem dX3_makeOffersFor_55 : decode cX3_makeOffersFor 55 = .ok (.getfield 135, 3) := by decide +kernel
theorem dX3_makeOffersFor_58 : decode cX3_makeOffersFor 58 = .ok (.invokevirtual 155, 3) := by decide +kernel
theorem dX3_makeOffersFor_61 : decode cX3_makeOffersFor 61 = .ok (.ifCond .ne 20, 3) := by decide +kernel
theorem dX3_makeOffersFor_64 : decode cX3_makeOffersFor 64 = .ok (.aload_n 1, 1) := by decide +kernel
theorem dX3_makeOffersFor_65 : decode cX3_makeOffersFor 65 = .ok (.getfield 277, 3) := by decide +kernel
theorem dX3_makeOffersFor_68 : decode cX3_makeOffersFor 68 = .ok (.aload 4, 2) := by decide +kernel
theorem dX3_makeOffersFor_70 : decode cX3_makeOffersFor 70 = .ok (.getfield 127, 3) := by decide +kernel
theorem dX3_makeOffersFor_73 : decode cX3_makeOffersFor 73 = .ok (.aload_n 0, 1) := by decide +kernel
theorem dX3_makeOffersFor_74 : decode cX3_makeOffersFor 74 = .ok (.getfield 32, 3) := by decide +kernel
theorem dX3_makeOffersFor_77 : decode cX3_makeOffersFor 77 = .ok (.iastore, 1) := by decide +kernel
theorem dX3_makeOffersFor_78 : decode cX3_makeOffersFor 78 = .ok (.iinc 2 (-1), 3) := by decide +kernel
theorem dX3_makeOffersFor_81 : decode cX3_makeOffersFor 81 = .ok (.iinc 3 1, 3) := by decide +kernel
theorem dX3_makeOffersFor_84 : decode cX3_makeOffersFor 84 = .ok (.goto (-76), 3) := by decide +kernel
theorem dX3_makeOffersFor_87 : decode cX3_makeOffersFor 87 = .ok (.return_, 1) := by decide +kernel
theorem dX3_daysLeft_0 : decode cX3_daysLeft 0 = .ok (.iconst 3, 1) := by decide +kernel
theorem dX3_daysLeft_1 : decode cX3_daysLeft 1 = .ok (.aload_n 0, 1) := by decide +kernel
theorem dX3_daysLeft_2 : decode cX3_daysLeft 2 = .ok (.getfield 32, 3) := by decide +kernel
theorem dX3_daysLeft_5 : decode cX3_daysLeft 5 = .ok (.aload_n 1, 1) := by decide +kernel
theorem dX3_daysLeft_6 : decode cX3_daysLeft 6 = .ok (.getfield 277, 3) := by decide +kernel
theorem dX3_daysLeft_9 : decode cX3_daysLeft 9 = .ok (.iload_n 2, 1) := by decide +kernel
theorem dX3_daysLeft_10 : decode cX3_daysLeft 10 = .ok (.iaload, 1) := by decide +kernel
theorem dX3_daysLeft_11 : decode cX3_daysLeft 11 = .ok (.isub, 1) := by decide +kernel
theorem dX3_daysLeft_12 : decode cX3_daysLeft 12 = .ok (.isub, 1) := by decide +kernel
theorem dX3_daysLeft_13 : decode cX3_daysLeft 13 = .ok (.ireturn, 1) := by decide +kernel
theorem dX3_endOldOffers_0 : decode cX3_endOldOffers 0 = .ok (.iconst 0, 1) := by decide +kernel
theorem dX3_endOldOffers_1 : decode cX3_endOldOffers 1 = .ok (.istore_n 1, 1) := by decide +kernel
theorem dX3_endOldOffers_2 : decode cX3_endOldOffers 2 = .ok (.iconst 0, 1) := by decide +kernel
theorem dX3_endOldOffers_3 : decode cX3_endOldOffers 3 = .ok (.istore_n 2, 1) := by decide +kernel
theorem dX3_endOldOffers_4 : decode cX3_endOldOffers 4 = .ok (.iload_n 2, 1) := by decide +kernel
theorem dX3_endOldOffers_5 : decode cX3_endOldOffers 5 = .ok (.aload_n 0, 1) := by decide +kernel
theorem dX3_endOldOffers_6 : decode cX3_endOldOffers 6 = .ok (.getfield 25, 3) := by decide +kernel
theorem dX3_endOldOffers_9 : decode cX3_endOldOffers 9 = .ok (.if_icmp .ge 62, 3) := by decide +kernel
theorem dX3_endOldOffers_12 : decode cX3_endOldOffers 12 = .ok (.aload_n 0, 1) := by decide +kernel
theorem dX3_endOldOffers_13 : decode cX3_endOldOffers 13 = .ok (.getfield 11, 3) := by decide +kernel
theorem dX3_endOldOffers_16 : decode cX3_endOldOffers 16 = .ok (.iload_n 2, 1) := by decide +kernel
theorem dX3_endOldOffers_17 : decode cX3_endOldOffers 17 = .ok (.aaload, 1) := by decide +kernel
theorem dX3_endOldOffers_18 : decode cX3_endOldOffers 18 = .ok (.astore_n 3, 1) := by decide +kernel
theorem dX3_endOldOffers_19 : decode cX3_endOldOffers 19 = .ok (.iconst 0, 1) := by decide +kernel
theorem dX3_endOldOffers_20 : decode cX3_endOldOffers 20 = .ok (.istore 4, 2) := by decide +kernel
theorem dX3_endOldOffers_22 : decode cX3_endOldOffers 22 = .ok (.iload 4, 2) := by decide +kernel
theorem dX3_endOldOffers_24 : decode cX3_endOldOffers 24 = .ok (.aload_n 0, 1) := by decide +kernel
theorem dX3_endOldOffers_25 : decode cX3_endOldOffers 25 = .ok (.getfield 29, 3) := by decide +kernel
theorem dX3_endOldOffers_28 : decode cX3_endOldOffers 28 = .ok (.if_icmp .ge 37, 3) := by decide +kernel
theorem dX3_endOldOffers_31 : decode cX3_endOldOffers 31 = .ok (.aload_n 3, 1) := by decide +kernel
theorem dX3_endOldOffers_32 : decode cX3_endOldOffers 32 = .ok (.iload 4, 2) := by decide +kernel
theorem dX3_endOldOffers_34 : decode cX3_endOldOffers 34 = .ok (.invokevirtual 199, 3) := by decide +kernel
theorem dX3_endOldOffers_37 : decode cX3_endOldOffers 37 = .ok (.ifCond .eq 22, 3) := by decide +kernel
theorem dX3_endOldOffers_40 : decode cX3_endOldOffers 40 = .ok (.aload_n 0, 1) := by decide +kernel
theorem dX3_endOldOffers_41 : decode cX3_endOldOffers 41 = .ok (.aload_n 3, 1) := by decide +kernel
theorem dX3_endOldOffers_42 : decode cX3_endOldOffers 42 = .ok (.iload 4, 2) := by decide +kernel
theorem dX3_endOldOffers_44 : decode cX3_endOldOffers 44 = .ok (.invokevirtual 212, 3) := by decide +kernel
theorem dX3_endOldOffers_47 : decode cX3_endOldOffers 47 = .ok (.ifCond .gt 12, 3) := by decide +kernel
theorem dX3_endOldOffers_50 : decode cX3_endOldOffers 50 = .ok (.aload_n 3, 1) := by decide +kernel
theorem dX3_endOldOffers_51 : decode cX3_endOldOffers 51 = .ok (.iload 4, 2) := by decide +kernel
theorem dX3_endOldOffers_53 : decode cX3_endOldOffers 53 = .ok (.invokevirtual 149, 3) := by decide +kernel
theorem dX3_endOldOffers_56 : decode cX3_endOldOffers 56 = .ok (.iinc 1 1, 3) := by decide +kernel
theorem dX3_endOldOffers_59 : decode cX3_endOldOffers 59 = .ok (.iinc 4 1, 3) := by decide +kernel
theorem dX3_endOldOffers_62 : decode cX3_endOldOffers 62 = .ok (.goto (-40), 3) := by decide +kernel
theorem dX3_endOldOffers_65 : decode cX3_endOldOffers 65 = .ok (.iinc 2 1, 3) := by decide +kernel
theorem dX3_endOldOffers_68 : decode cX3_endOldOffers 68 = .ok (.goto (-64), 3) := by decide +kernel
theorem dX3_endOldOffers_71 : decode cX3_endOldOffers 71 = .ok (.iload_n 1, 1) := by decide +kernel
theorem dX3_endOldOffers_72 : decode cX3_endOldOffers 72 = .ok (.ireturn, 1) := by decide +kernel
theorem dX3_drawNumbers_0 : decode cX3_drawNumbers 0 = .ok (.iload_n 1, 1) := by decide +kernel
theorem dX3_drawNumbers_1 : decode cX3_drawNumbers 1 = .ok (.i2l, 1) := by decide +kernel
theorem dX3_drawNumbers_2 : decode cX3_drawNumbers 2 = .ok (.lstore_n 2, 1) := by decide +kernel
theorem dX3_drawNumbers_3 : decode cX3_drawNumbers 3 = .ok (.iconst 0, 1) := by decide +kernel
theorem dX3_drawNumbers_4 : decode cX3_drawNumbers 4 = .ok (.istore 4, 2) := by decide +kernel
theorem dX3_drawNumbers_6 : decode cX3_drawNumbers 6 = .ok (.iload 4, 2) := by decide +kernel
theorem dX3_drawNumbers_8 : decode cX3_drawNumbers 8 = .ok (.aload_n 0, 1) := by decide +kernel
theorem dX3_drawNumbers_9 : decode cX3_drawNumbers 9 = .ok (.getfield 29, 3) := by decide +kernel
theorem dX3_drawNumbers_12 : decode cX3_drawNumbers 12 = .ok (.if_icmp .ge 39, 3) := by decide +kernel
theorem dX3_drawNumbers_15 : decode cX3_drawNumbers 15 = .ok (.ldc2_w 280, 3) := by decide +kernel
theorem dX3_drawNumbers_18 : decode cX3_drawNumbers 18 = .ok (.lload_n 2, 1) := by decide +kernel
theorem dX3_drawNumbers_19 : decode cX3_drawNumbers 19 = .ok (.lmul, 1) := by decide +kernel
theorem dX3_drawNumbers_20 : decode cX3_drawNumbers 20 = .ok (.ldc2_w 282, 3) := by decide +kernel
theorem dX3_drawNumbers_23 : decode cX3_drawNumbers 23 = .ok (.ladd, 1) := by decide +kernel
theorem dX3_drawNumbers_24 : decode cX3_drawNumbers 24 = .ok (.ldc2_w 284, 3) := by decide +kernel
theorem dX3_drawNumbers_27 : decode cX3_drawNumbers 27 = .ok (.lrem, 1) := by decide +kernel
theorem dX3_drawNumbers_28 : decode cX3_drawNumbers 28 = .ok (.lstore_n 2, 1) := by decide +kernel
theorem dX3_drawNumbers_29 : decode cX3_drawNumbers 29 = .ok (.aload_n 0, 1) := by decide +kernel
theorem dX3_drawNumbers_30 : decode cX3_drawNumbers 30 = .ok (.getfield 20, 3) := by decide +kernel
theorem dX3_drawNumbers_33 : decode cX3_drawNumbers 33 = .ok (.iload 4, 2) := by decide +kernel
theorem dX3_drawNumbers_35 : decode cX3_drawNumbers 35 = .ok (.aaload, 1) := by decide +kernel
theorem dX3_drawNumbers_36 : decode cX3_drawNumbers 36 = .ok (.lload_n 2, 1) := by decide +kernel
theorem dX3_drawNumbers_37 : decode cX3_drawNumbers 37 = .ok (.ldc2_w 286, 3) := by decide +kernel
theorem dX3_drawNumbers_40 : decode cX3_drawNumbers 40 = .ok (.ldiv, 1) := by decide +kernel
theorem dX3_drawNumbers_41 : decode cX3_drawNumbers 41 = .ok (.l2i, 1) := by decide +kernel
theorem dX3_drawNumbers_42 : decode cX3_drawNumbers 42 = .ok (.putfield 228, 3) := by decide +kernel
theorem dX3_drawNumbers_45 : decode cX3_drawNumbers 45 = .ok (.iinc 4 1, 3) := by decide +kernel
theorem dX3_drawNumbers_48 : decode cX3_drawNumbers 48 = .ok (.goto (-42), 3) := by decide +kernel
theorem dX3_drawNumbers_51 : decode cX3_drawNumbers 51 = .ok (.return_, 1) := by decide +kernel
theorem dX3_turnOf_0 : decode cX3_turnOf 0 = .ok (.aload_n 0, 1) := by decide +kernel
theorem dX3_turnOf_1 : decode cX3_turnOf 1 = .ok (.getfield 121, 3) := by decide +kernel
theorem dX3_turnOf_4 : decode cX3_turnOf 4 = .ok (.ldc_w 288, 3) := by decide +kernel
theorem dX3_turnOf_7 : decode cX3_turnOf 7 = .ok (.imul, 1) := by decide +kernel
theorem dX3_turnOf_8 : decode cX3_turnOf 8 = .ok (.aload_n 0, 1) := by decide +kernel
theorem dX3_turnOf_9 : decode cX3_turnOf 9 = .ok (.getfield 228, 3) := by decide +kernel
theorem dX3_turnOf_12 : decode cX3_turnOf 12 = .ok (.iadd, 1) := by decide +kernel
theorem dX3_turnOf_13 : decode cX3_turnOf 13 = .ok (.bipush 16, 2) := by decide +kernel
theorem dX3_turnOf_15 : decode cX3_turnOf 15 = .ok (.imul, 1) := by decide +kernel
theorem dX3_turnOf_16 : decode cX3_turnOf 16 = .ok (.aload_n 0, 1) := by decide +kernel
theorem dX3_turnOf_17 : decode cX3_turnOf 17 = .ok (.getfield 127, 3) := by decide +kernel
theorem dX3_turnOf_20 : decode cX3_turnOf 20 = .ok (.iadd, 1) := by decide +kernel
theorem dX3_turnOf_21 : decode cX3_turnOf 21 = .ok (.ireturn, 1) := by decide +kernel
theorem dX3_orderTurns_0 : decode cX3_orderTurns 0 = .ok (.iconst 0, 1) := by decide +kernel
theorem dX3_orderTurns_1 : decode cX3_orderTurns 1 = .ok (.istore_n 1, 1) := by decide +kernel
theorem dX3_orderTurns_2 : decode cX3_orderTurns 2 = .ok (.iload_n 1, 1) := by decide +kernel
theorem dX3_orderTurns_3 : decode cX3_orderTurns 3 = .ok (.aload_n 0, 1) := by decide +kernel
theorem dX3_orderTurns_4 : decode cX3_orderTurns 4 = .ok (.getfield 29, 3) := by decide +kernel
theorem dX3_orderTurns_7 : decode cX3_orderTurns 7 = .ok (.if_icmp .ge 64, 3) := by decide +kernel
theorem dX3_orderTurns_10 : decode cX3_orderTurns 10 = .ok (.aload_n 0, 1) := by decide +kernel
theorem dX3_orderTurns_11 : decode cX3_orderTurns 11 = .ok (.getfield 20, 3) := by decide +kernel
theorem dX3_orderTurns_14 : decode cX3_orderTurns 14 = .ok (.iload_n 1, 1) := by decide +kernel
theorem dX3_orderTurns_15 : decode cX3_orderTurns 15 = .ok (.aaload, 1) := by decide +kernel
theorem dX3_orderTurns_16 : decode cX3_orderTurns 16 = .ok (.invokestatic 289, 3) := by decide +kernel
theorem dX3_orderTurns_19 : decode cX3_orderTurns 19 = .ok (.istore_n 2, 1) := by decide +kernel
theorem dX3_orderTurns_20 : decode cX3_orderTurns 20 = .ok (.iload_n 1, 1) := by decide +kernel
theorem dX3_orderTurns_21 : decode cX3_orderTurns 21 = .ok (.istore_n 3, 1) := by decide +kernel
theorem dX3_orderTurns_22 : decode cX3_orderTurns 22 = .ok (.iload_n 3, 1) := by decide +kernel
theorem dX3_orderTurns_23 : decode cX3_orderTurns 23 = .ok (.ifCond .le 35, 3) := by decide +kernel
theorem dX3_orderTurns_26 : decode cX3_orderTurns 26 = .ok (.aload_n 0, 1) := by decide +kernel
theorem dX3_orderTurns_27 : decode cX3_orderTurns 27 = .ok (.getfield 35, 3) := by decide +kernel
theorem dX3_orderTurns_30 : decode cX3_orderTurns 30 = .ok (.iload_n 3, 1) := by decide +kernel
theorem dX3_orderTurns_31 : decode cX3_orderTurns 31 = .ok (.iconst 1, 1) := by decide +kernel
theorem dX3_orderTurns_32 : decode cX3_orderTurns 32 = .ok (.isub, 1) := by decide +kernel
theorem dX3_orderTurns_33 : decode cX3_orderTurns 33 = .ok (.iaload, 1) := by decide +kernel
theorem dX3_orderTurns_34 : decode cX3_orderTurns 34 = .ok (.iload_n 2, 1) := by decide +kernel
theorem dX3_orderTurns_35 : decode cX3_orderTurns 35 = .ok (.if_icmp .le 23, 3) := by decide +kernel
theorem dX3_orderTurns_38 : decode cX3_orderTurns 38 = .ok (.aload_n 0, 1) := by decide +kernel
theorem dX3_orderTurns_39 : decode cX3_orderTurns 39 = .ok (.getfield 35, 3) := by decide +kernel
theorem dX3_orderTurns_42 : decode cX3_orderTurns 42 = .ok (.iload_n 3, 1) := by decide +kernel
theorem dX3_orderTurns_43 : decode cX3_orderTurns 43 = .ok (.aload_n 0, 1) := by decide +kernel
theorem dX3_orderTurns_44 : decode cX3_orderTurns 44 = .ok (.getfield 35, 3) := by decide +kernel
theorem dX3_orderTurns_47 : decode cX3_orderTurns 47 = .ok (.iload_n 3, 1) := by decide +kernel
theorem dX3_orderTurns_48 : decode cX3_orderTurns 48 = .ok (.iconst 1, 1) := by decide +kernel
theorem dX3_orderTurns_49 : decode cX3_orderTurns 49 = .ok (.isub, 1) := by decide +kernel
theorem dX3_orderTurns_50 : decode cX3_orderTurns 50 = .ok (.iaload, 1) := by decide +kernel
theorem dX3_orderTurns_51 : decode cX3_orderTurns 51 = .ok (.iastore, 1) := by decide +kernel
theorem dX3_orderTurns_52 : decode cX3_orderTurns 52 = .ok (.iinc 3 (-1), 3) := by decide +kernel
theorem dX3_orderTurns_55 : decode cX3_orderTurns 55 = .ok (.goto (-33), 3) := by decide +kernel
theorem dX3_orderTurns_58 : decode cX3_orderTurns 58 = .ok (.aload_n 0, 1) := by decide +kernel
theorem dX3_orderTurns_59 : decode cX3_orderTurns 59 = .ok (.getfield 35, 3) := by decide +kernel
theorem dX3_orderTurns_62 : decode cX3_orderTurns 62 = .ok (.iload_n 3, 1) := by decide +kernel
theorem dX3_orderTurns_63 : decode cX3_orderTurns 63 = .ok (.iload_n 2, 1) := by decide +kernel
theorem dX3_orderTurns_64 : decode cX3_orderTurns 64 = .ok (.iastore, 1) := by decide +kernel
theorem dX3_orderTurns_65 : decode cX3_orderTurns 65 = .ok (.iinc 1 1, 3) := by decide +kernel
theorem dX3_orderTurns_68 : decode cX3_orderTurns 68 = .ok (.goto (-66), 3) := by decide +kernel
theorem dX3_orderTurns_71 : decode cX3_orderTurns 71 = .ok (.return_, 1) := by decide +kernel
theorem dX3_takeTurn_0 : decode cX3_takeTurn 0 = .ok (.iconst 0, 1) := by decide +kernel
theorem dX3_takeTurn_1 : decode cX3_takeTurn 1 = .ok (.istore_n 2, 1) := by decide +kernel
theorem dX3_takeTurn_2 : decode cX3_takeTurn 2 = .ok (.iload_n 2, 1) := by decide +kernel
theorem dX3_takeTurn_3 : decode cX3_takeTurn 3 = .ok (.aload_n 1, 1) := by decide +kernel
theorem dX3_takeTurn_4 : decode cX3_takeTurn 4 = .ok (.getfield 140, 3) := by decide +kernel
theorem dX3_takeTurn_7 : decode cX3_takeTurn 7 = .ok (.invokevirtual 164, 3) := by decide +kernel
theorem dX3_takeTurn_10 : decode cX3_takeTurn 10 = .ok (.if_icmp .ge 51, 3) := by decide +kernel
theorem dX3_takeTurn_13 : decode cX3_takeTurn 13 = .ok (.aload_n 0, 1) := by decide +kernel
theorem dX3_takeTurn_14 : decode cX3_takeTurn 14 = .ok (.aload_n 1, 1) := by decide +kernel
theorem dX3_takeTurn_15 : decode cX3_takeTurn 15 = .ok (.getfield 140, 3) := by decide +kernel
theorem dX3_takeTurn_18 : decode cX3_takeTurn 18 = .ok (.iload_n 2, 1) := by decide +kernel
theorem dX3_takeTurn_19 : decode cX3_takeTurn 19 = .ok (.invokevirtual 259, 3) := by decide +kernel
theorem dX3_takeTurn_22 : decode cX3_takeTurn 22 = .ok (.invokevirtual 68, 3) := by decide +kernel
theorem dX3_takeTurn_25 : decode cX3_takeTurn 25 = .ok (.astore_n 3, 1) := by decide +kernel
theorem dX3_takeTurn_26 : decode cX3_takeTurn 26 = .ok (.aload_n 0, 1) := by decide +kernel
theorem dX3_takeTurn_27 : decode cX3_takeTurn 27 = .ok (.aload_n 3, 1) := by decide +kernel
theorem dX3_takeTurn_28 : decode cX3_takeTurn 28 = .ok (.invokevirtual 114, 3) := by decide +kernel
theorem dX3_takeTurn_31 : decode cX3_takeTurn 31 = .ok (.ifCond .le 24, 3) := by decide +kernel
theorem dX3_takeTurn_34 : decode cX3_takeTurn 34 = .ok (.aload_n 0, 1) := by decide +kernel
theorem dX3_takeTurn_35 : decode cX3_takeTurn 35 = .ok (.aload_n 1, 1) := by decide +kernel
theorem dX3_takeTurn_36 : decode cX3_takeTurn 36 = .ok (.aload_n 3, 1) := by decide +kernel
theorem dX3_takeTurn_37 : decode cX3_takeTurn 37 = .ok (.aload_n 1, 1) := by decide +kernel
theorem dX3_takeTurn_38 : decode cX3_takeTurn 38 = .ok (.getfield 135, 3) := by decide +kernel
theorem dX3_takeTurn_41 : decode cX3_takeTurn 41 = .ok (.invokevirtual 155, 3) := by decide +kernel
theorem dX3_takeTurn_44 : decode cX3_takeTurn 44 = .ok (.ifCond .ne 11, 3) := by decide +kernel
theorem dX3_takeTurn_47 : decode cX3_takeTurn 47 = .ok (.aload_n 0, 1) := by decide +kernel
theorem dX3_takeTurn_48 : decode cX3_takeTurn 48 = .ok (.aload_n 1, 1) := by decide +kernel
theorem dX3_takeTurn_49 : decode cX3_takeTurn 49 = .ok (.aload_n 3, 1) := by decide +kernel
theorem dX3_takeTurn_50 : decode cX3_takeTurn 50 = .ok (.invokevirtual 186, 3) := by decide +kernel
theorem dX3_takeTurn_53 : decode cX3_takeTurn 53 = .ok (.iconst 1, 1) := by decide +kernel
theorem dX3_takeTurn_54 : decode cX3_takeTurn 54 = .ok (.ireturn, 1) := by decide +kernel
theorem dX3_takeTurn_55 : decode cX3_takeTurn 55 = .ok (.iinc 2 1, 3) := by decide +kernel
theorem dX3_takeTurn_58 : decode cX3_takeTurn 58 = .ok (.goto (-56), 3) := by decide +kernel
theorem dX3_takeTurn_61 : decode cX3_takeTurn 61 = .ok (.iconst 0, 1) := by decide +kernel
theorem dX3_takeTurn_62 : decode cX3_takeTurn 62 = .ok (.ireturn, 1) := by decide +kernel
theorem dX3_participants_0 : decode cX3_participants 0 = .ok (.iconst 0, 1) := by decide +kernel
theorem dX3_participants_1 : decode cX3_participants 1 = .ok (.istore_n 1, 1) := by decide +kernel
theorem dX3_participants_2 : decode cX3_participants 2 = .ok (.iconst 0, 1) := by decide +kernel
theorem dX3_participants_3 : decode cX3_participants 3 = .ok (.istore_n 2, 1) := by decide +kernel
theorem dX3_participants_4 : decode cX3_participants 4 = .ok (.iload_n 2, 1) := by decide +kernel
theorem dX3_participants_5 : decode cX3_participants 5 = .ok (.aload_n 0, 1) := by decide +kernel
theorem dX3_participants_6 : decode cX3_participants 6 = .ok (.getfield 29, 3) := by decide +kernel
theorem dX3_participants_9 : decode cX3_participants 9 = .ok (.if_icmp .ge 29, 3) := by decide +kernel
theorem dX3_participants_12 : decode cX3_participants 12 = .ok (.aload_n 0, 1) := by decide +kernel
theorem dX3_participants_13 : decode cX3_participants 13 = .ok (.getfield 20, 3) := by decide +kernel
theorem dX3_participants_16 : decode cX3_participants 16 = .ok (.iload_n 2, 1) := by decide +kernel
theorem dX3_participants_17 : decode cX3_participants 17 = .ok (.aaload, 1) := by decide +kernel
theorem dX3_participants_18 : decode cX3_participants 18 = .ok (.getfield 231, 3) := by decide +kernel
theorem dX3_participants_21 : decode cX3_participants 21 = .ok (.iconst (-1), 1) := by decide +kernel
theorem dX3_participants_22 : decode cX3_participants 22 = .ok (.if_icmp .eq 10, 3) := by decide +kernel
theorem dX3_participants_25 : decode cX3_participants 25 = .ok (.iload_n 1, 1) := by decide +kernel
theorem dX3_participants_26 : decode cX3_participants 26 = .ok (.iload_n 2, 1) := by decide +kernel
theorem dX3_participants_27 : decode cX3_participants 27 = .ok (.invokestatic 95, 3) := by decide +kernel
theorem dX3_participants_30 : decode cX3_participants 30 = .ok (.ior, 1) := by decide +kernel
theorem dX3_participants_31 : decode cX3_participants 31 = .ok (.istore_n 1, 1) := by decide +kernel
theorem dX3_participants_32 : decode cX3_participants 32 = .ok (.iinc 2 1, 3) := by decide +kernel
theorem dX3_participants_35 : decode cX3_participants 35 = .ok (.goto (-31), 3) := by decide +kernel
theorem dX3_participants_38 : decode cX3_participants 38 = .ok (.iload_n 1, 1) := by decide +kernel
theorem dX3_participants_39 : decode cX3_participants 39 = .ok (.ireturn, 1) := by decide +kernel
theorem dX3_isAcceptable_0 : decode cX3_isAcceptable 0 = .ok (.aload_n 1, 1) := by decide +kernel
theorem dX3_isAcceptable_1 : decode cX3_isAcceptable 1 = .ok (.getfield 135, 3) := by decide +kernel
theorem dX3_isAcceptable_4 : decode cX3_isAcceptable 4 = .ok (.aload_n 1, 1) := by decide +kernel
theorem dX3_isAcceptable_5 : decode cX3_isAcceptable 5 = .ok (.getfield 231, 3) := by decide +kernel
theorem dX3_isAcceptable_8 : decode cX3_isAcceptable 8 = .ok (.invokestatic 95, 3) := by decide +kernel
theorem dX3_isAcceptable_11 : decode cX3_isAcceptable 11 = .ok (.iconst (-1), 1) := by decide +kernel
theorem dX3_isAcceptable_12 : decode cX3_isAcceptable 12 = .ok (.ixor, 1) := by decide +kernel
theorem dX3_isAcceptable_13 : decode cX3_isAcceptable 13 = .ok (.iand, 1) := by decide +kernel
theorem dX3_isAcceptable_14 : decode cX3_isAcceptable 14 = .ok (.istore_n 3, 1) := by decide +kernel
theorem dX3_isAcceptable_15 : decode cX3_isAcceptable 15 = .ok (.aload_n 0, 1) := by decide +kernel
theorem dX3_isAcceptable_16 : decode cX3_isAcceptable 16 = .ok (.aload_n 1, 1) := by decide +kernel
theorem dX3_isAcceptable_17 : decode cX3_isAcceptable 17 = .ok (.aload_n 2, 1) := by decide +kernel
theorem dX3_isAcceptable_18 : decode cX3_isAcceptable 18 = .ok (.iload_n 3, 1) := by decide +kernel
theorem dX3_isAcceptable_19 : decode cX3_isAcceptable 19 = .ok (.invokevirtual 155, 3) := by decide +kernel
theorem dX3_isAcceptable_22 : decode cX3_isAcceptable 22 = .ok (.ifCond .ne 7, 3) := by decide +kernel
theorem dX3_isAcceptable_25 : decode cX3_isAcceptable 25 = .ok (.iconst 1, 1) := by decide +kernel
theorem dX3_isAcceptable_26 : decode cX3_isAcceptable 26 = .ok (.goto 4, 3) := by decide +kernel
theorem dX3_isAcceptable_29 : decode cX3_isAcceptable 29 = .ok (.iconst 0, 1) := by decide +kernel
theorem dX3_isAcceptable_30 : decode cX3_isAcceptable 30 = .ok (.ireturn, 1) := by decide +kernel
theorem dX3_firstWhoPutUp_0 : decode cX3_firstWhoPutUp 0 = .ok (.iconst 0, 1) := by decide +kernel
theorem dX3_firstWhoPutUp_1 : decode cX3_firstWhoPutUp 1 = .ok (.istore_n 3, 1) := by decide +kernel
theorem dX3_firstWhoPutUp_2 : decode cX3_firstWhoPutUp 2 = .ok (.iload_n 3, 1) := by decide +kernel
theorem dX3_firstWhoPutUp_3 : decode cX3_firstWhoPutUp 3 = .ok (.aload_n 0, 1) := by decide +kernel
theorem dX3_firstWhoPutUp_4 : decode cX3_firstWhoPutUp 4 = .ok (.getfield 29, 3) := by decide +kernel
theorem dX3_firstWhoPutUp_7 : decode cX3_firstWhoPutUp 7 = .ok (.if_icmp .ge 32, 3) := by decide +kernel
theorem dX3_firstWhoPutUp_10 : decode cX3_firstWhoPutUp 10 = .ok (.iload_n 2, 1) := by decide +kernel
theorem dX3_firstWhoPutUp_11 : decode cX3_firstWhoPutUp 11 = .ok (.iload_n 3, 1) := by decide +kernel
theorem dX3_firstWhoPutUp_12 : decode cX3_firstWhoPutUp 12 = .ok (.invokestatic 86, 3) := by decide +kernel
theorem dX3_firstWhoPutUp_15 : decode cX3_firstWhoPutUp 15 = .ok (.ifCond .eq 18, 3) := by decide +kernel
theorem dX3_firstWhoPutUp_18 : decode cX3_firstWhoPutUp 18 = .ok (.aload_n 0, 1) := by decide +kernel
theorem dX3_firstWhoPutUp_19 : decode cX3_firstWhoPutUp 19 = .ok (.getfield 20, 3) := by decide +kernel
theorem dX3_firstWhoPutUp_22 : decode cX3_firstWhoPutUp 22 = .ok (.iload_n 3, 1) := by decide +kernel
theorem dX3_firstWhoPutUp_23 : decode cX3_firstWhoPutUp 23 = .ok (.aaload, 1) := by decide +kernel
theorem dX3_firstWhoPutUp_24 : decode cX3_firstWhoPutUp 24 = .ok (.getfield 231, 3) := by decide +kernel
theorem dX3_firstWhoPutUp_27 : decode cX3_firstWhoPutUp 27 = .ok (.iload_n 1, 1) := by decide +kernel
theorem dX3_firstWhoPutUp_28 : decode cX3_firstWhoPutUp 28 = .ok (.if_icmp .ne 5, 3) := by decide +kernel
theorem dX3_firstWhoPutUp_31 : decode cX3_firstWhoPutUp 31 = .ok (.iload_n 3, 1) := by decide +kernel
theorem dX3_firstWhoPutUp_32 : decode cX3_firstWhoPutUp 32 = .ok (.ireturn, 1) := by decide +kernel
theorem dX3_firstWhoPutUp_33 : decode cX3_firstWhoPutUp 33 = .ok (.iinc 3 1, 3) := by decide +kernel
theorem dX3_firstWhoPutUp_36 : decode cX3_firstWhoPutUp 36 = .ok (.goto (-34), 3) := by decide +kernel
theorem dX3_firstWhoPutUp_39 : decode cX3_firstWhoPutUp 39 = .ok (.iconst (-1), 1) := by decide +kernel
theorem dX3_firstWhoPutUp_40 : decode cX3_firstWhoPutUp 40 = .ok (.ireturn, 1) := by decide +kernel
theorem dX3_targetOf_0 : decode cX3_targetOf 0 = .ok (.iconst 0, 1) := by decide +kernel
theorem dX3_targetOf_1 : decode cX3_targetOf 1 = .ok (.istore_n 3, 1) := by decide +kernel
theorem dX3_targetOf_2 : decode cX3_targetOf 2 = .ok (.iload_n 3, 1) := by decide +kernel
theorem dX3_targetOf_3 : decode cX3_targetOf 3 = .ok (.aload_n 1, 1) := by decide +kernel
theorem dX3_targetOf_4 : decode cX3_targetOf 4 = .ok (.getfield 140, 3) := by decide +kernel
theorem dX3_targetOf_7 : decode cX3_targetOf 7 = .ok (.invokevirtual 164, 3) := by decide +kernel
theorem dX3_targetOf_10 : decode cX3_targetOf 10 = .ok (.if_icmp .ge 54, 3) := by decide +kernel
theorem dX3_targetOf_13 : decode cX3_targetOf 13 = .ok (.aload_n 0, 1) := by decide +kernel
theorem dX3_targetOf_14 : decode cX3_targetOf 14 = .ok (.aload_n 1, 1) := by decide +kernel
theorem dX3_targetOf_15 : decode cX3_targetOf 15 = .ok (.getfield 140, 3) := by decide +kernel
theorem dX3_targetOf_18 : decode cX3_targetOf 18 = .ok (.iload_n 3, 1) := by decide +kernel
theorem dX3_targetOf_19 : decode cX3_targetOf 19 = .ok (.invokevirtual 259, 3) := by decide +kernel
theorem dX3_targetOf_22 : decode cX3_targetOf 22 = .ok (.invokevirtual 68, 3) := by decide +kernel
theorem dX3_targetOf_25 : decode cX3_targetOf 25 = .ok (.astore 4, 2) := by decide +kernel
theorem dX3_targetOf_27 : decode cX3_targetOf 27 = .ok (.aload_n 0, 1) := by decide +kernel
theorem dX3_targetOf_28 : decode cX3_targetOf 28 = .ok (.aload 4, 2) := by decide +kernel
theorem dX3_targetOf_30 : decode cX3_targetOf 30 = .ok (.getfield 65, 3) := by decide +kernel
theorem dX3_targetOf_33 : decode cX3_targetOf 33 = .ok (.iload_n 2, 1) := by decide +kernel
theorem dX3_targetOf_34 : decode cX3_targetOf 34 = .ok (.invokevirtual 293, 3) := by decide +kernel
theorem dX3_targetOf_37 : decode cX3_targetOf 37 = .ok (.istore 5, 2) := by decide +kernel
theorem dX3_targetOf_39 : decode cX3_targetOf 39 = .ok (.iload 5, 2) := by decide +kernel
theorem dX3_targetOf_41 : decode cX3_targetOf 41 = .ok (.iconst (-1), 1) := by decide +kernel
theorem dX3_targetOf_42 : decode cX3_targetOf 42 = .ok (.if_icmp .eq 16, 3) := by decide +kernel
theorem dX3_targetOf_45 : decode cX3_targetOf 45 = .ok (.aload_n 0, 1) := by decide +kernel
theorem dX3_targetOf_46 : decode cX3_targetOf 46 = .ok (.aload_n 1, 1) := by decide +kernel
theorem dX3_targetOf_47 : decode cX3_targetOf 47 = .ok (.aload 4, 2) := by decide +kernel
theorem dX3_targetOf_49 : decode cX3_targetOf 49 = .ok (.invokevirtual 297, 3) := by decide +kernel
theorem dX3_targetOf_52 : decode cX3_targetOf 52 = .ok (.ifCond .eq 6, 3) := by decide +kernel
theorem dX3_targetOf_55 : decode cX3_targetOf 55 = .ok (.iload 5, 2) := by decide +kernel
theorem dX3_targetOf_57 : decode cX3_targetOf 57 = .ok (.ireturn, 1) := by decide +kernel
theorem dX3_targetOf_58 : decode cX3_targetOf 58 = .ok (.iinc 3 1, 3) := by decide +kernel
theorem dX3_targetOf_61 : decode cX3_targetOf 61 = .ok (.goto (-59), 3) := by decide +kernel
theorem dX3_targetOf_64 : decode cX3_targetOf 64 = .ok (.aload_n 1, 1) := by decide +kernel
theorem dX3_targetOf_65 : decode cX3_targetOf 65 = .ok (.getfield 127, 3) := by decide +kernel
theorem dX3_targetOf_68 : decode cX3_targetOf 68 = .ok (.ireturn, 1) := by decide +kernel
theorem dX3_pointAll_0 : decode cX3_pointAll 0 = .ok (.iconst 0, 1) := by decide +kernel
theorem dX3_pointAll_1 : decode cX3_pointAll 1 = .ok (.istore_n 2, 1) := by decide +kernel
theorem dX3_pointAll_2 : decode cX3_pointAll 2 = .ok (.iload_n 2, 1) := by decide +kernel
theorem dX3_pointAll_3 : decode cX3_pointAll 3 = .ok (.aload_n 0, 1) := by decide +kernel
theorem dX3_pointAll_4 : decode cX3_pointAll 4 = .ok (.getfield 29, 3) := by decide +kernel
theorem dX3_pointAll_7 : decode cX3_pointAll 7 = .ok (.if_icmp .ge 34, 3) := by decide +kernel
theorem dX3_pointAll_10 : decode cX3_pointAll 10 = .ok (.iload_n 1, 1) := by decide +kernel
theorem dX3_pointAll_11 : decode cX3_pointAll 11 = .ok (.iload_n 2, 1) := by decide +kernel
theorem dX3_pointAll_12 : decode cX3_pointAll 12 = .ok (.invokestatic 86, 3) := by decide +kernel
theorem dX3_pointAll_15 : decode cX3_pointAll 15 = .ok (.ifCond .eq 20, 3) := by decide +kernel
theorem dX3_pointAll_18 : decode cX3_pointAll 18 = .ok (.aload_n 0, 1) := by decide +kernel
theorem dX3_pointAll_19 : decode cX3_pointAll 19 = .ok (.getfield 20, 3) := by decide +kernel
theorem dX3_pointAll_22 : decode cX3_pointAll 22 = .ok (.iload_n 2, 1) := by decide +kernel
theorem dX3_pointAll_23 : decode cX3_pointAll 23 = .ok (.aaload, 1) := by decide +kernel
theorem dX3_pointAll_24 : decode cX3_pointAll 24 = .ok (.astore_n 3, 1) := by decide +kernel
theorem dX3_pointAll_25 : decode cX3_pointAll 25 = .ok (.aload_n 3, 1) := by decide +kernel
theorem dX3_pointAll_26 : decode cX3_pointAll 26 = .ok (.aload_n 0, 1) := by decide +kernel
theorem dX3_pointAll_27 : decode cX3_pointAll 27 = .ok (.aload_n 3, 1) := by decide +kernel
theorem dX3_pointAll_28 : decode cX3_pointAll 28 = .ok (.iload_n 1, 1) := by decide +kernel
theorem dX3_pointAll_29 : decode cX3_pointAll 29 = .ok (.invokevirtual 239, 3) := by decide +kernel
theorem dX3_pointAll_32 : decode cX3_pointAll 32 = .ok (.putfield 301, 3) := by decide +kernel
theorem dX3_pointAll_35 : decode cX3_pointAll 35 = .ok (.iinc 2 1, 3) := by decide +kernel
theorem dX3_pointAll_38 : decode cX3_pointAll 38 = .ok (.goto (-36), 3) := by decide +kernel
theorem dX3_pointAll_41 : decode cX3_pointAll 41 = .ok (.return_, 1) := by decide +kernel
theorem dX3_isOnCircle_0 : decode cX3_isOnCircle 0 = .ok (.aload_n 0, 1) := by decide +kernel
theorem dX3_isOnCircle_1 : decode cX3_isOnCircle 1 = .ok (.aload_n 1, 1) := by decide +kernel
theorem dX3_isOnCircle_2 : decode cX3_isOnCircle 2 = .ok (.getfield 301, 3) := by decide +kernel
theorem dX3_isOnCircle_5 : decode cX3_isOnCircle 5 = .ok (.invokevirtual 128, 3) := by decide +kernel
theorem dX3_isOnCircle_8 : decode cX3_isOnCircle 8 = .ok (.astore_n 2, 1) := by decide +kernel
theorem dX3_isOnCircle_9 : decode cX3_isOnCircle 9 = .ok (.iconst 1, 1) := by decide +kernel
theorem dX3_isOnCircle_10 : decode cX3_isOnCircle 10 = .ok (.istore_n 3, 1) := by decide +kernel
theorem dX3_isOnCircle_11 : decode cX3_isOnCircle 11 = .ok (.iload_n 3, 1) := by decide +kernel
theorem dX3_isOnCircle_12 : decode cX3_isOnCircle 12 = .ok (.aload_n 0, 1) := by decide +kernel
theorem dX3_isOnCircle_13 : decode cX3_isOnCircle 13 = .ok (.getfield 29, 3) := by decide +kernel
theorem dX3_isOnCircle_16 : decode cX3_isOnCircle 16 = .ok (.if_icmp .ge 23, 3) := by decide +kernel
theorem dX3_isOnCircle_19 : decode cX3_isOnCircle 19 = .ok (.aload_n 2, 1) := by decide +kernel
theorem dX3_isOnCircle_20 : decode cX3_isOnCircle 20 = .ok (.aload_n 1, 1) := by decide +kernel
theorem dX3_isOnCircle_21 : decode cX3_isOnCircle 21 = .ok (.if_acmp .eq 18, 3) := by decide +kernel
theorem dX3_isOnCircle_24 : decode cX3_isOnCircle 24 = .ok (.aload_n 0, 1) := by decide +kernel
theorem dX3_isOnCircle_25 : decode cX3_isOnCircle 25 = .ok (.aload_n 2, 1) := by decide +kernel
theorem dX3_isOnCircle_26 : decode cX3_isOnCircle 26 = .ok (.getfield 301, 3) := by decide +kernel
theorem dX3_isOnCircle_29 : decode cX3_isOnCircle 29 = .ok (.invokevirtual 128, 3) := by decide +kernel
theorem dX3_isOnCircle_32 : decode cX3_isOnCircle 32 = .ok (.astore_n 2, 1) := by decide +kernel
theorem dX3_isOnCircle_33 : decode cX3_isOnCircle 33 = .ok (.iinc 3 1, 3) := by decide +kernel
theorem dX3_isOnCircle_36 : decode cX3_isOnCircle 36 = .ok (.goto (-25), 3) := by decide +kernel
theorem dX3_isOnCircle_39 : decode cX3_isOnCircle 39 = .ok (.aload_n 2, 1) := by decide +kernel
theorem dX3_isOnCircle_40 : decode cX3_isOnCircle 40 = .ok (.aload_n 1, 1) := by decide +kernel
theorem dX3_isOnCircle_41 : decode cX3_isOnCircle 41 = .ok (.if_acmp .ne 7, 3) := by decide +kernel
theorem dX3_isOnCircle_44 : decode cX3_isOnCircle 44 = .ok (.iconst 1, 1) := by decide +kernel
theorem dX3_isOnCircle_45 : decode cX3_isOnCircle 45 = .ok (.goto 4, 3) := by decide +kernel
theorem dX3_isOnCircle_48 : decode cX3_isOnCircle 48 = .ok (.iconst 0, 1) := by decide +kernel
theorem dX3_isOnCircle_49 : decode cX3_isOnCircle 49 = .ok (.ireturn, 1) := by decide +kernel
theorem dX3_onCircles_0 : decode cX3_onCircles 0 = .ok (.iconst 0, 1) := by decide +kernel
theorem dX3_onCircles_1 : decode cX3_onCircles 1 = .ok (.istore_n 2, 1) := by decide +kernel
theorem dX3_onCircles_2 : decode cX3_onCircles 2 = .ok (.iconst 0, 1) := by decide +kernel
theorem dX3_onCircles_3 : decode cX3_onCircles 3 = .ok (.istore_n 3, 1) := by decide +kernel
theorem dX3_onCircles_4 : decode cX3_onCircles 4 = .ok (.iload_n 3, 1) := by decide +kernel
theorem dX3_onCircles_5 : decode cX3_onCircles 5 = .ok (.aload_n 0, 1) := by decide +kernel
theorem dX3_onCircles_6 : decode cX3_onCircles 6 = .ok (.getfield 29, 3) := by decide +kernel
theorem dX3_onCircles_9 : decode cX3_onCircles 9 = .ok (.if_icmp .ge 37, 3) := by decide +kernel
theorem dX3_onCircles_12 : decode cX3_onCircles 12 = .ok (.iload_n 1, 1) := by decide +kernel
theorem dX3_onCircles_13 : decode cX3_onCircles 13 = .ok (.iload_n 3, 1) := by decide +kernel
theorem dX3_onCircles_14 : decode cX3_onCircles 14 = .ok (.invokestatic 86, 3) := by decide +kernel
theorem dX3_onCircles_17 : decode cX3_onCircles 17 = .ok (.ifCond .eq 23, 3) := by decide +kernel
theorem dX3_onCircles_20 : decode cX3_onCircles 20 = .ok (.aload_n 0, 1) := by decide +kernel
theorem dX3_onCircles_21 : decode cX3_onCircles 21 = .ok (.aload_n 0, 1) := by decide +kernel
theorem dX3_onCircles_22 : decode cX3_onCircles 22 = .ok (.getfield 20, 3) := by decide +kernel
theorem dX3_onCircles_25 : decode cX3_onCircles 25 = .ok (.iload_n 3, 1) := by decide +kernel
theorem dX3_onCircles_26 : decode cX3_onCircles 26 = .ok (.aaload, 1) := by decide +kernel
theorem dX3_onCircles_27 : decode cX3_onCircles 27 = .ok (.invokevirtual 304, 3) := by decide +kernel
theorem dX3_onCircles_30 : decode cX3_onCircles 30 = .ok (.ifCond .eq 10, 3) := by decide +kernel
theorem dX3_onCircles_33 : decode cX3_onCircles 33 = .ok (.iload_n 2, 1) := by decide +kernel
theorem dX3_onCircles_34 : decode cX3_onCircles 34 = .ok (.iload_n 3, 1) := by decide +kernel
theorem dX3_onCircles_35 : decode cX3_onCircles 35 = .ok (.invokestatic 95, 3) := by decide +kernel
theorem dX3_onCircles_38 : decode cX3_onCircles 38 = .ok (.ior, 1) := by decide +kernel
theorem dX3_onCircles_39 : decode cX3_onCircles 39 = .ok (.istore_n 2, 1) := by decide +kernel
theorem dX3_onCircles_40 : decode cX3_onCircles 40 = .ok (.iinc 3 1, 3) := by decide +kernel
theorem dX3_onCircles_43 : decode cX3_onCircles 43 = .ok (.goto (-39), 3) := by decide +kernel
theorem dX3_onCircles_46 : decode cX3_onCircles 46 = .ok (.iload_n 2, 1) := by decide +kernel
theorem dX3_onCircles_47 : decode cX3_onCircles 47 = .ok (.ireturn, 1) := by decide +kernel
theorem dX3_movePlaces_0 : decode cX3_movePlaces 0 = .ok (.iconst 0, 1) := by decide +kernel
theorem dX3_movePlaces_1 : decode cX3_movePlaces 1 = .ok (.istore_n 2, 1) := by decide +kernel
theorem dX3_movePlaces_2 : decode cX3_movePlaces 2 = .ok (.iload_n 2, 1) := by decide +kernel
theorem dX3_movePlaces_3 : decode cX3_movePlaces 3 = .ok (.aload_n 0, 1) := by decide +kernel
theorem dX3_movePlaces_4 : decode cX3_movePlaces 4 = .ok (.getfield 29, 3) := by decide +kernel
theorem dX3_movePlaces_7 : decode cX3_movePlaces 7 = .ok (.if_icmp .ge 63, 3) := by decide +kernel
theorem dX3_movePlaces_10 : decode cX3_movePlaces 10 = .ok (.aload_n 0, 1) := by decide +kernel
theorem dX3_movePlaces_11 : decode cX3_movePlaces 11 = .ok (.getfield 20, 3) := by decide +kernel
theorem dX3_movePlaces_14 : decode cX3_movePlaces 14 = .ok (.iload_n 2, 1) := by decide +kernel
theorem dX3_movePlaces_15 : decode cX3_movePlaces 15 = .ok (.aaload, 1) := by decide +kernel
theorem dX3_movePlaces_16 : decode cX3_movePlaces 16 = .ok (.astore_n 3, 1) := by decide +kernel
theorem dX3_movePlaces_17 : decode cX3_movePlaces 17 = .ok (.iload_n 1, 1) := by decide +kernel
theorem dX3_movePlaces_18 : decode cX3_movePlaces 18 = .ok (.iload_n 2, 1) := by decide +kernel
theorem dX3_movePlaces_19 : decode cX3_movePlaces 19 = .ok (.invokestatic 86, 3) := by decide +kernel
theorem dX3_movePlaces_22 : decode cX3_movePlaces 22 = .ok (.ifCond .eq 15, 3) := by decide +kernel
theorem dX3_movePlaces_25 : decode cX3_movePlaces 25 = .ok (.aload_n 3, 1) := by decide +kernel
theorem dX3_movePlaces_26 : decode cX3_movePlaces 26 = .ok (.getfield 301, 3) := by decide +kernel
theorem dX3_movePlaces_29 : decode cX3_movePlaces 29 = .ok (.iload_n 2, 1) := by decide +kernel
theorem dX3_movePlaces_30 : decode cX3_movePlaces 30 = .ok (.if_icmp .eq 7, 3) := by decide +kernel
theorem dX3_movePlaces_33 : decode cX3_movePlaces 33 = .ok (.iconst 1, 1) := by decide +kernel
theorem dX3_movePlaces_34 : decode cX3_movePlaces 34 = .ok (.goto 4, 3) := by decide +kernel
theorem dX3_movePlaces_37 : decode cX3_movePlaces 37 = .ok (.iconst 0, 1) := by decide +kernel
theorem dX3_movePlaces_38 : decode cX3_movePlaces 38 = .ok (.istore 4, 2) := by decide +kernel
theorem dX3_movePlaces_40 : decode cX3_movePlaces 40 = .ok (.aload_n 3, 1) := by decide +kernel
theorem dX3_movePlaces_41 : decode cX3_movePlaces 41 = .ok (.iload 4, 2) := by decide +kernel
theorem dX3_movePlaces_43 : decode cX3_movePlaces 43 = .ok (.ifCond .eq 17, 3) := by decide +kernel
theorem dX3_movePlaces_46 : decode cX3_movePlaces 46 = .ok (.aload_n 0, 1) := by decide +kernel
theorem dX3_movePlaces_47 : decode cX3_movePlaces 47 = .ok (.aload_n 3, 1) := by decide +kernel
theorem dX3_movePlaces_48 : decode cX3_movePlaces 48 = .ok (.getfield 301, 3) := by decide +kernel
theorem dX3_movePlaces_51 : decode cX3_movePlaces 51 = .ok (.invokevirtual 128, 3) := by decide +kernel
theorem dX3_movePlaces_54 : decode cX3_movePlaces 54 = .ok (.getfield 231, 3) := by decide +kernel
theorem dX3_movePlaces_57 : decode cX3_movePlaces 57 = .ok (.goto 4, 3) := by decide +kernel
theorem dX3_movePlaces_60 : decode cX3_movePlaces 60 = .ok (.iconst (-1), 1) := by decide +kernel
theorem dX3_movePlaces_61 : decode cX3_movePlaces 61 = .ok (.putfield 307, 3) := by decide +kernel
theorem dX3_movePlaces_64 : decode cX3_movePlaces 64 = .ok (.iinc 2 1, 3) := by decide +kernel
theorem dX3_movePlaces_67 : decode cX3_movePlaces 67 = .ok (.goto (-65), 3) := by decide +kernel
theorem dX3_movePlaces_70 : decode cX3_movePlaces 70 = .ok (.iconst 0, 1) := by decide +kernel
theorem dX3_movePlaces_71 : decode cX3_movePlaces 71 = .ok (.istore_n 2, 1) := by decide +kernel
theorem dX3_movePlaces_72 : decode cX3_movePlaces 72 = .ok (.iconst 0, 1) := by decide +kernel
theorem dX3_movePlaces_73 : decode cX3_movePlaces 73 = .ok (.istore_n 3, 1) := by decide +kernel
theorem dX3_movePlaces_74 : decode cX3_movePlaces 74 = .ok (.iload_n 3, 1) := by decide +kernel
theorem dX3_movePlaces_75 : decode cX3_movePlaces 75 = .ok (.aload_n 0, 1) := by decide +kernel
theorem dX3_movePlaces_76 : decode cX3_movePlaces 76 = .ok (.getfield 29, 3) := by decide +kernel
theorem dX3_movePlaces_79 : decode cX3_movePlaces 79 = .ok (.if_icmp .ge 59, 3) := by decide +kernel
theorem dX3_movePlaces_82 : decode cX3_movePlaces 82 = .ok (.aload_n 0, 1) := by decide +kernel
theorem dX3_movePlaces_83 : decode cX3_movePlaces 83 = .ok (.getfield 20, 3) := by decide +kernel
theorem dX3_movePlaces_86 : decode cX3_movePlaces 86 = .ok (.iload_n 3, 1) := by decide +kernel
theorem dX3_movePlaces_87 : decode cX3_movePlaces 87 = .ok (.aaload, 1) := by decide +kernel
theorem dX3_movePlaces_88 : decode cX3_movePlaces 88 = .ok (.astore 4, 2) := by decide +kernel
theorem dX3_movePlaces_90 : decode cX3_movePlaces 90 = .ok (.aload 4, 2) := by decide +kernel
theorem dX3_movePlaces_92 : decode cX3_movePlaces 92 = .ok (.getfield 307, 3) := by decide +kernel
theorem dX3_movePlaces_95 : decode cX3_movePlaces 95 = .ok (.iconst (-1), 1) := by decide +kernel
theorem dX3_movePlaces_96 : decode cX3_movePlaces 96 = .ok (.if_icmp .eq 36, 3) := by decide +kernel
theorem dX3_movePlaces_99 : decode cX3_movePlaces 99 = .ok (.aload_n 0, 1) := by decide +kernel
theorem dX3_movePlaces_100 : decode cX3_movePlaces 100 = .ok (.aload 4, 2) := by decide +kernel
theorem dX3_movePlaces_102 : decode cX3_movePlaces 102 = .ok (.aload_n 0, 1) := by decide +kernel
theorem dX3_movePlaces_103 : decode cX3_movePlaces 103 = .ok (.aload 4, 2) := by decide +kernel
theorem dX3_movePlaces_105 : decode cX3_movePlaces 105 = .ok (.getfield 231, 3) := by decide +kernel
theorem dX3_movePlaces_108 : decode cX3_movePlaces 108 = .ok (.invokevirtual 68, 3) := by decide +kernel
theorem dX3_movePlaces_111 : decode cX3_movePlaces 111 = .ok (.invokevirtual 192, 3) := by decide +kernel
theorem dX3_movePlaces_114 : decode cX3_movePlaces 114 = .ok (.aload_n 0, 1) := by decide +kernel
theorem dX3_movePlaces_115 : decode cX3_movePlaces 115 = .ok (.aload 4, 2) := by decide +kernel
theorem dX3_movePlaces_117 : decode cX3_movePlaces 117 = .ok (.aload_n 0, 1) := by decide +kernel
theorem dX3_movePlaces_118 : decode cX3_movePlaces 118 = .ok (.aload 4, 2) := by decide +kernel
theorem dX3_movePlaces_120 : decode cX3_movePlaces 120 = .ok (.getfield 307, 3) := by decide +kernel
theorem dX3_movePlaces_123 : decode cX3_movePlaces 123 = .ok (.invokevirtual 68, 3) := by decide +kernel
theorem dX3_movePlaces_126 : decode cX3_movePlaces 126 = .ok (.invokevirtual 186, 3) := by decide +kernel
theorem dX3_movePlaces_129 : decode cX3_movePlaces 129 = .ok (.iinc 2 1, 3) := by decide +kernel
theorem dX3_movePlaces_132 : decode cX3_movePlaces 132 = .ok (.iinc 3 1, 3) := by decide +kernel
theorem dX3_movePlaces_135 : decode cX3_movePlaces 135 = .ok (.goto (-61), 3) := by decide +kernel
theorem dX3_movePlaces_138 : decode cX3_movePlaces 138 = .ok (.iload_n 2, 1) := by decide +kernel
theorem dX3_movePlaces_139 : decode cX3_movePlaces 139 = .ok (.ireturn, 1) := by decide +kernel
theorem dJ6_bitCount_0f7a4_0 : decode cJ6_bitCount_0f7a4 0 = .ok (.iload_n 0, 1) := by decide +kernel
theorem dJ6_bitCount_0f7a4_1 : decode cJ6_bitCount_0f7a4 1 = .ok (.iload_n 0, 1) := by decide +kernel
theorem dJ6_bitCount_0f7a4_2 : decode cJ6_bitCount_0f7a4 2 = .ok (.iconst 1, 1) := by decide +kernel
theorem dJ6_bitCount_0f7a4_3 : decode cJ6_bitCount_0f7a4 3 = .ok (.iushr, 1) := by decide +kernel
theorem dJ6_bitCount_0f7a4_4 : decode cJ6_bitCount_0f7a4 4 = .ok (.ldc_w 265, 3) := by decide +kernel
theorem dJ6_bitCount_0f7a4_7 : decode cJ6_bitCount_0f7a4 7 = .ok (.iand, 1) := by decide +kernel
theorem dJ6_bitCount_0f7a4_8 : decode cJ6_bitCount_0f7a4 8 = .ok (.isub, 1) := by decide +kernel
theorem dJ6_bitCount_0f7a4_9 : decode cJ6_bitCount_0f7a4 9 = .ok (.istore_n 0, 1) := by decide +kernel
theorem dJ6_bitCount_0f7a4_10 : decode cJ6_bitCount_0f7a4 10 = .ok (.iload_n 0, 1) := by decide +kernel
theorem dJ6_bitCount_0f7a4_11 : decode cJ6_bitCount_0f7a4 11 = .ok (.ldc_w 266, 3) := by decide +kernel
theorem dJ6_bitCount_0f7a4_14 : decode cJ6_bitCount_0f7a4 14 = .ok (.iand, 1) := by decide +kernel
theorem dJ6_bitCount_0f7a4_15 : decode cJ6_bitCount_0f7a4 15 = .ok (.iload_n 0, 1) := by decide +kernel
theorem dJ6_bitCount_0f7a4_16 : decode cJ6_bitCount_0f7a4 16 = .ok (.iconst 2, 1) := by decide +kernel
theorem dJ6_bitCount_0f7a4_17 : decode cJ6_bitCount_0f7a4 17 = .ok (.iushr, 1) := by decide +kernel
theorem dJ6_bitCount_0f7a4_18 : decode cJ6_bitCount_0f7a4 18 = .ok (.ldc_w 266, 3) := by decide +kernel
theorem dJ6_bitCount_0f7a4_21 : decode cJ6_bitCount_0f7a4 21 = .ok (.iand, 1) := by decide +kernel
theorem dJ6_bitCount_0f7a4_22 : decode cJ6_bitCount_0f7a4 22 = .ok (.iadd, 1) := by decide +kernel
theorem dJ6_bitCount_0f7a4_23 : decode cJ6_bitCount_0f7a4 23 = .ok (.istore_n 0, 1) := by decide +kernel
theorem dJ6_bitCount_0f7a4_24 : decode cJ6_bitCount_0f7a4 24 = .ok (.iload_n 0, 1) := by decide +kernel
theorem dJ6_bitCount_0f7a4_25 : decode cJ6_bitCount_0f7a4 25 = .ok (.iload_n 0, 1) := by decide +kernel
theorem dJ6_bitCount_0f7a4_26 : decode cJ6_bitCount_0f7a4 26 = .ok (.iconst 4, 1) := by decide +kernel
theorem dJ6_bitCount_0f7a4_27 : decode cJ6_bitCount_0f7a4 27 = .ok (.iushr, 1) := by decide +kernel
theorem dJ6_bitCount_0f7a4_28 : decode cJ6_bitCount_0f7a4 28 = .ok (.iadd, 1) := by decide +kernel
theorem dJ6_bitCount_0f7a4_29 : decode cJ6_bitCount_0f7a4 29 = .ok (.ldc_w 267, 3) := by decide +kernel
theorem dJ6_bitCount_0f7a4_32 : decode cJ6_bitCount_0f7a4 32 = .ok (.iand, 1) := by decide +kernel
theorem dJ6_bitCount_0f7a4_33 : decode cJ6_bitCount_0f7a4 33 = .ok (.istore_n 0, 1) := by decide +kernel
theorem dJ6_bitCount_0f7a4_34 : decode cJ6_bitCount_0f7a4 34 = .ok (.iload_n 0, 1) := by decide +kernel
theorem dJ6_bitCount_0f7a4_35 : decode cJ6_bitCount_0f7a4 35 = .ok (.iload_n 0, 1) := by decide +kernel
theorem dJ6_bitCount_0f7a4_36 : decode cJ6_bitCount_0f7a4 36 = .ok (.bipush 8, 2) := by decide +kernel
theorem dJ6_bitCount_0f7a4_38 : decode cJ6_bitCount_0f7a4 38 = .ok (.iushr, 1) := by decide +kernel
theorem dJ6_bitCount_0f7a4_39 : decode cJ6_bitCount_0f7a4 39 = .ok (.iadd, 1) := by decide +kernel
theorem dJ6_bitCount_0f7a4_40 : decode cJ6_bitCount_0f7a4 40 = .ok (.istore_n 0, 1) := by decide +kernel
theorem dJ6_bitCount_0f7a4_41 : decode cJ6_bitCount_0f7a4 41 = .ok (.iload_n 0, 1) := by decide +kernel
theorem dJ6_bitCount_0f7a4_42 : decode cJ6_bitCount_0f7a4 42 = .ok (.iload_n 0, 1) := by decide +kernel
theorem dJ6_bitCount_0f7a4_43 : decode cJ6_bitCount_0f7a4 43 = .ok (.bipush 16, 2) := by decide +kernel
theorem dJ6_bitCount_0f7a4_45 : decode cJ6_bitCount_0f7a4 45 = .ok (.iushr, 1) := by decide +kernel
theorem dJ6_bitCount_0f7a4_46 : decode cJ6_bitCount_0f7a4 46 = .ok (.iadd, 1) := by decide +kernel
theorem dJ6_bitCount_0f7a4_47 : decode cJ6_bitCount_0f7a4 47 = .ok (.istore_n 0, 1) := by decide +kernel
theorem dJ6_bitCount_0f7a4_48 : decode cJ6_bitCount_0f7a4 48 = .ok (.iload_n 0, 1) := by decide +kernel
theorem dJ6_bitCount_0f7a4_49 : decode cJ6_bitCount_0f7a4 49 = .ok (.bipush 63, 2) := by decide +kernel
theorem dJ6_bitCount_0f7a4_51 : decode cJ6_bitCount_0f7a4 51 = .ok (.iand, 1) := by decide +kernel
theorem dJ6_bitCount_0f7a4_52 : decode cJ6_bitCount_0f7a4 52 = .ok (.ireturn, 1) := by decide +kernel
