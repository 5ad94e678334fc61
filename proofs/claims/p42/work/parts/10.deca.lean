theorem dX0_init_0 : decode cX0_init 0 = .ok (.aload_n 0, 1) := by decide +kernel
theorem dX0_init_1 : decode cX0_init 1 = .ok (.invokespecial 3, 3) := by decide +kernel
theorem dX0_init_4 : decode cX0_init 4 = .ok (.aload_n 0, 1) := by decide +kernel
theorem dX0_init_5 : decode cX0_init 5 = .ok (.bipush 6, 2) := by decide +kernel
theorem dX0_init_7 : decode cX0_init 7 = .ok (.newarray .int, 2) := by decide +kernel
theorem dX0_init_9 : decode cX0_init 9 = .ok (.putfield 11, 3) := by decide +kernel
theorem dX0_init_12 : decode cX0_init 12 = .ok (.aload_n 0, 1) := by decide +kernel
theorem dX0_init_13 : decode cX0_init 13 = .ok (.bipush 24, 2) := by decide +kernel
theorem dX0_init_15 : decode cX0_init 15 = .ok (.newarray .int, 2) := by decide +kernel
theorem dX0_init_17 : decode cX0_init 17 = .ok (.putfield 15, 3) := by decide +kernel
theorem dX0_init_20 : decode cX0_init 20 = .ok (.aload_n 0, 1) := by decide +kernel
theorem dX0_init_21 : decode cX0_init 21 = .ok (.bipush 64, 2) := by decide +kernel
theorem dX0_init_23 : decode cX0_init 23 = .ok (.newarray .int, 2) := by decide +kernel
theorem dX0_init_25 : decode cX0_init 25 = .ok (.putfield 18, 3) := by decide +kernel
theorem dX0_init_28 : decode cX0_init 28 = .ok (.return_, 1) := by decide +kernel
theorem dX1_init_0 : decode cX1_init 0 = .ok (.aload_n 0, 1) := by decide +kernel
theorem dX1_init_1 : decode cX1_init 1 = .ok (.invokespecial 1, 3) := by decide +kernel
theorem dX1_init_4 : decode cX1_init 4 = .ok (.aload_n 0, 1) := by decide +kernel
theorem dX1_init_5 : decode cX1_init 5 = .ok (.iconst 5, 1) := by decide +kernel
theorem dX1_init_6 : decode cX1_init 6 = .ok (.anewarray 9, 3) := by decide +kernel
theorem dX1_init_9 : decode cX1_init 9 = .ok (.putfield 11, 3) := by decide +kernel
theorem dX1_init_12 : decode cX1_init 12 = .ok (.iconst 0, 1) := by decide +kernel
theorem dX1_init_13 : decode cX1_init 13 = .ok (.istore_n 1, 1) := by decide +kernel
theorem dX1_init_14 : decode cX1_init 14 = .ok (.iload_n 1, 1) := by decide +kernel
theorem dX1_init_15 : decode cX1_init 15 = .ok (.aload_n 0, 1) := by decide +kernel
theorem dX1_init_16 : decode cX1_init 16 = .ok (.getfield 11, 3) := by decide +kernel
theorem dX1_init_19 : decode cX1_init 19 = .ok (.arraylength, 1) := by decide +kernel
theorem dX1_init_20 : decode cX1_init 20 = .ok (.if_icmp .ge 22, 3) := by decide +kernel
theorem dX1_init_23 : decode cX1_init 23 = .ok (.aload_n 0, 1) := by decide +kernel
theorem dX1_init_24 : decode cX1_init 24 = .ok (.getfield 11, 3) := by decide +kernel
theorem dX1_init_27 : decode cX1_init 27 = .ok (.iload_n 1, 1) := by decide +kernel
theorem dX1_init_28 : decode cX1_init 28 = .ok (.new 9, 3) := by decide +kernel
theorem dX1_init_31 : decode cX1_init 31 = .ok (.dup, 1) := by decide +kernel
theorem dX1_init_32 : decode cX1_init 32 = .ok (.invokespecial 15, 3) := by decide +kernel
theorem dX1_init_35 : decode cX1_init 35 = .ok (.aastore, 1) := by decide +kernel
theorem dX1_init_36 : decode cX1_init 36 = .ok (.iinc 1 1, 3) := by decide +kernel
theorem dX1_init_39 : decode cX1_init 39 = .ok (.goto (-25), 3) := by decide +kernel
theorem dX1_init_42 : decode cX1_init 42 = .ok (.return_, 1) := by decide +kernel
theorem dX1_stateAt_0 : decode cX1_stateAt 0 = .ok (.iload_n 1, 1) := by decide +kernel
theorem dX1_stateAt_1 : decode cX1_stateAt 1 = .ok (.ifCond .lt 21, 3) := by decide +kernel
theorem dX1_stateAt_4 : decode cX1_stateAt 4 = .ok (.iload_n 1, 1) := by decide +kernel
theorem dX1_stateAt_5 : decode cX1_stateAt 5 = .ok (.aload_n 0, 1) := by decide +kernel
theorem dX1_stateAt_6 : decode cX1_stateAt 6 = .ok (.getfield 11, 3) := by decide +kernel
theorem dX1_stateAt_9 : decode cX1_stateAt 9 = .ok (.arraylength, 1) := by decide +kernel
theorem dX1_stateAt_10 : decode cX1_stateAt 10 = .ok (.if_icmp .ge 12, 3) := by decide +kernel
theorem dX1_stateAt_13 : decode cX1_stateAt 13 = .ok (.aload_n 0, 1) := by decide +kernel
theorem dX1_stateAt_14 : decode cX1_stateAt 14 = .ok (.getfield 11, 3) := by decide +kernel
theorem dX1_stateAt_17 : decode cX1_stateAt 17 = .ok (.iload_n 1, 1) := by decide +kernel
theorem dX1_stateAt_18 : decode cX1_stateAt 18 = .ok (.aaload, 1) := by decide +kernel
theorem dX1_stateAt_19 : decode cX1_stateAt 19 = .ok (.goto 4, 3) := by decide +kernel
theorem dX1_stateAt_22 : decode cX1_stateAt 22 = .ok (.aconst_null, 1) := by decide +kernel
theorem dX1_stateAt_23 : decode cX1_stateAt 23 = .ok (.areturn, 1) := by decide +kernel
theorem dX1_keep_0 : decode cX1_keep 0 = .ok (.aload_n 0, 1) := by decide +kernel
theorem dX1_keep_1 : decode cX1_keep 1 = .ok (.aload_n 0, 1) := by decide +kernel
theorem dX1_keep_2 : decode cX1_keep 2 = .ok (.getfield 16, 3) := by decide +kernel
theorem dX1_keep_5 : decode cX1_keep 5 = .ok (.invokevirtual 20, 3) := by decide +kernel
theorem dX1_keep_8 : decode cX1_keep 8 = .ok (.astore_n 2, 1) := by decide +kernel
theorem dX1_keep_9 : decode cX1_keep 9 = .ok (.aload_n 2, 1) := by decide +kernel
theorem dX1_keep_10 : decode cX1_keep 10 = .ok (.ifnull 8, 3) := by decide +kernel
theorem dX1_keep_13 : decode cX1_keep 13 = .ok (.aload_n 2, 1) := by decide +kernel
theorem dX1_keep_14 : decode cX1_keep 14 = .ok (.aload_n 1, 1) := by decide +kernel
theorem dX1_keep_15 : decode cX1_keep 15 = .ok (.invokevirtual 24, 3) := by decide +kernel
theorem dX1_keep_18 : decode cX1_keep 18 = .ok (.aload_n 0, 1) := by decide +kernel
theorem dX1_keep_19 : decode cX1_keep 19 = .ok (.aload_n 0, 1) := by decide +kernel
theorem dX1_keep_20 : decode cX1_keep 20 = .ok (.getfield 16, 3) := by decide +kernel
theorem dX1_keep_23 : decode cX1_keep 23 = .ok (.iconst 1, 1) := by decide +kernel
theorem dX1_keep_24 : decode cX1_keep 24 = .ok (.iadd, 1) := by decide +kernel
theorem dX1_keep_25 : decode cX1_keep 25 = .ok (.iconst 5, 1) := by decide +kernel
theorem dX1_keep_26 : decode cX1_keep 26 = .ok (.if_icmp .ge 12, 3) := by decide +kernel
theorem dX1_keep_29 : decode cX1_keep 29 = .ok (.aload_n 0, 1) := by decide +kernel
theorem dX1_keep_30 : decode cX1_keep 30 = .ok (.getfield 16, 3) := by decide +kernel
theorem dX1_keep_33 : decode cX1_keep 33 = .ok (.iconst 1, 1) := by decide +kernel
theorem dX1_keep_34 : decode cX1_keep 34 = .ok (.iadd, 1) := by decide +kernel
theorem dX1_keep_35 : decode cX1_keep 35 = .ok (.goto 4, 3) := by decide +kernel
theorem dX1_keep_38 : decode cX1_keep 38 = .ok (.iconst 0, 1) := by decide +kernel
theorem dX1_keep_39 : decode cX1_keep 39 = .ok (.putfield 16, 3) := by decide +kernel
theorem dX1_keep_42 : decode cX1_keep 42 = .ok (.aload_n 0, 1) := by decide +kernel
theorem dX1_keep_43 : decode cX1_keep 43 = .ok (.aload_n 0, 1) := by decide +kernel
theorem dX1_keep_44 : decode cX1_keep 44 = .ok (.getfield 28, 3) := by decide +kernel
theorem dX1_keep_47 : decode cX1_keep 47 = .ok (.iconst 1, 1) := by decide +kernel
theorem dX1_keep_48 : decode cX1_keep 48 = .ok (.iadd, 1) := by decide +kernel
theorem dX1_keep_49 : decode cX1_keep 49 = .ok (.iconst 5, 1) := by decide +kernel
theorem dX1_keep_50 : decode cX1_keep 50 = .ok (.invokestatic 31, 3) := by decide +kernel
theorem dX1_keep_53 : decode cX1_keep 53 = .ok (.putfield 28, 3) := by decide +kernel
theorem dX1_keep_56 : decode cX1_keep 56 = .ok (.return_, 1) := by decide +kernel
theorem dX1_takeBack_0 : decode cX1_takeBack 0 = .ok (.aload_n 0, 1) := by decide +kernel
theorem dX1_takeBack_1 : decode cX1_takeBack 1 = .ok (.aload_n 0, 1) := by decide +kernel
theorem dX1_takeBack_2 : decode cX1_takeBack 2 = .ok (.getfield 16, 3) := by decide +kernel
theorem dX1_takeBack_5 : decode cX1_takeBack 5 = .ok (.ifCond .le 12, 3) := by decide +kernel
theorem dX1_takeBack_8 : decode cX1_takeBack 8 = .ok (.aload_n 0, 1) := by decide +kernel
theorem dX1_takeBack_9 : decode cX1_takeBack 9 = .ok (.getfield 16, 3) := by decide +kernel
theorem dX1_takeBack_12 : decode cX1_takeBack 12 = .ok (.iconst 1, 1) := by decide +kernel
theorem dX1_takeBack_13 : decode cX1_takeBack 13 = .ok (.isub, 1) := by decide +kernel
theorem dX1_takeBack_14 : decode cX1_takeBack 14 = .ok (.goto 4, 3) := by decide +kernel
theorem dX1_takeBack_17 : decode cX1_takeBack 17 = .ok (.iconst 4, 1) := by decide +kernel
theorem dX1_takeBack_18 : decode cX1_takeBack 18 = .ok (.putfield 16, 3) := by decide +kernel
theorem dX1_takeBack_21 : decode cX1_takeBack 21 = .ok (.aload_n 0, 1) := by decide +kernel
theorem dX1_takeBack_22 : decode cX1_takeBack 22 = .ok (.aload_n 0, 1) := by decide +kernel
theorem dX1_takeBack_23 : decode cX1_takeBack 23 = .ok (.getfield 28, 3) := by decide +kernel
theorem dX1_takeBack_26 : decode cX1_takeBack 26 = .ok (.iconst 1, 1) := by decide +kernel
theorem dX1_takeBack_27 : decode cX1_takeBack 27 = .ok (.isub, 1) := by decide +kernel
theorem dX1_takeBack_28 : decode cX1_takeBack 28 = .ok (.iconst 0, 1) := by decide +kernel
theorem dX1_takeBack_29 : decode cX1_takeBack 29 = .ok (.invokestatic 37, 3) := by decide +kernel
theorem dX1_takeBack_32 : decode cX1_takeBack 32 = .ok (.putfield 28, 3) := by decide +kernel
theorem dX1_takeBack_35 : decode cX1_takeBack 35 = .ok (.aload_n 0, 1) := by decide +kernel
theorem dX1_takeBack_36 : decode cX1_takeBack 36 = .ok (.aload_n 0, 1) := by decide +kernel
theorem dX1_takeBack_37 : decode cX1_takeBack 37 = .ok (.getfield 16, 3) := by decide +kernel
theorem dX1_takeBack_40 : decode cX1_takeBack 40 = .ok (.invokevirtual 20, 3) := by decide +kernel
theorem dX1_takeBack_43 : decode cX1_takeBack 43 = .ok (.astore_n 2, 1) := by decide +kernel
theorem dX1_takeBack_44 : decode cX1_takeBack 44 = .ok (.aload_n 2, 1) := by decide +kernel
theorem dX1_takeBack_45 : decode cX1_takeBack 45 = .ok (.ifnull 8, 3) := by decide +kernel
theorem dX1_takeBack_48 : decode cX1_takeBack 48 = .ok (.aload_n 1, 1) := by decide +kernel
theorem dX1_takeBack_49 : decode cX1_takeBack 49 = .ok (.aload_n 2, 1) := by decide +kernel
theorem dX1_takeBack_50 : decode cX1_takeBack 50 = .ok (.invokevirtual 24, 3) := by decide +kernel
theorem dX1_takeBack_53 : decode cX1_takeBack 53 = .ok (.return_, 1) := by decide +kernel
theorem dX2_speedOf_0 : decode cX2_speedOf 0 = .ok (.iload_n 0, 1) := by decide +kernel
theorem dX2_speedOf_1 : decode cX2_speedOf 1 = .ok (.ifCond .lt 17, 3) := by decide +kernel
theorem dX2_speedOf_4 : decode cX2_speedOf 4 = .ok (.iload_n 0, 1) := by decide +kernel
theorem dX2_speedOf_5 : decode cX2_speedOf 5 = .ok (.iconst 2, 1) := by decide +kernel
theorem dX2_speedOf_6 : decode cX2_speedOf 6 = .ok (.if_icmp .gt 12, 3) := by decide +kernel
theorem dX2_speedOf_9 : decode cX2_speedOf 9 = .ok (.iload_n 1, 1) := by decide +kernel
theorem dX2_speedOf_10 : decode cX2_speedOf 10 = .ok (.ifCond .lt 8, 3) := by decide +kernel
theorem dX2_speedOf_13 : decode cX2_speedOf 13 = .ok (.iload_n 1, 1) := by decide +kernel
theorem dX2_speedOf_14 : decode cX2_speedOf 14 = .ok (.iconst 3, 1) := by decide +kernel
theorem dX2_speedOf_15 : decode cX2_speedOf 15 = .ok (.if_icmp .lt 5, 3) := by decide +kernel
theorem dX2_speedOf_18 : decode cX2_speedOf 18 = .ok (.iconst 0, 1) := by decide +kernel
theorem dX2_speedOf_19 : decode cX2_speedOf 19 = .ok (.ireturn, 1) := by decide +kernel
theorem dX2_speedOf_20 : decode cX2_speedOf 20 = .ok (.iload_n 0, 1) := by decide +kernel
theorem dX2_speedOf_21 : decode cX2_speedOf 21 = .ok (.iconst 3, 1) := by decide +kernel
theorem dX2_speedOf_22 : decode cX2_speedOf 22 = .ok (.imul, 1) := by decide +kernel
theorem dX2_speedOf_23 : decode cX2_speedOf 23 = .ok (.iload_n 1, 1) := by decide +kernel
theorem dX2_speedOf_24 : decode cX2_speedOf 24 = .ok (.iadd, 1) := by decide +kernel
theorem dX2_speedOf_25 : decode cX2_speedOf 25 = .ok (.istore_n 2, 1) := by decide +kernel
theorem dX2_speedOf_26 : decode cX2_speedOf 26 = .ok (.iload_n 2, 1) := by decide +kernel
theorem dX2_speedOf_27 : decode cX2_speedOf 27 = .ok (.ifCond .lt 19, 3) := by decide +kernel
theorem dX2_speedOf_30 : decode cX2_speedOf 30 = .ok (.iload_n 2, 1) := by decide +kernel
theorem dX2_speedOf_31 : decode cX2_speedOf 31 = .ok (.getstatic 9, 3) := by decide +kernel
theorem dX2_speedOf_34 : decode cX2_speedOf 34 = .ok (.arraylength, 1) := by decide +kernel
theorem dX2_speedOf_35 : decode cX2_speedOf 35 = .ok (.if_icmp .ge 11, 3) := by decide +kernel
theorem dX2_speedOf_38 : decode cX2_speedOf 38 = .ok (.getstatic 9, 3) := by decide +kernel
theorem dX2_speedOf_41 : decode cX2_speedOf 41 = .ok (.iload_n 2, 1) := by decide +kernel
theorem dX2_speedOf_42 : decode cX2_speedOf 42 = .ok (.iaload, 1) := by decide +kernel
theorem dX2_speedOf_43 : decode cX2_speedOf 43 = .ok (.goto 4, 3) := by decide +kernel
theorem dX2_speedOf_46 : decode cX2_speedOf 46 = .ok (.iconst 0, 1) := by decide +kernel
theorem dX2_speedOf_47 : decode cX2_speedOf 47 = .ok (.ireturn, 1) := by decide +kernel
theorem dX2_numberOfSpeed_0 : decode cX2_numberOfSpeed 0 = .ok (.iconst 0, 1) := by decide +kernel
theorem dX2_numberOfSpeed_1 : decode cX2_numberOfSpeed 1 = .ok (.istore_n 2, 1) := by decide +kernel
theorem dX2_numberOfSpeed_2 : decode cX2_numberOfSpeed 2 = .ok (.iload_n 2, 1) := by decide +kernel
theorem dX2_numberOfSpeed_3 : decode cX2_numberOfSpeed 3 = .ok (.iconst 3, 1) := by decide +kernel
theorem dX2_numberOfSpeed_4 : decode cX2_numberOfSpeed 4 = .ok (.if_icmp .ge 24, 3) := by decide +kernel
theorem dX2_numberOfSpeed_7 : decode cX2_numberOfSpeed 7 = .ok (.iload_n 1, 1) := by decide +kernel
theorem dX2_numberOfSpeed_8 : decode cX2_numberOfSpeed 8 = .ok (.ifCond .le 14, 3) := by decide +kernel
theorem dX2_numberOfSpeed_11 : decode cX2_numberOfSpeed 11 = .ok (.iload_n 0, 1) := by decide +kernel
theorem dX2_numberOfSpeed_12 : decode cX2_numberOfSpeed 12 = .ok (.iload_n 2, 1) := by decide +kernel
theorem dX2_numberOfSpeed_13 : decode cX2_numberOfSpeed 13 = .ok (.invokestatic 15, 3) := by decide +kernel
theorem dX2_numberOfSpeed_16 : decode cX2_numberOfSpeed 16 = .ok (.iload_n 1, 1) := by decide +kernel
theorem dX2_numberOfSpeed_17 : decode cX2_numberOfSpeed 17 = .ok (.if_icmp .ne 5, 3) := by decide +kernel
theorem dX2_numberOfSpeed_20 : decode cX2_numberOfSpeed 20 = .ok (.iload_n 2, 1) := by decide +kernel
theorem dX2_numberOfSpeed_21 : decode cX2_numberOfSpeed 21 = .ok (.ireturn, 1) := by decide +kernel
theorem dX2_numberOfSpeed_22 : decode cX2_numberOfSpeed 22 = .ok (.iinc 2 1, 3) := by decide +kernel
theorem dX2_numberOfSpeed_25 : decode cX2_numberOfSpeed 25 = .ok (.goto (-23), 3) := by decide +kernel
theorem dX2_numberOfSpeed_28 : decode cX2_numberOfSpeed 28 = .ok (.iconst (-1), 1) := by decide +kernel
theorem dX2_numberOfSpeed_29 : decode cX2_numberOfSpeed 29 = .ok (.ireturn, 1) := by decide +kernel
theorem dX2_allSpeeds_0 : decode cX2_allSpeeds 0 = .ok (.iload_n 0, 1) := by decide +kernel
theorem dX2_allSpeeds_1 : decode cX2_allSpeeds 1 = .ok (.iconst 2, 1) := by decide +kernel
theorem dX2_allSpeeds_2 : decode cX2_allSpeeds 2 = .ok (.if_icmp .ne 7, 3) := by decide +kernel
theorem dX2_allSpeeds_5 : decode cX2_allSpeeds 5 = .ok (.iconst 1, 1) := by decide +kernel
theorem dX2_allSpeeds_6 : decode cX2_allSpeeds 6 = .ok (.goto 5, 3) := by decide +kernel
theorem dX2_allSpeeds_9 : decode cX2_allSpeeds 9 = .ok (.bipush 7, 2) := by decide +kernel
theorem dX2_allSpeeds_11 : decode cX2_allSpeeds 11 = .ok (.ireturn, 1) := by decide +kernel
theorem dX2_hasLayout_0 : decode cX2_hasLayout 0 = .ok (.iload_n 0, 1) := by decide +kernel
theorem dX2_hasLayout_1 : decode cX2_hasLayout 1 = .ok (.tableswitch 63 0 2 #[27, 43, 27], 27) := by decide +kernel
theorem dX2_hasLayout_28 : decode cX2_hasLayout 28 = .ok (.iload_n 1, 1) := by decide +kernel
theorem dX2_hasLayout_29 : decode cX2_hasLayout 29 = .ok (.iconst 1, 1) := by decide +kernel
theorem dX2_hasLayout_30 : decode cX2_hasLayout 30 = .ok (.if_icmp .eq 8, 3) := by decide +kernel
theorem dX2_hasLayout_33 : decode cX2_hasLayout 33 = .ok (.iload_n 1, 1) := by decide +kernel
theorem dX2_hasLayout_34 : decode cX2_hasLayout 34 = .ok (.iconst 3, 1) := by decide +kernel
theorem dX2_hasLayout_35 : decode cX2_hasLayout 35 = .ok (.if_icmp .ne 7, 3) := by decide +kernel
theorem dX2_hasLayout_38 : decode cX2_hasLayout 38 = .ok (.iconst 1, 1) := by decide +kernel
theorem dX2_hasLayout_39 : decode cX2_hasLayout 39 = .ok (.goto 4, 3) := by decide +kernel
theorem dX2_hasLayout_42 : decode cX2_hasLayout 42 = .ok (.iconst 0, 1) := by decide +kernel
theorem dX2_hasLayout_43 : decode cX2_hasLayout 43 = .ok (.ireturn, 1) := by decide +kernel
theorem dX2_hasLayout_44 : decode cX2_hasLayout 44 = .ok (.iload_n 1, 1) := by decide +kernel
theorem dX2_hasLayout_45 : decode cX2_hasLayout 45 = .ok (.ifCond .eq 13, 3) := by decide +kernel
theorem dX2_hasLayout_48 : decode cX2_hasLayout 48 = .ok (.iload_n 1, 1) := by decide +kernel
theorem dX2_hasLayout_49 : decode cX2_hasLayout 49 = .ok (.iconst 1, 1) := by decide +kernel
theorem dX2_hasLayout_50 : decode cX2_hasLayout 50 = .ok (.if_icmp .eq 8, 3) := by decide +kernel
theorem dX2_hasLayout_53 : decode cX2_hasLayout 53 = .ok (.iload_n 1, 1) := by decide +kernel
theorem dX2_hasLayout_54 : decode cX2_hasLayout 54 = .ok (.iconst 2, 1) := by decide +kernel
theorem dX2_hasLayout_55 : decode cX2_hasLayout 55 = .ok (.if_icmp .ne 7, 3) := by decide +kernel
theorem dX2_hasLayout_58 : decode cX2_hasLayout 58 = .ok (.iconst 1, 1) := by decide +kernel
theorem dX2_hasLayout_59 : decode cX2_hasLayout 59 = .ok (.goto 4, 3) := by decide +kernel
theorem dX2_hasLayout_62 : decode cX2_hasLayout 62 = .ok (.iconst 0, 1) := by decide +kernel
theorem dX2_hasLayout_63 : decode cX2_hasLayout 63 = .ok (.ireturn, 1) := by decide +kernel
theorem dX2_hasLayout_64 : decode cX2_hasLayout 64 = .ok (.iconst 0, 1) := by decide +kernel
theorem dX2_hasLayout_65 : decode cX2_hasLayout 65 = .ok (.ireturn, 1) := by decide +kernel
theorem dX3_countTracks_0 : decode cX3_countTracks 0 = .ok (.iload_n 0, 1) := by decide +kernel
theorem dX3_countTracks_1 : decode cX3_countTracks 1 = .ok (.tableswitch 37 0 3 #[31, 33, 35, 35], 31) := by decide +kernel
theorem dX3_countTracks_32 : decode cX3_countTracks 32 = .ok (.iconst 1, 1) := by decide +kernel
theorem dX3_countTracks_33 : decode cX3_countTracks 33 = .ok (.ireturn, 1) := by decide +kernel
theorem dX3_countTracks_34 : decode cX3_countTracks 34 = .ok (.iconst 2, 1) := by decide +kernel
theorem dX3_countTracks_35 : decode cX3_countTracks 35 = .ok (.ireturn, 1) := by decide +kernel
theorem dX3_countTracks_36 : decode cX3_countTracks 36 = .ok (.iconst 4, 1) := by decide +kernel
theorem dX3_countTracks_37 : decode cX3_countTracks 37 = .ok (.ireturn, 1) := by decide +kernel
theorem dX3_countTracks_38 : decode cX3_countTracks 38 = .ok (.iconst 0, 1) := by decide +kernel
theorem dX3_countTracks_39 : decode cX3_countTracks 39 = .ok (.ireturn, 1) := by decide +kernel
theorem dX3_stripsOfTrack_0 : decode cX3_stripsOfTrack 0 = .ok (.iload_n 0, 1) := by decide +kernel
theorem dX3_stripsOfTrack_1 : decode cX3_stripsOfTrack 1 = .ok (.ifCond .lt 17, 3) := by decide +kernel
theorem dX3_stripsOfTrack_4 : decode cX3_stripsOfTrack 4 = .ok (.iload_n 0, 1) := by decide +kernel
theorem dX3_stripsOfTrack_5 : decode cX3_stripsOfTrack 5 = .ok (.iconst 3, 1) := by decide +kernel
theorem dX3_stripsOfTrack_6 : decode cX3_stripsOfTrack 6 = .ok (.if_icmp .gt 12, 3) := by decide +kernel
theorem dX3_stripsOfTrack_9 : decode cX3_stripsOfTrack 9 = .ok (.iload_n 1, 1) := by decide +kernel
theorem dX3_stripsOfTrack_10 : decode cX3_stripsOfTrack 10 = .ok (.ifCond .lt 8, 3) := by decide +kernel
theorem dX3_stripsOfTrack_13 : decode cX3_stripsOfTrack 13 = .ok (.iload_n 1, 1) := by decide +kernel
theorem dX3_stripsOfTrack_14 : decode cX3_stripsOfTrack 14 = .ok (.iconst 4, 1) := by decide +kernel
theorem dX3_stripsOfTrack_15 : decode cX3_stripsOfTrack 15 = .ok (.if_icmp .lt 5, 3) := by decide +kernel
theorem dX3_stripsOfTrack_18 : decode cX3_stripsOfTrack 18 = .ok (.iconst 0, 1) := by decide +kernel
theorem dX3_stripsOfTrack_19 : decode cX3_stripsOfTrack 19 = .ok (.ireturn, 1) := by decide +kernel
theorem dX3_stripsOfTrack_20 : decode cX3_stripsOfTrack 20 = .ok (.iload_n 0, 1) := by decide +kernel
theorem dX3_stripsOfTrack_21 : decode cX3_stripsOfTrack 21 = .ok (.iconst 4, 1) := by decide +kernel
theorem dX3_stripsOfTrack_22 : decode cX3_stripsOfTrack 22 = .ok (.imul, 1) := by decide +kernel
theorem dX3_stripsOfTrack_23 : decode cX3_stripsOfTrack 23 = .ok (.iload_n 1, 1) := by decide +kernel
theorem dX3_stripsOfTrack_24 : decode cX3_stripsOfTrack 24 = .ok (.iadd, 1) := by decide +kernel
theorem dX3_stripsOfTrack_25 : decode cX3_stripsOfTrack 25 = .ok (.istore_n 2, 1) := by decide +kernel
theorem dX3_stripsOfTrack_26 : decode cX3_stripsOfTrack 26 = .ok (.iload_n 2, 1) := by decide +kernel
theorem dX3_stripsOfTrack_27 : decode cX3_stripsOfTrack 27 = .ok (.ifCond .lt 19, 3) := by decide +kernel
theorem dX3_stripsOfTrack_30 : decode cX3_stripsOfTrack 30 = .ok (.iload_n 2, 1) := by decide +kernel
theorem dX3_stripsOfTrack_31 : decode cX3_stripsOfTrack 31 = .ok (.getstatic 9, 3) := by decide +kernel
theorem dX3_stripsOfTrack_34 : decode cX3_stripsOfTrack 34 = .ok (.arraylength, 1) := by decide +kernel
theorem dX3_stripsOfTrack_35 : decode cX3_stripsOfTrack 35 = .ok (.if_icmp .ge 11, 3) := by decide +kernel
theorem dX3_stripsOfTrack_38 : decode cX3_stripsOfTrack 38 = .ok (.getstatic 9, 3) := by decide +kernel
theorem dX3_stripsOfTrack_41 : decode cX3_stripsOfTrack 41 = .ok (.iload_n 2, 1) := by decide +kernel
theorem dX3_stripsOfTrack_42 : decode cX3_stripsOfTrack 42 = .ok (.iaload, 1) := by decide +kernel
theorem dX3_stripsOfTrack_43 : decode cX3_stripsOfTrack 43 = .ok (.goto 4, 3) := by decide +kernel
theorem dX3_stripsOfTrack_46 : decode cX3_stripsOfTrack 46 = .ok (.iconst 0, 1) := by decide +kernel
theorem dX3_stripsOfTrack_47 : decode cX3_stripsOfTrack 47 = .ok (.ireturn, 1) := by decide +kernel
theorem dX3_tracksOfSide_0 : decode cX3_tracksOfSide 0 = .ok (.iload_n 0, 1) := by decide +kernel
theorem dX3_tracksOfSide_1 : decode cX3_tracksOfSide 1 = .ok (.tableswitch 73 0 3 #[31, 41, 51, 62], 31) := by decide +kernel
theorem dX3_tracksOfSide_32 : decode cX3_tracksOfSide 32 = .ok (.iload_n 1, 1) := by decide +kernel
theorem dX3_tracksOfSide_33 : decode cX3_tracksOfSide 33 = .ok (.ifCond .ne 7, 3) := by decide +kernel
theorem dX3_tracksOfSide_36 : decode cX3_tracksOfSide 36 = .ok (.iconst 1, 1) := by decide +kernel
theorem dX3_tracksOfSide_37 : decode cX3_tracksOfSide 37 = .ok (.goto 4, 3) := by decide +kernel
theorem dX3_tracksOfSide_40 : decode cX3_tracksOfSide 40 = .ok (.iconst 0, 1) := by decide +kernel
theorem dX3_tracksOfSide_41 : decode cX3_tracksOfSide 41 = .ok (.ireturn, 1) := by decide +kernel
theorem dX3_tracksOfSide_42 : decode cX3_tracksOfSide 42 = .ok (.iload_n 1, 1) := by decide +kernel
theorem dX3_tracksOfSide_43 : decode cX3_tracksOfSide 43 = .ok (.ifCond .ne 7, 3) := by decide +kernel
theorem dX3_tracksOfSide_46 : decode cX3_tracksOfSide 46 = .ok (.iconst 1, 1) := by decide +kernel
theorem dX3_tracksOfSide_47 : decode cX3_tracksOfSide 47 = .ok (.goto 4, 3) := by decide +kernel
theorem dX3_tracksOfSide_50 : decode cX3_tracksOfSide 50 = .ok (.iconst 2, 1) := by decide +kernel
theorem dX3_tracksOfSide_51 : decode cX3_tracksOfSide 51 = .ok (.ireturn, 1) := by decide +kernel
theorem dX3_tracksOfSide_52 : decode cX3_tracksOfSide 52 = .ok (.iload_n 1, 1) := by decide +kernel
theorem dX3_tracksOfSide_53 : decode cX3_tracksOfSide 53 = .ok (.ifCond .ne 7, 3) := by decide +kernel
theorem dX3_tracksOfSide_56 : decode cX3_tracksOfSide 56 = .ok (.iconst 5, 1) := by decide +kernel
theorem dX3_tracksOfSide_57 : decode cX3_tracksOfSide 57 = .ok (.goto 5, 3) := by decide +kernel
theorem dX3_tracksOfSide_60 : decode cX3_tracksOfSide 60 = .ok (.bipush 10, 2) := by decide +kernel
theorem dX3_tracksOfSide_62 : decode cX3_tracksOfSide 62 = .ok (.ireturn, 1) := by decide +kernel
theorem dX3_tracksOfSide_63 : decode cX3_tracksOfSide 63 = .ok (.iload_n 1, 1) := by decide +kernel
theorem dX3_tracksOfSide_64 : decode cX3_tracksOfSide 64 = .ok (.ifCond .ne 7, 3) := by decide +kernel
theorem dX3_tracksOfSide_67 : decode cX3_tracksOfSide 67 = .ok (.iconst 3, 1) := by decide +kernel
theorem dX3_tracksOfSide_68 : decode cX3_tracksOfSide 68 = .ok (.goto 5, 3) := by decide +kernel
theorem dX3_tracksOfSide_71 : decode cX3_tracksOfSide 71 = .ok (.bipush 12, 2) := by decide +kernel
theorem dX3_tracksOfSide_73 : decode cX3_tracksOfSide 73 = .ok (.ireturn, 1) := by decide +kernel
theorem dX3_tracksOfSide_74 : decode cX3_tracksOfSide 74 = .ok (.iconst 0, 1) := by decide +kernel
theorem dX3_tracksOfSide_75 : decode cX3_tracksOfSide 75 = .ok (.ireturn, 1) := by decide +kernel
theorem dX3_sideOfSet_0 : decode cX3_sideOfSet 0 = .ok (.iload_n 1, 1) := by decide +kernel
theorem dX3_sideOfSet_1 : decode cX3_sideOfSet 1 = .ok (.ifCond .ne 5, 3) := by decide +kernel
theorem dX3_sideOfSet_4 : decode cX3_sideOfSet 4 = .ok (.iconst (-1), 1) := by decide +kernel
theorem dX3_sideOfSet_5 : decode cX3_sideOfSet 5 = .ok (.ireturn, 1) := by decide +kernel
theorem dX3_sideOfSet_6 : decode cX3_sideOfSet 6 = .ok (.iload_n 1, 1) := by decide +kernel
theorem dX3_sideOfSet_7 : decode cX3_sideOfSet 7 = .ok (.iload_n 0, 1) := by decide +kernel
theorem dX3_sideOfSet_8 : decode cX3_sideOfSet 8 = .ok (.iconst 0, 1) := by decide +kernel
theorem dX3_sideOfSet_9 : decode cX3_sideOfSet 9 = .ok (.invokestatic 15, 3) := by decide +kernel
theorem dX3_sideOfSet_12 : decode cX3_sideOfSet 12 = .ok (.iconst (-1), 1) := by decide +kernel
theorem dX3_sideOfSet_13 : decode cX3_sideOfSet 13 = .ok (.ixor, 1) := by decide +kernel
theorem dX3_sideOfSet_14 : decode cX3_sideOfSet 14 = .ok (.iand, 1) := by decide +kernel
theorem dX3_sideOfSet_15 : decode cX3_sideOfSet 15 = .ok (.ifCond .ne 5, 3) := by decide +kernel
theorem dX3_sideOfSet_18 : decode cX3_sideOfSet 18 = .ok (.iconst 0, 1) := by decide +kernel
theorem dX3_sideOfSet_19 : decode cX3_sideOfSet 19 = .ok (.ireturn, 1) := by decide +kernel
theorem dX3_sideOfSet_20 : decode cX3_sideOfSet 20 = .ok (.iload_n 1, 1) := by decide +kernel
theorem dX3_sideOfSet_21 : decode cX3_sideOfSet 21 = .ok (.iload_n 0, 1) := by decide +kernel
theorem dX3_sideOfSet_22 : decode cX3_sideOfSet 22 = .ok (.iconst 1, 1) := by decide +kernel
theorem dX3_sideOfSet_23 : decode cX3_sideOfSet 23 = .ok (.invokestatic 15, 3) := by decide +kernel
theorem dX3_sideOfSet_26 : decode cX3_sideOfSet 26 = .ok (.iconst (-1), 1) := by decide +kernel
theorem dX3_sideOfSet_27 : decode cX3_sideOfSet 27 = .ok (.ixor, 1) := by decide +kernel
theorem dX3_sideOfSet_28 : decode cX3_sideOfSet 28 = .ok (.iand, 1) := by decide +kernel
theorem dX3_sideOfSet_29 : decode cX3_sideOfSet 29 = .ok (.ifCond .ne 7, 3) := by decide +kernel
theorem dX3_sideOfSet_32 : decode cX3_sideOfSet 32 = .ok (.iconst 1, 1) := by decide +kernel
theorem dX3_sideOfSet_33 : decode cX3_sideOfSet 33 = .ok (.goto 4, 3) := by decide +kernel
theorem dX3_sideOfSet_36 : decode cX3_sideOfSet 36 = .ok (.iconst (-1), 1) := by decide +kernel
theorem dX3_sideOfSet_37 : decode cX3_sideOfSet 37 = .ok (.ireturn, 1) := by decide +kernel
theorem dX3_mostRead_0 : decode cX3_mostRead 0 = .ok (.iconst 0, 1) := by decide +kernel
theorem dX3_mostRead_1 : decode cX3_mostRead 1 = .ok (.istore_n 3, 1) := by decide +kernel
theorem dX3_mostRead_2 : decode cX3_mostRead 2 = .ok (.iload_n 0, 1) := by decide +kernel
theorem dX3_mostRead_3 : decode cX3_mostRead 3 = .ok (.iconst 0, 1) := by decide +kernel
theorem dX3_mostRead_4 : decode cX3_mostRead 4 = .ok (.invokestatic 15, 3) := by decide +kernel
theorem dX3_mostRead_7 : decode cX3_mostRead 7 = .ok (.istore 4, 2) := by decide +kernel
theorem dX3_mostRead_9 : decode cX3_mostRead 9 = .ok (.iconst 0, 1) := by decide +kernel
theorem dX3_mostRead_10 : decode cX3_mostRead 10 = .ok (.istore 5, 2) := by decide +kernel
theorem dX3_mostRead_12 : decode cX3_mostRead 12 = .ok (.iload 5, 2) := by decide +kernel
theorem dX3_mostRead_14 : decode cX3_mostRead 14 = .ok (.iconst 4, 1) := by decide +kernel
theorem dX3_mostRead_15 : decode cX3_mostRead 15 = .ok (.if_icmp .ge 62, 3) := by decide +kernel
theorem dX3_mostRead_18 : decode cX3_mostRead 18 = .ok (.iload_n 0, 1) := by decide +kernel
theorem dX3_mostRead_19 : decode cX3_mostRead 19 = .ok (.iload 5, 2) := by decide +kernel
theorem dX3_mostRead_21 : decode cX3_mostRead 21 = .ok (.invokestatic 19, 3) := by decide +kernel
theorem dX3_mostRead_24 : decode cX3_mostRead 24 = .ok (.istore 6, 2) := by decide +kernel
theorem dX3_mostRead_26 : decode cX3_mostRead 26 = .ok (.iload_n 1, 1) := by decide +kernel
theorem dX3_mostRead_27 : decode cX3_mostRead 27 = .ok (.ifCond .ne 8, 3) := by decide +kernel
theorem dX3_mostRead_30 : decode cX3_mostRead 30 = .ok (.iload 6, 2) := by decide +kernel
theorem dX3_mostRead_32 : decode cX3_mostRead 32 = .ok (.goto 8, 3) := by decide +kernel
theorem dX3_mostRead_35 : decode cX3_mostRead 35 = .ok (.iload 6, 2) := by decide +kernel
theorem dX3_mostRead_37 : decode cX3_mostRead 37 = .ok (.invokestatic 22, 3) := by decide +kernel
theorem dX3_mostRead_40 : decode cX3_mostRead 40 = .ok (.istore 7, 2) := by decide +kernel
theorem dX3_mostRead_42 : decode cX3_mostRead 42 = .ok (.iload 4, 2) := by decide +kernel
theorem dX3_mostRead_44 : decode cX3_mostRead 44 = .ok (.iconst 1, 1) := by decide +kernel
theorem dX3_mostRead_45 : decode cX3_mostRead 45 = .ok (.iload 5, 2) := by decide +kernel
theorem dX3_mostRead_47 : decode cX3_mostRead 47 = .ok (.ishl, 1) := by decide +kernel
theorem dX3_mostRead_48 : decode cX3_mostRead 48 = .ok (.iand, 1) := by decide +kernel
theorem dX3_mostRead_49 : decode cX3_mostRead 49 = .ok (.ifCond .eq 22, 3) := by decide +kernel
theorem dX3_mostRead_52 : decode cX3_mostRead 52 = .ok (.iload 7, 2) := by decide +kernel
theorem dX3_mostRead_54 : decode cX3_mostRead 54 = .ok (.iload_n 2, 1) := by decide +kernel
theorem dX3_mostRead_55 : decode cX3_mostRead 55 = .ok (.iconst (-1), 1) := by decide +kernel
theorem dX3_mostRead_56 : decode cX3_mostRead 56 = .ok (.ixor, 1) := by decide +kernel
theorem dX3_mostRead_57 : decode cX3_mostRead 57 = .ok (.iand, 1) := by decide +kernel
theorem dX3_mostRead_58 : decode cX3_mostRead 58 = .ok (.ifCond .ne 13, 3) := by decide +kernel
theorem dX3_mostRead_61 : decode cX3_mostRead 61 = .ok (.iload_n 3, 1) := by decide +kernel
theorem dX3_mostRead_62 : decode cX3_mostRead 62 = .ok (.iload 7, 2) := by decide +kernel
theorem dX3_mostRead_64 : decode cX3_mostRead 64 = .ok (.invokestatic 26, 3) := by decide +kernel
theorem dX3_mostRead_67 : decode cX3_mostRead 67 = .ok (.invokestatic 31, 3) := by decide +kernel
theorem dX3_mostRead_70 : decode cX3_mostRead 70 = .ok (.istore_n 3, 1) := by decide +kernel
theorem dX3_mostRead_71 : decode cX3_mostRead 71 = .ok (.iinc 5 1, 3) := by decide +kernel
theorem dX3_mostRead_74 : decode cX3_mostRead 74 = .ok (.goto (-62), 3) := by decide +kernel
theorem dX3_mostRead_77 : decode cX3_mostRead 77 = .ok (.iload_n 3, 1) := by decide +kernel
theorem dX3_mostRead_78 : decode cX3_mostRead 78 = .ok (.ireturn, 1) := by decide +kernel
theorem dX3_mirrored_0 : decode cX3_mirrored 0 = .ok (.iload_n 0, 1) := by decide +kernel
theorem dX3_mirrored_1 : decode cX3_mirrored 1 = .ok (.iconst 1, 1) := by decide +kernel
theorem dX3_mirrored_2 : decode cX3_mirrored 2 = .ok (.iand, 1) := by decide +kernel
theorem dX3_mirrored_3 : decode cX3_mirrored 3 = .ok (.iconst 3, 1) := by decide +kernel
theorem dX3_mirrored_4 : decode cX3_mirrored 4 = .ok (.ishl, 1) := by decide +kernel
theorem dX3_mirrored_5 : decode cX3_mirrored 5 = .ok (.iload_n 0, 1) := by decide +kernel
theorem dX3_mirrored_6 : decode cX3_mirrored 6 = .ok (.iconst 2, 1) := by decide +kernel
theorem dX3_mirrored_7 : decode cX3_mirrored 7 = .ok (.iand, 1) := by decide +kernel
theorem dX3_mirrored_8 : decode cX3_mirrored 8 = .ok (.iconst 1, 1) := by decide +kernel
theorem dX3_mirrored_9 : decode cX3_mirrored 9 = .ok (.ishl, 1) := by decide +kernel
theorem dX3_mirrored_10 : decode cX3_mirrored 10 = .ok (.ior, 1) := by decide +kernel
theorem dX3_mirrored_11 : decode cX3_mirrored 11 = .ok (.iload_n 0, 1) := by decide +kernel
theorem dX3_mirrored_12 : decode cX3_mirrored 12 = .ok (.iconst 4, 1) := by decide +kernel
theorem dX3_mirrored_13 : decode cX3_mirrored 13 = .ok (.iand, 1) := by decide +kernel
theorem dX3_mirrored_14 : decode cX3_mirrored 14 = .ok (.iconst 1, 1) := by decide +kernel
theorem dX3_mirrored_15 : decode cX3_mirrored 15 = .ok (.ishr, 1) := by decide +kernel
theorem dX3_mirrored_16 : decode cX3_mirrored 16 = .ok (.ior, 1) := by decide +kernel
theorem dX3_mirrored_17 : decode cX3_mirrored 17 = .ok (.iload_n 0, 1) := by decide +kernel
theorem dX3_mirrored_18 : decode cX3_mirrored 18 = .ok (.bipush 8, 2) := by decide +kernel
theorem dX3_mirrored_20 : decode cX3_mirrored 20 = .ok (.iand, 1) := by decide +kernel
theorem dX3_mirrored_21 : decode cX3_mirrored 21 = .ok (.iconst 3, 1) := by decide +kernel
theorem dX3_mirrored_22 : decode cX3_mirrored 22 = .ok (.ishr, 1) := by decide +kernel
theorem dX3_mirrored_23 : decode cX3_mirrored 23 = .ok (.ior, 1) := by decide +kernel
theorem dX3_mirrored_24 : decode cX3_mirrored 24 = .ok (.ireturn, 1) := by decide +kernel
theorem dX4_init_0 : decode cX4_init 0 = .ok (.aload_n 0, 1) := by decide +kernel
theorem dX4_init_1 : decode cX4_init 1 = .ok (.invokespecial 1, 3) := by decide +kernel
theorem dX4_init_4 : decode cX4_init 4 = .ok (.aload_n 0, 1) := by decide +kernel
theorem dX4_init_5 : decode cX4_init 5 = .ok (.new 7, 3) := by decide +kernel
theorem dX4_init_8 : decode cX4_init 8 = .ok (.dup, 1) := by decide +kernel
theorem dX4_init_9 : decode cX4_init 9 = .ok (.invokespecial 9, 3) := by decide +kernel
theorem dX4_init_12 : decode cX4_init 12 = .ok (.putfield 10, 3) := by decide +kernel
theorem dX4_init_15 : decode cX4_init 15 = .ok (.return_, 1) := by decide +kernel
theorem dX5_init_0 : decode cX5_init 0 = .ok (.aload_n 0, 1) := by decide +kernel
theorem dX5_init_1 : decode cX5_init 1 = .ok (.invokespecial 3, 3) := by decide +kernel
theorem dX5_init_4 : decode cX5_init 4 = .ok (.aload_n 0, 1) := by decide +kernel
theorem dX5_init_5 : decode cX5_init 5 = .ok (.new 9, 3) := by decide +kernel
theorem dX5_init_8 : decode cX5_init 8 = .ok (.dup, 1) := by decide +kernel
theorem dX5_init_9 : decode cX5_init 9 = .ok (.bipush 8, 2) := by decide +kernel
theorem dX5_init_11 : decode cX5_init 11 = .ok (.bipush 7, 2) := by decide +kernel
theorem dX5_init_13 : decode cX5_init 13 = .ok (.invokespecial 11, 3) := by decide +kernel
theorem dX5_init_16 : decode cX5_init 16 = .ok (.putfield 14, 3) := by decide +kernel
theorem dX5_init_19 : decode cX5_init 19 = .ok (.aload_n 0, 1) := by decide +kernel
theorem dX5_init_20 : decode cX5_init 20 = .ok (.new 9, 3) := by decide +kernel
theorem dX5_init_23 : decode cX5_init 23 = .ok (.dup, 1) := by decide +kernel
theorem dX5_init_24 : decode cX5_init 24 = .ok (.iconst 4, 1) := by decide +kernel
theorem dX5_init_25 : decode cX5_init 25 = .ok (.bipush 6, 2) := by decide +kernel
theorem dX5_init_27 : decode cX5_init 27 = .ok (.invokespecial 11, 3) := by decide +kernel
theorem dX5_init_30 : decode cX5_init 30 = .ok (.putfield 20, 3) := by decide +kernel
theorem dX5_init_33 : decode cX5_init 33 = .ok (.aload_n 0, 1) := by decide +kernel
theorem dX5_init_34 : decode cX5_init 34 = .ok (.new 9, 3) := by decide +kernel
theorem dX5_init_37 : decode cX5_init 37 = .ok (.dup, 1) := by decide +kernel
theorem dX5_init_38 : decode cX5_init 38 = .ok (.bipush 16, 2) := by decide +kernel
theorem dX5_init_40 : decode cX5_init 40 = .ok (.bipush 6, 2) := by decide +kernel
theorem dX5_init_42 : decode cX5_init 42 = .ok (.invokespecial 11, 3) := by decide +kernel
theorem dX5_init_45 : decode cX5_init 45 = .ok (.putfield 23, 3) := by decide +kernel
theorem dX5_init_48 : decode cX5_init 48 = .ok (.aload_n 0, 1) := by decide +kernel
theorem dX5_init_49 : decode cX5_init 49 = .ok (.new 9, 3) := by decide +kernel
theorem dX5_init_52 : decode cX5_init 52 = .ok (.dup, 1) := by decide +kernel
theorem dX5_init_53 : decode cX5_init 53 = .ok (.bipush 64, 2) := by decide +kernel
theorem dX5_init_55 : decode cX5_init 55 = .ok (.iconst 4, 1) := by decide +kernel
theorem dX5_init_56 : decode cX5_init 56 = .ok (.invokespecial 11, 3) := by decide +kernel
theorem dX5_init_59 : decode cX5_init 59 = .ok (.putfield 26, 3) := by decide +kernel
theorem dX5_init_62 : decode cX5_init 62 = .ok (.aload_n 0, 1) := by decide +kernel
theorem dX5_init_63 : decode cX5_init 63 = .ok (.new 9, 3) := by decide +kernel
theorem dX5_init_66 : decode cX5_init 66 = .ok (.dup, 1) := by decide +kernel
theorem dX5_init_67 : decode cX5_init 67 = .ok (.bipush 24, 2) := by decide +kernel
theorem dX5_init_69 : decode cX5_init 69 = .ok (.bipush 11, 2) := by decide +kernel
theorem dX5_init_71 : decode cX5_init 71 = .ok (.invokespecial 11, 3) := by decide +kernel
theorem dX5_init_74 : decode cX5_init 74 = .ok (.putfield 29, 3) := by decide +kernel
theorem dX5_init_77 : decode cX5_init 77 = .ok (.aload_n 0, 1) := by decide +kernel
theorem dX5_init_78 : decode cX5_init 78 = .ok (.new 9, 3) := by decide +kernel
theorem dX5_init_81 : decode cX5_init 81 = .ok (.dup, 1) := by decide +kernel
theorem dX5_init_82 : decode cX5_init 82 = .ok (.bipush 24, 2) := by decide +kernel
theorem dX5_init_84 : decode cX5_init 84 = .ok (.iconst 5, 1) := by decide +kernel
theorem dX5_init_85 : decode cX5_init 85 = .ok (.invokespecial 11, 3) := by decide +kernel
theorem dX5_init_88 : decode cX5_init 88 = .ok (.putfield 32, 3) := by decide +kernel
theorem dX5_init_91 : decode cX5_init 91 = .ok (.aload_n 0, 1) := by decide +kernel
theorem dX5_init_92 : decode cX5_init 92 = .ok (.new 9, 3) := by decide +kernel
theorem dX5_init_95 : decode cX5_init 95 = .ok (.dup, 1) := by decide +kernel
theorem dX5_init_96 : decode cX5_init 96 = .ok (.bipush 16, 2) := by decide +kernel
theorem dX5_init_98 : decode cX5_init 98 = .ok (.bipush 10, 2) := by decide +kernel
theorem dX5_init_100 : decode cX5_init 100 = .ok (.invokespecial 11, 3) := by decide +kernel
theorem dX5_init_103 : decode cX5_init 103 = .ok (.putfield 35, 3) := by decide +kernel
theorem dX5_init_106 : decode cX5_init 106 = .ok (.aload_n 0, 1) := by decide +kernel
theorem dX5_init_107 : decode cX5_init 107 = .ok (.new 9, 3) := by decide +kernel
theorem dX5_init_110 : decode cX5_init 110 = .ok (.dup, 1) := by decide +kernel
theorem dX5_init_111 : decode cX5_init 111 = .ok (.bipush 8, 2) := by decide +kernel
theorem dX5_init_113 : decode cX5_init 113 = .ok (.iconst 2, 1) := by decide +kernel
theorem dX5_init_114 : decode cX5_init 114 = .ok (.invokespecial 11, 3) := by decide +kernel
theorem dX5_init_117 : decode cX5_init 117 = .ok (.putfield 38, 3) := by decide +kernel
theorem dX5_init_120 : decode cX5_init 120 = .ok (.aload_n 0, 1) := by decide +kernel
theorem dX5_init_121 : decode cX5_init 121 = .ok (.getfield 26, 3) := by decide +kernel
theorem dX5_init_124 : decode cX5_init 124 = .ok (.bipush 64, 2) := by decide +kernel
theorem dX5_init_126 : decode cX5_init 126 = .ok (.putfield 41, 3) := by decide +kernel
theorem dX5_init_129 : decode cX5_init 129 = .ok (.aload_n 0, 1) := by decide +kernel
theorem dX5_init_130 : decode cX5_init 130 = .ok (.getfield 38, 3) := by decide +kernel
theorem dX5_init_133 : decode cX5_init 133 = .ok (.bipush 8, 2) := by decide +kernel
theorem dX5_init_135 : decode cX5_init 135 = .ok (.putfield 41, 3) := by decide +kernel
theorem dX5_init_138 : decode cX5_init 138 = .ok (.return_, 1) := by decide +kernel
theorem dX5_copyFrom_0 : decode cX5_copyFrom 0 = .ok (.aload_n 0, 1) := by decide +kernel
theorem dX5_copyFrom_1 : decode cX5_copyFrom 1 = .ok (.getfield 14, 3) := by decide +kernel
theorem dX5_copyFrom_4 : decode cX5_copyFrom 4 = .ok (.aload_n 1, 1) := by decide +kernel
theorem dX5_copyFrom_5 : decode cX5_copyFrom 5 = .ok (.getfield 14, 3) := by decide +kernel
theorem dX5_copyFrom_8 : decode cX5_copyFrom 8 = .ok (.invokevirtual 45, 3) := by decide +kernel
theorem dX5_copyFrom_11 : decode cX5_copyFrom 11 = .ok (.aload_n 0, 1) := by decide +kernel
theorem dX5_copyFrom_12 : decode cX5_copyFrom 12 = .ok (.getfield 20, 3) := by decide +kernel
theorem dX5_copyFrom_15 : decode cX5_copyFrom 15 = .ok (.aload_n 1, 1) := by decide +kernel
theorem dX5_copyFrom_16 : decode cX5_copyFrom 16 = .ok (.getfield 20, 3) := by decide +kernel
theorem dX5_copyFrom_19 : decode cX5_copyFrom 19 = .ok (.invokevirtual 45, 3) := by decide +kernel
theorem dX5_copyFrom_22 : decode cX5_copyFrom 22 = .ok (.aload_n 0, 1) := by decide +kernel
theorem dX5_copyFrom_23 : decode cX5_copyFrom 23 = .ok (.getfield 23, 3) := by decide +kernel
theorem dX5_copyFrom_26 : decode cX5_copyFrom 26 = .ok (.aload_n 1, 1) := by decide +kernel
theorem dX5_copyFrom_27 : decode cX5_copyFrom 27 = .ok (.getfield 23, 3) := by decide +kernel
theorem dX5_copyFrom_30 : decode cX5_copyFrom 30 = .ok (.invokevirtual 45, 3) := by decide +kernel
theorem dX5_copyFrom_33 : decode cX5_copyFrom 33 = .ok (.aload_n 0, 1) := by decide +kernel
theorem dX5_copyFrom_34 : decode cX5_copyFrom 34 = .ok (.getfield 26, 3) := by decide +kernel
theorem dX5_copyFrom_37 : decode cX5_copyFrom 37 = .ok (.aload_n 1, 1) := by decide +kernel
theorem dX5_copyFrom_38 : decode cX5_copyFrom 38 = .ok (.getfield 26, 3) := by decide +kernel
theorem dX5_copyFrom_41 : decode cX5_copyFrom 41 = .ok (.invokevirtual 45, 3) := by decide +kernel
theorem dX5_copyFrom_44 : decode cX5_copyFrom 44 = .ok (.aload_n 0, 1) := by decide +kernel
theorem dX5_copyFrom_45 : decode cX5_copyFrom 45 = .ok (.getfield 29, 3) := by decide +kernel
theorem dX5_copyFrom_48 : decode cX5_copyFrom 48 = .ok (.aload_n 1, 1) := by decide +kernel
theorem dX5_copyFrom_49 : decode cX5_copyFrom 49 = .ok (.getfield 29, 3) := by decide +kernel
theorem dX5_copyFrom_52 : decode cX5_copyFrom 52 = .ok (.invokevirtual 45, 3) := by decide +kernel
theorem dX5_copyFrom_55 : decode cX5_copyFrom 55 = .ok (.aload_n 0, 1) := by decide +kernel
theorem dX5_copyFrom_56 : decode cX5_copyFrom 56 = .ok (.getfield 32, 3) := by decide +kernel
theorem dX5_copyFrom_59 : decode cX5_copyFrom 59 = .ok (.aload_n 1, 1) := by decide +kernel
theorem dX5_copyFrom_60 : decode cX5_copyFrom 60 = .ok (.getfield 32, 3) := by decide +kernel
theorem dX5_copyFrom_63 : decode cX5_copyFrom 63 = .ok (.invokevirtual 45, 3) := by decide +kernel
theorem dX5_copyFrom_66 : decode cX5_copyFrom 66 = .ok (.aload_n 0, 1) := by decide +kernel
theorem dX5_copyFrom_67 : decode cX5_copyFrom 67 = .ok (.getfield 35, 3) := by decide +kernel
theorem dX5_copyFrom_70 : decode cX5_copyFrom 70 = .ok (.aload_n 1, 1) := by decide +kernel
theorem dX5_copyFrom_71 : decode cX5_copyFrom 71 = .ok (.getfield 35, 3) := by decide +kernel
theorem dX5_copyFrom_74 : decode cX5_copyFrom 74 = .ok (.invokevirtual 45, 3) := by decide +kernel
theorem dX5_copyFrom_77 : decode cX5_copyFrom 77 = .ok (.aload_n 0, 1) := by decide +kernel
theorem dX5_copyFrom_78 : decode cX5_copyFrom 78 = .ok (.getfield 38, 3) := by decide +kernel
theorem dX5_copyFrom_81 : decode cX5_copyFrom 81 = .ok (.aload_n 1, 1) := by decide +kernel
theorem dX5_copyFrom_82 : decode cX5_copyFrom 82 = .ok (.getfield 38, 3) := by decide +kernel
theorem dX5_copyFrom_85 : decode cX5_copyFrom 85 = .ok (.invokevirtual 45, 3) := by decide +kernel
theorem dX5_copyFrom_88 : decode cX5_copyFrom 88 = .ok (.aload_n 0, 1) := by decide +kernel
theorem dX5_copyFrom_89 : decode cX5_copyFrom 89 = .ok (.aload_n 1, 1) := by decide +kernel
theorem dX5_copyFrom_90 : decode cX5_copyFrom 90 = .ok (.getfield 49, 3) := by decide +kernel
theorem dX5_copyFrom_93 : decode cX5_copyFrom 93 = .ok (.putfield 49, 3) := by decide +kernel
theorem dX5_copyFrom_96 : decode cX5_copyFrom 96 = .ok (.aload_n 0, 1) := by decide +kernel
theorem dX5_copyFrom_97 : decode cX5_copyFrom 97 = .ok (.aload_n 1, 1) := by decide +kernel
theorem dX5_copyFrom_98 : decode cX5_copyFrom 98 = .ok (.getfield 52, 3) := by decide +kernel
theorem dX5_copyFrom_101 : decode cX5_copyFrom 101 = .ok (.putfield 52, 3) := by decide +kernel
theorem dX5_copyFrom_104 : decode cX5_copyFrom 104 = .ok (.return_, 1) := by decide +kernel
theorem dX6_init_0 : decode cX6_init 0 = .ok (.aload_n 0, 1) := by decide +kernel
theorem dX6_init_1 : decode cX6_init 1 = .ok (.invokespecial 1, 3) := by decide +kernel
theorem dX6_init_4 : decode cX6_init 4 = .ok (.aload_n 0, 1) := by decide +kernel
theorem dX6_init_5 : decode cX6_init 5 = .ok (.iconst 0, 1) := by decide +kernel
theorem dX6_init_6 : decode cX6_init 6 = .ok (.iload_n 1, 1) := by decide +kernel
theorem dX6_init_7 : decode cX6_init 7 = .ok (.iload_n 2, 1) := by decide +kernel
theorem dX6_init_8 : decode cX6_init 8 = .ok (.imul, 1) := by decide +kernel
theorem dX6_init_9 : decode cX6_init 9 = .ok (.invokestatic 7, 3) := by decide +kernel
theorem dX6_init_12 : decode cX6_init 12 = .ok (.newarray .int, 2) := by decide +kernel
theorem dX6_init_14 : decode cX6_init 14 = .ok (.putfield 13, 3) := by decide +kernel
theorem dX6_init_17 : decode cX6_init 17 = .ok (.aload_n 0, 1) := by decide +kernel
theorem dX6_init_18 : decode cX6_init 18 = .ok (.iload_n 2, 1) := by decide +kernel
theorem dX6_init_19 : decode cX6_init 19 = .ok (.putfield 19, 3) := by decide +kernel
theorem dX6_init_22 : decode cX6_init 22 = .ok (.return_, 1) := by decide +kernel
theorem dX6_has_0 : decode cX6_has 0 = .ok (.iload_n 1, 1) := by decide +kernel
theorem dX6_has_1 : decode cX6_has 1 = .ok (.ifCond .lt 15, 3) := by decide +kernel
theorem dX6_has_4 : decode cX6_has 4 = .ok (.iload_n 1, 1) := by decide +kernel
theorem dX6_has_5 : decode cX6_has 5 = .ok (.aload_n 0, 1) := by decide +kernel
theorem dX6_has_6 : decode cX6_has 6 = .ok (.getfield 23, 3) := by decide +kernel
theorem dX6_has_9 : decode cX6_has 9 = .ok (.if_icmp .ge 7, 3) := by decide +kernel
theorem dX6_has_12 : decode cX6_has 12 = .ok (.iconst 1, 1) := by decide +kernel
theorem dX6_has_13 : decode cX6_has 13 = .ok (.goto 4, 3) := by decide +kernel
theorem dX6_has_16 : decode cX6_has 16 = .ok (.iconst 0, 1) := by decide +kernel
theorem dX6_has_17 : decode cX6_has 17 = .ok (.ireturn, 1) := by decide +kernel
theorem dX6_isFull_0 : decode cX6_isFull 0 = .ok (.aload_n 0, 1) := by decide +kernel
theorem dX6_isFull_1 : decode cX6_isFull 1 = .ok (.getfield 23, 3) := by decide +kernel
theorem dX6_isFull_4 : decode cX6_isFull 4 = .ok (.iconst 1, 1) := by decide +kernel
theorem dX6_isFull_5 : decode cX6_isFull 5 = .ok (.iadd, 1) := by decide +kernel
theorem dX6_isFull_6 : decode cX6_isFull 6 = .ok (.aload_n 0, 1) := by decide +kernel
theorem dX6_isFull_7 : decode cX6_isFull 7 = .ok (.getfield 19, 3) := by decide +kernel
theorem dX6_isFull_10 : decode cX6_isFull 10 = .ok (.imul, 1) := by decide +kernel
theorem dX6_isFull_11 : decode cX6_isFull 11 = .ok (.aload_n 0, 1) := by decide +kernel
theorem dX6_isFull_12 : decode cX6_isFull 12 = .ok (.getfield 13, 3) := by decide +kernel
theorem dX6_isFull_15 : decode cX6_isFull 15 = .ok (.arraylength, 1) := by decide +kernel
theorem dX6_isFull_16 : decode cX6_isFull 16 = .ok (.if_icmp .le 7, 3) := by decide +kernel
theorem dX6_isFull_19 : decode cX6_isFull 19 = .ok (.iconst 1, 1) := by decide +kernel
theorem dX6_isFull_20 : decode cX6_isFull 20 = .ok (.goto 4, 3) := by decide +kernel
theorem dX6_isFull_23 : decode cX6_isFull 23 = .ok (.iconst 0, 1) := by decide +kernel
theorem dX6_isFull_24 : decode cX6_isFull 24 = .ok (.ireturn, 1) := by decide +kernel
theorem dX6_addRow_0 : decode cX6_addRow 0 = .ok (.aload_n 0, 1) := by decide +kernel
theorem dX6_addRow_1 : decode cX6_addRow 1 = .ok (.invokevirtual 26, 3) := by decide +kernel
theorem dX6_addRow_4 : decode cX6_addRow 4 = .ok (.ifCond .ne 13, 3) := by decide +kernel
theorem dX6_addRow_7 : decode cX6_addRow 7 = .ok (.aload_n 0, 1) := by decide +kernel
theorem dX6_addRow_8 : decode cX6_addRow 8 = .ok (.dup, 1) := by decide +kernel
theorem dX6_addRow_9 : decode cX6_addRow 9 = .ok (.getfield 23, 3) := by decide +kernel
theorem dX6_addRow_12 : decode cX6_addRow 12 = .ok (.iconst 1, 1) := by decide +kernel
theorem dX6_addRow_13 : decode cX6_addRow 13 = .ok (.iadd, 1) := by decide +kernel
theorem dX6_addRow_14 : decode cX6_addRow 14 = .ok (.putfield 23, 3) := by decide +kernel
theorem dX6_addRow_17 : decode cX6_addRow 17 = .ok (.aload_n 0, 1) := by decide +kernel
theorem dX6_addRow_18 : decode cX6_addRow 18 = .ok (.getfield 23, 3) := by decide +kernel
theorem dX6_addRow_21 : decode cX6_addRow 21 = .ok (.iconst 1, 1) := by decide +kernel
theorem dX6_addRow_22 : decode cX6_addRow 22 = .ok (.isub, 1) := by decide +kernel
theorem dX6_addRow_23 : decode cX6_addRow 23 = .ok (.ireturn, 1) := by decide +kernel
theorem dX6_get_0 : decode cX6_get 0 = .ok (.iload_n 1, 1) := by decide +kernel
theorem dX6_get_1 : decode cX6_get 1 = .ok (.ifCond .lt 23, 3) := by decide +kernel
theorem dX6_get_4 : decode cX6_get 4 = .ok (.iload_n 1, 1) := by decide +kernel
theorem dX6_get_5 : decode cX6_get 5 = .ok (.aload_n 0, 1) := by decide +kernel
theorem dX6_get_6 : decode cX6_get 6 = .ok (.getfield 23, 3) := by decide +kernel
theorem dX6_get_9 : decode cX6_get 9 = .ok (.if_icmp .ge 15, 3) := by decide +kernel
theorem dX6_get_12 : decode cX6_get 12 = .ok (.iload_n 2, 1) := by decide +kernel
theorem dX6_get_13 : decode cX6_get 13 = .ok (.ifCond .lt 11, 3) := by decide +kernel
theorem dX6_get_16 : decode cX6_get 16 = .ok (.iload_n 2, 1) := by decide +kernel
theorem dX6_get_17 : decode cX6_get 17 = .ok (.aload_n 0, 1) := by decide +kernel
theorem dX6_get_18 : decode cX6_get 18 = .ok (.getfield 19, 3) := by decide +kernel
theorem dX6_get_21 : decode cX6_get 21 = .ok (.if_icmp .lt 5, 3) := by decide +kernel
theorem dX6_get_24 : decode cX6_get 24 = .ok (.iconst 0, 1) := by decide +kernel
theorem dX6_get_25 : decode cX6_get 25 = .ok (.ireturn, 1) := by decide +kernel
theorem dX6_get_26 : decode cX6_get 26 = .ok (.iload_n 1, 1) := by decide +kernel
theorem dX6_get_27 : decode cX6_get 27 = .ok (.aload_n 0, 1) := by decide +kernel
theorem dX6_get_28 : decode cX6_get 28 = .ok (.getfield 19, 3) := by decide +kernel
theorem dX6_get_31 : decode cX6_get 31 = .ok (.imul, 1) := by decide +kernel
theorem dX6_get_32 : decode cX6_get 32 = .ok (.iload_n 2, 1) := by decide +kernel
theorem dX6_get_33 : decode cX6_get 33 = .ok (.iadd, 1) := by decide +kernel
theorem dX6_get_34 : decode cX6_get 34 = .ok (.istore_n 3, 1) := by decide +kernel
theorem dX6_get_35 : decode cX6_get 35 = .ok (.iload_n 3, 1) := by decide +kernel
theorem dX6_get_36 : decode cX6_get 36 = .ok (.ifCond .lt 21, 3) := by decide +kernel
theorem dX6_get_39 : decode cX6_get 39 = .ok (.iload_n 3, 1) := by decide +kernel
theorem dX6_get_40 : decode cX6_get 40 = .ok (.aload_n 0, 1) := by decide +kernel
theorem dX6_get_41 : decode cX6_get 41 = .ok (.getfield 13, 3) := by decide +kernel
theorem dX6_get_44 : decode cX6_get 44 = .ok (.arraylength, 1) := by decide +kernel
theorem dX6_get_45 : decode cX6_get 45 = .ok (.if_icmp .ge 12, 3) := by decide +kernel
theorem dX6_get_48 : decode cX6_get 48 = .ok (.aload_n 0, 1) := by decide +kernel
theorem dX6_get_49 : decode cX6_get 49 = .ok (.getfield 13, 3) := by decide +kernel
theorem dX6_get_52 : decode cX6_get 52 = .ok (.iload_n 3, 1) := by decide +kernel
theorem dX6_get_53 : decode cX6_get 53 = .ok (.iaload, 1) := by decide +kernel
theorem dX6_get_54 : decode cX6_get 54 = .ok (.goto 4, 3) := by decide +kernel
theorem dX6_get_57 : decode cX6_get 57 = .ok (.iconst 0, 1) := by decide +kernel
theorem dX6_get_58 : decode cX6_get 58 = .ok (.ireturn, 1) := by decide +kernel
theorem dX6_set_0 : decode cX6_set 0 = .ok (.iload_n 1, 1) := by decide +kernel
theorem dX6_set_1 : decode cX6_set 1 = .ok (.ifCond .lt 23, 3) := by decide +kernel
theorem dX6_set_4 : decode cX6_set 4 = .ok (.iload_n 1, 1) := by decide +kernel
theorem dX6_set_5 : decode cX6_set 5 = .ok (.aload_n 0, 1) := by decide +kernel
theorem dX6_set_6 : decode cX6_set 6 = .ok (.getfield 23, 3) := by decide +kernel
theorem dX6_set_9 : decode cX6_set 9 = .ok (.if_icmp .ge 15, 3) := by decide +kernel
theorem dX6_set_12 : decode cX6_set 12 = .ok (.iload_n 2, 1) := by decide +kernel
theorem dX6_set_13 : decode cX6_set 13 = .ok (.ifCond .lt 11, 3) := by decide +kernel
theorem dX6_set_16 : decode cX6_set 16 = .ok (.iload_n 2, 1) := by decide +kernel
theorem dX6_set_17 : decode cX6_set 17 = .ok (.aload_n 0, 1) := by decide +kernel
theorem dX6_set_18 : decode cX6_set 18 = .ok (.getfield 19, 3) := by decide +kernel
theorem dX6_set_21 : decode cX6_set 21 = .ok (.if_icmp .lt 4, 3) := by decide +kernel
theorem dX6_set_24 : decode cX6_set 24 = .ok (.return_, 1) := by decide +kernel
theorem dX6_set_25 : decode cX6_set 25 = .ok (.iload_n 1, 1) := by decide +kernel
theorem dX6_set_26 : decode cX6_set 26 = .ok (.aload_n 0, 1) := by decide +kernel
theorem dX6_set_27 : decode cX6_set 27 = .ok (.getfield 19, 3) := by decide +kernel
theorem dX6_set_30 : decode cX6_set 30 = .ok (.imul, 1) := by decide +kernel
theorem dX6_set_31 : decode cX6_set 31 = .ok (.iload_n 2, 1) := by decide +kernel
theorem dX6_set_32 : decode cX6_set 32 = .ok (.iadd, 1) := by decide +kernel
theorem dX6_set_33 : decode cX6_set 33 = .ok (.istore 4, 2) := by decide +kernel
theorem dX6_set_35 : decode cX6_set 35 = .ok (.iload 4, 2) := by decide +kernel
theorem dX6_set_37 : decode cX6_set 37 = .ok (.ifCond .lt 21, 3) := by decide +kernel
theorem dX6_set_40 : decode cX6_set 40 = .ok (.iload 4, 2) := by decide +kernel
theorem dX6_set_42 : decode cX6_set 42 = .ok (.aload_n 0, 1) := by decide +kernel
theorem dX6_set_43 : decode cX6_set 43 = .ok (.getfield 13, 3) := by decide +kernel
theorem dX6_set_46 : decode cX6_set 46 = .ok (.arraylength, 1) := by decide +kernel
theorem dX6_set_47 : decode cX6_set 47 = .ok (.if_icmp .ge 11, 3) := by decide +kernel
theorem dX6_set_50 : decode cX6_set 50 = .ok (.aload_n 0, 1) := by decide +kernel
theorem dX6_set_51 : decode cX6_set 51 = .ok (.getfield 13, 3) := by decide +kernel
theorem dX6_set_54 : decode cX6_set 54 = .ok (.iload 4, 2) := by decide +kernel
theorem dX6_set_56 : decode cX6_set 56 = .ok (.iload_n 3, 1) := by decide +kernel
theorem dX6_set_57 : decode cX6_set 57 = .ok (.iastore, 1) := by decide +kernel
theorem dX6_set_58 : decode cX6_set 58 = .ok (.return_, 1) := by decide +kernel
theorem dX6_add_0 : decode cX6_add 0 = .ok (.aload_n 0, 1) := by decide +kernel
theorem dX6_add_1 : decode cX6_add 1 = .ok (.iload_n 1, 1) := by decide +kernel
theorem dX6_add_2 : decode cX6_add 2 = .ok (.iload_n 2, 1) := by decide +kernel
theorem dX6_add_3 : decode cX6_add 3 = .ok (.aload_n 0, 1) := by decide +kernel
theorem dX6_add_4 : decode cX6_add 4 = .ok (.iload_n 1, 1) := by decide +kernel
theorem dX6_add_5 : decode cX6_add 5 = .ok (.iload_n 2, 1) := by decide +kernel
theorem dX6_add_6 : decode cX6_add 6 = .ok (.invokevirtual 30, 3) := by decide +kernel
theorem dX6_add_9 : decode cX6_add 9 = .ok (.iload_n 3, 1) := by decide +kernel
theorem dX6_add_10 : decode cX6_add 10 = .ok (.iadd, 1) := by decide +kernel
theorem dX6_add_11 : decode cX6_add 11 = .ok (.invokevirtual 33, 3) := by decide +kernel
theorem dX6_add_14 : decode cX6_add 14 = .ok (.return_, 1) := by decide +kernel
theorem dX6_countOf_0 : decode cX6_countOf 0 = .ok (.iconst 0, 1) := by decide +kernel
theorem dX6_countOf_1 : decode cX6_countOf 1 = .ok (.istore_n 3, 1) := by decide +kernel
theorem dX6_countOf_2 : decode cX6_countOf 2 = .ok (.iconst 0, 1) := by decide +kernel
theorem dX6_countOf_3 : decode cX6_countOf 3 = .ok (.istore 4, 2) := by decide +kernel
theorem dX6_countOf_5 : decode cX6_countOf 5 = .ok (.iload 4, 2) := by decide +kernel
theorem dX6_countOf_7 : decode cX6_countOf 7 = .ok (.aload_n 0, 1) := by decide +kernel
theorem dX6_countOf_8 : decode cX6_countOf 8 = .ok (.getfield 23, 3) := by decide +kernel
theorem dX6_countOf_11 : decode cX6_countOf 11 = .ok (.if_icmp .ge 23, 3) := by decide +kernel
theorem dX6_countOf_14 : decode cX6_countOf 14 = .ok (.aload_n 0, 1) := by decide +kernel
theorem dX6_countOf_15 : decode cX6_countOf 15 = .ok (.iload 4, 2) := by decide +kernel
theorem dX6_countOf_17 : decode cX6_countOf 17 = .ok (.iload_n 1, 1) := by decide +kernel
theorem dX6_countOf_18 : decode cX6_countOf 18 = .ok (.invokevirtual 30, 3) := by decide +kernel
theorem dX6_countOf_21 : decode cX6_countOf 21 = .ok (.iload_n 2, 1) := by decide +kernel
theorem dX6_countOf_22 : decode cX6_countOf 22 = .ok (.if_icmp .ne 6, 3) := by decide +kernel
theorem dX6_countOf_25 : decode cX6_countOf 25 = .ok (.iinc 3 1, 3) := by decide +kernel
theorem dX6_countOf_28 : decode cX6_countOf 28 = .ok (.iinc 4 1, 3) := by decide +kernel
theorem dX6_countOf_31 : decode cX6_countOf 31 = .ok (.goto (-26), 3) := by decide +kernel
theorem dX6_countOf_34 : decode cX6_countOf 34 = .ok (.iload_n 3, 1) := by decide +kernel
theorem dX6_countOf_35 : decode cX6_countOf 35 = .ok (.ireturn, 1) := by decide +kernel
theorem dX6_copyFrom_0 : decode cX6_copyFrom 0 = .ok (.aload_n 1, 1) := by decide +kernel
theorem dX6_copyFrom_1 : decode cX6_copyFrom 1 = .ok (.getfield 13, 3) := by decide +kernel
theorem dX6_copyFrom_4 : decode cX6_copyFrom 4 = .ok (.iconst 0, 1) := by decide +kernel
theorem dX6_copyFrom_5 : decode cX6_copyFrom 5 = .ok (.aload_n 0, 1) := by decide +kernel
theorem dX6_copyFrom_6 : decode cX6_copyFrom 6 = .ok (.getfield 13, 3) := by decide +kernel
theorem dX6_copyFrom_9 : decode cX6_copyFrom 9 = .ok (.iconst 0, 1) := by decide +kernel
theorem dX6_copyFrom_10 : decode cX6_copyFrom 10 = .ok (.aload_n 0, 1) := by decide +kernel
theorem dX6_copyFrom_11 : decode cX6_copyFrom 11 = .ok (.getfield 13, 3) := by decide +kernel
theorem dX6_copyFrom_14 : decode cX6_copyFrom 14 = .ok (.arraylength, 1) := by decide +kernel
theorem dX6_copyFrom_15 : decode cX6_copyFrom 15 = .ok (.aload_n 1, 1) := by decide +kernel
theorem dX6_copyFrom_16 : decode cX6_copyFrom 16 = .ok (.getfield 13, 3) := by decide +kernel
theorem dX6_copyFrom_19 : decode cX6_copyFrom 19 = .ok (.arraylength, 1) := by decide +kernel
theorem dX6_copyFrom_20 : decode cX6_copyFrom 20 = .ok (.invokestatic 37, 3) := by decide +kernel
theorem dX6_copyFrom_23 : decode cX6_copyFrom 23 = .ok (.invokestatic 40, 3) := by decide +kernel
theorem dX6_copyFrom_26 : decode cX6_copyFrom 26 = .ok (.aload_n 0, 1) := by decide +kernel
theorem dX6_copyFrom_27 : decode cX6_copyFrom 27 = .ok (.aload_n 1, 1) := by decide +kernel
theorem dX6_copyFrom_28 : decode cX6_copyFrom 28 = .ok (.getfield 23, 3) := by decide +kernel
theorem dX6_copyFrom_31 : decode cX6_copyFrom 31 = .ok (.putfield 23, 3) := by decide +kernel
theorem dX6_copyFrom_34 : decode cX6_copyFrom 34 = .ok (.return_, 1) := by decide +kernel
theorem dX7_init_0 : decode cX7_init 0 = .ok (.aload_n 0, 1) := by decide +kernel
theorem dX7_init_1 : decode cX7_init 1 = .ok (.invokespecial 3, 3) := by decide +kernel
theorem dX7_init_4 : decode cX7_init 4 = .ok (.aload_n 0, 1) := by decide +kernel
theorem dX7_init_5 : decode cX7_init 5 = .ok (.bipush 80, 2) := by decide +kernel
theorem dX7_init_7 : decode cX7_init 7 = .ok (.newarray .int, 2) := by decide +kernel
theorem dX7_init_9 : decode cX7_init 9 = .ok (.putfield 11, 3) := by decide +kernel
theorem dX7_init_12 : decode cX7_init 12 = .ok (.aload_n 0, 1) := by decide +kernel
theorem dX7_init_13 : decode cX7_init 13 = .ok (.iconst 4, 1) := by decide +kernel
theorem dX7_init_14 : decode cX7_init 14 = .ok (.newarray .int, 2) := by decide +kernel
theorem dX7_init_16 : decode cX7_init 16 = .ok (.putfield 15, 3) := by decide +kernel
theorem dX7_init_19 : decode cX7_init 19 = .ok (.return_, 1) := by decide +kernel
theorem dJ6_bitCount_0f7a4_0 : decode cJ6_bitCount_0f7a4 0 = .ok (.iload_n 0, 1) := by decide +kernel
theorem dJ6_bitCount_0f7a4_1 : decode cJ6_bitCount_0f7a4 1 = .ok (.iload_n 0, 1) := by decide +kernel
theorem dJ6_bitCount_0f7a4_2 : decode cJ6_bitCount_0f7a4 2 = .ok (.iconst 1, 1) := by decide +kernel
theorem dJ6_bitCount_0f7a4_3 : decode cJ6_bitCount_0f7a4 3 = .ok (.iushr, 1) := by decide +kernel
theorem dJ6_bitCount_0f7a4_4 : decode cJ6_bitCount_0f7a4 4 = .ok (.ldc_w 265, 3) := by decide +kernel
theorem dJ6_bitCount_0f7a4_7 : decode cJ6_bitCount_0f7a4 7 = .ok (.iand, 1) := by decide +kernel
theorem dJ6_bitCount_0f7a4_8 : decode cJ6_bitCount_0f7a4 8 = .ok (.isub, 1) := by decide +kernel
theorem dJ6_bitCount_0f7a4_9 : decode cJ6_bitCount_0f7a4 9 = .ok (.istore_n 0, 1) := by decide +kernel
theorem dJ6_bitCount_0f7a4_10 : decode cJ6_bitCount_0f7a4 10 = .ok (.iload_n 0, 1) := by decide +kernel
theorem dJ6_bitCount_0f7a4_11 : decode cJ6_bitCount_0f7a4 11 = .ok (.ldc_w 266, 3) := by decide +kernel
theorem dJ6_bitCount_0f7a4_14 : decode cJ6_bitCount_0f7a4 14 = .ok (.iand, 1) := by decide +kernel
theorem dJ6_bitCount_0f7a4_15 : decode cJ6_bitCount_0f7a4 15 = .ok (.iload_n 0, 1) := by decide +kernel
theorem dJ6_bitCount_0f7a4_16 : decode cJ6_bitCount_0f7a4 16 = .ok (.iconst 2, 1) := by decide +kernel
theorem dJ6_bitCount_0f7a4_17 : decode cJ6_bitCount_0f7a4 17 = .ok (.iushr, 1) := by decide +kernel
theorem dJ6_bitCount_0f7a4_18 : decode cJ6_bitCount_0f7a4 18 = .ok (.ldc_w 266, 3) := by decide +kernel
theorem dJ6_bitCount_0f7a4_21 : decode cJ6_bitCount_0f7a4 21 = .ok (.iand, 1) := by decide +kernel
theorem dJ6_bitCount_0f7a4_22 : decode cJ6_bitCount_0f7a4 22 = .ok (.iadd, 1) := by decide +kernel
theorem dJ6_bitCount_0f7a4_23 : decode cJ6_bitCount_0f7a4 23 = .ok (.istore_n 0, 1) := by decide +kernel
theorem dJ6_bitCount_0f7a4_24 : decode cJ6_bitCount_0f7a4 24 = .ok (.iload_n 0, 1) := by decide +kernel
theorem dJ6_bitCount_0f7a4_25 : decode cJ6_bitCount_0f7a4 25 = .ok (.iload_n 0, 1) := by decide +kernel
theorem dJ6_bitCount_0f7a4_26 : decode cJ6_bitCount_0f7a4 26 = .ok (.iconst 4, 1) := by decide +kernel
theorem dJ6_bitCount_0f7a4_27 : decode cJ6_bitCount_0f7a4 27 = .ok (.iushr, 1) := by decide +kernel
theorem dJ6_bitCount_0f7a4_28 : decode cJ6_bitCount_0f7a4 28 = .ok (.iadd, 1) := by decide +kernel
theorem dJ6_bitCount_0f7a4_29 : decode cJ6_bitCount_0f7a4 29 = .ok (.ldc_w 267, 3) := by decide +kernel
theorem dJ6_bitCount_0f7a4_32 : decode cJ6_bitCount_0f7a4 32 = .ok (.iand, 1) := by decide +kernel
theorem dJ6_bitCount_0f7a4_33 : decode cJ6_bitCount_0f7a4 33 = .ok (.istore_n 0, 1) := by decide +kernel
theorem dJ6_bitCount_0f7a4_34 : decode cJ6_bitCount_0f7a4 34 = .ok (.iload_n 0, 1) := by decide +kernel
theorem dJ6_bitCount_0f7a4_35 : decode cJ6_bitCount_0f7a4 35 = .ok (.iload_n 0, 1) := by decide +kernel
theorem dJ6_bitCount_0f7a4_36 : decode cJ6_bitCount_0f7a4 36 = .ok (.bipush 8, 2) := by decide +kernel
theorem dJ6_bitCount_0f7a4_38 : decode cJ6_bitCount_0f7a4 38 = .ok (.iushr, 1) := by decide +kernel
theorem dJ6_bitCount_0f7a4_39 : decode cJ6_bitCount_0f7a4 39 = .ok (.iadd, 1) := by decide +kernel
theorem dJ6_bitCount_0f7a4_40 : decode cJ6_bitCount_0f7a4 40 = .ok (.istore_n 0, 1) := by decide +kernel
theorem dJ6_bitCount_0f7a4_41 : decode cJ6_bitCount_0f7a4 41 = .ok (.iload_n 0, 1) := by decide +kernel
theorem dJ6_bitCount_0f7a4_42 : decode cJ6_bitCount_0f7a4 42 = .ok (.iload_n 0, 1) := by decide +kernel
theorem dJ6_bitCount_0f7a4_43 : decode cJ6_bitCount_0f7a4 43 = .ok (.bipush 16, 2) := by decide +kernel
theorem dJ6_bitCount_0f7a4_45 : decode cJ6_bitCount_0f7a4 45 = .ok (.iushr, 1) := by decide +kernel
theorem dJ6_bitCount_0f7a4_46 : decode cJ6_bitCount_0f7a4 46 = .ok (.iadd, 1) := by decide +kernel
theorem dJ6_bitCount_0f7a4_47 : decode cJ6_bitCount_0f7a4 47 = .ok (.istore_n 0, 1) := by decide +kernel
theorem dJ6_bitCount_0f7a4_48 : decode cJ6_bitCount_0f7a4 48 = .ok (.iload_n 0, 1) := by decide +kernel
theorem dJ6_bitCount_0f7a4_49 : decode cJ6_bitCount_0f7a4 49 = .ok (.bipush 63, 2) := by decide +kernel
theorem dJ6_bitCount_0f7a4_51 : decode cJ6_bitCount_0f7a4 51 = .ok (.iand, 1) := by decide +kernel
theorem dJ6_bitCount_0f7a4_52 : decode cJ6_bitCount_0f7a4 52 = .ok (.ireturn, 1) := by decide +kernel
theorem dJ9_max_7cf53_0 : decode cJ9_max_7cf53 0 = .ok (.iload_n 0, 1) := by decide +kernel
theorem dJ9_max_7cf53_1 : decode cJ9_max_7cf53 1 = .ok (.iload_n 1, 1) := by decide +kernel
theorem dJ9_max_7cf53_2 : decode cJ9_max_7cf53 2 = .ok (.if_icmp .lt 7, 3) := by decide +kernel
theorem dJ9_max_7cf53_5 : decode cJ9_max_7cf53 5 = .ok (.iload_n 0, 1) := by decide +kernel
theorem dJ9_max_7cf53_6 : decode cJ9_max_7cf53 6 = .ok (.goto 4, 3) := by decide +kernel
theorem dJ9_max_7cf53_9 : decode cJ9_max_7cf53 9 = .ok (.iload_n 1, 1) := by decide +kernel
theorem dJ9_max_7cf53_10 : decode cJ9_max_7cf53 10 = .ok (.ireturn, 1) := by decide +kernel
theorem dJ9_min_7cf53_0 : decode cJ9_min_7cf53 0 = .ok (.iload_n 0, 1) := by decide +kernel
theorem dJ9_min_7cf53_1 : decode cJ9_min_7cf53 1 = .ok (.iload_n 1, 1) := by decide +kernel
theorem dJ9_min_7cf53_2 : decode cJ9_min_7cf53 2 = .ok (.if_icmp .gt 7, 3) := by decide +kernel
theorem dJ9_min_7cf53_5 : decode cJ9_min_7cf53 5 = .ok (.iload_n 0, 1) := by decide +kernel
theorem dJ9_min_7cf53_6 : decode cJ9_min_7cf53 6 = .ok (.goto 4, 3) := by decide +kernel
theorem dJ9_min_7cf53_9 : decode cJ9_min_7cf53 9 = .ok (.iload_n 1, 1) := by decide +kernel
theorem dJ9_min_7cf53_10 : decode cJ9_min_7cf53 10 = .ok (.ireturn, 1) := by decide +kernel
