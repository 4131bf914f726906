theorem dX0_init_0 : decode cX0_init 0 = .ok (.aload_n 0, 1) := by decide +kernel
theorem dX0_init_1 : decode cX0_init 1 = .ok (.invokespecial 3, 3) := by decide +kernel
theorem dX0_init_4 : decode cX0_init 4 = .ok (.aload_n 0, 1) := by decide +kernel
theorem dX0_init_5 : decode cX0_init 5 = .ok (.bipush 14, 2) := by decide +kernel
theorem dX0_init_7 : decode cX0_init 7 = .ok (.anewarray 9, 3) := by decide +kernel
theorem dX0_init_10 : decode cX0_init 10 = .ok (.putfield 11, 3) := by decide +kernel
theorem dX0_init_13 : decode cX0_init 13 = .ok (.iconst 0, 1) := by decide +kernel
theorem dX0_init_14 : decode cX0_init 14 = .ok (.istore_n 1, 1) := by decide +kernel
theorem dX0_init_15 : decode cX0_init 15 = .ok (.iload_n 1, 1) := by decide +kernel
theorem dX0_init_16 : decode cX0_init 16 = .ok (.bipush 14, 2) := by decide +kernel
theorem dX0_init_18 : decode cX0_init 18 = .ok (.if_icmp .ge 22, 3) := by decide +kernel
theorem dX0_init_21 : decode cX0_init 21 = .ok (.aload_n 0, 1) := by decide +kernel
theorem dX0_init_22 : decode cX0_init 22 = .ok (.getfield 11, 3) := by decide +kernel
theorem dX0_init_25 : decode cX0_init 25 = .ok (.iload_n 1, 1) := by decide +kernel
theorem dX0_init_26 : decode cX0_init 26 = .ok (.new 9, 3) := by decide +kernel
theorem dX0_init_29 : decode cX0_init 29 = .ok (.dup, 1) := by decide +kernel
theorem dX0_init_30 : decode cX0_init 30 = .ok (.invokespecial 17, 3) := by decide +kernel
theorem dX0_init_33 : decode cX0_init 33 = .ok (.aastore, 1) := by decide +kernel
theorem dX0_init_34 : decode cX0_init 34 = .ok (.iinc 1 1, 3) := by decide +kernel
theorem dX0_init_37 : decode cX0_init 37 = .ok (.goto (-22), 3) := by decide +kernel
theorem dX0_init_40 : decode cX0_init 40 = .ok (.return_, 1) := by decide +kernel
theorem dX0_forget_0 : decode cX0_forget 0 = .ok (.aload_n 0, 1) := by decide +kernel
theorem dX0_forget_1 : decode cX0_forget 1 = .ok (.iconst 0, 1) := by decide +kernel
theorem dX0_forget_2 : decode cX0_forget 2 = .ok (.putfield 18, 3) := by decide +kernel
theorem dX0_forget_5 : decode cX0_forget 5 = .ok (.return_, 1) := by decide +kernel
theorem dX0_remember_0 : decode cX0_remember 0 = .ok (.aload_n 0, 1) := by decide +kernel
theorem dX0_remember_1 : decode cX0_remember 1 = .ok (.getfield 18, 3) := by decide +kernel
theorem dX0_remember_4 : decode cX0_remember 4 = .ok (.bipush 14, 2) := by decide +kernel
theorem dX0_remember_6 : decode cX0_remember 6 = .ok (.if_icmp .lt 7, 3) := by decide +kernel
theorem dX0_remember_9 : decode cX0_remember 9 = .ok (.aload_n 0, 1) := by decide +kernel
theorem dX0_remember_10 : decode cX0_remember 10 = .ok (.invokevirtual 22, 3) := by decide +kernel
theorem dX0_remember_13 : decode cX0_remember 13 = .ok (.aload_n 0, 1) := by decide +kernel
theorem dX0_remember_14 : decode cX0_remember 14 = .ok (.getfield 11, 3) := by decide +kernel
theorem dX0_remember_17 : decode cX0_remember 17 = .ok (.aload_n 0, 1) := by decide +kernel
theorem dX0_remember_18 : decode cX0_remember 18 = .ok (.getfield 18, 3) := by decide +kernel
theorem dX0_remember_21 : decode cX0_remember 21 = .ok (.aaload, 1) := by decide +kernel
theorem dX0_remember_22 : decode cX0_remember 22 = .ok (.aload_n 1, 1) := by decide +kernel
theorem dX0_remember_23 : decode cX0_remember 23 = .ok (.invokevirtual 25, 3) := by decide +kernel
theorem dX0_remember_26 : decode cX0_remember 26 = .ok (.aload_n 0, 1) := by decide +kernel
theorem dX0_remember_27 : decode cX0_remember 27 = .ok (.dup, 1) := by decide +kernel
theorem dX0_remember_28 : decode cX0_remember 28 = .ok (.getfield 18, 3) := by decide +kernel
theorem dX0_remember_31 : decode cX0_remember 31 = .ok (.iconst 1, 1) := by decide +kernel
theorem dX0_remember_32 : decode cX0_remember 32 = .ok (.iadd, 1) := by decide +kernel
theorem dX0_remember_33 : decode cX0_remember 33 = .ok (.putfield 18, 3) := by decide +kernel
theorem dX0_remember_36 : decode cX0_remember 36 = .ok (.return_, 1) := by decide +kernel
theorem dX0_dropFirst_0 : decode cX0_dropFirst 0 = .ok (.aload_n 0, 1) := by decide +kernel
theorem dX0_dropFirst_1 : decode cX0_dropFirst 1 = .ok (.getfield 11, 3) := by decide +kernel
theorem dX0_dropFirst_4 : decode cX0_dropFirst 4 = .ok (.iconst 0, 1) := by decide +kernel
theorem dX0_dropFirst_5 : decode cX0_dropFirst 5 = .ok (.aaload, 1) := by decide +kernel
theorem dX0_dropFirst_6 : decode cX0_dropFirst 6 = .ok (.astore_n 1, 1) := by decide +kernel
theorem dX0_dropFirst_7 : decode cX0_dropFirst 7 = .ok (.iconst 1, 1) := by decide +kernel
theorem dX0_dropFirst_8 : decode cX0_dropFirst 8 = .ok (.istore_n 2, 1) := by decide +kernel
theorem dX0_dropFirst_9 : decode cX0_dropFirst 9 = .ok (.iload_n 2, 1) := by decide +kernel
theorem dX0_dropFirst_10 : decode cX0_dropFirst 10 = .ok (.bipush 14, 2) := by decide +kernel
theorem dX0_dropFirst_12 : decode cX0_dropFirst 12 = .ok (.if_icmp .ge 23, 3) := by decide +kernel
theorem dX0_dropFirst_15 : decode cX0_dropFirst 15 = .ok (.aload_n 0, 1) := by decide +kernel
theorem dX0_dropFirst_16 : decode cX0_dropFirst 16 = .ok (.getfield 11, 3) := by decide +kernel
theorem dX0_dropFirst_19 : decode cX0_dropFirst 19 = .ok (.iload_n 2, 1) := by decide +kernel
theorem dX0_dropFirst_20 : decode cX0_dropFirst 20 = .ok (.iconst 1, 1) := by decide +kernel
theorem dX0_dropFirst_21 : decode cX0_dropFirst 21 = .ok (.isub, 1) := by decide +kernel
theorem dX0_dropFirst_22 : decode cX0_dropFirst 22 = .ok (.aload_n 0, 1) := by decide +kernel
theorem dX0_dropFirst_23 : decode cX0_dropFirst 23 = .ok (.getfield 11, 3) := by decide +kernel
theorem dX0_dropFirst_26 : decode cX0_dropFirst 26 = .ok (.iload_n 2, 1) := by decide +kernel
theorem dX0_dropFirst_27 : decode cX0_dropFirst 27 = .ok (.aaload, 1) := by decide +kernel
theorem dX0_dropFirst_28 : decode cX0_dropFirst 28 = .ok (.aastore, 1) := by decide +kernel
theorem dX0_dropFirst_29 : decode cX0_dropFirst 29 = .ok (.iinc 2 1, 3) := by decide +kernel
theorem dX0_dropFirst_32 : decode cX0_dropFirst 32 = .ok (.goto (-23), 3) := by decide +kernel
theorem dX0_dropFirst_35 : decode cX0_dropFirst 35 = .ok (.aload_n 0, 1) := by decide +kernel
theorem dX0_dropFirst_36 : decode cX0_dropFirst 36 = .ok (.getfield 11, 3) := by decide +kernel
theorem dX0_dropFirst_39 : decode cX0_dropFirst 39 = .ok (.bipush 13, 2) := by decide +kernel
theorem dX0_dropFirst_41 : decode cX0_dropFirst 41 = .ok (.aload_n 1, 1) := by decide +kernel
theorem dX0_dropFirst_42 : decode cX0_dropFirst 42 = .ok (.aastore, 1) := by decide +kernel
theorem dX0_dropFirst_43 : decode cX0_dropFirst 43 = .ok (.aload_n 0, 1) := by decide +kernel
theorem dX0_dropFirst_44 : decode cX0_dropFirst 44 = .ok (.bipush 13, 2) := by decide +kernel
theorem dX0_dropFirst_46 : decode cX0_dropFirst 46 = .ok (.putfield 18, 3) := by decide +kernel
theorem dX0_dropFirst_49 : decode cX0_dropFirst 49 = .ok (.return_, 1) := by decide +kernel
theorem dX0_takeBack_0 : decode cX0_takeBack 0 = .ok (.aload_n 0, 1) := by decide +kernel
theorem dX0_takeBack_1 : decode cX0_takeBack 1 = .ok (.getfield 18, 3) := by decide +kernel
theorem dX0_takeBack_4 : decode cX0_takeBack 4 = .ok (.ifCond .le 26, 3) := by decide +kernel
theorem dX0_takeBack_7 : decode cX0_takeBack 7 = .ok (.aload_n 0, 1) := by decide +kernel
theorem dX0_takeBack_8 : decode cX0_takeBack 8 = .ok (.dup, 1) := by decide +kernel
theorem dX0_takeBack_9 : decode cX0_takeBack 9 = .ok (.getfield 18, 3) := by decide +kernel
theorem dX0_takeBack_12 : decode cX0_takeBack 12 = .ok (.iconst 1, 1) := by decide +kernel
theorem dX0_takeBack_13 : decode cX0_takeBack 13 = .ok (.isub, 1) := by decide +kernel
theorem dX0_takeBack_14 : decode cX0_takeBack 14 = .ok (.putfield 18, 3) := by decide +kernel
theorem dX0_takeBack_17 : decode cX0_takeBack 17 = .ok (.aload_n 1, 1) := by decide +kernel
theorem dX0_takeBack_18 : decode cX0_takeBack 18 = .ok (.aload_n 0, 1) := by decide +kernel
theorem dX0_takeBack_19 : decode cX0_takeBack 19 = .ok (.getfield 11, 3) := by decide +kernel
theorem dX0_takeBack_22 : decode cX0_takeBack 22 = .ok (.aload_n 0, 1) := by decide +kernel
theorem dX0_takeBack_23 : decode cX0_takeBack 23 = .ok (.getfield 18, 3) := by decide +kernel
theorem dX0_takeBack_26 : decode cX0_takeBack 26 = .ok (.aaload, 1) := by decide +kernel
theorem dX0_takeBack_27 : decode cX0_takeBack 27 = .ok (.invokevirtual 25, 3) := by decide +kernel
theorem dX0_takeBack_30 : decode cX0_takeBack 30 = .ok (.return_, 1) := by decide +kernel
theorem dX1_init_0 : decode cX1_init 0 = .ok (.aload_n 0, 1) := by decide +kernel
theorem dX1_init_1 : decode cX1_init 1 = .ok (.invokespecial 3, 3) := by decide +kernel
theorem dX1_init_4 : decode cX1_init 4 = .ok (.aload_n 0, 1) := by decide +kernel
theorem dX1_init_5 : decode cX1_init 5 = .ok (.bipush 6, 2) := by decide +kernel
theorem dX1_init_7 : decode cX1_init 7 = .ok (.newarray .int, 2) := by decide +kernel
theorem dX1_init_9 : decode cX1_init 9 = .ok (.putfield 9, 3) := by decide +kernel
theorem dX1_init_12 : decode cX1_init 12 = .ok (.aload_n 0, 1) := by decide +kernel
theorem dX1_init_13 : decode cX1_init 13 = .ok (.bipush 6, 2) := by decide +kernel
theorem dX1_init_15 : decode cX1_init 15 = .ok (.newarray .int, 2) := by decide +kernel
theorem dX1_init_17 : decode cX1_init 17 = .ok (.putfield 15, 3) := by decide +kernel
theorem dX1_init_20 : decode cX1_init 20 = .ok (.aload_n 0, 1) := by decide +kernel
theorem dX1_init_21 : decode cX1_init 21 = .ok (.bipush 6, 2) := by decide +kernel
theorem dX1_init_23 : decode cX1_init 23 = .ok (.newarray .int, 2) := by decide +kernel
theorem dX1_init_25 : decode cX1_init 25 = .ok (.putfield 18, 3) := by decide +kernel
theorem dX1_init_28 : decode cX1_init 28 = .ok (.aload_n 0, 1) := by decide +kernel
theorem dX1_init_29 : decode cX1_init 29 = .ok (.bipush 6, 2) := by decide +kernel
theorem dX1_init_31 : decode cX1_init 31 = .ok (.newarray .int, 2) := by decide +kernel
theorem dX1_init_33 : decode cX1_init 33 = .ok (.putfield 21, 3) := by decide +kernel
theorem dX1_init_36 : decode cX1_init 36 = .ok (.aload_n 0, 1) := by decide +kernel
theorem dX1_init_37 : decode cX1_init 37 = .ok (.bipush 6, 2) := by decide +kernel
theorem dX1_init_39 : decode cX1_init 39 = .ok (.newarray .int, 2) := by decide +kernel
theorem dX1_init_41 : decode cX1_init 41 = .ok (.putfield 24, 3) := by decide +kernel
theorem dX1_init_44 : decode cX1_init 44 = .ok (.return_, 1) := by decide +kernel
theorem dX1_clear_0 : decode cX1_clear 0 = .ok (.aload_n 0, 1) := by decide +kernel
theorem dX1_clear_1 : decode cX1_clear 1 = .ok (.iconst 0, 1) := by decide +kernel
theorem dX1_clear_2 : decode cX1_clear 2 = .ok (.putfield 27, 3) := by decide +kernel
theorem dX1_clear_5 : decode cX1_clear 5 = .ok (.aload_n 0, 1) := by decide +kernel
theorem dX1_clear_6 : decode cX1_clear 6 = .ok (.iconst 0, 1) := by decide +kernel
theorem dX1_clear_7 : decode cX1_clear 7 = .ok (.putfield 31, 3) := by decide +kernel
theorem dX1_clear_10 : decode cX1_clear 10 = .ok (.aload_n 0, 1) := by decide +kernel
theorem dX1_clear_11 : decode cX1_clear 11 = .ok (.iconst 0, 1) := by decide +kernel
theorem dX1_clear_12 : decode cX1_clear 12 = .ok (.putfield 34, 3) := by decide +kernel
theorem dX1_clear_15 : decode cX1_clear 15 = .ok (.return_, 1) := by decide +kernel
theorem dX1_hasPlace_0 : decode cX1_hasPlace 0 = .ok (.iload_n 1, 1) := by decide +kernel
theorem dX1_hasPlace_1 : decode cX1_hasPlace 1 = .ok (.ifCond .lt 15, 3) := by decide +kernel
theorem dX1_hasPlace_4 : decode cX1_hasPlace 4 = .ok (.iload_n 1, 1) := by decide +kernel
theorem dX1_hasPlace_5 : decode cX1_hasPlace 5 = .ok (.aload_n 0, 1) := by decide +kernel
theorem dX1_hasPlace_6 : decode cX1_hasPlace 6 = .ok (.getfield 31, 3) := by decide +kernel
theorem dX1_hasPlace_9 : decode cX1_hasPlace 9 = .ok (.if_icmp .ge 7, 3) := by decide +kernel
theorem dX1_hasPlace_12 : decode cX1_hasPlace 12 = .ok (.iconst 1, 1) := by decide +kernel
theorem dX1_hasPlace_13 : decode cX1_hasPlace 13 = .ok (.goto 4, 3) := by decide +kernel
theorem dX1_hasPlace_16 : decode cX1_hasPlace 16 = .ok (.iconst 0, 1) := by decide +kernel
theorem dX1_hasPlace_17 : decode cX1_hasPlace 17 = .ok (.ireturn, 1) := by decide +kernel
theorem dX1_hasDitch_0 : decode cX1_hasDitch 0 = .ok (.iload_n 1, 1) := by decide +kernel
theorem dX1_hasDitch_1 : decode cX1_hasDitch 1 = .ok (.ifCond .lt 15, 3) := by decide +kernel
theorem dX1_hasDitch_4 : decode cX1_hasDitch 4 = .ok (.iload_n 1, 1) := by decide +kernel
theorem dX1_hasDitch_5 : decode cX1_hasDitch 5 = .ok (.aload_n 0, 1) := by decide +kernel
theorem dX1_hasDitch_6 : decode cX1_hasDitch 6 = .ok (.getfield 34, 3) := by decide +kernel
theorem dX1_hasDitch_9 : decode cX1_hasDitch 9 = .ok (.if_icmp .ge 7, 3) := by decide +kernel
theorem dX1_hasDitch_12 : decode cX1_hasDitch 12 = .ok (.iconst 1, 1) := by decide +kernel
theorem dX1_hasDitch_13 : decode cX1_hasDitch 13 = .ok (.goto 4, 3) := by decide +kernel
theorem dX1_hasDitch_16 : decode cX1_hasDitch 16 = .ok (.iconst 0, 1) := by decide +kernel
theorem dX1_hasDitch_17 : decode cX1_hasDitch 17 = .ok (.ireturn, 1) := by decide +kernel
theorem dX1_allDitches_0 : decode cX1_allDitches 0 = .ok (.iconst 1, 1) := by decide +kernel
theorem dX1_allDitches_1 : decode cX1_allDitches 1 = .ok (.aload_n 0, 1) := by decide +kernel
theorem dX1_allDitches_2 : decode cX1_allDitches 2 = .ok (.getfield 34, 3) := by decide +kernel
theorem dX1_allDitches_5 : decode cX1_allDitches 5 = .ok (.ishl, 1) := by decide +kernel
theorem dX1_allDitches_6 : decode cX1_allDitches 6 = .ok (.iconst 1, 1) := by decide +kernel
theorem dX1_allDitches_7 : decode cX1_allDitches 7 = .ok (.isub, 1) := by decide +kernel
theorem dX1_allDitches_8 : decode cX1_allDitches 8 = .ok (.ireturn, 1) := by decide +kernel
theorem dX1_placesOf_0 : decode cX1_placesOf 0 = .ok (.iconst 0, 1) := by decide +kernel
theorem dX1_placesOf_1 : decode cX1_placesOf 1 = .ok (.istore_n 2, 1) := by decide +kernel
theorem dX1_placesOf_2 : decode cX1_placesOf 2 = .ok (.iconst 0, 1) := by decide +kernel
theorem dX1_placesOf_3 : decode cX1_placesOf 3 = .ok (.istore_n 3, 1) := by decide +kernel
theorem dX1_placesOf_4 : decode cX1_placesOf 4 = .ok (.iload_n 3, 1) := by decide +kernel
theorem dX1_placesOf_5 : decode cX1_placesOf 5 = .ok (.aload_n 0, 1) := by decide +kernel
theorem dX1_placesOf_6 : decode cX1_placesOf 6 = .ok (.getfield 31, 3) := by decide +kernel
theorem dX1_placesOf_9 : decode cX1_placesOf 9 = .ok (.if_icmp .ge 29, 3) := by decide +kernel
theorem dX1_placesOf_12 : decode cX1_placesOf 12 = .ok (.iload_n 2, 1) := by decide +kernel
theorem dX1_placesOf_13 : decode cX1_placesOf 13 = .ok (.aload_n 0, 1) := by decide +kernel
theorem dX1_placesOf_14 : decode cX1_placesOf 14 = .ok (.getfield 9, 3) := by decide +kernel
theorem dX1_placesOf_17 : decode cX1_placesOf 17 = .ok (.iload_n 3, 1) := by decide +kernel
theorem dX1_placesOf_18 : decode cX1_placesOf 18 = .ok (.iaload, 1) := by decide +kernel
theorem dX1_placesOf_19 : decode cX1_placesOf 19 = .ok (.iload_n 1, 1) := by decide +kernel
theorem dX1_placesOf_20 : decode cX1_placesOf 20 = .ok (.if_icmp .ne 9, 3) := by decide +kernel
theorem dX1_placesOf_23 : decode cX1_placesOf 23 = .ok (.iconst 1, 1) := by decide +kernel
theorem dX1_placesOf_24 : decode cX1_placesOf 24 = .ok (.iload_n 3, 1) := by decide +kernel
theorem dX1_placesOf_25 : decode cX1_placesOf 25 = .ok (.ishl, 1) := by decide +kernel
theorem dX1_placesOf_26 : decode cX1_placesOf 26 = .ok (.goto 4, 3) := by decide +kernel
theorem dX1_placesOf_29 : decode cX1_placesOf 29 = .ok (.iconst 0, 1) := by decide +kernel
theorem dX1_placesOf_30 : decode cX1_placesOf 30 = .ok (.ior, 1) := by decide +kernel
theorem dX1_placesOf_31 : decode cX1_placesOf 31 = .ok (.istore_n 2, 1) := by decide +kernel
theorem dX1_placesOf_32 : decode cX1_placesOf 32 = .ok (.iinc 3 1, 3) := by decide +kernel
theorem dX1_placesOf_35 : decode cX1_placesOf 35 = .ok (.goto (-31), 3) := by decide +kernel
theorem dX1_placesOf_38 : decode cX1_placesOf 38 = .ok (.iload_n 2, 1) := by decide +kernel
theorem dX1_placesOf_39 : decode cX1_placesOf 39 = .ok (.ireturn, 1) := by decide +kernel
theorem dX1_leastOpen_0 : decode cX1_leastOpen 0 = .ok (.iconst 0, 1) := by decide +kernel
theorem dX1_leastOpen_1 : decode cX1_leastOpen 1 = .ok (.istore_n 3, 1) := by decide +kernel
theorem dX1_leastOpen_2 : decode cX1_leastOpen 2 = .ok (.iload_n 3, 1) := by decide +kernel
theorem dX1_leastOpen_3 : decode cX1_leastOpen 3 = .ok (.aload_n 0, 1) := by decide +kernel
theorem dX1_leastOpen_4 : decode cX1_leastOpen 4 = .ok (.getfield 34, 3) := by decide +kernel
theorem dX1_leastOpen_7 : decode cX1_leastOpen 7 = .ok (.if_icmp .ge 30, 3) := by decide +kernel
theorem dX1_leastOpen_10 : decode cX1_leastOpen 10 = .ok (.aload_n 0, 1) := by decide +kernel
theorem dX1_leastOpen_11 : decode cX1_leastOpen 11 = .ok (.getfield 21, 3) := by decide +kernel
theorem dX1_leastOpen_14 : decode cX1_leastOpen 14 = .ok (.iload_n 3, 1) := by decide +kernel
theorem dX1_leastOpen_15 : decode cX1_leastOpen 15 = .ok (.iaload, 1) := by decide +kernel
theorem dX1_leastOpen_16 : decode cX1_leastOpen 16 = .ok (.iload_n 1, 1) := by decide +kernel
theorem dX1_leastOpen_17 : decode cX1_leastOpen 17 = .ok (.if_icmp .ne 14, 3) := by decide +kernel
theorem dX1_leastOpen_20 : decode cX1_leastOpen 20 = .ok (.iload_n 2, 1) := by decide +kernel
theorem dX1_leastOpen_21 : decode cX1_leastOpen 21 = .ok (.iload_n 3, 1) := by decide +kernel
theorem dX1_leastOpen_22 : decode cX1_leastOpen 22 = .ok (.ishr, 1) := by decide +kernel
theorem dX1_leastOpen_23 : decode cX1_leastOpen 23 = .ok (.iconst 1, 1) := by decide +kernel
theorem dX1_leastOpen_24 : decode cX1_leastOpen 24 = .ok (.iand, 1) := by decide +kernel
theorem dX1_leastOpen_25 : decode cX1_leastOpen 25 = .ok (.iconst 1, 1) := by decide +kernel
theorem dX1_leastOpen_26 : decode cX1_leastOpen 26 = .ok (.if_icmp .ne 5, 3) := by decide +kernel
theorem dX1_leastOpen_29 : decode cX1_leastOpen 29 = .ok (.iload_n 3, 1) := by decide +kernel
theorem dX1_leastOpen_30 : decode cX1_leastOpen 30 = .ok (.ireturn, 1) := by decide +kernel
theorem dX1_leastOpen_31 : decode cX1_leastOpen 31 = .ok (.iinc 3 1, 3) := by decide +kernel
theorem dX1_leastOpen_34 : decode cX1_leastOpen 34 = .ok (.goto (-32), 3) := by decide +kernel
theorem dX1_leastOpen_37 : decode cX1_leastOpen 37 = .ok (.bipush (-9), 2) := by decide +kernel
theorem dX1_leastOpen_39 : decode cX1_leastOpen 39 = .ok (.ireturn, 1) := by decide +kernel
theorem dX1_addPlace_0 : decode cX1_addPlace 0 = .ok (.aload_n 0, 1) := by decide +kernel
theorem dX1_addPlace_1 : decode cX1_addPlace 1 = .ok (.getfield 31, 3) := by decide +kernel
theorem dX1_addPlace_4 : decode cX1_addPlace 4 = .ok (.bipush 6, 2) := by decide +kernel
theorem dX1_addPlace_6 : decode cX1_addPlace 6 = .ok (.if_icmp .ge 43, 3) := by decide +kernel
theorem dX1_addPlace_9 : decode cX1_addPlace 9 = .ok (.aload_n 0, 1) := by decide +kernel
theorem dX1_addPlace_10 : decode cX1_addPlace 10 = .ok (.getfield 9, 3) := by decide +kernel
theorem dX1_addPlace_13 : decode cX1_addPlace 13 = .ok (.aload_n 0, 1) := by decide +kernel
theorem dX1_addPlace_14 : decode cX1_addPlace 14 = .ok (.getfield 31, 3) := by decide +kernel
theorem dX1_addPlace_17 : decode cX1_addPlace 17 = .ok (.iload_n 1, 1) := by decide +kernel
theorem dX1_addPlace_18 : decode cX1_addPlace 18 = .ok (.iastore, 1) := by decide +kernel
theorem dX1_addPlace_19 : decode cX1_addPlace 19 = .ok (.aload_n 0, 1) := by decide +kernel
theorem dX1_addPlace_20 : decode cX1_addPlace 20 = .ok (.getfield 15, 3) := by decide +kernel
theorem dX1_addPlace_23 : decode cX1_addPlace 23 = .ok (.aload_n 0, 1) := by decide +kernel
theorem dX1_addPlace_24 : decode cX1_addPlace 24 = .ok (.getfield 31, 3) := by decide +kernel
theorem dX1_addPlace_27 : decode cX1_addPlace 27 = .ok (.iload_n 2, 1) := by decide +kernel
theorem dX1_addPlace_28 : decode cX1_addPlace 28 = .ok (.iastore, 1) := by decide +kernel
theorem dX1_addPlace_29 : decode cX1_addPlace 29 = .ok (.aload_n 0, 1) := by decide +kernel
theorem dX1_addPlace_30 : decode cX1_addPlace 30 = .ok (.getfield 18, 3) := by decide +kernel
theorem dX1_addPlace_33 : decode cX1_addPlace 33 = .ok (.aload_n 0, 1) := by decide +kernel
theorem dX1_addPlace_34 : decode cX1_addPlace 34 = .ok (.getfield 31, 3) := by decide +kernel
theorem dX1_addPlace_37 : decode cX1_addPlace 37 = .ok (.iload_n 3, 1) := by decide +kernel
theorem dX1_addPlace_38 : decode cX1_addPlace 38 = .ok (.iastore, 1) := by decide +kernel
theorem dX1_addPlace_39 : decode cX1_addPlace 39 = .ok (.aload_n 0, 1) := by decide +kernel
theorem dX1_addPlace_40 : decode cX1_addPlace 40 = .ok (.dup, 1) := by decide +kernel
theorem dX1_addPlace_41 : decode cX1_addPlace 41 = .ok (.getfield 31, 3) := by decide +kernel
theorem dX1_addPlace_44 : decode cX1_addPlace 44 = .ok (.iconst 1, 1) := by decide +kernel
theorem dX1_addPlace_45 : decode cX1_addPlace 45 = .ok (.iadd, 1) := by decide +kernel
theorem dX1_addPlace_46 : decode cX1_addPlace 46 = .ok (.putfield 31, 3) := by decide +kernel
theorem dX1_addPlace_49 : decode cX1_addPlace 49 = .ok (.return_, 1) := by decide +kernel
theorem dX1_addDitch_0 : decode cX1_addDitch 0 = .ok (.aload_n 0, 1) := by decide +kernel
theorem dX1_addDitch_1 : decode cX1_addDitch 1 = .ok (.getfield 34, 3) := by decide +kernel
theorem dX1_addDitch_4 : decode cX1_addDitch 4 = .ok (.bipush 6, 2) := by decide +kernel
theorem dX1_addDitch_6 : decode cX1_addDitch 6 = .ok (.if_icmp .ge 57, 3) := by decide +kernel
theorem dX1_addDitch_9 : decode cX1_addDitch 9 = .ok (.aload_n 0, 1) := by decide +kernel
theorem dX1_addDitch_10 : decode cX1_addDitch 10 = .ok (.iload_n 1, 1) := by decide +kernel
theorem dX1_addDitch_11 : decode cX1_addDitch 11 = .ok (.iload_n 2, 1) := by decide +kernel
theorem dX1_addDitch_12 : decode cX1_addDitch 12 = .ok (.invokevirtual 37, 3) := by decide +kernel
theorem dX1_addDitch_15 : decode cX1_addDitch 15 = .ok (.ifCond .eq 48, 3) := by decide +kernel
theorem dX1_addDitch_18 : decode cX1_addDitch 18 = .ok (.aload_n 0, 1) := by decide +kernel
theorem dX1_addDitch_19 : decode cX1_addDitch 19 = .ok (.getfield 21, 3) := by decide +kernel
theorem dX1_addDitch_22 : decode cX1_addDitch 22 = .ok (.aload_n 0, 1) := by decide +kernel
theorem dX1_addDitch_23 : decode cX1_addDitch 23 = .ok (.getfield 34, 3) := by decide +kernel
theorem dX1_addDitch_26 : decode cX1_addDitch 26 = .ok (.iload_n 1, 1) := by decide +kernel
theorem dX1_addDitch_27 : decode cX1_addDitch 27 = .ok (.iastore, 1) := by decide +kernel
theorem dX1_addDitch_28 : decode cX1_addDitch 28 = .ok (.aload_n 0, 1) := by decide +kernel
theorem dX1_addDitch_29 : decode cX1_addDitch 29 = .ok (.getfield 24, 3) := by decide +kernel
theorem dX1_addDitch_32 : decode cX1_addDitch 32 = .ok (.aload_n 0, 1) := by decide +kernel
theorem dX1_addDitch_33 : decode cX1_addDitch 33 = .ok (.getfield 34, 3) := by decide +kernel
theorem dX1_addDitch_36 : decode cX1_addDitch 36 = .ok (.iload_n 2, 1) := by decide +kernel
theorem dX1_addDitch_37 : decode cX1_addDitch 37 = .ok (.iastore, 1) := by decide +kernel
theorem dX1_addDitch_38 : decode cX1_addDitch 38 = .ok (.aload_n 0, 1) := by decide +kernel
theorem dX1_addDitch_39 : decode cX1_addDitch 39 = .ok (.dup, 1) := by decide +kernel
theorem dX1_addDitch_40 : decode cX1_addDitch 40 = .ok (.getfield 27, 3) := by decide +kernel
theorem dX1_addDitch_43 : decode cX1_addDitch 43 = .ok (.iload_n 3, 1) := by decide +kernel
theorem dX1_addDitch_44 : decode cX1_addDitch 44 = .ok (.aload_n 0, 1) := by decide +kernel
theorem dX1_addDitch_45 : decode cX1_addDitch 45 = .ok (.getfield 34, 3) := by decide +kernel
theorem dX1_addDitch_48 : decode cX1_addDitch 48 = .ok (.ishl, 1) := by decide +kernel
theorem dX1_addDitch_49 : decode cX1_addDitch 49 = .ok (.ior, 1) := by decide +kernel
theorem dX1_addDitch_50 : decode cX1_addDitch 50 = .ok (.putfield 27, 3) := by decide +kernel
theorem dX1_addDitch_53 : decode cX1_addDitch 53 = .ok (.aload_n 0, 1) := by decide +kernel
theorem dX1_addDitch_54 : decode cX1_addDitch 54 = .ok (.dup, 1) := by decide +kernel
theorem dX1_addDitch_55 : decode cX1_addDitch 55 = .ok (.getfield 34, 3) := by decide +kernel
theorem dX1_addDitch_58 : decode cX1_addDitch 58 = .ok (.iconst 1, 1) := by decide +kernel
theorem dX1_addDitch_59 : decode cX1_addDitch 59 = .ok (.iadd, 1) := by decide +kernel
theorem dX1_addDitch_60 : decode cX1_addDitch 60 = .ok (.putfield 34, 3) := by decide +kernel
theorem dX1_addDitch_63 : decode cX1_addDitch 63 = .ok (.return_, 1) := by decide +kernel
theorem dX1_canDig_0 : decode cX1_canDig 0 = .ok (.aload_n 0, 1) := by decide +kernel
theorem dX1_canDig_1 : decode cX1_canDig 1 = .ok (.getfield 34, 3) := by decide +kernel
theorem dX1_canDig_4 : decode cX1_canDig 4 = .ok (.bipush 6, 2) := by decide +kernel
theorem dX1_canDig_6 : decode cX1_canDig 6 = .ok (.if_icmp .lt 5, 3) := by decide +kernel
theorem dX1_canDig_9 : decode cX1_canDig 9 = .ok (.iconst 0, 1) := by decide +kernel
theorem dX1_canDig_10 : decode cX1_canDig 10 = .ok (.ireturn, 1) := by decide +kernel
theorem dX1_canDig_11 : decode cX1_canDig 11 = .ok (.iconst 0, 1) := by decide +kernel
theorem dX1_canDig_12 : decode cX1_canDig 12 = .ok (.istore_n 1, 1) := by decide +kernel
theorem dX1_canDig_13 : decode cX1_canDig 13 = .ok (.iload_n 1, 1) := by decide +kernel
theorem dX1_canDig_14 : decode cX1_canDig 14 = .ok (.aload_n 0, 1) := by decide +kernel
theorem dX1_canDig_15 : decode cX1_canDig 15 = .ok (.getfield 31, 3) := by decide +kernel
theorem dX1_canDig_18 : decode cX1_canDig 18 = .ok (.if_icmp .ge 36, 3) := by decide +kernel
theorem dX1_canDig_21 : decode cX1_canDig 21 = .ok (.iconst 0, 1) := by decide +kernel
theorem dX1_canDig_22 : decode cX1_canDig 22 = .ok (.istore_n 2, 1) := by decide +kernel
theorem dX1_canDig_23 : decode cX1_canDig 23 = .ok (.iload_n 2, 1) := by decide +kernel
theorem dX1_canDig_24 : decode cX1_canDig 24 = .ok (.aload_n 0, 1) := by decide +kernel
theorem dX1_canDig_25 : decode cX1_canDig 25 = .ok (.getfield 31, 3) := by decide +kernel
theorem dX1_canDig_28 : decode cX1_canDig 28 = .ok (.if_icmp .ge 20, 3) := by decide +kernel
theorem dX1_canDig_31 : decode cX1_canDig 31 = .ok (.aload_n 0, 1) := by decide +kernel
theorem dX1_canDig_32 : decode cX1_canDig 32 = .ok (.iload_n 1, 1) := by decide +kernel
theorem dX1_canDig_33 : decode cX1_canDig 33 = .ok (.iload_n 2, 1) := by decide +kernel
theorem dX1_canDig_34 : decode cX1_canDig 34 = .ok (.invokevirtual 37, 3) := by decide +kernel
theorem dX1_canDig_37 : decode cX1_canDig 37 = .ok (.ifCond .eq 5, 3) := by decide +kernel
theorem dX1_canDig_40 : decode cX1_canDig 40 = .ok (.iconst 1, 1) := by decide +kernel
theorem dX1_canDig_41 : decode cX1_canDig 41 = .ok (.ireturn, 1) := by decide +kernel
theorem dX1_canDig_42 : decode cX1_canDig 42 = .ok (.iinc 2 1, 3) := by decide +kernel
theorem dX1_canDig_45 : decode cX1_canDig 45 = .ok (.goto (-22), 3) := by decide +kernel
theorem dX1_canDig_48 : decode cX1_canDig 48 = .ok (.iinc 1 1, 3) := by decide +kernel
theorem dX1_canDig_51 : decode cX1_canDig 51 = .ok (.goto (-38), 3) := by decide +kernel
theorem dX1_canDig_54 : decode cX1_canDig 54 = .ok (.iconst 0, 1) := by decide +kernel
theorem dX1_canDig_55 : decode cX1_canDig 55 = .ok (.ireturn, 1) := by decide +kernel
theorem dX1_canDigFrom_0 : decode cX1_canDigFrom 0 = .ok (.iconst 0, 1) := by decide +kernel
theorem dX1_canDigFrom_1 : decode cX1_canDigFrom 1 = .ok (.istore_n 2, 1) := by decide +kernel
theorem dX1_canDigFrom_2 : decode cX1_canDigFrom 2 = .ok (.iload_n 2, 1) := by decide +kernel
theorem dX1_canDigFrom_3 : decode cX1_canDigFrom 3 = .ok (.aload_n 0, 1) := by decide +kernel
theorem dX1_canDigFrom_4 : decode cX1_canDigFrom 4 = .ok (.getfield 31, 3) := by decide +kernel
theorem dX1_canDigFrom_7 : decode cX1_canDigFrom 7 = .ok (.if_icmp .ge 20, 3) := by decide +kernel
theorem dX1_canDigFrom_10 : decode cX1_canDigFrom 10 = .ok (.aload_n 0, 1) := by decide +kernel
theorem dX1_canDigFrom_11 : decode cX1_canDigFrom 11 = .ok (.iload_n 1, 1) := by decide +kernel
theorem dX1_canDigFrom_12 : decode cX1_canDigFrom 12 = .ok (.iload_n 2, 1) := by decide +kernel
theorem dX1_canDigFrom_13 : decode cX1_canDigFrom 13 = .ok (.invokevirtual 37, 3) := by decide +kernel
theorem dX1_canDigFrom_16 : decode cX1_canDigFrom 16 = .ok (.ifCond .eq 5, 3) := by decide +kernel
theorem dX1_canDigFrom_19 : decode cX1_canDigFrom 19 = .ok (.iconst 1, 1) := by decide +kernel
theorem dX1_canDigFrom_20 : decode cX1_canDigFrom 20 = .ok (.ireturn, 1) := by decide +kernel
theorem dX1_canDigFrom_21 : decode cX1_canDigFrom 21 = .ok (.iinc 2 1, 3) := by decide +kernel
theorem dX1_canDigFrom_24 : decode cX1_canDigFrom 24 = .ok (.goto (-22), 3) := by decide +kernel
theorem dX1_canDigFrom_27 : decode cX1_canDigFrom 27 = .ok (.iconst 0, 1) := by decide +kernel
theorem dX1_canDigFrom_28 : decode cX1_canDigFrom 28 = .ok (.ireturn, 1) := by decide +kernel
theorem dX1_canDigTo_0 : decode cX1_canDigTo 0 = .ok (.aload_n 0, 1) := by decide +kernel
theorem dX1_canDigTo_1 : decode cX1_canDigTo 1 = .ok (.iload_n 1, 1) := by decide +kernel
theorem dX1_canDigTo_2 : decode cX1_canDigTo 2 = .ok (.invokevirtual 41, 3) := by decide +kernel
theorem dX1_canDigTo_5 : decode cX1_canDigTo 5 = .ok (.ifCond .eq 16, 3) := by decide +kernel
theorem dX1_canDigTo_8 : decode cX1_canDigTo 8 = .ok (.aload_n 0, 1) := by decide +kernel
theorem dX1_canDigTo_9 : decode cX1_canDigTo 9 = .ok (.iload_n 2, 1) := by decide +kernel
theorem dX1_canDigTo_10 : decode cX1_canDigTo 10 = .ok (.invokevirtual 41, 3) := by decide +kernel
theorem dX1_canDigTo_13 : decode cX1_canDigTo 13 = .ok (.ifCond .eq 8, 3) := by decide +kernel
theorem dX1_canDigTo_16 : decode cX1_canDigTo 16 = .ok (.iload_n 1, 1) := by decide +kernel
theorem dX1_canDigTo_17 : decode cX1_canDigTo 17 = .ok (.iload_n 2, 1) := by decide +kernel
theorem dX1_canDigTo_18 : decode cX1_canDigTo 18 = .ok (.if_icmp .ne 5, 3) := by decide +kernel
theorem dX1_canDigTo_21 : decode cX1_canDigTo 21 = .ok (.iconst 0, 1) := by decide +kernel
theorem dX1_canDigTo_22 : decode cX1_canDigTo 22 = .ok (.ireturn, 1) := by decide +kernel
theorem dX1_canDigTo_23 : decode cX1_canDigTo 23 = .ok (.aload_n 0, 1) := by decide +kernel
theorem dX1_canDigTo_24 : decode cX1_canDigTo 24 = .ok (.getfield 9, 3) := by decide +kernel
theorem dX1_canDigTo_27 : decode cX1_canDigTo 27 = .ok (.iload_n 1, 1) := by decide +kernel
theorem dX1_canDigTo_28 : decode cX1_canDigTo 28 = .ok (.iaload, 1) := by decide +kernel
theorem dX1_canDigTo_29 : decode cX1_canDigTo 29 = .ok (.ifCond .eq 13, 3) := by decide +kernel
theorem dX1_canDigTo_32 : decode cX1_canDigTo 32 = .ok (.aload_n 0, 1) := by decide +kernel
theorem dX1_canDigTo_33 : decode cX1_canDigTo 33 = .ok (.getfield 9, 3) := by decide +kernel
theorem dX1_canDigTo_36 : decode cX1_canDigTo 36 = .ok (.iload_n 1, 1) := by decide +kernel
theorem dX1_canDigTo_37 : decode cX1_canDigTo 37 = .ok (.iaload, 1) := by decide +kernel
theorem dX1_canDigTo_38 : decode cX1_canDigTo 38 = .ok (.iconst 1, 1) := by decide +kernel
theorem dX1_canDigTo_39 : decode cX1_canDigTo 39 = .ok (.if_icmp .ne 16, 3) := by decide +kernel
theorem dX1_canDigTo_42 : decode cX1_canDigTo 42 = .ok (.aload_n 0, 1) := by decide +kernel
theorem dX1_canDigTo_43 : decode cX1_canDigTo 43 = .ok (.iload_n 1, 1) := by decide +kernel
theorem dX1_canDigTo_44 : decode cX1_canDigTo 44 = .ok (.iload_n 2, 1) := by decide +kernel
theorem dX1_canDigTo_45 : decode cX1_canDigTo 45 = .ok (.invokevirtual 45, 3) := by decide +kernel
theorem dX1_canDigTo_48 : decode cX1_canDigTo 48 = .ok (.ifCond .ne 7, 3) := by decide +kernel
theorem dX1_canDigTo_51 : decode cX1_canDigTo 51 = .ok (.iconst 1, 1) := by decide +kernel
theorem dX1_canDigTo_52 : decode cX1_canDigTo 52 = .ok (.goto 4, 3) := by decide +kernel
theorem dX1_canDigTo_55 : decode cX1_canDigTo 55 = .ok (.iconst 0, 1) := by decide +kernel
theorem dX1_canDigTo_56 : decode cX1_canDigTo 56 = .ok (.ireturn, 1) := by decide +kernel
theorem dX1_isJoined_0 : decode cX1_isJoined 0 = .ok (.iconst 0, 1) := by decide +kernel
theorem dX1_isJoined_1 : decode cX1_isJoined 1 = .ok (.istore_n 3, 1) := by decide +kernel
theorem dX1_isJoined_2 : decode cX1_isJoined 2 = .ok (.iload_n 3, 1) := by decide +kernel
theorem dX1_isJoined_3 : decode cX1_isJoined 3 = .ok (.aload_n 0, 1) := by decide +kernel
theorem dX1_isJoined_4 : decode cX1_isJoined 4 = .ok (.getfield 34, 3) := by decide +kernel
theorem dX1_isJoined_7 : decode cX1_isJoined 7 = .ok (.if_icmp .ge 31, 3) := by decide +kernel
theorem dX1_isJoined_10 : decode cX1_isJoined 10 = .ok (.aload_n 0, 1) := by decide +kernel
theorem dX1_isJoined_11 : decode cX1_isJoined 11 = .ok (.getfield 21, 3) := by decide +kernel
theorem dX1_isJoined_14 : decode cX1_isJoined 14 = .ok (.iload_n 3, 1) := by decide +kernel
theorem dX1_isJoined_15 : decode cX1_isJoined 15 = .ok (.iaload, 1) := by decide +kernel
theorem dX1_isJoined_16 : decode cX1_isJoined 16 = .ok (.iload_n 1, 1) := by decide +kernel
theorem dX1_isJoined_17 : decode cX1_isJoined 17 = .ok (.if_icmp .ne 15, 3) := by decide +kernel
theorem dX1_isJoined_20 : decode cX1_isJoined 20 = .ok (.aload_n 0, 1) := by decide +kernel
theorem dX1_isJoined_21 : decode cX1_isJoined 21 = .ok (.getfield 24, 3) := by decide +kernel
theorem dX1_isJoined_24 : decode cX1_isJoined 24 = .ok (.iload_n 3, 1) := by decide +kernel
theorem dX1_isJoined_25 : decode cX1_isJoined 25 = .ok (.iaload, 1) := by decide +kernel
theorem dX1_isJoined_26 : decode cX1_isJoined 26 = .ok (.iload_n 2, 1) := by decide +kernel
theorem dX1_isJoined_27 : decode cX1_isJoined 27 = .ok (.if_icmp .ne 5, 3) := by decide +kernel
theorem dX1_isJoined_30 : decode cX1_isJoined 30 = .ok (.iconst 1, 1) := by decide +kernel
theorem dX1_isJoined_31 : decode cX1_isJoined 31 = .ok (.ireturn, 1) := by decide +kernel
theorem dX1_isJoined_32 : decode cX1_isJoined 32 = .ok (.iinc 3 1, 3) := by decide +kernel
theorem dX1_isJoined_35 : decode cX1_isJoined 35 = .ok (.goto (-33), 3) := by decide +kernel
theorem dX1_isJoined_38 : decode cX1_isJoined 38 = .ok (.iconst 0, 1) := by decide +kernel
theorem dX1_isJoined_39 : decode cX1_isJoined 39 = .ok (.ireturn, 1) := by decide +kernel
theorem dX2_init_0 : decode cX2_init 0 = .ok (.aload_n 0, 1) := by decide +kernel
theorem dX2_init_1 : decode cX2_init 1 = .ok (.invokespecial 3, 3) := by decide +kernel
theorem dX2_init_4 : decode cX2_init 4 = .ok (.return_, 1) := by decide +kernel
theorem dX2_read_0 : decode cX2_read 0 = .ok (.aload_n 1, 1) := by decide +kernel
theorem dX2_read_1 : decode cX2_read 1 = .ok (.invokevirtual 9, 3) := by decide +kernel
theorem dX2_read_4 : decode cX2_read 4 = .ok (.aload_n 0, 1) := by decide +kernel
theorem dX2_read_5 : decode cX2_read 5 = .ok (.iconst 0, 1) := by decide +kernel
theorem dX2_read_6 : decode cX2_read 6 = .ok (.putfield 16, 3) := by decide +kernel
theorem dX2_read_9 : decode cX2_read 9 = .ok (.iconst 0, 1) := by decide +kernel
theorem dX2_read_10 : decode cX2_read 10 = .ok (.istore 4, 2) := by decide +kernel
theorem dX2_read_12 : decode cX2_read 12 = .ok (.iload 4, 2) := by decide +kernel
theorem dX2_read_14 : decode cX2_read 14 = .ok (.iload_n 3, 1) := by decide +kernel
theorem dX2_read_15 : decode cX2_read 15 = .ok (.if_icmp .ge 40, 3) := by decide +kernel
theorem dX2_read_18 : decode cX2_read 18 = .ok (.iload 4, 2) := by decide +kernel
theorem dX2_read_20 : decode cX2_read 20 = .ok (.aload_n 2, 1) := by decide +kernel
theorem dX2_read_21 : decode cX2_read 21 = .ok (.arraylength, 1) := by decide +kernel
theorem dX2_read_22 : decode cX2_read 22 = .ok (.if_icmp .ge 33, 3) := by decide +kernel
theorem dX2_read_25 : decode cX2_read 25 = .ok (.aload_n 0, 1) := by decide +kernel
theorem dX2_read_26 : decode cX2_read 26 = .ok (.aload_n 1, 1) := by decide +kernel
theorem dX2_read_27 : decode cX2_read 27 = .ok (.aload_n 2, 1) := by decide +kernel
theorem dX2_read_28 : decode cX2_read 28 = .ok (.iload 4, 2) := by decide +kernel
theorem dX2_read_30 : decode cX2_read 30 = .ok (.iaload, 1) := by decide +kernel
theorem dX2_read_31 : decode cX2_read 31 = .ok (.invokevirtual 20, 3) := by decide +kernel
theorem dX2_read_34 : decode cX2_read 34 = .ok (.ifCond .ne 6, 3) := by decide +kernel
theorem dX2_read_37 : decode cX2_read 37 = .ok (.iload 4, 2) := by decide +kernel
theorem dX2_read_39 : decode cX2_read 39 = .ok (.ireturn, 1) := by decide +kernel
theorem dX2_read_40 : decode cX2_read 40 = .ok (.aload_n 0, 1) := by decide +kernel
theorem dX2_read_41 : decode cX2_read 41 = .ok (.aload_n 1, 1) := by decide +kernel
theorem dX2_read_42 : decode cX2_read 42 = .ok (.aload_n 2, 1) := by decide +kernel
theorem dX2_read_43 : decode cX2_read 43 = .ok (.iload 4, 2) := by decide +kernel
theorem dX2_read_45 : decode cX2_read 45 = .ok (.iaload, 1) := by decide +kernel
theorem dX2_read_46 : decode cX2_read 46 = .ok (.invokevirtual 24, 3) := by decide +kernel
theorem dX2_read_49 : decode cX2_read 49 = .ok (.iinc 4 1, 3) := by decide +kernel
theorem dX2_read_52 : decode cX2_read 52 = .ok (.goto (-40), 3) := by decide +kernel
theorem dX2_read_55 : decode cX2_read 55 = .ok (.aload_n 0, 1) := by decide +kernel
theorem dX2_read_56 : decode cX2_read 56 = .ok (.getfield 16, 3) := by decide +kernel
theorem dX2_read_59 : decode cX2_read 59 = .ok (.iconst 1, 1) := by decide +kernel
theorem dX2_read_60 : decode cX2_read 60 = .ok (.if_icmp .ne 8, 3) := by decide +kernel
theorem dX2_read_63 : decode cX2_read 63 = .ok (.bipush (-9), 2) := by decide +kernel
theorem dX2_read_65 : decode cX2_read 65 = .ok (.goto 4, 3) := by decide +kernel
theorem dX2_read_68 : decode cX2_read 68 = .ok (.iload_n 3, 1) := by decide +kernel
theorem dX2_read_69 : decode cX2_read 69 = .ok (.ireturn, 1) := by decide +kernel
theorem dX2_fits_0 : decode cX2_fits 0 = .ok (.iload_n 2, 1) := by decide +kernel
theorem dX2_fits_1 : decode cX2_fits 1 = .ok (.bipush 48, 2) := by decide +kernel
theorem dX2_fits_3 : decode cX2_fits 3 = .ok (.isub, 1) := by decide +kernel
theorem dX2_fits_4 : decode cX2_fits 4 = .ok (.istore_n 3, 1) := by decide +kernel
theorem dX2_fits_5 : decode cX2_fits 5 = .ok (.aload_n 0, 1) := by decide +kernel
theorem dX2_fits_6 : decode cX2_fits 6 = .ok (.getfield 16, 3) := by decide +kernel
theorem dX2_fits_9 : decode cX2_fits 9 = .ok (.tableswitch 115 0 7 #[47, 59, 66, 82, 66, 82, 99, 105], 47) := by decide +kernel
theorem dX2_fits_56 : decode cX2_fits 56 = .ok (.iload_n 2, 1) := by decide +kernel
theorem dX2_fits_57 : decode cX2_fits 57 = .ok (.bipush 82, 2) := by decide +kernel
theorem dX2_fits_59 : decode cX2_fits 59 = .ok (.if_icmp .ne 7, 3) := by decide +kernel
theorem dX2_fits_62 : decode cX2_fits 62 = .ok (.iconst 1, 1) := by decide +kernel
theorem dX2_fits_63 : decode cX2_fits 63 = .ok (.goto 4, 3) := by decide +kernel
theorem dX2_fits_66 : decode cX2_fits 66 = .ok (.iconst 0, 1) := by decide +kernel
theorem dX2_fits_67 : decode cX2_fits 67 = .ok (.ireturn, 1) := by decide +kernel
theorem dX2_fits_68 : decode cX2_fits 68 = .ok (.aload_n 0, 1) := by decide +kernel
theorem dX2_fits_69 : decode cX2_fits 69 = .ok (.aload_n 1, 1) := by decide +kernel
theorem dX2_fits_70 : decode cX2_fits 70 = .ok (.iload_n 2, 1) := by decide +kernel
theorem dX2_fits_71 : decode cX2_fits 71 = .ok (.invokevirtual 28, 3) := by decide +kernel
theorem dX2_fits_74 : decode cX2_fits 74 = .ok (.ireturn, 1) := by decide +kernel
theorem dX2_fits_75 : decode cX2_fits 75 = .ok (.iload_n 3, 1) := by decide +kernel
theorem dX2_fits_76 : decode cX2_fits 76 = .ok (.ifCond .lt 13, 3) := by decide +kernel
theorem dX2_fits_79 : decode cX2_fits 79 = .ok (.iload_n 3, 1) := by decide +kernel
theorem dX2_fits_80 : decode cX2_fits 80 = .ok (.bipush 9, 2) := by decide +kernel
theorem dX2_fits_82 : decode cX2_fits 82 = .ok (.if_icmp .gt 7, 3) := by decide +kernel
theorem dX2_fits_85 : decode cX2_fits 85 = .ok (.iconst 1, 1) := by decide +kernel
theorem dX2_fits_86 : decode cX2_fits 86 = .ok (.goto 4, 3) := by decide +kernel
theorem dX2_fits_89 : decode cX2_fits 89 = .ok (.iconst 0, 1) := by decide +kernel
theorem dX2_fits_90 : decode cX2_fits 90 = .ok (.ireturn, 1) := by decide +kernel
theorem dX2_fits_91 : decode cX2_fits 91 = .ok (.iload_n 3, 1) := by decide +kernel
theorem dX2_fits_92 : decode cX2_fits 92 = .ok (.iconst 1, 1) := by decide +kernel
theorem dX2_fits_93 : decode cX2_fits 93 = .ok (.if_icmp .lt 13, 3) := by decide +kernel
theorem dX2_fits_96 : decode cX2_fits 96 = .ok (.iload_n 3, 1) := by decide +kernel
theorem dX2_fits_97 : decode cX2_fits 97 = .ok (.bipush 9, 2) := by decide +kernel
theorem dX2_fits_99 : decode cX2_fits 99 = .ok (.if_icmp .gt 7, 3) := by decide +kernel
theorem dX2_fits_102 : decode cX2_fits 102 = .ok (.iconst 1, 1) := by decide +kernel
theorem dX2_fits_103 : decode cX2_fits 103 = .ok (.goto 4, 3) := by decide +kernel
theorem dX2_fits_106 : decode cX2_fits 106 = .ok (.iconst 0, 1) := by decide +kernel
theorem dX2_fits_107 : decode cX2_fits 107 = .ok (.ireturn, 1) := by decide +kernel
theorem dX2_fits_108 : decode cX2_fits 108 = .ok (.aload_n 1, 1) := by decide +kernel
theorem dX2_fits_109 : decode cX2_fits 109 = .ok (.iload_n 3, 1) := by decide +kernel
theorem dX2_fits_110 : decode cX2_fits 110 = .ok (.invokevirtual 31, 3) := by decide +kernel
theorem dX2_fits_113 : decode cX2_fits 113 = .ok (.ireturn, 1) := by decide +kernel
theorem dX2_fits_114 : decode cX2_fits 114 = .ok (.aload_n 1, 1) := by decide +kernel
theorem dX2_fits_115 : decode cX2_fits 115 = .ok (.aload_n 0, 1) := by decide +kernel
theorem dX2_fits_116 : decode cX2_fits 116 = .ok (.getfield 35, 3) := by decide +kernel
theorem dX2_fits_119 : decode cX2_fits 119 = .ok (.iload_n 3, 1) := by decide +kernel
theorem dX2_fits_120 : decode cX2_fits 120 = .ok (.invokevirtual 38, 3) := by decide +kernel
theorem dX2_fits_123 : decode cX2_fits 123 = .ok (.ireturn, 1) := by decide +kernel
theorem dX2_fits_124 : decode cX2_fits 124 = .ok (.iload_n 3, 1) := by decide +kernel
theorem dX2_fits_125 : decode cX2_fits 125 = .ok (.ifCond .eq 8, 3) := by decide +kernel
theorem dX2_fits_128 : decode cX2_fits 128 = .ok (.iload_n 3, 1) := by decide +kernel
theorem dX2_fits_129 : decode cX2_fits 129 = .ok (.iconst 1, 1) := by decide +kernel
theorem dX2_fits_130 : decode cX2_fits 130 = .ok (.if_icmp .ne 7, 3) := by decide +kernel
theorem dX2_fits_133 : decode cX2_fits 133 = .ok (.iconst 1, 1) := by decide +kernel
theorem dX2_fits_134 : decode cX2_fits 134 = .ok (.goto 4, 3) := by decide +kernel
theorem dX2_fits_137 : decode cX2_fits 137 = .ok (.iconst 0, 1) := by decide +kernel
theorem dX2_fits_138 : decode cX2_fits 138 = .ok (.ireturn, 1) := by decide +kernel
theorem dX2_fitsPart_0 : decode cX2_fitsPart 0 = .ok (.iload_n 2, 1) := by decide +kernel
theorem dX2_fitsPart_1 : decode cX2_fitsPart 1 = .ok (.lookupswitch 71 #[(67, 66), (68, 51), (77, 51), (83, 51), (84, 51)], 51) := by decide +kernel
theorem dX2_fitsPart_52 : decode cX2_fitsPart 52 = .ok (.aload_n 1, 1) := by decide +kernel
theorem dX2_fitsPart_53 : decode cX2_fitsPart 53 = .ok (.getfield 42, 3) := by decide +kernel
theorem dX2_fitsPart_56 : decode cX2_fitsPart 56 = .ok (.bipush 6, 2) := by decide +kernel
theorem dX2_fitsPart_58 : decode cX2_fitsPart 58 = .ok (.if_icmp .ge 7, 3) := by decide +kernel
theorem dX2_fitsPart_61 : decode cX2_fitsPart 61 = .ok (.iconst 1, 1) := by decide +kernel
theorem dX2_fitsPart_62 : decode cX2_fitsPart 62 = .ok (.goto 4, 3) := by decide +kernel
theorem dX2_fitsPart_65 : decode cX2_fitsPart 65 = .ok (.iconst 0, 1) := by decide +kernel
theorem dX2_fitsPart_66 : decode cX2_fitsPart 66 = .ok (.ireturn, 1) := by decide +kernel
theorem dX2_fitsPart_67 : decode cX2_fitsPart 67 = .ok (.aload_n 1, 1) := by decide +kernel
theorem dX2_fitsPart_68 : decode cX2_fitsPart 68 = .ok (.invokevirtual 45, 3) := by decide +kernel
theorem dX2_fitsPart_71 : decode cX2_fitsPart 71 = .ok (.ireturn, 1) := by decide +kernel
theorem dX2_fitsPart_72 : decode cX2_fitsPart 72 = .ok (.iconst 0, 1) := by decide +kernel
theorem dX2_fitsPart_73 : decode cX2_fitsPart 73 = .ok (.ireturn, 1) := by decide +kernel
theorem dX2_take_0 : decode cX2_take 0 = .ok (.iload_n 2, 1) := by decide +kernel
theorem dX2_take_1 : decode cX2_take 1 = .ok (.bipush 48, 2) := by decide +kernel
theorem dX2_take_3 : decode cX2_take 3 = .ok (.isub, 1) := by decide +kernel
theorem dX2_take_4 : decode cX2_take 4 = .ok (.istore_n 3, 1) := by decide +kernel
theorem dX2_take_5 : decode cX2_take 5 = .ok (.aload_n 0, 1) := by decide +kernel
theorem dX2_take_6 : decode cX2_take 6 = .ok (.getfield 16, 3) := by decide +kernel
theorem dX2_take_9 : decode cX2_take 9 = .ok (.tableswitch 153 0 7 #[47, 55, 64, 77, 95, 110, 125, 139], 47) := by decide +kernel
theorem dX2_take_56 : decode cX2_take 56 = .ok (.aload_n 0, 1) := by decide +kernel
theorem dX2_take_57 : decode cX2_take 57 = .ok (.iconst 1, 1) := by decide +kernel
theorem dX2_take_58 : decode cX2_take 58 = .ok (.putfield 16, 3) := by decide +kernel
theorem dX2_take_61 : decode cX2_take 61 = .ok (.goto 119, 3) := by decide +kernel
theorem dX2_take_64 : decode cX2_take 64 = .ok (.aload_n 0, 1) := by decide +kernel
theorem dX2_take_65 : decode cX2_take 65 = .ok (.aload_n 1, 1) := by decide +kernel
theorem dX2_take_66 : decode cX2_take 66 = .ok (.iload_n 2, 1) := by decide +kernel
theorem dX2_take_67 : decode cX2_take 67 = .ok (.invokevirtual 49, 3) := by decide +kernel
theorem dX2_take_70 : decode cX2_take 70 = .ok (.goto 110, 3) := by decide +kernel
theorem dX2_take_73 : decode cX2_take 73 = .ok (.aload_n 0, 1) := by decide +kernel
theorem dX2_take_74 : decode cX2_take 74 = .ok (.iload_n 3, 1) := by decide +kernel
theorem dX2_take_75 : decode cX2_take 75 = .ok (.putfield 35, 3) := by decide +kernel
theorem dX2_take_78 : decode cX2_take 78 = .ok (.aload_n 0, 1) := by decide +kernel
theorem dX2_take_79 : decode cX2_take 79 = .ok (.iconst 3, 1) := by decide +kernel
theorem dX2_take_80 : decode cX2_take 80 = .ok (.putfield 16, 3) := by decide +kernel
theorem dX2_take_83 : decode cX2_take 83 = .ok (.goto 97, 3) := by decide +kernel
theorem dX2_take_86 : decode cX2_take 86 = .ok (.aload_n 1, 1) := by decide +kernel
theorem dX2_take_87 : decode cX2_take 87 = .ok (.iconst 0, 1) := by decide +kernel
theorem dX2_take_88 : decode cX2_take 88 = .ok (.aload_n 0, 1) := by decide +kernel
theorem dX2_take_89 : decode cX2_take 89 = .ok (.getfield 35, 3) := by decide +kernel
theorem dX2_take_92 : decode cX2_take 92 = .ok (.iload_n 3, 1) := by decide +kernel
theorem dX2_take_93 : decode cX2_take 93 = .ok (.invokevirtual 52, 3) := by decide +kernel
theorem dX2_take_96 : decode cX2_take 96 = .ok (.aload_n 0, 1) := by decide +kernel
theorem dX2_take_97 : decode cX2_take 97 = .ok (.iconst 1, 1) := by decide +kernel
theorem dX2_take_98 : decode cX2_take 98 = .ok (.putfield 16, 3) := by decide +kernel
theorem dX2_take_101 : decode cX2_take 101 = .ok (.goto 79, 3) := by decide +kernel
theorem dX2_take_104 : decode cX2_take 104 = .ok (.aload_n 1, 1) := by decide +kernel
theorem dX2_take_105 : decode cX2_take 105 = .ok (.iconst 1, 1) := by decide +kernel
theorem dX2_take_106 : decode cX2_take 106 = .ok (.iload_n 3, 1) := by decide +kernel
theorem dX2_take_107 : decode cX2_take 107 = .ok (.iconst 0, 1) := by decide +kernel
theorem dX2_take_108 : decode cX2_take 108 = .ok (.invokevirtual 52, 3) := by decide +kernel
theorem dX2_take_111 : decode cX2_take 111 = .ok (.aload_n 0, 1) := by decide +kernel
theorem dX2_take_112 : decode cX2_take 112 = .ok (.iconst 1, 1) := by decide +kernel
theorem dX2_take_113 : decode cX2_take 113 = .ok (.putfield 16, 3) := by decide +kernel
theorem dX2_take_116 : decode cX2_take 116 = .ok (.goto 64, 3) := by decide +kernel
theorem dX2_take_119 : decode cX2_take 119 = .ok (.aload_n 1, 1) := by decide +kernel
theorem dX2_take_120 : decode cX2_take 120 = .ok (.iconst 2, 1) := by decide +kernel
theorem dX2_take_121 : decode cX2_take 121 = .ok (.iconst 0, 1) := by decide +kernel
theorem dX2_take_122 : decode cX2_take 122 = .ok (.iload_n 3, 1) := by decide +kernel
theorem dX2_take_123 : decode cX2_take 123 = .ok (.invokevirtual 52, 3) := by decide +kernel
theorem dX2_take_126 : decode cX2_take 126 = .ok (.aload_n 0, 1) := by decide +kernel
theorem dX2_take_127 : decode cX2_take 127 = .ok (.iconst 1, 1) := by decide +kernel
theorem dX2_take_128 : decode cX2_take 128 = .ok (.putfield 16, 3) := by decide +kernel
theorem dX2_take_131 : decode cX2_take 131 = .ok (.goto 49, 3) := by decide +kernel
theorem dX2_take_134 : decode cX2_take 134 = .ok (.aload_n 0, 1) := by decide +kernel
theorem dX2_take_135 : decode cX2_take 135 = .ok (.iload_n 3, 1) := by decide +kernel
theorem dX2_take_136 : decode cX2_take 136 = .ok (.putfield 35, 3) := by decide +kernel
theorem dX2_take_139 : decode cX2_take 139 = .ok (.aload_n 0, 1) := by decide +kernel
theorem dX2_take_140 : decode cX2_take 140 = .ok (.bipush 7, 2) := by decide +kernel
theorem dX2_take_142 : decode cX2_take 142 = .ok (.putfield 16, 3) := by decide +kernel
theorem dX2_take_145 : decode cX2_take 145 = .ok (.goto 35, 3) := by decide +kernel
theorem dX2_take_148 : decode cX2_take 148 = .ok (.aload_n 0, 1) := by decide +kernel
theorem dX2_take_149 : decode cX2_take 149 = .ok (.iload_n 3, 1) := by decide +kernel
theorem dX2_take_150 : decode cX2_take 150 = .ok (.putfield 56, 3) := by decide +kernel
theorem dX2_take_153 : decode cX2_take 153 = .ok (.aload_n 0, 1) := by decide +kernel
theorem dX2_take_154 : decode cX2_take 154 = .ok (.bipush 8, 2) := by decide +kernel
theorem dX2_take_156 : decode cX2_take 156 = .ok (.putfield 16, 3) := by decide +kernel
theorem dX2_take_159 : decode cX2_take 159 = .ok (.goto 21, 3) := by decide +kernel
theorem dX2_take_162 : decode cX2_take 162 = .ok (.aload_n 1, 1) := by decide +kernel
theorem dX2_take_163 : decode cX2_take 163 = .ok (.aload_n 0, 1) := by decide +kernel
theorem dX2_take_164 : decode cX2_take 164 = .ok (.getfield 35, 3) := by decide +kernel
theorem dX2_take_167 : decode cX2_take 167 = .ok (.aload_n 0, 1) := by decide +kernel
theorem dX2_take_168 : decode cX2_take 168 = .ok (.getfield 56, 3) := by decide +kernel
theorem dX2_take_171 : decode cX2_take 171 = .ok (.iload_n 3, 1) := by decide +kernel
theorem dX2_take_172 : decode cX2_take 172 = .ok (.invokevirtual 59, 3) := by decide +kernel
theorem dX2_take_175 : decode cX2_take 175 = .ok (.aload_n 0, 1) := by decide +kernel
theorem dX2_take_176 : decode cX2_take 176 = .ok (.iconst 1, 1) := by decide +kernel
theorem dX2_take_177 : decode cX2_take 177 = .ok (.putfield 16, 3) := by decide +kernel
theorem dX2_take_180 : decode cX2_take 180 = .ok (.return_, 1) := by decide +kernel
theorem dX2_takePart_0 : decode cX2_takePart 0 = .ok (.iload_n 2, 1) := by decide +kernel
theorem dX2_takePart_1 : decode cX2_takePart 1 = .ok (.lookupswitch 76 #[(67, 67), (68, 43), (77, 59), (83, 51)], 43) := by decide +kernel
theorem dX2_takePart_44 : decode cX2_takePart 44 = .ok (.aload_n 0, 1) := by decide +kernel
theorem dX2_takePart_45 : decode cX2_takePart 45 = .ok (.iconst 2, 1) := by decide +kernel
theorem dX2_takePart_46 : decode cX2_takePart 46 = .ok (.putfield 16, 3) := by decide +kernel
theorem dX2_takePart_49 : decode cX2_takePart 49 = .ok (.goto 35, 3) := by decide +kernel
theorem dX2_takePart_52 : decode cX2_takePart 52 = .ok (.aload_n 0, 1) := by decide +kernel
theorem dX2_takePart_53 : decode cX2_takePart 53 = .ok (.iconst 4, 1) := by decide +kernel
theorem dX2_takePart_54 : decode cX2_takePart 54 = .ok (.putfield 16, 3) := by decide +kernel
theorem dX2_takePart_57 : decode cX2_takePart 57 = .ok (.goto 27, 3) := by decide +kernel
theorem dX2_takePart_60 : decode cX2_takePart 60 = .ok (.aload_n 0, 1) := by decide +kernel
theorem dX2_takePart_61 : decode cX2_takePart 61 = .ok (.iconst 5, 1) := by decide +kernel
theorem dX2_takePart_62 : decode cX2_takePart 62 = .ok (.putfield 16, 3) := by decide +kernel
theorem dX2_takePart_65 : decode cX2_takePart 65 = .ok (.goto 19, 3) := by decide +kernel
theorem dX2_takePart_68 : decode cX2_takePart 68 = .ok (.aload_n 0, 1) := by decide +kernel
theorem dX2_takePart_69 : decode cX2_takePart 69 = .ok (.bipush 6, 2) := by decide +kernel
theorem dX2_takePart_71 : decode cX2_takePart 71 = .ok (.putfield 16, 3) := by decide +kernel
theorem dX2_takePart_74 : decode cX2_takePart 74 = .ok (.goto 10, 3) := by decide +kernel
theorem dX2_takePart_77 : decode cX2_takePart 77 = .ok (.aload_n 1, 1) := by decide +kernel
theorem dX2_takePart_78 : decode cX2_takePart 78 = .ok (.iconst 3, 1) := by decide +kernel
theorem dX2_takePart_79 : decode cX2_takePart 79 = .ok (.iconst 0, 1) := by decide +kernel
theorem dX2_takePart_80 : decode cX2_takePart 80 = .ok (.iconst 0, 1) := by decide +kernel
theorem dX2_takePart_81 : decode cX2_takePart 81 = .ok (.invokevirtual 52, 3) := by decide +kernel
theorem dX2_takePart_84 : decode cX2_takePart 84 = .ok (.return_, 1) := by decide +kernel
theorem dX3_init_0 : decode cX3_init 0 = .ok (.aload_n 0, 1) := by decide +kernel
theorem dX3_init_1 : decode cX3_init 1 = .ok (.invokespecial 3, 3) := by decide +kernel
theorem dX3_init_4 : decode cX3_init 4 = .ok (.aload_n 0, 1) := by decide +kernel
theorem dX3_init_5 : decode cX3_init 5 = .ok (.bipush 6, 2) := by decide +kernel
theorem dX3_init_7 : decode cX3_init 7 = .ok (.newarray .int, 2) := by decide +kernel
theorem dX3_init_9 : decode cX3_init 9 = .ok (.putfield 9, 3) := by decide +kernel
theorem dX3_init_12 : decode cX3_init 12 = .ok (.aload_n 0, 1) := by decide +kernel
theorem dX3_init_13 : decode cX3_init 13 = .ok (.bipush 6, 2) := by decide +kernel
theorem dX3_init_15 : decode cX3_init 15 = .ok (.newarray .int, 2) := by decide +kernel
theorem dX3_init_17 : decode cX3_init 17 = .ok (.putfield 15, 3) := by decide +kernel
theorem dX3_init_20 : decode cX3_init 20 = .ok (.aload_n 0, 1) := by decide +kernel
theorem dX3_init_21 : decode cX3_init 21 = .ok (.bipush 6, 2) := by decide +kernel
theorem dX3_init_23 : decode cX3_init 23 = .ok (.newarray .int, 2) := by decide +kernel
theorem dX3_init_25 : decode cX3_init 25 = .ok (.putfield 18, 3) := by decide +kernel
theorem dX3_init_28 : decode cX3_init 28 = .ok (.return_, 1) := by decide +kernel
theorem dX3_begin_0 : decode cX3_begin 0 = .ok (.iconst 0, 1) := by decide +kernel
theorem dX3_begin_1 : decode cX3_begin 1 = .ok (.istore_n 2, 1) := by decide +kernel
theorem dX3_begin_2 : decode cX3_begin 2 = .ok (.iload_n 2, 1) := by decide +kernel
theorem dX3_begin_3 : decode cX3_begin 3 = .ok (.bipush 6, 2) := by decide +kernel
theorem dX3_begin_5 : decode cX3_begin 5 = .ok (.if_icmp .ge 77, 3) := by decide +kernel
theorem dX3_begin_8 : decode cX3_begin 8 = .ok (.iload_n 2, 1) := by decide +kernel
theorem dX3_begin_9 : decode cX3_begin 9 = .ok (.aload_n 1, 1) := by decide +kernel
theorem dX3_begin_10 : decode cX3_begin 10 = .ok (.getfield 21, 3) := by decide +kernel
theorem dX3_begin_13 : decode cX3_begin 13 = .ok (.if_icmp .ge 12, 3) := by decide +kernel
theorem dX3_begin_16 : decode cX3_begin 16 = .ok (.aload_n 1, 1) := by decide +kernel
theorem dX3_begin_17 : decode cX3_begin 17 = .ok (.getfield 27, 3) := by decide +kernel
theorem dX3_begin_20 : decode cX3_begin 20 = .ok (.iload_n 2, 1) := by decide +kernel
theorem dX3_begin_21 : decode cX3_begin 21 = .ok (.iaload, 1) := by decide +kernel
theorem dX3_begin_22 : decode cX3_begin 22 = .ok (.goto 4, 3) := by decide +kernel
theorem dX3_begin_25 : decode cX3_begin 25 = .ok (.iconst 0, 1) := by decide +kernel
theorem dX3_begin_26 : decode cX3_begin 26 = .ok (.istore_n 3, 1) := by decide +kernel
theorem dX3_begin_27 : decode cX3_begin 27 = .ok (.aload_n 0, 1) := by decide +kernel
theorem dX3_begin_28 : decode cX3_begin 28 = .ok (.getfield 9, 3) := by decide +kernel
theorem dX3_begin_31 : decode cX3_begin 31 = .ok (.iload_n 2, 1) := by decide +kernel
theorem dX3_begin_32 : decode cX3_begin 32 = .ok (.aload_n 1, 1) := by decide +kernel
theorem dX3_begin_33 : decode cX3_begin 33 = .ok (.getfield 30, 3) := by decide +kernel
theorem dX3_begin_36 : decode cX3_begin 36 = .ok (.iload_n 2, 1) := by decide +kernel
theorem dX3_begin_37 : decode cX3_begin 37 = .ok (.iaload, 1) := by decide +kernel
theorem dX3_begin_38 : decode cX3_begin 38 = .ok (.ifCond .ne 7, 3) := by decide +kernel
theorem dX3_begin_41 : decode cX3_begin 41 = .ok (.iload_n 3, 1) := by decide +kernel
theorem dX3_begin_42 : decode cX3_begin 42 = .ok (.goto 4, 3) := by decide +kernel
theorem dX3_begin_45 : decode cX3_begin 45 = .ok (.iconst 0, 1) := by decide +kernel
theorem dX3_begin_46 : decode cX3_begin 46 = .ok (.iastore, 1) := by decide +kernel
theorem dX3_begin_47 : decode cX3_begin 47 = .ok (.aload_n 0, 1) := by decide +kernel
theorem dX3_begin_48 : decode cX3_begin 48 = .ok (.getfield 15, 3) := by decide +kernel
theorem dX3_begin_51 : decode cX3_begin 51 = .ok (.iload_n 2, 1) := by decide +kernel
theorem dX3_begin_52 : decode cX3_begin 52 = .ok (.aload_n 1, 1) := by decide +kernel
theorem dX3_begin_53 : decode cX3_begin 53 = .ok (.getfield 30, 3) := by decide +kernel
theorem dX3_begin_56 : decode cX3_begin 56 = .ok (.iload_n 2, 1) := by decide +kernel
theorem dX3_begin_57 : decode cX3_begin 57 = .ok (.iaload, 1) := by decide +kernel
theorem dX3_begin_58 : decode cX3_begin 58 = .ok (.iconst 1, 1) := by decide +kernel
theorem dX3_begin_59 : decode cX3_begin 59 = .ok (.if_icmp .ne 7, 3) := by decide +kernel
theorem dX3_begin_62 : decode cX3_begin 62 = .ok (.iload_n 3, 1) := by decide +kernel
theorem dX3_begin_63 : decode cX3_begin 63 = .ok (.goto 4, 3) := by decide +kernel
theorem dX3_begin_66 : decode cX3_begin 66 = .ok (.iconst 0, 1) := by decide +kernel
theorem dX3_begin_67 : decode cX3_begin 67 = .ok (.iastore, 1) := by decide +kernel
theorem dX3_begin_68 : decode cX3_begin 68 = .ok (.aload_n 0, 1) := by decide +kernel
theorem dX3_begin_69 : decode cX3_begin 69 = .ok (.getfield 18, 3) := by decide +kernel
theorem dX3_begin_72 : decode cX3_begin 72 = .ok (.iload_n 2, 1) := by decide +kernel
theorem dX3_begin_73 : decode cX3_begin 73 = .ok (.bipush (-9), 2) := by decide +kernel
theorem dX3_begin_75 : decode cX3_begin 75 = .ok (.iastore, 1) := by decide +kernel
theorem dX3_begin_76 : decode cX3_begin 76 = .ok (.iinc 2 1, 3) := by decide +kernel
theorem dX3_begin_79 : decode cX3_begin 79 = .ok (.goto (-77), 3) := by decide +kernel
theorem dX3_begin_82 : decode cX3_begin 82 = .ok (.aload_n 0, 1) := by decide +kernel
theorem dX3_begin_83 : decode cX3_begin 83 = .ok (.aload_n 1, 1) := by decide +kernel
theorem dX3_begin_84 : decode cX3_begin 84 = .ok (.getfield 33, 3) := by decide +kernel
theorem dX3_begin_87 : decode cX3_begin 87 = .ok (.putfield 36, 3) := by decide +kernel
theorem dX3_begin_90 : decode cX3_begin 90 = .ok (.aload_n 0, 1) := by decide +kernel
theorem dX3_begin_91 : decode cX3_begin 91 = .ok (.iconst 0, 1) := by decide +kernel
theorem dX3_begin_92 : decode cX3_begin 92 = .ok (.putfield 39, 3) := by decide +kernel
theorem dX3_begin_95 : decode cX3_begin 95 = .ok (.return_, 1) := by decide +kernel
theorem dX3_copy_0 : decode cX3_copy 0 = .ok (.iconst 0, 1) := by decide +kernel
theorem dX3_copy_1 : decode cX3_copy 1 = .ok (.istore_n 2, 1) := by decide +kernel
theorem dX3_copy_2 : decode cX3_copy 2 = .ok (.iload_n 2, 1) := by decide +kernel
theorem dX3_copy_3 : decode cX3_copy 3 = .ok (.bipush 6, 2) := by decide +kernel
theorem dX3_copy_5 : decode cX3_copy 5 = .ok (.if_icmp .ge 45, 3) := by decide +kernel
theorem dX3_copy_8 : decode cX3_copy 8 = .ok (.aload_n 0, 1) := by decide +kernel
theorem dX3_copy_9 : decode cX3_copy 9 = .ok (.getfield 9, 3) := by decide +kernel
theorem dX3_copy_12 : decode cX3_copy 12 = .ok (.iload_n 2, 1) := by decide +kernel
theorem dX3_copy_13 : decode cX3_copy 13 = .ok (.aload_n 1, 1) := by decide +kernel
theorem dX3_copy_14 : decode cX3_copy 14 = .ok (.getfield 9, 3) := by decide +kernel
theorem dX3_copy_17 : decode cX3_copy 17 = .ok (.iload_n 2, 1) := by decide +kernel
theorem dX3_copy_18 : decode cX3_copy 18 = .ok (.iaload, 1) := by decide +kernel
theorem dX3_copy_19 : decode cX3_copy 19 = .ok (.iastore, 1) := by decide +kernel
theorem dX3_copy_20 : decode cX3_copy 20 = .ok (.aload_n 0, 1) := by decide +kernel
theorem dX3_copy_21 : decode cX3_copy 21 = .ok (.getfield 15, 3) := by decide +kernel
theorem dX3_copy_24 : decode cX3_copy 24 = .ok (.iload_n 2, 1) := by decide +kernel
theorem dX3_copy_25 : decode cX3_copy 25 = .ok (.aload_n 1, 1) := by decide +kernel
theorem dX3_copy_26 : decode cX3_copy 26 = .ok (.getfield 15, 3) := by decide +kernel
theorem dX3_copy_29 : decode cX3_copy 29 = .ok (.iload_n 2, 1) := by decide +kernel
theorem dX3_copy_30 : decode cX3_copy 30 = .ok (.iaload, 1) := by decide +kernel
theorem dX3_copy_31 : decode cX3_copy 31 = .ok (.iastore, 1) := by decide +kernel
theorem dX3_copy_32 : decode cX3_copy 32 = .ok (.aload_n 0, 1) := by decide +kernel
theorem dX3_copy_33 : decode cX3_copy 33 = .ok (.getfield 18, 3) := by decide +kernel
theorem dX3_copy_36 : decode cX3_copy 36 = .ok (.iload_n 2, 1) := by decide +kernel
theorem dX3_copy_37 : decode cX3_copy 37 = .ok (.aload_n 1, 1) := by decide +kernel
theorem dX3_copy_38 : decode cX3_copy 38 = .ok (.getfield 18, 3) := by decide +kernel
theorem dX3_copy_41 : decode cX3_copy 41 = .ok (.iload_n 2, 1) := by decide +kernel
theorem dX3_copy_42 : decode cX3_copy 42 = .ok (.iaload, 1) := by decide +kernel
theorem dX3_copy_43 : decode cX3_copy 43 = .ok (.iastore, 1) := by decide +kernel
theorem dX3_copy_44 : decode cX3_copy 44 = .ok (.iinc 2 1, 3) := by decide +kernel
theorem dX3_copy_47 : decode cX3_copy 47 = .ok (.goto (-45), 3) := by decide +kernel
theorem dX3_copy_50 : decode cX3_copy 50 = .ok (.aload_n 0, 1) := by decide +kernel
theorem dX3_copy_51 : decode cX3_copy 51 = .ok (.aload_n 1, 1) := by decide +kernel
theorem dX3_copy_52 : decode cX3_copy 52 = .ok (.getfield 36, 3) := by decide +kernel
theorem dX3_copy_55 : decode cX3_copy 55 = .ok (.putfield 36, 3) := by decide +kernel
theorem dX3_copy_58 : decode cX3_copy 58 = .ok (.aload_n 0, 1) := by decide +kernel
theorem dX3_copy_59 : decode cX3_copy 59 = .ok (.aload_n 1, 1) := by decide +kernel
theorem dX3_copy_60 : decode cX3_copy 60 = .ok (.getfield 39, 3) := by decide +kernel
theorem dX3_copy_63 : decode cX3_copy 63 = .ok (.putfield 39, 3) := by decide +kernel
theorem dX3_copy_66 : decode cX3_copy 66 = .ok (.return_, 1) := by decide +kernel
theorem dX3_addOneTo_0 : decode cX3_addOneTo 0 = .ok (.iconst 0, 1) := by decide +kernel
theorem dX3_addOneTo_1 : decode cX3_addOneTo 1 = .ok (.istore_n 2, 1) := by decide +kernel
theorem dX3_addOneTo_2 : decode cX3_addOneTo 2 = .ok (.iload_n 2, 1) := by decide +kernel
theorem dX3_addOneTo_3 : decode cX3_addOneTo 3 = .ok (.bipush 6, 2) := by decide +kernel
theorem dX3_addOneTo_5 : decode cX3_addOneTo 5 = .ok (.if_icmp .ge 23, 3) := by decide +kernel
theorem dX3_addOneTo_8 : decode cX3_addOneTo 8 = .ok (.aload_n 0, 1) := by decide +kernel
theorem dX3_addOneTo_9 : decode cX3_addOneTo 9 = .ok (.getfield 9, 3) := by decide +kernel
theorem dX3_addOneTo_12 : decode cX3_addOneTo 12 = .ok (.iload_n 2, 1) := by decide +kernel
theorem dX3_addOneTo_13 : decode cX3_addOneTo 13 = .ok (.dup2, 1) := by decide +kernel
theorem dX3_addOneTo_14 : decode cX3_addOneTo 14 = .ok (.iaload, 1) := by decide +kernel
theorem dX3_addOneTo_15 : decode cX3_addOneTo 15 = .ok (.iload_n 1, 1) := by decide +kernel
theorem dX3_addOneTo_16 : decode cX3_addOneTo 16 = .ok (.iload_n 2, 1) := by decide +kernel
theorem dX3_addOneTo_17 : decode cX3_addOneTo 17 = .ok (.ishr, 1) := by decide +kernel
theorem dX3_addOneTo_18 : decode cX3_addOneTo 18 = .ok (.iconst 1, 1) := by decide +kernel
theorem dX3_addOneTo_19 : decode cX3_addOneTo 19 = .ok (.iand, 1) := by decide +kernel
theorem dX3_addOneTo_20 : decode cX3_addOneTo 20 = .ok (.iadd, 1) := by decide +kernel
theorem dX3_addOneTo_21 : decode cX3_addOneTo 21 = .ok (.iastore, 1) := by decide +kernel
theorem dX3_addOneTo_22 : decode cX3_addOneTo 22 = .ok (.iinc 2 1, 3) := by decide +kernel
theorem dX3_addOneTo_25 : decode cX3_addOneTo 25 = .ok (.goto (-23), 3) := by decide +kernel
theorem dX3_addOneTo_28 : decode cX3_addOneTo 28 = .ok (.return_, 1) := by decide +kernel
theorem dX3_isDone_0 : decode cX3_isDone 0 = .ok (.aload_n 0, 1) := by decide +kernel
theorem dX3_isDone_1 : decode cX3_isDone 1 = .ok (.invokevirtual 42, 3) := by decide +kernel
theorem dX3_isDone_4 : decode cX3_isDone 4 = .ok (.ifCond .ne 14, 3) := by decide +kernel
theorem dX3_isDone_7 : decode cX3_isDone 7 = .ok (.aload_n 0, 1) := by decide +kernel
theorem dX3_isDone_8 : decode cX3_isDone 8 = .ok (.invokevirtual 46, 3) := by decide +kernel
theorem dX3_isDone_11 : decode cX3_isDone 11 = .ok (.ifCond .ne 7, 3) := by decide +kernel
theorem dX3_isDone_14 : decode cX3_isDone 14 = .ok (.iconst 1, 1) := by decide +kernel
theorem dX3_isDone_15 : decode cX3_isDone 15 = .ok (.goto 4, 3) := by decide +kernel
theorem dX3_isDone_18 : decode cX3_isDone 18 = .ok (.iconst 0, 1) := by decide +kernel
theorem dX3_isDone_19 : decode cX3_isDone 19 = .ok (.ireturn, 1) := by decide +kernel
theorem dX3_allDung_0 : decode cX3_allDung 0 = .ok (.iconst 0, 1) := by decide +kernel
theorem dX3_allDung_1 : decode cX3_allDung 1 = .ok (.istore_n 1, 1) := by decide +kernel
theorem dX3_allDung_2 : decode cX3_allDung 2 = .ok (.iconst 0, 1) := by decide +kernel
theorem dX3_allDung_3 : decode cX3_allDung 3 = .ok (.istore_n 2, 1) := by decide +kernel
theorem dX3_allDung_4 : decode cX3_allDung 4 = .ok (.iload_n 2, 1) := by decide +kernel
theorem dX3_allDung_5 : decode cX3_allDung 5 = .ok (.bipush 6, 2) := by decide +kernel
theorem dX3_allDung_7 : decode cX3_allDung 7 = .ok (.if_icmp .ge 18, 3) := by decide +kernel
theorem dX3_allDung_10 : decode cX3_allDung 10 = .ok (.iload_n 1, 1) := by decide +kernel
theorem dX3_allDung_11 : decode cX3_allDung 11 = .ok (.aload_n 0, 1) := by decide +kernel
theorem dX3_allDung_12 : decode cX3_allDung 12 = .ok (.getfield 15, 3) := by decide +kernel
theorem dX3_allDung_15 : decode cX3_allDung 15 = .ok (.iload_n 2, 1) := by decide +kernel
theorem dX3_allDung_16 : decode cX3_allDung 16 = .ok (.iaload, 1) := by decide +kernel
theorem dX3_allDung_17 : decode cX3_allDung 17 = .ok (.iadd, 1) := by decide +kernel
theorem dX3_allDung_18 : decode cX3_allDung 18 = .ok (.istore_n 1, 1) := by decide +kernel
theorem dX3_allDung_19 : decode cX3_allDung 19 = .ok (.iinc 2 1, 3) := by decide +kernel
theorem dX3_allDung_22 : decode cX3_allDung 22 = .ok (.goto (-18), 3) := by decide +kernel
theorem dX3_allDung_25 : decode cX3_allDung 25 = .ok (.iload_n 1, 1) := by decide +kernel
theorem dX3_allDung_26 : decode cX3_allDung 26 = .ok (.ireturn, 1) := by decide +kernel
theorem dX3_allBuckets_0 : decode cX3_allBuckets 0 = .ok (.iconst 0, 1) := by decide +kernel
theorem dX3_allBuckets_1 : decode cX3_allBuckets 1 = .ok (.istore_n 1, 1) := by decide +kernel
theorem dX3_allBuckets_2 : decode cX3_allBuckets 2 = .ok (.iconst 0, 1) := by decide +kernel
theorem dX3_allBuckets_3 : decode cX3_allBuckets 3 = .ok (.istore_n 2, 1) := by decide +kernel
theorem dX3_allBuckets_4 : decode cX3_allBuckets 4 = .ok (.iload_n 2, 1) := by decide +kernel
theorem dX3_allBuckets_5 : decode cX3_allBuckets 5 = .ok (.bipush 6, 2) := by decide +kernel
theorem dX3_allBuckets_7 : decode cX3_allBuckets 7 = .ok (.if_icmp .ge 18, 3) := by decide +kernel
theorem dX3_allBuckets_10 : decode cX3_allBuckets 10 = .ok (.iload_n 1, 1) := by decide +kernel
theorem dX3_allBuckets_11 : decode cX3_allBuckets 11 = .ok (.aload_n 0, 1) := by decide +kernel
theorem dX3_allBuckets_12 : decode cX3_allBuckets 12 = .ok (.getfield 9, 3) := by decide +kernel
theorem dX3_allBuckets_15 : decode cX3_allBuckets 15 = .ok (.iload_n 2, 1) := by decide +kernel
theorem dX3_allBuckets_16 : decode cX3_allBuckets 16 = .ok (.iaload, 1) := by decide +kernel
theorem dX3_allBuckets_17 : decode cX3_allBuckets 17 = .ok (.iadd, 1) := by decide +kernel
theorem dX3_allBuckets_18 : decode cX3_allBuckets 18 = .ok (.istore_n 1, 1) := by decide +kernel
theorem dX3_allBuckets_19 : decode cX3_allBuckets 19 = .ok (.iinc 2 1, 3) := by decide +kernel
theorem dX3_allBuckets_22 : decode cX3_allBuckets 22 = .ok (.goto (-18), 3) := by decide +kernel
theorem dX3_allBuckets_25 : decode cX3_allBuckets 25 = .ok (.iload_n 1, 1) := by decide +kernel
theorem dX3_allBuckets_26 : decode cX3_allBuckets 26 = .ok (.ireturn, 1) := by decide +kernel
theorem dX3_withDung_0 : decode cX3_withDung 0 = .ok (.iconst 0, 1) := by decide +kernel
theorem dX3_withDung_1 : decode cX3_withDung 1 = .ok (.istore_n 1, 1) := by decide +kernel
theorem dX3_withDung_2 : decode cX3_withDung 2 = .ok (.iconst 0, 1) := by decide +kernel
theorem dX3_withDung_3 : decode cX3_withDung 3 = .ok (.istore_n 2, 1) := by decide +kernel
theorem dX3_withDung_4 : decode cX3_withDung 4 = .ok (.iload_n 2, 1) := by decide +kernel
theorem dX3_withDung_5 : decode cX3_withDung 5 = .ok (.bipush 6, 2) := by decide +kernel
theorem dX3_withDung_7 : decode cX3_withDung 7 = .ok (.if_icmp .ge 28, 3) := by decide +kernel
theorem dX3_withDung_10 : decode cX3_withDung 10 = .ok (.iload_n 1, 1) := by decide +kernel
theorem dX3_withDung_11 : decode cX3_withDung 11 = .ok (.aload_n 0, 1) := by decide +kernel
theorem dX3_withDung_12 : decode cX3_withDung 12 = .ok (.getfield 15, 3) := by decide +kernel
theorem dX3_withDung_15 : decode cX3_withDung 15 = .ok (.iload_n 2, 1) := by decide +kernel
theorem dX3_withDung_16 : decode cX3_withDung 16 = .ok (.iaload, 1) := by decide +kernel
theorem dX3_withDung_17 : decode cX3_withDung 17 = .ok (.ifCond .le 9, 3) := by decide +kernel
theorem dX3_withDung_20 : decode cX3_withDung 20 = .ok (.iconst 1, 1) := by decide +kernel
theorem dX3_withDung_21 : decode cX3_withDung 21 = .ok (.iload_n 2, 1) := by decide +kernel
theorem dX3_withDung_22 : decode cX3_withDung 22 = .ok (.ishl, 1) := by decide +kernel
theorem dX3_withDung_23 : decode cX3_withDung 23 = .ok (.goto 4, 3) := by decide +kernel
theorem dX3_withDung_26 : decode cX3_withDung 26 = .ok (.iconst 0, 1) := by decide +kernel
theorem dX3_withDung_27 : decode cX3_withDung 27 = .ok (.ior, 1) := by decide +kernel
theorem dX3_withDung_28 : decode cX3_withDung 28 = .ok (.istore_n 1, 1) := by decide +kernel
theorem dX3_withDung_29 : decode cX3_withDung 29 = .ok (.iinc 2 1, 3) := by decide +kernel
theorem dX3_withDung_32 : decode cX3_withDung 32 = .ok (.goto (-28), 3) := by decide +kernel
theorem dX3_withDung_35 : decode cX3_withDung 35 = .ok (.iload_n 1, 1) := by decide +kernel
theorem dX3_withDung_36 : decode cX3_withDung 36 = .ok (.ireturn, 1) := by decide +kernel
theorem dX3_wetTowns_0 : decode cX3_wetTowns 0 = .ok (.iconst 0, 1) := by decide +kernel
theorem dX3_wetTowns_1 : decode cX3_wetTowns 1 = .ok (.istore_n 1, 1) := by decide +kernel
theorem dX3_wetTowns_2 : decode cX3_wetTowns 2 = .ok (.iconst 0, 1) := by decide +kernel
theorem dX3_wetTowns_3 : decode cX3_wetTowns 3 = .ok (.istore_n 2, 1) := by decide +kernel
theorem dX3_wetTowns_4 : decode cX3_wetTowns 4 = .ok (.iload_n 2, 1) := by decide +kernel
theorem dX3_wetTowns_5 : decode cX3_wetTowns 5 = .ok (.bipush 6, 2) := by decide +kernel
theorem dX3_wetTowns_7 : decode cX3_wetTowns 7 = .ok (.if_icmp .ge 30, 3) := by decide +kernel
theorem dX3_wetTowns_10 : decode cX3_wetTowns 10 = .ok (.iload_n 1, 1) := by decide +kernel
theorem dX3_wetTowns_11 : decode cX3_wetTowns 11 = .ok (.aload_n 0, 1) := by decide +kernel
theorem dX3_wetTowns_12 : decode cX3_wetTowns 12 = .ok (.getfield 18, 3) := by decide +kernel
theorem dX3_wetTowns_15 : decode cX3_wetTowns 15 = .ok (.iload_n 2, 1) := by decide +kernel
theorem dX3_wetTowns_16 : decode cX3_wetTowns 16 = .ok (.iaload, 1) := by decide +kernel
theorem dX3_wetTowns_17 : decode cX3_wetTowns 17 = .ok (.bipush (-9), 2) := by decide +kernel
theorem dX3_wetTowns_19 : decode cX3_wetTowns 19 = .ok (.if_icmp .eq 9, 3) := by decide +kernel
theorem dX3_wetTowns_22 : decode cX3_wetTowns 22 = .ok (.iconst 1, 1) := by decide +kernel
theorem dX3_wetTowns_23 : decode cX3_wetTowns 23 = .ok (.iload_n 2, 1) := by decide +kernel
theorem dX3_wetTowns_24 : decode cX3_wetTowns 24 = .ok (.ishl, 1) := by decide +kernel
theorem dX3_wetTowns_25 : decode cX3_wetTowns 25 = .ok (.goto 4, 3) := by decide +kernel
theorem dX3_wetTowns_28 : decode cX3_wetTowns 28 = .ok (.iconst 0, 1) := by decide +kernel
theorem dX3_wetTowns_29 : decode cX3_wetTowns 29 = .ok (.ior, 1) := by decide +kernel
theorem dX3_wetTowns_30 : decode cX3_wetTowns 30 = .ok (.istore_n 1, 1) := by decide +kernel
theorem dX3_wetTowns_31 : decode cX3_wetTowns 31 = .ok (.iinc 2 1, 3) := by decide +kernel
theorem dX3_wetTowns_34 : decode cX3_wetTowns 34 = .ok (.goto (-30), 3) := by decide +kernel
theorem dX3_wetTowns_37 : decode cX3_wetTowns 37 = .ok (.iload_n 1, 1) := by decide +kernel
theorem dX3_wetTowns_38 : decode cX3_wetTowns 38 = .ok (.ireturn, 1) := by decide +kernel
theorem dX3_worth_0 : decode cX3_worth 0 = .ok (.iconst 0, 1) := by decide +kernel
theorem dX3_worth_1 : decode cX3_worth 1 = .ok (.istore_n 2, 1) := by decide +kernel
theorem dX3_worth_2 : decode cX3_worth 2 = .ok (.iconst 0, 1) := by decide +kernel
theorem dX3_worth_3 : decode cX3_worth 3 = .ok (.istore_n 3, 1) := by decide +kernel
theorem dX3_worth_4 : decode cX3_worth 4 = .ok (.iload_n 3, 1) := by decide +kernel
theorem dX3_worth_5 : decode cX3_worth 5 = .ok (.aload_n 1, 1) := by decide +kernel
theorem dX3_worth_6 : decode cX3_worth 6 = .ok (.getfield 21, 3) := by decide +kernel
theorem dX3_worth_9 : decode cX3_worth 9 = .ok (.if_icmp .ge 39, 3) := by decide +kernel
theorem dX3_worth_12 : decode cX3_worth 12 = .ok (.iload_n 2, 1) := by decide +kernel
theorem dX3_worth_13 : decode cX3_worth 13 = .ok (.aload_n 1, 1) := by decide +kernel
theorem dX3_worth_14 : decode cX3_worth 14 = .ok (.getfield 30, 3) := by decide +kernel
theorem dX3_worth_17 : decode cX3_worth 17 = .ok (.iload_n 3, 1) := by decide +kernel
theorem dX3_worth_18 : decode cX3_worth 18 = .ok (.iaload, 1) := by decide +kernel
theorem dX3_worth_19 : decode cX3_worth 19 = .ok (.iconst 2, 1) := by decide +kernel
theorem dX3_worth_20 : decode cX3_worth 20 = .ok (.if_icmp .ne 19, 3) := by decide +kernel
theorem dX3_worth_23 : decode cX3_worth 23 = .ok (.aload_n 0, 1) := by decide +kernel
theorem dX3_worth_24 : decode cX3_worth 24 = .ok (.getfield 9, 3) := by decide +kernel
theorem dX3_worth_27 : decode cX3_worth 27 = .ok (.iload_n 3, 1) := by decide +kernel
theorem dX3_worth_28 : decode cX3_worth 28 = .ok (.iaload, 1) := by decide +kernel
theorem dX3_worth_29 : decode cX3_worth 29 = .ok (.aload_n 1, 1) := by decide +kernel
theorem dX3_worth_30 : decode cX3_worth 30 = .ok (.getfield 49, 3) := by decide +kernel
theorem dX3_worth_33 : decode cX3_worth 33 = .ok (.iload_n 3, 1) := by decide +kernel
theorem dX3_worth_34 : decode cX3_worth 34 = .ok (.iaload, 1) := by decide +kernel
theorem dX3_worth_35 : decode cX3_worth 35 = .ok (.imul, 1) := by decide +kernel
theorem dX3_worth_36 : decode cX3_worth 36 = .ok (.goto 4, 3) := by decide +kernel
theorem dX3_worth_39 : decode cX3_worth 39 = .ok (.iconst 0, 1) := by decide +kernel
theorem dX3_worth_40 : decode cX3_worth 40 = .ok (.iadd, 1) := by decide +kernel
theorem dX3_worth_41 : decode cX3_worth 41 = .ok (.istore_n 2, 1) := by decide +kernel
theorem dX3_worth_42 : decode cX3_worth 42 = .ok (.iinc 3 1, 3) := by decide +kernel
theorem dX3_worth_45 : decode cX3_worth 45 = .ok (.goto (-41), 3) := by decide +kernel
theorem dX3_worth_48 : decode cX3_worth 48 = .ok (.iload_n 2, 1) := by decide +kernel
theorem dX3_worth_49 : decode cX3_worth 49 = .ok (.ireturn, 1) := by decide +kernel
theorem dX4_init_0 : decode cX4_init 0 = .ok (.aload_n 0, 1) := by decide +kernel
theorem dX4_init_1 : decode cX4_init 1 = .ok (.invokespecial 3, 3) := by decide +kernel
theorem dX4_init_4 : decode cX4_init 4 = .ok (.aload_n 0, 1) := by decide +kernel
theorem dX4_init_5 : decode cX4_init 5 = .ok (.bipush 6, 2) := by decide +kernel
theorem dX4_init_7 : decode cX4_init 7 = .ok (.newarray .int, 2) := by decide +kernel
theorem dX4_init_9 : decode cX4_init 9 = .ok (.putfield 9, 3) := by decide +kernel
theorem dX4_init_12 : decode cX4_init 12 = .ok (.aload_n 0, 1) := by decide +kernel
theorem dX4_init_13 : decode cX4_init 13 = .ok (.bipush 6, 2) := by decide +kernel
theorem dX4_init_15 : decode cX4_init 15 = .ok (.newarray .int, 2) := by decide +kernel
theorem dX4_init_17 : decode cX4_init 17 = .ok (.putfield 15, 3) := by decide +kernel
theorem dX4_init_20 : decode cX4_init 20 = .ok (.aload_n 0, 1) := by decide +kernel
theorem dX4_init_21 : decode cX4_init 21 = .ok (.bipush 6, 2) := by decide +kernel
theorem dX4_init_23 : decode cX4_init 23 = .ok (.newarray .int, 2) := by decide +kernel
theorem dX4_init_25 : decode cX4_init 25 = .ok (.putfield 18, 3) := by decide +kernel
theorem dX4_init_28 : decode cX4_init 28 = .ok (.return_, 1) := by decide +kernel
theorem dX4_note_0 : decode cX4_note 0 = .ok (.aload_n 0, 1) := by decide +kernel
theorem dX4_note_1 : decode cX4_note 1 = .ok (.getfield 21, 3) := by decide +kernel
theorem dX4_note_4 : decode cX4_note 4 = .ok (.bipush 6, 2) := by decide +kernel
theorem dX4_note_6 : decode cX4_note 6 = .ok (.if_icmp .ge 43, 3) := by decide +kernel
theorem dX4_note_9 : decode cX4_note 9 = .ok (.aload_n 0, 1) := by decide +kernel
theorem dX4_note_10 : decode cX4_note 10 = .ok (.getfield 9, 3) := by decide +kernel
theorem dX4_note_13 : decode cX4_note 13 = .ok (.aload_n 0, 1) := by decide +kernel
theorem dX4_note_14 : decode cX4_note 14 = .ok (.getfield 21, 3) := by decide +kernel
theorem dX4_note_17 : decode cX4_note 17 = .ok (.iload_n 1, 1) := by decide +kernel
theorem dX4_note_18 : decode cX4_note 18 = .ok (.iastore, 1) := by decide +kernel
theorem dX4_note_19 : decode cX4_note 19 = .ok (.aload_n 0, 1) := by decide +kernel
theorem dX4_note_20 : decode cX4_note 20 = .ok (.getfield 15, 3) := by decide +kernel
theorem dX4_note_23 : decode cX4_note 23 = .ok (.aload_n 0, 1) := by decide +kernel
theorem dX4_note_24 : decode cX4_note 24 = .ok (.getfield 21, 3) := by decide +kernel
theorem dX4_note_27 : decode cX4_note 27 = .ok (.iload_n 2, 1) := by decide +kernel
theorem dX4_note_28 : decode cX4_note 28 = .ok (.iastore, 1) := by decide +kernel
theorem dX4_note_29 : decode cX4_note 29 = .ok (.aload_n 0, 1) := by decide +kernel
theorem dX4_note_30 : decode cX4_note 30 = .ok (.getfield 18, 3) := by decide +kernel
theorem dX4_note_33 : decode cX4_note 33 = .ok (.aload_n 0, 1) := by decide +kernel
theorem dX4_note_34 : decode cX4_note 34 = .ok (.getfield 21, 3) := by decide +kernel
theorem dX4_note_37 : decode cX4_note 37 = .ok (.iload_n 3, 1) := by decide +kernel
theorem dX4_note_38 : decode cX4_note 38 = .ok (.iastore, 1) := by decide +kernel
theorem dX4_note_39 : decode cX4_note 39 = .ok (.aload_n 0, 1) := by decide +kernel
theorem dX4_note_40 : decode cX4_note 40 = .ok (.dup, 1) := by decide +kernel
theorem dX4_note_41 : decode cX4_note 41 = .ok (.getfield 21, 3) := by decide +kernel
theorem dX4_note_44 : decode cX4_note 44 = .ok (.iconst 1, 1) := by decide +kernel
theorem dX4_note_45 : decode cX4_note 45 = .ok (.iadd, 1) := by decide +kernel
theorem dX4_note_46 : decode cX4_note 46 = .ok (.putfield 21, 3) := by decide +kernel
theorem dX4_note_49 : decode cX4_note 49 = .ok (.return_, 1) := by decide +kernel
theorem dX4_lastTime_0 : decode cX4_lastTime 0 = .ok (.iconst 0, 1) := by decide +kernel
theorem dX4_lastTime_1 : decode cX4_lastTime 1 = .ok (.istore_n 1, 1) := by decide +kernel
theorem dX4_lastTime_2 : decode cX4_lastTime 2 = .ok (.iconst 0, 1) := by decide +kernel
theorem dX4_lastTime_3 : decode cX4_lastTime 3 = .ok (.istore_n 2, 1) := by decide +kernel
theorem dX4_lastTime_4 : decode cX4_lastTime 4 = .ok (.iload_n 2, 1) := by decide +kernel
theorem dX4_lastTime_5 : decode cX4_lastTime 5 = .ok (.aload_n 0, 1) := by decide +kernel
theorem dX4_lastTime_6 : decode cX4_lastTime 6 = .ok (.getfield 21, 3) := by decide +kernel
theorem dX4_lastTime_9 : decode cX4_lastTime 9 = .ok (.if_icmp .ge 20, 3) := by decide +kernel
theorem dX4_lastTime_12 : decode cX4_lastTime 12 = .ok (.iload_n 1, 1) := by decide +kernel
theorem dX4_lastTime_13 : decode cX4_lastTime 13 = .ok (.aload_n 0, 1) := by decide +kernel
theorem dX4_lastTime_14 : decode cX4_lastTime 14 = .ok (.getfield 15, 3) := by decide +kernel
theorem dX4_lastTime_17 : decode cX4_lastTime 17 = .ok (.iload_n 2, 1) := by decide +kernel
theorem dX4_lastTime_18 : decode cX4_lastTime 18 = .ok (.iaload, 1) := by decide +kernel
theorem dX4_lastTime_19 : decode cX4_lastTime 19 = .ok (.invokestatic 25, 3) := by decide +kernel
theorem dX4_lastTime_22 : decode cX4_lastTime 22 = .ok (.istore_n 1, 1) := by decide +kernel
theorem dX4_lastTime_23 : decode cX4_lastTime 23 = .ok (.iinc 2 1, 3) := by decide +kernel
theorem dX4_lastTime_26 : decode cX4_lastTime 26 = .ok (.goto (-22), 3) := by decide +kernel
theorem dX4_lastTime_29 : decode cX4_lastTime 29 = .ok (.iload_n 1, 1) := by decide +kernel
theorem dX4_lastTime_30 : decode cX4_lastTime 30 = .ok (.ireturn, 1) := by decide +kernel
theorem dX4_agree_0 : decode cX4_agree 0 = .ok (.iconst 0, 1) := by decide +kernel
theorem dX4_agree_1 : decode cX4_agree 1 = .ok (.istore 4, 2) := by decide +kernel
theorem dX4_agree_3 : decode cX4_agree 3 = .ok (.iload 4, 2) := by decide +kernel
theorem dX4_agree_5 : decode cX4_agree 5 = .ok (.aload_n 0, 1) := by decide +kernel
theorem dX4_agree_6 : decode cX4_agree 6 = .ok (.getfield 21, 3) := by decide +kernel
theorem dX4_agree_9 : decode cX4_agree 9 = .ok (.if_icmp .ge 58, 3) := by decide +kernel
theorem dX4_agree_12 : decode cX4_agree 12 = .ok (.aload_n 0, 1) := by decide +kernel
theorem dX4_agree_13 : decode cX4_agree 13 = .ok (.getfield 15, 3) := by decide +kernel
theorem dX4_agree_16 : decode cX4_agree 16 = .ok (.iload 4, 2) := by decide +kernel
theorem dX4_agree_18 : decode cX4_agree 18 = .ok (.iaload, 1) := by decide +kernel
theorem dX4_agree_19 : decode cX4_agree 19 = .ok (.iload_n 3, 1) := by decide +kernel
theorem dX4_agree_20 : decode cX4_agree 20 = .ok (.if_icmp .ne 41, 3) := by decide +kernel
theorem dX4_agree_23 : decode cX4_agree 23 = .ok (.aload_n 1, 1) := by decide +kernel
theorem dX4_agree_24 : decode cX4_agree 24 = .ok (.aload_n 0, 1) := by decide +kernel
theorem dX4_agree_25 : decode cX4_agree 25 = .ok (.getfield 9, 3) := by decide +kernel
theorem dX4_agree_28 : decode cX4_agree 28 = .ok (.iload 4, 2) := by decide +kernel
theorem dX4_agree_30 : decode cX4_agree 30 = .ok (.iaload, 1) := by decide +kernel
theorem dX4_agree_31 : decode cX4_agree 31 = .ok (.invokevirtual 31, 3) := by decide +kernel
theorem dX4_agree_34 : decode cX4_agree 34 = .ok (.ifCond .eq 27, 3) := by decide +kernel
theorem dX4_agree_37 : decode cX4_agree 37 = .ok (.aload_n 2, 1) := by decide +kernel
theorem dX4_agree_38 : decode cX4_agree 38 = .ok (.getfield 37, 3) := by decide +kernel
theorem dX4_agree_41 : decode cX4_agree 41 = .ok (.aload_n 0, 1) := by decide +kernel
theorem dX4_agree_42 : decode cX4_agree 42 = .ok (.getfield 9, 3) := by decide +kernel
theorem dX4_agree_45 : decode cX4_agree 45 = .ok (.iload 4, 2) := by decide +kernel
theorem dX4_agree_47 : decode cX4_agree 47 = .ok (.iaload, 1) := by decide +kernel
theorem dX4_agree_48 : decode cX4_agree 48 = .ok (.iaload, 1) := by decide +kernel
theorem dX4_agree_49 : decode cX4_agree 49 = .ok (.aload_n 0, 1) := by decide +kernel
theorem dX4_agree_50 : decode cX4_agree 50 = .ok (.getfield 18, 3) := by decide +kernel
theorem dX4_agree_53 : decode cX4_agree 53 = .ok (.iload 4, 2) := by decide +kernel
theorem dX4_agree_55 : decode cX4_agree 55 = .ok (.iaload, 1) := by decide +kernel
theorem dX4_agree_56 : decode cX4_agree 56 = .ok (.if_icmp .eq 5, 3) := by decide +kernel
theorem dX4_agree_59 : decode cX4_agree 59 = .ok (.iconst 0, 1) := by decide +kernel
theorem dX4_agree_60 : decode cX4_agree 60 = .ok (.ireturn, 1) := by decide +kernel
theorem dX4_agree_61 : decode cX4_agree 61 = .ok (.iinc 4 1, 3) := by decide +kernel
theorem dX4_agree_64 : decode cX4_agree 64 = .ok (.goto (-61), 3) := by decide +kernel
theorem dX4_agree_67 : decode cX4_agree 67 = .ok (.iconst 1, 1) := by decide +kernel
theorem dX4_agree_68 : decode cX4_agree 68 = .ok (.ireturn, 1) := by decide +kernel
theorem dX5_init_0 : decode cX5_init 0 = .ok (.aload_n 0, 1) := by decide +kernel
theorem dX5_init_1 : decode cX5_init 1 = .ok (.invokespecial 3, 3) := by decide +kernel
theorem dX5_init_4 : decode cX5_init 4 = .ok (.aload_n 0, 1) := by decide +kernel
theorem dX5_init_5 : decode cX5_init 5 = .ok (.bipush 6, 2) := by decide +kernel
theorem dX5_init_7 : decode cX5_init 7 = .ok (.newarray .int, 2) := by decide +kernel
theorem dX5_init_9 : decode cX5_init 9 = .ok (.putfield 9, 3) := by decide +kernel
theorem dX5_init_12 : decode cX5_init 12 = .ok (.return_, 1) := by decide +kernel
theorem dX5_pass_0 : decode cX5_pass 0 = .ok (.iload_n 3, 1) := by decide +kernel
theorem dX5_pass_1 : decode cX5_pass 1 = .ok (.istore 4, 2) := by decide +kernel
theorem dX5_pass_3 : decode cX5_pass 3 = .ok (.iconst 0, 1) := by decide +kernel
theorem dX5_pass_4 : decode cX5_pass 4 = .ok (.istore 5, 2) := by decide +kernel
theorem dX5_pass_6 : decode cX5_pass 6 = .ok (.iload 5, 2) := by decide +kernel
theorem dX5_pass_8 : decode cX5_pass 8 = .ok (.aload_n 1, 1) := by decide +kernel
theorem dX5_pass_9 : decode cX5_pass 9 = .ok (.getfield 15, 3) := by decide +kernel
theorem dX5_pass_12 : decode cX5_pass 12 = .ok (.if_icmp .ge 112, 3) := by decide +kernel
theorem dX5_pass_15 : decode cX5_pass 15 = .ok (.aload_n 1, 1) := by decide +kernel
theorem dX5_pass_16 : decode cX5_pass 16 = .ok (.getfield 21, 3) := by decide +kernel
theorem dX5_pass_19 : decode cX5_pass 19 = .ok (.iload 5, 2) := by decide +kernel
theorem dX5_pass_21 : decode cX5_pass 21 = .ok (.iaload, 1) := by decide +kernel
theorem dX5_pass_22 : decode cX5_pass 22 = .ok (.istore 6, 2) := by decide +kernel
theorem dX5_pass_24 : decode cX5_pass 24 = .ok (.aload_n 2, 1) := by decide +kernel
theorem dX5_pass_25 : decode cX5_pass 25 = .ok (.getfield 24, 3) := by decide +kernel
theorem dX5_pass_28 : decode cX5_pass 28 = .ok (.iload 5, 2) := by decide +kernel
theorem dX5_pass_30 : decode cX5_pass 30 = .ok (.ishr, 1) := by decide +kernel
theorem dX5_pass_31 : decode cX5_pass 31 = .ok (.iconst 1, 1) := by decide +kernel
theorem dX5_pass_32 : decode cX5_pass 32 = .ok (.iand, 1) := by decide +kernel
theorem dX5_pass_33 : decode cX5_pass 33 = .ok (.iconst 1, 1) := by decide +kernel
theorem dX5_pass_34 : decode cX5_pass 34 = .ok (.if_icmp .ne 84, 3) := by decide +kernel
theorem dX5_pass_37 : decode cX5_pass 37 = .ok (.iload 4, 2) := by decide +kernel
theorem dX5_pass_39 : decode cX5_pass 39 = .ok (.iload 6, 2) := by decide +kernel
theorem dX5_pass_41 : decode cX5_pass 41 = .ok (.ishr, 1) := by decide +kernel
theorem dX5_pass_42 : decode cX5_pass 42 = .ok (.iconst 1, 1) := by decide +kernel
theorem dX5_pass_43 : decode cX5_pass 43 = .ok (.iand, 1) := by decide +kernel
theorem dX5_pass_44 : decode cX5_pass 44 = .ok (.ifCond .ne 74, 3) := by decide +kernel
theorem dX5_pass_47 : decode cX5_pass 47 = .ok (.iload 4, 2) := by decide +kernel
theorem dX5_pass_49 : decode cX5_pass 49 = .ok (.iconst 1, 1) := by decide +kernel
theorem dX5_pass_50 : decode cX5_pass 50 = .ok (.iload 6, 2) := by decide +kernel
theorem dX5_pass_52 : decode cX5_pass 52 = .ok (.ishl, 1) := by decide +kernel
theorem dX5_pass_53 : decode cX5_pass 53 = .ok (.ior, 1) := by decide +kernel
theorem dX5_pass_54 : decode cX5_pass 54 = .ok (.istore 4, 2) := by decide +kernel
theorem dX5_pass_56 : decode cX5_pass 56 = .ok (.aload_n 2, 1) := by decide +kernel
theorem dX5_pass_57 : decode cX5_pass 57 = .ok (.getfield 29, 3) := by decide +kernel
theorem dX5_pass_60 : decode cX5_pass 60 = .ok (.iload 6, 2) := by decide +kernel
theorem dX5_pass_62 : decode cX5_pass 62 = .ok (.iaload, 1) := by decide +kernel
theorem dX5_pass_63 : decode cX5_pass 63 = .ok (.istore 7, 2) := by decide +kernel
theorem dX5_pass_65 : decode cX5_pass 65 = .ok (.aload_n 1, 1) := by decide +kernel
theorem dX5_pass_66 : decode cX5_pass 66 = .ok (.getfield 32, 3) := by decide +kernel
theorem dX5_pass_69 : decode cX5_pass 69 = .ok (.iload 6, 2) := by decide +kernel
theorem dX5_pass_71 : decode cX5_pass 71 = .ok (.iaload, 1) := by decide +kernel
theorem dX5_pass_72 : decode cX5_pass 72 = .ok (.ifCond .ne 17, 3) := by decide +kernel
theorem dX5_pass_75 : decode cX5_pass 75 = .ok (.iload 7, 2) := by decide +kernel
theorem dX5_pass_77 : decode cX5_pass 77 = .ok (.aload_n 1, 1) := by decide +kernel
theorem dX5_pass_78 : decode cX5_pass 78 = .ok (.getfield 35, 3) := by decide +kernel
theorem dX5_pass_81 : decode cX5_pass 81 = .ok (.iload 6, 2) := by decide +kernel
theorem dX5_pass_83 : decode cX5_pass 83 = .ok (.iaload, 1) := by decide +kernel
theorem dX5_pass_84 : decode cX5_pass 84 = .ok (.invokestatic 38, 3) := by decide +kernel
theorem dX5_pass_87 : decode cX5_pass 87 = .ok (.istore 7, 2) := by decide +kernel
theorem dX5_pass_89 : decode cX5_pass 89 = .ok (.aload_n 2, 1) := by decide +kernel
theorem dX5_pass_90 : decode cX5_pass 90 = .ok (.getfield 29, 3) := by decide +kernel
theorem dX5_pass_93 : decode cX5_pass 93 = .ok (.iload 6, 2) := by decide +kernel
theorem dX5_pass_95 : decode cX5_pass 95 = .ok (.dup2, 1) := by decide +kernel
theorem dX5_pass_96 : decode cX5_pass 96 = .ok (.iaload, 1) := by decide +kernel
theorem dX5_pass_97 : decode cX5_pass 97 = .ok (.iload 7, 2) := by decide +kernel
theorem dX5_pass_99 : decode cX5_pass 99 = .ok (.isub, 1) := by decide +kernel
theorem dX5_pass_100 : decode cX5_pass 100 = .ok (.iastore, 1) := by decide +kernel
theorem dX5_pass_101 : decode cX5_pass 101 = .ok (.aload_n 0, 1) := by decide +kernel
theorem dX5_pass_102 : decode cX5_pass 102 = .ok (.getfield 9, 3) := by decide +kernel
theorem dX5_pass_105 : decode cX5_pass 105 = .ok (.aload_n 1, 1) := by decide +kernel
theorem dX5_pass_106 : decode cX5_pass 106 = .ok (.getfield 44, 3) := by decide +kernel
theorem dX5_pass_109 : decode cX5_pass 109 = .ok (.iload 5, 2) := by decide +kernel
theorem dX5_pass_111 : decode cX5_pass 111 = .ok (.iaload, 1) := by decide +kernel
theorem dX5_pass_112 : decode cX5_pass 112 = .ok (.dup2, 1) := by decide +kernel
theorem dX5_pass_113 : decode cX5_pass 113 = .ok (.iaload, 1) := by decide +kernel
theorem dX5_pass_114 : decode cX5_pass 114 = .ok (.iload 7, 2) := by decide +kernel
theorem dX5_pass_116 : decode cX5_pass 116 = .ok (.iadd, 1) := by decide +kernel
theorem dX5_pass_117 : decode cX5_pass 117 = .ok (.iastore, 1) := by decide +kernel
theorem dX5_pass_118 : decode cX5_pass 118 = .ok (.iinc 5 1, 3) := by decide +kernel
theorem dX5_pass_121 : decode cX5_pass 121 = .ok (.goto (-115), 3) := by decide +kernel
theorem dX5_pass_124 : decode cX5_pass 124 = .ok (.aload_n 2, 1) := by decide +kernel
theorem dX5_pass_125 : decode cX5_pass 125 = .ok (.dup, 1) := by decide +kernel
theorem dX5_pass_126 : decode cX5_pass 126 = .ok (.getfield 47, 3) := by decide +kernel
theorem dX5_pass_129 : decode cX5_pass 129 = .ok (.iconst 1, 1) := by decide +kernel
theorem dX5_pass_130 : decode cX5_pass 130 = .ok (.iadd, 1) := by decide +kernel
theorem dX5_pass_131 : decode cX5_pass 131 = .ok (.putfield 47, 3) := by decide +kernel
theorem dX5_pass_134 : decode cX5_pass 134 = .ok (.iconst 0, 1) := by decide +kernel
theorem dX5_pass_135 : decode cX5_pass 135 = .ok (.istore 5, 2) := by decide +kernel
theorem dX5_pass_137 : decode cX5_pass 137 = .ok (.iconst 0, 1) := by decide +kernel
theorem dX5_pass_138 : decode cX5_pass 138 = .ok (.istore 6, 2) := by decide +kernel
theorem dX5_pass_140 : decode cX5_pass 140 = .ok (.iload 6, 2) := by decide +kernel
theorem dX5_pass_142 : decode cX5_pass 142 = .ok (.aload_n 1, 1) := by decide +kernel
theorem dX5_pass_143 : decode cX5_pass 143 = .ok (.getfield 50, 3) := by decide +kernel
theorem dX5_pass_146 : decode cX5_pass 146 = .ok (.if_icmp .ge 47, 3) := by decide +kernel
theorem dX5_pass_149 : decode cX5_pass 149 = .ok (.aload_n 0, 1) := by decide +kernel
theorem dX5_pass_150 : decode cX5_pass 150 = .ok (.getfield 9, 3) := by decide +kernel
theorem dX5_pass_153 : decode cX5_pass 153 = .ok (.iload 6, 2) := by decide +kernel
theorem dX5_pass_155 : decode cX5_pass 155 = .ok (.iaload, 1) := by decide +kernel
theorem dX5_pass_156 : decode cX5_pass 156 = .ok (.ifCond .le 31, 3) := by decide +kernel
theorem dX5_pass_159 : decode cX5_pass 159 = .ok (.iload 5, 2) := by decide +kernel
theorem dX5_pass_161 : decode cX5_pass 161 = .ok (.aload_n 0, 1) := by decide +kernel
theorem dX5_pass_162 : decode cX5_pass 162 = .ok (.aload_n 1, 1) := by decide +kernel
theorem dX5_pass_163 : decode cX5_pass 163 = .ok (.aload_n 2, 1) := by decide +kernel
theorem dX5_pass_164 : decode cX5_pass 164 = .ok (.iload 6, 2) := by decide +kernel
theorem dX5_pass_166 : decode cX5_pass 166 = .ok (.aload_n 0, 1) := by decide +kernel
theorem dX5_pass_167 : decode cX5_pass 167 = .ok (.getfield 9, 3) := by decide +kernel
theorem dX5_pass_170 : decode cX5_pass 170 = .ok (.iload 6, 2) := by decide +kernel
theorem dX5_pass_172 : decode cX5_pass 172 = .ok (.iaload, 1) := by decide +kernel
theorem dX5_pass_173 : decode cX5_pass 173 = .ok (.invokevirtual 53, 3) := by decide +kernel
theorem dX5_pass_176 : decode cX5_pass 176 = .ok (.iadd, 1) := by decide +kernel
theorem dX5_pass_177 : decode cX5_pass 177 = .ok (.istore 5, 2) := by decide +kernel
theorem dX5_pass_179 : decode cX5_pass 179 = .ok (.aload_n 0, 1) := by decide +kernel
theorem dX5_pass_180 : decode cX5_pass 180 = .ok (.getfield 9, 3) := by decide +kernel
theorem dX5_pass_183 : decode cX5_pass 183 = .ok (.iload 6, 2) := by decide +kernel
theorem dX5_pass_185 : decode cX5_pass 185 = .ok (.iconst 0, 1) := by decide +kernel
theorem dX5_pass_186 : decode cX5_pass 186 = .ok (.iastore, 1) := by decide +kernel
theorem dX5_pass_187 : decode cX5_pass 187 = .ok (.iinc 6 1, 3) := by decide +kernel
theorem dX5_pass_190 : decode cX5_pass 190 = .ok (.goto (-50), 3) := by decide +kernel
theorem dX5_pass_193 : decode cX5_pass 193 = .ok (.iload 5, 2) := by decide +kernel
theorem dX5_pass_195 : decode cX5_pass 195 = .ok (.ireturn, 1) := by decide +kernel
theorem dX5_arrive_0 : decode cX5_arrive 0 = .ok (.aload_n 2, 1) := by decide +kernel
theorem dX5_arrive_1 : decode cX5_arrive 1 = .ok (.getfield 29, 3) := by decide +kernel
theorem dX5_arrive_4 : decode cX5_arrive 4 = .ok (.iload_n 3, 1) := by decide +kernel
theorem dX5_arrive_5 : decode cX5_arrive 5 = .ok (.dup2, 1) := by decide +kernel
theorem dX5_arrive_6 : decode cX5_arrive 6 = .ok (.iaload, 1) := by decide +kernel
theorem dX5_arrive_7 : decode cX5_arrive 7 = .ok (.iload 4, 2) := by decide +kernel
theorem dX5_arrive_9 : decode cX5_arrive 9 = .ok (.iadd, 1) := by decide +kernel
theorem dX5_arrive_10 : decode cX5_arrive 10 = .ok (.iastore, 1) := by decide +kernel
theorem dX5_arrive_11 : decode cX5_arrive 11 = .ok (.aload_n 1, 1) := by decide +kernel
theorem dX5_arrive_12 : decode cX5_arrive 12 = .ok (.getfield 32, 3) := by decide +kernel
theorem dX5_arrive_15 : decode cX5_arrive 15 = .ok (.iload_n 3, 1) := by decide +kernel
theorem dX5_arrive_16 : decode cX5_arrive 16 = .ok (.iaload, 1) := by decide +kernel
theorem dX5_arrive_17 : decode cX5_arrive 17 = .ok (.iconst 3, 1) := by decide +kernel
theorem dX5_arrive_18 : decode cX5_arrive 18 = .ok (.if_icmp .ne 24, 3) := by decide +kernel
theorem dX5_arrive_21 : decode cX5_arrive 21 = .ok (.aload_n 2, 1) := by decide +kernel
theorem dX5_arrive_22 : decode cX5_arrive 22 = .ok (.getfield 57, 3) := by decide +kernel
theorem dX5_arrive_25 : decode cX5_arrive 25 = .ok (.iload_n 3, 1) := by decide +kernel
theorem dX5_arrive_26 : decode cX5_arrive 26 = .ok (.iaload, 1) := by decide +kernel
theorem dX5_arrive_27 : decode cX5_arrive 27 = .ok (.bipush (-9), 2) := by decide +kernel
theorem dX5_arrive_29 : decode cX5_arrive 29 = .ok (.if_icmp .ne 13, 3) := by decide +kernel
theorem dX5_arrive_32 : decode cX5_arrive 32 = .ok (.aload_n 2, 1) := by decide +kernel
theorem dX5_arrive_33 : decode cX5_arrive 33 = .ok (.getfield 57, 3) := by decide +kernel
theorem dX5_arrive_36 : decode cX5_arrive 36 = .ok (.iload_n 3, 1) := by decide +kernel
theorem dX5_arrive_37 : decode cX5_arrive 37 = .ok (.aload_n 2, 1) := by decide +kernel
theorem dX5_arrive_38 : decode cX5_arrive 38 = .ok (.getfield 47, 3) := by decide +kernel
theorem dX5_arrive_41 : decode cX5_arrive 41 = .ok (.iastore, 1) := by decide +kernel
theorem dX5_arrive_42 : decode cX5_arrive 42 = .ok (.aload_n 1, 1) := by decide +kernel
theorem dX5_arrive_43 : decode cX5_arrive 43 = .ok (.getfield 32, 3) := by decide +kernel
theorem dX5_arrive_46 : decode cX5_arrive 46 = .ok (.iload_n 3, 1) := by decide +kernel
theorem dX5_arrive_47 : decode cX5_arrive 47 = .ok (.iaload, 1) := by decide +kernel
theorem dX5_arrive_48 : decode cX5_arrive 48 = .ok (.iconst 1, 1) := by decide +kernel
theorem dX5_arrive_49 : decode cX5_arrive 49 = .ok (.if_icmp .eq 5, 3) := by decide +kernel
theorem dX5_arrive_52 : decode cX5_arrive 52 = .ok (.iconst 0, 1) := by decide +kernel
theorem dX5_arrive_53 : decode cX5_arrive 53 = .ok (.ireturn, 1) := by decide +kernel
theorem dX5_arrive_54 : decode cX5_arrive 54 = .ok (.aload_n 2, 1) := by decide +kernel
theorem dX5_arrive_55 : decode cX5_arrive 55 = .ok (.getfield 60, 3) := by decide +kernel
theorem dX5_arrive_58 : decode cX5_arrive 58 = .ok (.iload_n 3, 1) := by decide +kernel
theorem dX5_arrive_59 : decode cX5_arrive 59 = .ok (.iaload, 1) := by decide +kernel
theorem dX5_arrive_60 : decode cX5_arrive 60 = .ok (.iload 4, 2) := by decide +kernel
theorem dX5_arrive_62 : decode cX5_arrive 62 = .ok (.invokestatic 38, 3) := by decide +kernel
theorem dX5_arrive_65 : decode cX5_arrive 65 = .ok (.istore 5, 2) := by decide +kernel
theorem dX5_arrive_67 : decode cX5_arrive 67 = .ok (.aload_n 2, 1) := by decide +kernel
theorem dX5_arrive_68 : decode cX5_arrive 68 = .ok (.getfield 60, 3) := by decide +kernel
theorem dX5_arrive_71 : decode cX5_arrive 71 = .ok (.iload_n 3, 1) := by decide +kernel
theorem dX5_arrive_72 : decode cX5_arrive 72 = .ok (.dup2, 1) := by decide +kernel
theorem dX5_arrive_73 : decode cX5_arrive 73 = .ok (.iaload, 1) := by decide +kernel
theorem dX5_arrive_74 : decode cX5_arrive 74 = .ok (.iload 5, 2) := by decide +kernel
theorem dX5_arrive_76 : decode cX5_arrive 76 = .ok (.isub, 1) := by decide +kernel
theorem dX5_arrive_77 : decode cX5_arrive 77 = .ok (.iastore, 1) := by decide +kernel
theorem dX5_arrive_78 : decode cX5_arrive 78 = .ok (.iload 5, 2) := by decide +kernel
theorem dX5_arrive_80 : decode cX5_arrive 80 = .ok (.ireturn, 1) := by decide +kernel
theorem dX6_init_0 : decode cX6_init 0 = .ok (.aload_n 0, 1) := by decide +kernel
theorem dX6_init_1 : decode cX6_init 1 = .ok (.invokespecial 3, 3) := by decide +kernel
theorem dX6_init_4 : decode cX6_init 4 = .ok (.aload_n 0, 1) := by decide +kernel
theorem dX6_init_5 : decode cX6_init 5 = .ok (.bipush 48, 2) := by decide +kernel
theorem dX6_init_7 : decode cX6_init 7 = .ok (.newarray .int, 2) := by decide +kernel
theorem dX6_init_9 : decode cX6_init 9 = .ok (.putfield 9, 3) := by decide +kernel
theorem dX6_init_12 : decode cX6_init 12 = .ok (.aload_n 0, 1) := by decide +kernel
theorem dX6_init_13 : decode cX6_init 13 = .ok (.new 13, 3) := by decide +kernel
theorem dX6_init_16 : decode cX6_init 16 = .ok (.dup, 1) := by decide +kernel
theorem dX6_init_17 : decode cX6_init 17 = .ok (.invokespecial 15, 3) := by decide +kernel
theorem dX6_init_20 : decode cX6_init 20 = .ok (.putfield 16, 3) := by decide +kernel
theorem dX6_init_23 : decode cX6_init 23 = .ok (.aload_n 0, 1) := by decide +kernel
theorem dX6_init_24 : decode cX6_init 24 = .ok (.new 20, 3) := by decide +kernel
theorem dX6_init_27 : decode cX6_init 27 = .ok (.dup, 1) := by decide +kernel
theorem dX6_init_28 : decode cX6_init 28 = .ok (.invokespecial 22, 3) := by decide +kernel
theorem dX6_init_31 : decode cX6_init 31 = .ok (.putfield 23, 3) := by decide +kernel
theorem dX6_init_34 : decode cX6_init 34 = .ok (.aload_n 0, 1) := by decide +kernel
theorem dX6_init_35 : decode cX6_init 35 = .ok (.new 20, 3) := by decide +kernel
theorem dX6_init_38 : decode cX6_init 38 = .ok (.dup, 1) := by decide +kernel
theorem dX6_init_39 : decode cX6_init 39 = .ok (.invokespecial 22, 3) := by decide +kernel
theorem dX6_init_42 : decode cX6_init 42 = .ok (.putfield 27, 3) := by decide +kernel
theorem dX6_init_45 : decode cX6_init 45 = .ok (.aload_n 0, 1) := by decide +kernel
theorem dX6_init_46 : decode cX6_init 46 = .ok (.new 30, 3) := by decide +kernel
theorem dX6_init_49 : decode cX6_init 49 = .ok (.dup, 1) := by decide +kernel
theorem dX6_init_50 : decode cX6_init 50 = .ok (.invokespecial 32, 3) := by decide +kernel
theorem dX6_init_53 : decode cX6_init 53 = .ok (.putfield 33, 3) := by decide +kernel
theorem dX6_init_56 : decode cX6_init 56 = .ok (.aload_n 0, 1) := by decide +kernel
theorem dX6_init_57 : decode cX6_init 57 = .ok (.new 37, 3) := by decide +kernel
theorem dX6_init_60 : decode cX6_init 60 = .ok (.dup, 1) := by decide +kernel
theorem dX6_init_61 : decode cX6_init 61 = .ok (.invokespecial 39, 3) := by decide +kernel
theorem dX6_init_64 : decode cX6_init 64 = .ok (.putfield 40, 3) := by decide +kernel
theorem dX6_init_67 : decode cX6_init 67 = .ok (.aload_n 0, 1) := by decide +kernel
theorem dX6_init_68 : decode cX6_init 68 = .ok (.new 44, 3) := by decide +kernel
theorem dX6_init_71 : decode cX6_init 71 = .ok (.dup, 1) := by decide +kernel
theorem dX6_init_72 : decode cX6_init 72 = .ok (.invokespecial 46, 3) := by decide +kernel
theorem dX6_init_75 : decode cX6_init 75 = .ok (.putfield 47, 3) := by decide +kernel
theorem dX6_init_78 : decode cX6_init 78 = .ok (.aload_n 0, 1) := by decide +kernel
theorem dX6_init_79 : decode cX6_init 79 = .ok (.new 51, 3) := by decide +kernel
theorem dX6_init_82 : decode cX6_init 82 = .ok (.dup, 1) := by decide +kernel
theorem dX6_init_83 : decode cX6_init 83 = .ok (.invokespecial 53, 3) := by decide +kernel
theorem dX6_init_86 : decode cX6_init 86 = .ok (.putfield 54, 3) := by decide +kernel
theorem dX6_init_89 : decode cX6_init 89 = .ok (.aload_n 0, 1) := by decide +kernel
theorem dX6_init_90 : decode cX6_init 90 = .ok (.iconst 2, 1) := by decide +kernel
theorem dX6_init_91 : decode cX6_init 91 = .ok (.anewarray 37, 3) := by decide +kernel
theorem dX6_init_94 : decode cX6_init 94 = .ok (.putfield 58, 3) := by decide +kernel
theorem dX6_init_97 : decode cX6_init 97 = .ok (.aload_n 0, 1) := by decide +kernel
theorem dX6_init_98 : decode cX6_init 98 = .ok (.new 37, 3) := by decide +kernel
theorem dX6_init_101 : decode cX6_init 101 = .ok (.dup, 1) := by decide +kernel
theorem dX6_init_102 : decode cX6_init 102 = .ok (.invokespecial 39, 3) := by decide +kernel
theorem dX6_init_105 : decode cX6_init 105 = .ok (.putfield 62, 3) := by decide +kernel
theorem dX6_init_108 : decode cX6_init 108 = .ok (.aload_n 0, 1) := by decide +kernel
theorem dX6_init_109 : decode cX6_init 109 = .ok (.new 37, 3) := by decide +kernel
theorem dX6_init_112 : decode cX6_init 112 = .ok (.dup, 1) := by decide +kernel
theorem dX6_init_113 : decode cX6_init 113 = .ok (.invokespecial 39, 3) := by decide +kernel
theorem dX6_init_116 : decode cX6_init 116 = .ok (.putfield 65, 3) := by decide +kernel
theorem dX6_init_119 : decode cX6_init 119 = .ok (.aload_n 0, 1) := by decide +kernel
theorem dX6_init_120 : decode cX6_init 120 = .ok (.iconst 5, 1) := by decide +kernel
theorem dX6_init_121 : decode cX6_init 121 = .ok (.anewarray 37, 3) := by decide +kernel
theorem dX6_init_124 : decode cX6_init 124 = .ok (.putfield 68, 3) := by decide +kernel
theorem dX6_init_127 : decode cX6_init 127 = .ok (.aload_n 0, 1) := by decide +kernel
theorem dX6_init_128 : decode cX6_init 128 = .ok (.bipush 8, 2) := by decide +kernel
theorem dX6_init_130 : decode cX6_init 130 = .ok (.newarray .int, 2) := by decide +kernel
theorem dX6_init_132 : decode cX6_init 132 = .ok (.putfield 71, 3) := by decide +kernel
theorem dX6_init_135 : decode cX6_init 135 = .ok (.iconst 0, 1) := by decide +kernel
theorem dX6_init_136 : decode cX6_init 136 = .ok (.istore_n 1, 1) := by decide +kernel
theorem dX6_init_137 : decode cX6_init 137 = .ok (.iload_n 1, 1) := by decide +kernel
theorem dX6_init_138 : decode cX6_init 138 = .ok (.iconst 2, 1) := by decide +kernel
theorem dX6_init_139 : decode cX6_init 139 = .ok (.if_icmp .ge 22, 3) := by decide +kernel
theorem dX6_init_142 : decode cX6_init 142 = .ok (.aload_n 0, 1) := by decide +kernel
theorem dX6_init_143 : decode cX6_init 143 = .ok (.getfield 58, 3) := by decide +kernel
theorem dX6_init_146 : decode cX6_init 146 = .ok (.iload_n 1, 1) := by decide +kernel
theorem dX6_init_147 : decode cX6_init 147 = .ok (.new 37, 3) := by decide +kernel
theorem dX6_init_150 : decode cX6_init 150 = .ok (.dup, 1) := by decide +kernel
theorem dX6_init_151 : decode cX6_init 151 = .ok (.invokespecial 39, 3) := by decide +kernel
theorem dX6_init_154 : decode cX6_init 154 = .ok (.aastore, 1) := by decide +kernel
theorem dX6_init_155 : decode cX6_init 155 = .ok (.iinc 1 1, 3) := by decide +kernel
theorem dX6_init_158 : decode cX6_init 158 = .ok (.goto (-21), 3) := by decide +kernel
theorem dX6_init_161 : decode cX6_init 161 = .ok (.iconst 0, 1) := by decide +kernel
theorem dX6_init_162 : decode cX6_init 162 = .ok (.istore_n 1, 1) := by decide +kernel
theorem dX6_init_163 : decode cX6_init 163 = .ok (.iload_n 1, 1) := by decide +kernel
theorem dX6_init_164 : decode cX6_init 164 = .ok (.iconst 4, 1) := by decide +kernel
theorem dX6_init_165 : decode cX6_init 165 = .ok (.if_icmp .gt 22, 3) := by decide +kernel
theorem dX6_init_168 : decode cX6_init 168 = .ok (.aload_n 0, 1) := by decide +kernel
theorem dX6_init_169 : decode cX6_init 169 = .ok (.getfield 68, 3) := by decide +kernel
theorem dX6_init_172 : decode cX6_init 172 = .ok (.iload_n 1, 1) := by decide +kernel
theorem dX6_init_173 : decode cX6_init 173 = .ok (.new 37, 3) := by decide +kernel
theorem dX6_init_176 : decode cX6_init 176 = .ok (.dup, 1) := by decide +kernel
theorem dX6_init_177 : decode cX6_init 177 = .ok (.invokespecial 39, 3) := by decide +kernel
theorem dX6_init_180 : decode cX6_init 180 = .ok (.aastore, 1) := by decide +kernel
theorem dX6_init_181 : decode cX6_init 181 = .ok (.iinc 1 1, 3) := by decide +kernel
theorem dX6_init_184 : decode cX6_init 184 = .ok (.goto (-21), 3) := by decide +kernel
theorem dX6_init_187 : decode cX6_init 187 = .ok (.aload_n 0, 1) := by decide +kernel
theorem dX6_init_188 : decode cX6_init 188 = .ok (.getfield 40, 3) := by decide +kernel
theorem dX6_init_191 : decode cX6_init 191 = .ok (.aload_n 0, 1) := by decide +kernel
theorem dX6_init_192 : decode cX6_init 192 = .ok (.getfield 23, 3) := by decide +kernel
theorem dX6_init_195 : decode cX6_init 195 = .ok (.invokevirtual 74, 3) := by decide +kernel
theorem dX6_init_198 : decode cX6_init 198 = .ok (.return_, 1) := by decide +kernel
theorem dX6_write_0 : decode cX6_write 0 = .ok (.iload_n 1, 1) := by decide +kernel
theorem dX6_write_1 : decode cX6_write 1 = .ok (.ifCond .lt 10, 3) := by decide +kernel
theorem dX6_write_4 : decode cX6_write 4 = .ok (.iload_n 1, 1) := by decide +kernel
theorem dX6_write_5 : decode cX6_write 5 = .ok (.sipush 255, 3) := by decide +kernel
theorem dX6_write_8 : decode cX6_write 8 = .ok (.if_icmp .le 6, 3) := by decide +kernel
theorem dX6_write_11 : decode cX6_write 11 = .ok (.bipush (-2), 2) := by decide +kernel
theorem dX6_write_13 : decode cX6_write 13 = .ok (.ireturn, 1) := by decide +kernel
theorem dX6_write_14 : decode cX6_write 14 = .ok (.aload_n 0, 1) := by decide +kernel
theorem dX6_write_15 : decode cX6_write 15 = .ok (.getfield 78, 3) := by decide +kernel
theorem dX6_write_18 : decode cX6_write 18 = .ok (.bipush 48, 2) := by decide +kernel
theorem dX6_write_20 : decode cX6_write 20 = .ok (.if_icmp .lt 6, 3) := by decide +kernel
theorem dX6_write_23 : decode cX6_write 23 = .ok (.bipush (-4), 2) := by decide +kernel
theorem dX6_write_25 : decode cX6_write 25 = .ok (.ireturn, 1) := by decide +kernel
theorem dX6_write_26 : decode cX6_write 26 = .ok (.aload_n 0, 1) := by decide +kernel
theorem dX6_write_27 : decode cX6_write 27 = .ok (.getfield 9, 3) := by decide +kernel
theorem dX6_write_30 : decode cX6_write 30 = .ok (.aload_n 0, 1) := by decide +kernel
theorem dX6_write_31 : decode cX6_write 31 = .ok (.getfield 78, 3) := by decide +kernel
theorem dX6_write_34 : decode cX6_write 34 = .ok (.iload_n 1, 1) := by decide +kernel
theorem dX6_write_35 : decode cX6_write 35 = .ok (.iastore, 1) := by decide +kernel
theorem dX6_write_36 : decode cX6_write 36 = .ok (.aload_n 0, 1) := by decide +kernel
theorem dX6_write_37 : decode cX6_write 37 = .ok (.dup, 1) := by decide +kernel
theorem dX6_write_38 : decode cX6_write 38 = .ok (.getfield 78, 3) := by decide +kernel
theorem dX6_write_41 : decode cX6_write 41 = .ok (.iconst 1, 1) := by decide +kernel
theorem dX6_write_42 : decode cX6_write 42 = .ok (.iadd, 1) := by decide +kernel
theorem dX6_write_43 : decode cX6_write 43 = .ok (.putfield 78, 3) := by decide +kernel
theorem dX6_write_46 : decode cX6_write 46 = .ok (.aload_n 0, 1) := by decide +kernel
theorem dX6_write_47 : decode cX6_write 47 = .ok (.getfield 78, 3) := by decide +kernel
theorem dX6_write_50 : decode cX6_write 50 = .ok (.ireturn, 1) := by decide +kernel
theorem dX6_wipe_0 : decode cX6_wipe 0 = .ok (.aload_n 0, 1) := by decide +kernel
theorem dX6_wipe_1 : decode cX6_wipe 1 = .ok (.getfield 78, 3) := by decide +kernel
theorem dX6_wipe_4 : decode cX6_wipe 4 = .ok (.istore_n 1, 1) := by decide +kernel
theorem dX6_wipe_5 : decode cX6_wipe 5 = .ok (.aload_n 0, 1) := by decide +kernel
theorem dX6_wipe_6 : decode cX6_wipe 6 = .ok (.iconst 0, 1) := by decide +kernel
theorem dX6_wipe_7 : decode cX6_wipe 7 = .ok (.putfield 78, 3) := by decide +kernel
theorem dX6_wipe_10 : decode cX6_wipe 10 = .ok (.iload_n 1, 1) := by decide +kernel
theorem dX6_wipe_11 : decode cX6_wipe 11 = .ok (.ireturn, 1) := by decide +kernel
theorem dX6_fault_0 : decode cX6_fault 0 = .ok (.aload_n 0, 1) := by decide +kernel
theorem dX6_fault_1 : decode cX6_fault 1 = .ok (.getfield 16, 3) := by decide +kernel
theorem dX6_fault_4 : decode cX6_fault 4 = .ok (.aload_n 0, 1) := by decide +kernel
theorem dX6_fault_5 : decode cX6_fault 5 = .ok (.getfield 27, 3) := by decide +kernel
theorem dX6_fault_8 : decode cX6_fault 8 = .ok (.aload_n 0, 1) := by decide +kernel
theorem dX6_fault_9 : decode cX6_fault 9 = .ok (.getfield 9, 3) := by decide +kernel
theorem dX6_fault_12 : decode cX6_fault 12 = .ok (.aload_n 0, 1) := by decide +kernel
theorem dX6_fault_13 : decode cX6_fault 13 = .ok (.getfield 78, 3) := by decide +kernel
theorem dX6_fault_16 : decode cX6_fault 16 = .ok (.invokevirtual 82, 3) := by decide +kernel
theorem dX6_fault_19 : decode cX6_fault 19 = .ok (.ireturn, 1) := by decide +kernel
theorem dX6_land_0 : decode cX6_land 0 = .ok (.aload_n 0, 1) := by decide +kernel
theorem dX6_land_1 : decode cX6_land 1 = .ok (.getfield 16, 3) := by decide +kernel
theorem dX6_land_4 : decode cX6_land 4 = .ok (.aload_n 0, 1) := by decide +kernel
theorem dX6_land_5 : decode cX6_land 5 = .ok (.getfield 27, 3) := by decide +kernel
theorem dX6_land_8 : decode cX6_land 8 = .ok (.aload_n 0, 1) := by decide +kernel
theorem dX6_land_9 : decode cX6_land 9 = .ok (.getfield 9, 3) := by decide +kernel
theorem dX6_land_12 : decode cX6_land 12 = .ok (.aload_n 0, 1) := by decide +kernel
theorem dX6_land_13 : decode cX6_land 13 = .ok (.getfield 78, 3) := by decide +kernel
theorem dX6_land_16 : decode cX6_land 16 = .ok (.invokevirtual 82, 3) := by decide +kernel
theorem dX6_land_19 : decode cX6_land 19 = .ok (.bipush (-9), 2) := by decide +kernel
theorem dX6_land_21 : decode cX6_land 21 = .ok (.if_icmp .eq 6, 3) := by decide +kernel
theorem dX6_land_24 : decode cX6_land 24 = .ok (.bipush (-3), 2) := by decide +kernel
theorem dX6_land_26 : decode cX6_land 26 = .ok (.ireturn, 1) := by decide +kernel
theorem dX6_land_27 : decode cX6_land 27 = .ok (.aload_n 0, 1) := by decide +kernel
theorem dX6_land_28 : decode cX6_land 28 = .ok (.getfield 23, 3) := by decide +kernel
theorem dX6_land_31 : decode cX6_land 31 = .ok (.astore_n 1, 1) := by decide +kernel
theorem dX6_land_32 : decode cX6_land 32 = .ok (.aload_n 0, 1) := by decide +kernel
theorem dX6_land_33 : decode cX6_land 33 = .ok (.aload_n 0, 1) := by decide +kernel
theorem dX6_land_34 : decode cX6_land 34 = .ok (.getfield 27, 3) := by decide +kernel
theorem dX6_land_37 : decode cX6_land 37 = .ok (.putfield 23, 3) := by decide +kernel
theorem dX6_land_40 : decode cX6_land 40 = .ok (.aload_n 0, 1) := by decide +kernel
theorem dX6_land_41 : decode cX6_land 41 = .ok (.aload_n 1, 1) := by decide +kernel
theorem dX6_land_42 : decode cX6_land 42 = .ok (.putfield 27, 3) := by decide +kernel
theorem dX6_land_45 : decode cX6_land 45 = .ok (.aload_n 0, 1) := by decide +kernel
theorem dX6_land_46 : decode cX6_land 46 = .ok (.getfield 40, 3) := by decide +kernel
theorem dX6_land_49 : decode cX6_land 49 = .ok (.aload_n 0, 1) := by decide +kernel
theorem dX6_land_50 : decode cX6_land 50 = .ok (.getfield 23, 3) := by decide +kernel
theorem dX6_land_53 : decode cX6_land 53 = .ok (.invokevirtual 74, 3) := by decide +kernel
theorem dX6_land_56 : decode cX6_land 56 = .ok (.aload_n 0, 1) := by decide +kernel
theorem dX6_land_57 : decode cX6_land 57 = .ok (.getfield 47, 3) := by decide +kernel
theorem dX6_land_60 : decode cX6_land 60 = .ok (.invokevirtual 86, 3) := by decide +kernel
theorem dX6_land_63 : decode cX6_land 63 = .ok (.aload_n 0, 1) := by decide +kernel
theorem dX6_land_64 : decode cX6_land 64 = .ok (.iconst 0, 1) := by decide +kernel
theorem dX6_land_65 : decode cX6_land 65 = .ok (.putfield 89, 3) := by decide +kernel
theorem dX6_land_68 : decode cX6_land 68 = .ok (.bipush 10, 2) := by decide +kernel
theorem dX6_land_70 : decode cX6_land 70 = .ok (.aload_n 0, 1) := by decide +kernel
theorem dX6_land_71 : decode cX6_land 71 = .ok (.getfield 23, 3) := by decide +kernel
theorem dX6_land_74 : decode cX6_land 74 = .ok (.getfield 92, 3) := by decide +kernel
theorem dX6_land_77 : decode cX6_land 77 = .ok (.imul, 1) := by decide +kernel
theorem dX6_land_78 : decode cX6_land 78 = .ok (.aload_n 0, 1) := by decide +kernel
theorem dX6_land_79 : decode cX6_land 79 = .ok (.getfield 23, 3) := by decide +kernel
theorem dX6_land_82 : decode cX6_land 82 = .ok (.getfield 95, 3) := by decide +kernel
theorem dX6_land_85 : decode cX6_land 85 = .ok (.iadd, 1) := by decide +kernel
theorem dX6_land_86 : decode cX6_land 86 = .ok (.ireturn, 1) := by decide +kernel
theorem dX6_place_0 : decode cX6_place 0 = .ok (.aload_n 0, 1) := by decide +kernel
theorem dX6_place_1 : decode cX6_place 1 = .ok (.getfield 23, 3) := by decide +kernel
theorem dX6_place_4 : decode cX6_place 4 = .ok (.iload_n 1, 1) := by decide +kernel
theorem dX6_place_5 : decode cX6_place 5 = .ok (.invokevirtual 98, 3) := by decide +kernel
theorem dX6_place_8 : decode cX6_place 8 = .ok (.ifCond .ne 5, 3) := by decide +kernel
theorem dX6_place_11 : decode cX6_place 11 = .ok (.iconst (-1), 1) := by decide +kernel
theorem dX6_place_12 : decode cX6_place 12 = .ok (.ireturn, 1) := by decide +kernel
theorem dX6_place_13 : decode cX6_place 13 = .ok (.iload_n 2, 1) := by decide +kernel
theorem dX6_place_14 : decode cX6_place 14 = .ok (.tableswitch 104 0 5 #[38, 48, 58, 68, 78, 88], 38) := by decide +kernel
theorem dX6_place_52 : decode cX6_place 52 = .ok (.aload_n 0, 1) := by decide +kernel
theorem dX6_place_53 : decode cX6_place 53 = .ok (.getfield 23, 3) := by decide +kernel
theorem dX6_place_56 : decode cX6_place 56 = .ok (.getfield 102, 3) := by decide +kernel
theorem dX6_place_59 : decode cX6_place 59 = .ok (.iload_n 1, 1) := by decide +kernel
theorem dX6_place_60 : decode cX6_place 60 = .ok (.iaload, 1) := by decide +kernel
theorem dX6_place_61 : decode cX6_place 61 = .ok (.ireturn, 1) := by decide +kernel
theorem dX6_place_62 : decode cX6_place 62 = .ok (.aload_n 0, 1) := by decide +kernel
theorem dX6_place_63 : decode cX6_place 63 = .ok (.getfield 40, 3) := by decide +kernel
theorem dX6_place_66 : decode cX6_place 66 = .ok (.getfield 105, 3) := by decide +kernel
theorem dX6_place_69 : decode cX6_place 69 = .ok (.iload_n 1, 1) := by decide +kernel
theorem dX6_place_70 : decode cX6_place 70 = .ok (.iaload, 1) := by decide +kernel
theorem dX6_place_71 : decode cX6_place 71 = .ok (.ireturn, 1) := by decide +kernel
theorem dX6_place_72 : decode cX6_place 72 = .ok (.aload_n 0, 1) := by decide +kernel
theorem dX6_place_73 : decode cX6_place 73 = .ok (.getfield 40, 3) := by decide +kernel
theorem dX6_place_76 : decode cX6_place 76 = .ok (.getfield 108, 3) := by decide +kernel
theorem dX6_place_79 : decode cX6_place 79 = .ok (.iload_n 1, 1) := by decide +kernel
theorem dX6_place_80 : decode cX6_place 80 = .ok (.iaload, 1) := by decide +kernel
theorem dX6_place_81 : decode cX6_place 81 = .ok (.ireturn, 1) := by decide +kernel
theorem dX6_place_82 : decode cX6_place 82 = .ok (.aload_n 0, 1) := by decide +kernel
theorem dX6_place_83 : decode cX6_place 83 = .ok (.getfield 23, 3) := by decide +kernel
theorem dX6_place_86 : decode cX6_place 86 = .ok (.getfield 111, 3) := by decide +kernel
theorem dX6_place_89 : decode cX6_place 89 = .ok (.iload_n 1, 1) := by decide +kernel
theorem dX6_place_90 : decode cX6_place 90 = .ok (.iaload, 1) := by decide +kernel
theorem dX6_place_91 : decode cX6_place 91 = .ok (.ireturn, 1) := by decide +kernel
theorem dX6_place_92 : decode cX6_place 92 = .ok (.aload_n 0, 1) := by decide +kernel
theorem dX6_place_93 : decode cX6_place 93 = .ok (.getfield 40, 3) := by decide +kernel
theorem dX6_place_96 : decode cX6_place 96 = .ok (.getfield 114, 3) := by decide +kernel
theorem dX6_place_99 : decode cX6_place 99 = .ok (.iload_n 1, 1) := by decide +kernel
theorem dX6_place_100 : decode cX6_place 100 = .ok (.iaload, 1) := by decide +kernel
theorem dX6_place_101 : decode cX6_place 101 = .ok (.ireturn, 1) := by decide +kernel
theorem dX6_place_102 : decode cX6_place 102 = .ok (.aload_n 0, 1) := by decide +kernel
theorem dX6_place_103 : decode cX6_place 103 = .ok (.getfield 23, 3) := by decide +kernel
theorem dX6_place_106 : decode cX6_place 106 = .ok (.iload_n 1, 1) := by decide +kernel
theorem dX6_place_107 : decode cX6_place 107 = .ok (.aload_n 0, 1) := by decide +kernel
theorem dX6_place_108 : decode cX6_place 108 = .ok (.getfield 40, 3) := by decide +kernel
theorem dX6_place_111 : decode cX6_place 111 = .ok (.getfield 117, 3) := by decide +kernel
theorem dX6_place_114 : decode cX6_place 114 = .ok (.invokevirtual 120, 3) := by decide +kernel
theorem dX6_place_117 : decode cX6_place 117 = .ok (.ireturn, 1) := by decide +kernel
theorem dX6_place_118 : decode cX6_place 118 = .ok (.bipush (-2), 2) := by decide +kernel
theorem dX6_place_120 : decode cX6_place 120 = .ok (.ireturn, 1) := by decide +kernel
theorem dX6_ditch_0 : decode cX6_ditch 0 = .ok (.aload_n 0, 1) := by decide +kernel
theorem dX6_ditch_1 : decode cX6_ditch 1 = .ok (.getfield 23, 3) := by decide +kernel
theorem dX6_ditch_4 : decode cX6_ditch 4 = .ok (.iload_n 1, 1) := by decide +kernel
theorem dX6_ditch_5 : decode cX6_ditch 5 = .ok (.invokevirtual 124, 3) := by decide +kernel
theorem dX6_ditch_8 : decode cX6_ditch 8 = .ok (.ifCond .ne 5, 3) := by decide +kernel
theorem dX6_ditch_11 : decode cX6_ditch 11 = .ok (.iconst (-1), 1) := by decide +kernel
theorem dX6_ditch_12 : decode cX6_ditch 12 = .ok (.ireturn, 1) := by decide +kernel
theorem dX6_ditch_13 : decode cX6_ditch 13 = .ok (.iload_n 2, 1) := by decide +kernel
theorem dX6_ditch_14 : decode cX6_ditch 14 = .ok (.tableswitch 58 0 2 #[26, 36, 46], 26) := by decide +kernel
theorem dX6_ditch_40 : decode cX6_ditch 40 = .ok (.aload_n 0, 1) := by decide +kernel
theorem dX6_ditch_41 : decode cX6_ditch 41 = .ok (.getfield 23, 3) := by decide +kernel
theorem dX6_ditch_44 : decode cX6_ditch 44 = .ok (.getfield 127, 3) := by decide +kernel
theorem dX6_ditch_47 : decode cX6_ditch 47 = .ok (.iload_n 1, 1) := by decide +kernel
theorem dX6_ditch_48 : decode cX6_ditch 48 = .ok (.iaload, 1) := by decide +kernel
theorem dX6_ditch_49 : decode cX6_ditch 49 = .ok (.ireturn, 1) := by decide +kernel
theorem dX6_ditch_50 : decode cX6_ditch 50 = .ok (.aload_n 0, 1) := by decide +kernel
theorem dX6_ditch_51 : decode cX6_ditch 51 = .ok (.getfield 23, 3) := by decide +kernel
theorem dX6_ditch_54 : decode cX6_ditch 54 = .ok (.getfield 130, 3) := by decide +kernel
theorem dX6_ditch_57 : decode cX6_ditch 57 = .ok (.iload_n 1, 1) := by decide +kernel
theorem dX6_ditch_58 : decode cX6_ditch 58 = .ok (.iaload, 1) := by decide +kernel
theorem dX6_ditch_59 : decode cX6_ditch 59 = .ok (.ireturn, 1) := by decide +kernel
theorem dX6_ditch_60 : decode cX6_ditch 60 = .ok (.aload_n 0, 1) := by decide +kernel
theorem dX6_ditch_61 : decode cX6_ditch 61 = .ok (.getfield 40, 3) := by decide +kernel
theorem dX6_ditch_64 : decode cX6_ditch 64 = .ok (.getfield 117, 3) := by decide +kernel
theorem dX6_ditch_67 : decode cX6_ditch 67 = .ok (.iload_n 1, 1) := by decide +kernel
theorem dX6_ditch_68 : decode cX6_ditch 68 = .ok (.ishr, 1) := by decide +kernel
theorem dX6_ditch_69 : decode cX6_ditch 69 = .ok (.iconst 1, 1) := by decide +kernel
theorem dX6_ditch_70 : decode cX6_ditch 70 = .ok (.iand, 1) := by decide +kernel
theorem dX6_ditch_71 : decode cX6_ditch 71 = .ok (.ireturn, 1) := by decide +kernel
theorem dX6_ditch_72 : decode cX6_ditch 72 = .ok (.bipush (-2), 2) := by decide +kernel
theorem dX6_ditch_74 : decode cX6_ditch 74 = .ok (.ireturn, 1) := by decide +kernel
theorem dX6_hour_0 : decode cX6_hour 0 = .ok (.aload_n 0, 1) := by decide +kernel
theorem dX6_hour_1 : decode cX6_hour 1 = .ok (.getfield 47, 3) := by decide +kernel
theorem dX6_hour_4 : decode cX6_hour 4 = .ok (.aload_n 0, 1) := by decide +kernel
theorem dX6_hour_5 : decode cX6_hour 5 = .ok (.getfield 40, 3) := by decide +kernel
theorem dX6_hour_8 : decode cX6_hour 8 = .ok (.invokevirtual 133, 3) := by decide +kernel
theorem dX6_hour_11 : decode cX6_hour 11 = .ok (.aload_n 0, 1) := by decide +kernel
theorem dX6_hour_12 : decode cX6_hour 12 = .ok (.getfield 33, 3) := by decide +kernel
theorem dX6_hour_15 : decode cX6_hour 15 = .ok (.aload_n 0, 1) := by decide +kernel
theorem dX6_hour_16 : decode cX6_hour 16 = .ok (.getfield 23, 3) := by decide +kernel
theorem dX6_hour_19 : decode cX6_hour 19 = .ok (.aload_n 0, 1) := by decide +kernel
theorem dX6_hour_20 : decode cX6_hour 20 = .ok (.getfield 40, 3) := by decide +kernel
theorem dX6_hour_23 : decode cX6_hour 23 = .ok (.iconst 0, 1) := by decide +kernel
theorem dX6_hour_24 : decode cX6_hour 24 = .ok (.invokevirtual 137, 3) := by decide +kernel
theorem dX6_hour_27 : decode cX6_hour 27 = .ok (.ireturn, 1) := by decide +kernel
theorem dX6_turn_0 : decode cX6_turn 0 = .ok (.aload_n 0, 1) := by decide +kernel
theorem dX6_turn_1 : decode cX6_turn 1 = .ok (.getfield 23, 3) := by decide +kernel
theorem dX6_turn_4 : decode cX6_turn 4 = .ok (.iload_n 1, 1) := by decide +kernel
theorem dX6_turn_5 : decode cX6_turn 5 = .ok (.invokevirtual 124, 3) := by decide +kernel
theorem dX6_turn_8 : decode cX6_turn 8 = .ok (.ifCond .ne 5, 3) := by decide +kernel
theorem dX6_turn_11 : decode cX6_turn 11 = .ok (.iconst (-1), 1) := by decide +kernel
theorem dX6_turn_12 : decode cX6_turn 12 = .ok (.ireturn, 1) := by decide +kernel
theorem dX6_turn_13 : decode cX6_turn 13 = .ok (.aload_n 0, 1) := by decide +kernel
theorem dX6_turn_14 : decode cX6_turn 14 = .ok (.getfield 47, 3) := by decide +kernel
theorem dX6_turn_17 : decode cX6_turn 17 = .ok (.aload_n 0, 1) := by decide +kernel
theorem dX6_turn_18 : decode cX6_turn 18 = .ok (.getfield 40, 3) := by decide +kernel
theorem dX6_turn_21 : decode cX6_turn 21 = .ok (.invokevirtual 133, 3) := by decide +kernel
theorem dX6_turn_24 : decode cX6_turn 24 = .ok (.aload_n 0, 1) := by decide +kernel
theorem dX6_turn_25 : decode cX6_turn 25 = .ok (.getfield 40, 3) := by decide +kernel
theorem dX6_turn_28 : decode cX6_turn 28 = .ok (.dup, 1) := by decide +kernel
theorem dX6_turn_29 : decode cX6_turn 29 = .ok (.getfield 117, 3) := by decide +kernel
theorem dX6_turn_32 : decode cX6_turn 32 = .ok (.iconst 1, 1) := by decide +kernel
theorem dX6_turn_33 : decode cX6_turn 33 = .ok (.iload_n 1, 1) := by decide +kernel
theorem dX6_turn_34 : decode cX6_turn 34 = .ok (.ishl, 1) := by decide +kernel
theorem dX6_turn_35 : decode cX6_turn 35 = .ok (.ixor, 1) := by decide +kernel
theorem dX6_turn_36 : decode cX6_turn 36 = .ok (.putfield 117, 3) := by decide +kernel
theorem dX6_turn_39 : decode cX6_turn 39 = .ok (.aload_n 0, 1) := by decide +kernel
theorem dX6_turn_40 : decode cX6_turn 40 = .ok (.getfield 40, 3) := by decide +kernel
theorem dX6_turn_43 : decode cX6_turn 43 = .ok (.getfield 117, 3) := by decide +kernel
theorem dX6_turn_46 : decode cX6_turn 46 = .ok (.iload_n 1, 1) := by decide +kernel
theorem dX6_turn_47 : decode cX6_turn 47 = .ok (.ishr, 1) := by decide +kernel
theorem dX6_turn_48 : decode cX6_turn 48 = .ok (.iconst 1, 1) := by decide +kernel
theorem dX6_turn_49 : decode cX6_turn 49 = .ok (.iand, 1) := by decide +kernel
theorem dX6_turn_50 : decode cX6_turn 50 = .ok (.ireturn, 1) := by decide +kernel
theorem dX6_rain_0 : decode cX6_rain 0 = .ok (.aload_n 0, 1) := by decide +kernel
theorem dX6_rain_1 : decode cX6_rain 1 = .ok (.getfield 23, 3) := by decide +kernel
theorem dX6_rain_4 : decode cX6_rain 4 = .ok (.iload_n 1, 1) := by decide +kernel
theorem dX6_rain_5 : decode cX6_rain 5 = .ok (.invokevirtual 98, 3) := by decide +kernel
theorem dX6_rain_8 : decode cX6_rain 8 = .ok (.ifCond .ne 5, 3) := by decide +kernel
theorem dX6_rain_11 : decode cX6_rain 11 = .ok (.iconst (-1), 1) := by decide +kernel
theorem dX6_rain_12 : decode cX6_rain 12 = .ok (.ireturn, 1) := by decide +kernel
theorem dX6_rain_13 : decode cX6_rain 13 = .ok (.iload_n 2, 1) := by decide +kernel
theorem dX6_rain_14 : decode cX6_rain 14 = .ok (.iconst 1, 1) := by decide +kernel
theorem dX6_rain_15 : decode cX6_rain 15 = .ok (.if_icmp .lt 9, 3) := by decide +kernel
theorem dX6_rain_18 : decode cX6_rain 18 = .ok (.iload_n 2, 1) := by decide +kernel
theorem dX6_rain_19 : decode cX6_rain 19 = .ok (.bipush 9, 2) := by decide +kernel
theorem dX6_rain_21 : decode cX6_rain 21 = .ok (.if_icmp .le 6, 3) := by decide +kernel
theorem dX6_rain_24 : decode cX6_rain 24 = .ok (.bipush (-2), 2) := by decide +kernel
theorem dX6_rain_26 : decode cX6_rain 26 = .ok (.ireturn, 1) := by decide +kernel
theorem dX6_rain_27 : decode cX6_rain 27 = .ok (.aload_n 0, 1) := by decide +kernel
theorem dX6_rain_28 : decode cX6_rain 28 = .ok (.getfield 23, 3) := by decide +kernel
theorem dX6_rain_31 : decode cX6_rain 31 = .ok (.getfield 102, 3) := by decide +kernel
theorem dX6_rain_34 : decode cX6_rain 34 = .ok (.iload_n 1, 1) := by decide +kernel
theorem dX6_rain_35 : decode cX6_rain 35 = .ok (.iaload, 1) := by decide +kernel
theorem dX6_rain_36 : decode cX6_rain 36 = .ok (.ifCond .ne 19, 3) := by decide +kernel
theorem dX6_rain_39 : decode cX6_rain 39 = .ok (.aload_n 0, 1) := by decide +kernel
theorem dX6_rain_40 : decode cX6_rain 40 = .ok (.getfield 40, 3) := by decide +kernel
theorem dX6_rain_43 : decode cX6_rain 43 = .ok (.getfield 105, 3) := by decide +kernel
theorem dX6_rain_46 : decode cX6_rain 46 = .ok (.iload_n 1, 1) := by decide +kernel
theorem dX6_rain_47 : decode cX6_rain 47 = .ok (.iaload, 1) := by decide +kernel
theorem dX6_rain_48 : decode cX6_rain 48 = .ok (.iload_n 2, 1) := by decide +kernel
theorem dX6_rain_49 : decode cX6_rain 49 = .ok (.iadd, 1) := by decide +kernel
theorem dX6_rain_50 : decode cX6_rain 50 = .ok (.bipush 99, 2) := by decide +kernel
theorem dX6_rain_52 : decode cX6_rain 52 = .ok (.if_icmp .le 6, 3) := by decide +kernel
theorem dX6_rain_55 : decode cX6_rain 55 = .ok (.bipush (-3), 2) := by decide +kernel
theorem dX6_rain_57 : decode cX6_rain 57 = .ok (.ireturn, 1) := by decide +kernel
theorem dX6_rain_58 : decode cX6_rain 58 = .ok (.aload_n 0, 1) := by decide +kernel
theorem dX6_rain_59 : decode cX6_rain 59 = .ok (.getfield 47, 3) := by decide +kernel
theorem dX6_rain_62 : decode cX6_rain 62 = .ok (.aload_n 0, 1) := by decide +kernel
theorem dX6_rain_63 : decode cX6_rain 63 = .ok (.getfield 40, 3) := by decide +kernel
theorem dX6_rain_66 : decode cX6_rain 66 = .ok (.invokevirtual 133, 3) := by decide +kernel
theorem dX6_rain_69 : decode cX6_rain 69 = .ok (.aload_n 0, 1) := by decide +kernel
theorem dX6_rain_70 : decode cX6_rain 70 = .ok (.getfield 40, 3) := by decide +kernel
theorem dX6_rain_73 : decode cX6_rain 73 = .ok (.getfield 105, 3) := by decide +kernel
theorem dX6_rain_76 : decode cX6_rain 76 = .ok (.iload_n 1, 1) := by decide +kernel
theorem dX6_rain_77 : decode cX6_rain 77 = .ok (.dup2, 1) := by decide +kernel
theorem dX6_rain_78 : decode cX6_rain 78 = .ok (.iaload, 1) := by decide +kernel
theorem dX6_rain_79 : decode cX6_rain 79 = .ok (.iload_n 2, 1) := by decide +kernel
theorem dX6_rain_80 : decode cX6_rain 80 = .ok (.iadd, 1) := by decide +kernel
theorem dX6_rain_81 : decode cX6_rain 81 = .ok (.iastore, 1) := by decide +kernel
theorem dX6_rain_82 : decode cX6_rain 82 = .ok (.aload_n 0, 1) := by decide +kernel
theorem dX6_rain_83 : decode cX6_rain 83 = .ok (.getfield 40, 3) := by decide +kernel
theorem dX6_rain_86 : decode cX6_rain 86 = .ok (.getfield 105, 3) := by decide +kernel
theorem dX6_rain_89 : decode cX6_rain 89 = .ok (.iload_n 1, 1) := by decide +kernel
theorem dX6_rain_90 : decode cX6_rain 90 = .ok (.iaload, 1) := by decide +kernel
theorem dX6_rain_91 : decode cX6_rain 91 = .ok (.ireturn, 1) := by decide +kernel
theorem dX6_undo_0 : decode cX6_undo 0 = .ok (.aload_n 0, 1) := by decide +kernel
theorem dX6_undo_1 : decode cX6_undo 1 = .ok (.getfield 47, 3) := by decide +kernel
theorem dX6_undo_4 : decode cX6_undo 4 = .ok (.getfield 141, 3) := by decide +kernel
theorem dX6_undo_7 : decode cX6_undo 7 = .ok (.ifCond .ne 6, 3) := by decide +kernel
theorem dX6_undo_10 : decode cX6_undo 10 = .ok (.bipush (-3), 2) := by decide +kernel
theorem dX6_undo_12 : decode cX6_undo 12 = .ok (.ireturn, 1) := by decide +kernel
theorem dX6_undo_13 : decode cX6_undo 13 = .ok (.aload_n 0, 1) := by decide +kernel
theorem dX6_undo_14 : decode cX6_undo 14 = .ok (.getfield 47, 3) := by decide +kernel
theorem dX6_undo_17 : decode cX6_undo 17 = .ok (.aload_n 0, 1) := by decide +kernel
theorem dX6_undo_18 : decode cX6_undo 18 = .ok (.getfield 40, 3) := by decide +kernel
theorem dX6_undo_21 : decode cX6_undo 21 = .ok (.invokevirtual 144, 3) := by decide +kernel
theorem dX6_undo_24 : decode cX6_undo 24 = .ok (.aload_n 0, 1) := by decide +kernel
theorem dX6_undo_25 : decode cX6_undo 25 = .ok (.getfield 47, 3) := by decide +kernel
theorem dX6_undo_28 : decode cX6_undo 28 = .ok (.getfield 141, 3) := by decide +kernel
theorem dX6_undo_31 : decode cX6_undo 31 = .ok (.ireturn, 1) := by decide +kernel
theorem dX6_judge_0 : decode cX6_judge 0 = .ok (.iload_n 1, 1) := by decide +kernel
theorem dX6_judge_1 : decode cX6_judge 1 = .ok (.iconst 1, 1) := by decide +kernel
theorem dX6_judge_2 : decode cX6_judge 2 = .ok (.if_icmp .lt 22, 3) := by decide +kernel
theorem dX6_judge_5 : decode cX6_judge 5 = .ok (.iload_n 1, 1) := by decide +kernel
theorem dX6_judge_6 : decode cX6_judge 6 = .ok (.bipush 8, 2) := by decide +kernel
theorem dX6_judge_8 : decode cX6_judge 8 = .ok (.if_icmp .gt 16, 3) := by decide +kernel
theorem dX6_judge_11 : decode cX6_judge 11 = .ok (.iload_n 2, 1) := by decide +kernel
theorem dX6_judge_12 : decode cX6_judge 12 = .ok (.ifCond .lt 12, 3) := by decide +kernel
theorem dX6_judge_15 : decode cX6_judge 15 = .ok (.aload_n 0, 1) := by decide +kernel
theorem dX6_judge_16 : decode cX6_judge 16 = .ok (.iload_n 1, 1) := by decide +kernel
theorem dX6_judge_17 : decode cX6_judge 17 = .ok (.iload_n 2, 1) := by decide +kernel
theorem dX6_judge_18 : decode cX6_judge 18 = .ok (.invokevirtual 147, 3) := by decide +kernel
theorem dX6_judge_21 : decode cX6_judge 21 = .ok (.ifCond .ne 6, 3) := by decide +kernel
theorem dX6_judge_24 : decode cX6_judge 24 = .ok (.bipush (-2), 2) := by decide +kernel
theorem dX6_judge_26 : decode cX6_judge 26 = .ok (.ireturn, 1) := by decide +kernel
theorem dX6_judge_27 : decode cX6_judge 27 = .ok (.aload_n 0, 1) := by decide +kernel
theorem dX6_judge_28 : decode cX6_judge 28 = .ok (.getfield 62, 3) := by decide +kernel
theorem dX6_judge_31 : decode cX6_judge 31 = .ok (.aload_n 0, 1) := by decide +kernel
theorem dX6_judge_32 : decode cX6_judge 32 = .ok (.getfield 40, 3) := by decide +kernel
theorem dX6_judge_35 : decode cX6_judge 35 = .ok (.invokevirtual 151, 3) := by decide +kernel
theorem dX6_judge_38 : decode cX6_judge 38 = .ok (.aload_n 0, 1) := by decide +kernel
theorem dX6_judge_39 : decode cX6_judge 39 = .ok (.getfield 62, 3) := by decide +kernel
theorem dX6_judge_42 : decode cX6_judge 42 = .ok (.invokevirtual 154, 3) := by decide +kernel
theorem dX6_judge_45 : decode cX6_judge 45 = .ok (.istore_n 3, 1) := by decide +kernel
theorem dX6_judge_46 : decode cX6_judge 46 = .ok (.iconst 0, 1) := by decide +kernel
theorem dX6_judge_47 : decode cX6_judge 47 = .ok (.istore 4, 2) := by decide +kernel
theorem dX6_judge_49 : decode cX6_judge 49 = .ok (.iload 4, 2) := by decide +kernel
theorem dX6_judge_51 : decode cX6_judge 51 = .ok (.iload_n 1, 1) := by decide +kernel
theorem dX6_judge_52 : decode cX6_judge 52 = .ok (.if_icmp .ge 41, 3) := by decide +kernel
theorem dX6_judge_55 : decode cX6_judge 55 = .ok (.aload_n 0, 1) := by decide +kernel
theorem dX6_judge_56 : decode cX6_judge 56 = .ok (.aload_n 0, 1) := by decide +kernel
theorem dX6_judge_57 : decode cX6_judge 57 = .ok (.getfield 62, 3) := by decide +kernel
theorem dX6_judge_60 : decode cX6_judge 60 = .ok (.aload_n 0, 1) := by decide +kernel
theorem dX6_judge_61 : decode cX6_judge 61 = .ok (.getfield 71, 3) := by decide +kernel
theorem dX6_judge_64 : decode cX6_judge 64 = .ok (.iload 4, 2) := by decide +kernel
theorem dX6_judge_66 : decode cX6_judge 66 = .ok (.iaload, 1) := by decide +kernel
theorem dX6_judge_67 : decode cX6_judge 67 = .ok (.invokevirtual 158, 3) := by decide +kernel
theorem dX6_judge_70 : decode cX6_judge 70 = .ok (.ifCond .eq 14, 3) := by decide +kernel
theorem dX6_judge_73 : decode cX6_judge 73 = .ok (.aload_n 0, 1) := by decide +kernel
theorem dX6_judge_74 : decode cX6_judge 74 = .ok (.getfield 62, 3) := by decide +kernel
theorem dX6_judge_77 : decode cX6_judge 77 = .ok (.invokevirtual 154, 3) := by decide +kernel
theorem dX6_judge_80 : decode cX6_judge 80 = .ok (.iload_n 3, 1) := by decide +kernel
theorem dX6_judge_81 : decode cX6_judge 81 = .ok (.if_icmp .eq 6, 3) := by decide +kernel
theorem dX6_judge_84 : decode cX6_judge 84 = .ok (.iload 4, 2) := by decide +kernel
theorem dX6_judge_86 : decode cX6_judge 86 = .ok (.ireturn, 1) := by decide +kernel
theorem dX6_judge_87 : decode cX6_judge 87 = .ok (.iinc 4 1, 3) := by decide +kernel
theorem dX6_judge_90 : decode cX6_judge 90 = .ok (.goto (-41), 3) := by decide +kernel
theorem dX6_judge_93 : decode cX6_judge 93 = .ok (.bipush (-9), 2) := by decide +kernel
theorem dX6_judge_95 : decode cX6_judge 95 = .ok (.ireturn, 1) := by decide +kernel
theorem dX6_readSteps_0 : decode cX6_readSteps 0 = .ok (.iload_n 2, 1) := by decide +kernel
theorem dX6_readSteps_1 : decode cX6_readSteps 1 = .ok (.istore_n 3, 1) := by decide +kernel
theorem dX6_readSteps_2 : decode cX6_readSteps 2 = .ok (.iload_n 1, 1) := by decide +kernel
theorem dX6_readSteps_3 : decode cX6_readSteps 3 = .ok (.iconst 1, 1) := by decide +kernel
theorem dX6_readSteps_4 : decode cX6_readSteps 4 = .ok (.isub, 1) := by decide +kernel
theorem dX6_readSteps_5 : decode cX6_readSteps 5 = .ok (.istore 4, 2) := by decide +kernel
theorem dX6_readSteps_7 : decode cX6_readSteps 7 = .ok (.iload 4, 2) := by decide +kernel
theorem dX6_readSteps_9 : decode cX6_readSteps 9 = .ok (.ifCond .lt 25, 3) := by decide +kernel
theorem dX6_readSteps_12 : decode cX6_readSteps 12 = .ok (.aload_n 0, 1) := by decide +kernel
theorem dX6_readSteps_13 : decode cX6_readSteps 13 = .ok (.getfield 71, 3) := by decide +kernel
theorem dX6_readSteps_16 : decode cX6_readSteps 16 = .ok (.iload 4, 2) := by decide +kernel
theorem dX6_readSteps_18 : decode cX6_readSteps 18 = .ok (.iload_n 3, 1) := by decide +kernel
theorem dX6_readSteps_19 : decode cX6_readSteps 19 = .ok (.bipush 10, 2) := by decide +kernel
theorem dX6_readSteps_21 : decode cX6_readSteps 21 = .ok (.irem, 1) := by decide +kernel
theorem dX6_readSteps_22 : decode cX6_readSteps 22 = .ok (.iastore, 1) := by decide +kernel
theorem dX6_readSteps_23 : decode cX6_readSteps 23 = .ok (.iload_n 3, 1) := by decide +kernel
theorem dX6_readSteps_24 : decode cX6_readSteps 24 = .ok (.bipush 10, 2) := by decide +kernel
theorem dX6_readSteps_26 : decode cX6_readSteps 26 = .ok (.idiv, 1) := by decide +kernel
theorem dX6_readSteps_27 : decode cX6_readSteps 27 = .ok (.istore_n 3, 1) := by decide +kernel
theorem dX6_readSteps_28 : decode cX6_readSteps 28 = .ok (.iinc 4 (-1), 3) := by decide +kernel
theorem dX6_readSteps_31 : decode cX6_readSteps 31 = .ok (.goto (-24), 3) := by decide +kernel
theorem dX6_readSteps_34 : decode cX6_readSteps 34 = .ok (.iload_n 3, 1) := by decide +kernel
theorem dX6_readSteps_35 : decode cX6_readSteps 35 = .ok (.ifCond .ne 7, 3) := by decide +kernel
theorem dX6_readSteps_38 : decode cX6_readSteps 38 = .ok (.iconst 1, 1) := by decide +kernel
theorem dX6_readSteps_39 : decode cX6_readSteps 39 = .ok (.goto 4, 3) := by decide +kernel
theorem dX6_readSteps_42 : decode cX6_readSteps 42 = .ok (.iconst 0, 1) := by decide +kernel
theorem dX6_readSteps_43 : decode cX6_readSteps 43 = .ok (.ireturn, 1) := by decide +kernel
theorem dX6_canStep_0 : decode cX6_canStep 0 = .ok (.iload_n 2, 1) := by decide +kernel
theorem dX6_canStep_1 : decode cX6_canStep 1 = .ok (.bipush 6, 2) := by decide +kernel
theorem dX6_canStep_3 : decode cX6_canStep 3 = .ok (.if_icmp .ne 19, 3) := by decide +kernel
theorem dX6_canStep_6 : decode cX6_canStep 6 = .ok (.aload_n 0, 1) := by decide +kernel
theorem dX6_canStep_7 : decode cX6_canStep 7 = .ok (.getfield 33, 3) := by decide +kernel
theorem dX6_canStep_10 : decode cX6_canStep 10 = .ok (.aload_n 0, 1) := by decide +kernel
theorem dX6_canStep_11 : decode cX6_canStep 11 = .ok (.getfield 23, 3) := by decide +kernel
theorem dX6_canStep_14 : decode cX6_canStep 14 = .ok (.aload_n 1, 1) := by decide +kernel
theorem dX6_canStep_15 : decode cX6_canStep 15 = .ok (.iconst 0, 1) := by decide +kernel
theorem dX6_canStep_16 : decode cX6_canStep 16 = .ok (.invokevirtual 137, 3) := by decide +kernel
theorem dX6_canStep_19 : decode cX6_canStep 19 = .ok (.pop, 1) := by decide +kernel
theorem dX6_canStep_20 : decode cX6_canStep 20 = .ok (.iconst 1, 1) := by decide +kernel
theorem dX6_canStep_21 : decode cX6_canStep 21 = .ok (.ireturn, 1) := by decide +kernel
theorem dX6_canStep_22 : decode cX6_canStep 22 = .ok (.aload_n 0, 1) := by decide +kernel
theorem dX6_canStep_23 : decode cX6_canStep 23 = .ok (.getfield 23, 3) := by decide +kernel
theorem dX6_canStep_26 : decode cX6_canStep 26 = .ok (.iload_n 2, 1) := by decide +kernel
theorem dX6_canStep_27 : decode cX6_canStep 27 = .ok (.invokevirtual 124, 3) := by decide +kernel
theorem dX6_canStep_30 : decode cX6_canStep 30 = .ok (.ifCond .ne 5, 3) := by decide +kernel
theorem dX6_canStep_33 : decode cX6_canStep 33 = .ok (.iconst 0, 1) := by decide +kernel
theorem dX6_canStep_34 : decode cX6_canStep 34 = .ok (.ireturn, 1) := by decide +kernel
theorem dX6_canStep_35 : decode cX6_canStep 35 = .ok (.aload_n 1, 1) := by decide +kernel
theorem dX6_canStep_36 : decode cX6_canStep 36 = .ok (.dup, 1) := by decide +kernel
theorem dX6_canStep_37 : decode cX6_canStep 37 = .ok (.getfield 117, 3) := by decide +kernel
theorem dX6_canStep_40 : decode cX6_canStep 40 = .ok (.iconst 1, 1) := by decide +kernel
theorem dX6_canStep_41 : decode cX6_canStep 41 = .ok (.iload_n 2, 1) := by decide +kernel
theorem dX6_canStep_42 : decode cX6_canStep 42 = .ok (.ishl, 1) := by decide +kernel
theorem dX6_canStep_43 : decode cX6_canStep 43 = .ok (.ixor, 1) := by decide +kernel
theorem dX6_canStep_44 : decode cX6_canStep 44 = .ok (.putfield 117, 3) := by decide +kernel
theorem dX6_canStep_47 : decode cX6_canStep 47 = .ok (.iconst 1, 1) := by decide +kernel
theorem dX6_canStep_48 : decode cX6_canStep 48 = .ok (.ireturn, 1) := by decide +kernel
theorem dX6_behind_0 : decode cX6_behind 0 = .ok (.aload_n 0, 1) := by decide +kernel
theorem dX6_behind_1 : decode cX6_behind 1 = .ok (.getfield 23, 3) := by decide +kernel
theorem dX6_behind_4 : decode cX6_behind 4 = .ok (.iload_n 1, 1) := by decide +kernel
theorem dX6_behind_5 : decode cX6_behind 5 = .ok (.invokevirtual 98, 3) := by decide +kernel
theorem dX6_behind_8 : decode cX6_behind 8 = .ok (.ifCond .ne 5, 3) := by decide +kernel
theorem dX6_behind_11 : decode cX6_behind 11 = .ok (.iconst (-1), 1) := by decide +kernel
theorem dX6_behind_12 : decode cX6_behind 12 = .ok (.ireturn, 1) := by decide +kernel
theorem dX6_behind_13 : decode cX6_behind 13 = .ok (.iload_n 2, 1) := by decide +kernel
theorem dX6_behind_14 : decode cX6_behind 14 = .ok (.invokestatic 162, 3) := by decide +kernel
theorem dX6_behind_17 : decode cX6_behind 17 = .ok (.ifCond .eq 12, 3) := by decide +kernel
theorem dX6_behind_20 : decode cX6_behind 20 = .ok (.iload_n 3, 1) := by decide +kernel
theorem dX6_behind_21 : decode cX6_behind 21 = .ok (.ifCond .lt 8, 3) := by decide +kernel
theorem dX6_behind_24 : decode cX6_behind 24 = .ok (.iload_n 3, 1) := by decide +kernel
theorem dX6_behind_25 : decode cX6_behind 25 = .ok (.iconst 1, 1) := by decide +kernel
theorem dX6_behind_26 : decode cX6_behind 26 = .ok (.if_icmp .le 6, 3) := by decide +kernel
theorem dX6_behind_29 : decode cX6_behind 29 = .ok (.bipush (-2), 2) := by decide +kernel
theorem dX6_behind_31 : decode cX6_behind 31 = .ok (.ireturn, 1) := by decide +kernel
theorem dX6_behind_32 : decode cX6_behind 32 = .ok (.aload_n 0, 1) := by decide +kernel
theorem dX6_behind_33 : decode cX6_behind 33 = .ok (.aload_n 0, 1) := by decide +kernel
theorem dX6_behind_34 : decode cX6_behind 34 = .ok (.getfield 40, 3) := by decide +kernel
theorem dX6_behind_37 : decode cX6_behind 37 = .ok (.getfield 117, 3) := by decide +kernel
theorem dX6_behind_40 : decode cX6_behind 40 = .ok (.iload_n 2, 1) := by decide +kernel
theorem dX6_behind_41 : decode cX6_behind 41 = .ok (.invokevirtual 165, 3) := by decide +kernel
theorem dX6_behind_44 : decode cX6_behind 44 = .ok (.iload_n 3, 1) := by decide +kernel
theorem dX6_behind_45 : decode cX6_behind 45 = .ok (.ifCond .ne 15, 3) := by decide +kernel
theorem dX6_behind_48 : decode cX6_behind 48 = .ok (.aload_n 0, 1) := by decide +kernel
theorem dX6_behind_49 : decode cX6_behind 49 = .ok (.getfield 62, 3) := by decide +kernel
theorem dX6_behind_52 : decode cX6_behind 52 = .ok (.getfield 105, 3) := by decide +kernel
theorem dX6_behind_55 : decode cX6_behind 55 = .ok (.iload_n 1, 1) := by decide +kernel
theorem dX6_behind_56 : decode cX6_behind 56 = .ok (.iaload, 1) := by decide +kernel
theorem dX6_behind_57 : decode cX6_behind 57 = .ok (.goto 12, 3) := by decide +kernel
theorem dX6_behind_60 : decode cX6_behind 60 = .ok (.aload_n 0, 1) := by decide +kernel
theorem dX6_behind_61 : decode cX6_behind 61 = .ok (.getfield 62, 3) := by decide +kernel
theorem dX6_behind_64 : decode cX6_behind 64 = .ok (.getfield 108, 3) := by decide +kernel
theorem dX6_behind_67 : decode cX6_behind 67 = .ok (.iload_n 1, 1) := by decide +kernel
theorem dX6_behind_68 : decode cX6_behind 68 = .ok (.iaload, 1) := by decide +kernel
theorem dX6_behind_69 : decode cX6_behind 69 = .ok (.ireturn, 1) := by decide +kernel
theorem dX6_by_0 : decode cX6_by 0 = .ok (.iload_n 1, 1) := by decide +kernel
theorem dX6_by_1 : decode cX6_by 1 = .ok (.ifCond .lt 30, 3) := by decide +kernel
theorem dX6_by_4 : decode cX6_by 4 = .ok (.iload_n 1, 1) := by decide +kernel
theorem dX6_by_5 : decode cX6_by 5 = .ok (.aload_n 0, 1) := by decide +kernel
theorem dX6_by_6 : decode cX6_by 6 = .ok (.getfield 23, 3) := by decide +kernel
theorem dX6_by_9 : decode cX6_by 9 = .ok (.invokevirtual 169, 3) := by decide +kernel
theorem dX6_by_12 : decode cX6_by 12 = .ok (.if_icmp .gt 19, 3) := by decide +kernel
theorem dX6_by_15 : decode cX6_by 15 = .ok (.iload_n 2, 1) := by decide +kernel
theorem dX6_by_16 : decode cX6_by 16 = .ok (.invokestatic 162, 3) := by decide +kernel
theorem dX6_by_19 : decode cX6_by 19 = .ok (.ifCond .eq 12, 3) := by decide +kernel
theorem dX6_by_22 : decode cX6_by 22 = .ok (.iload_n 3, 1) := by decide +kernel
theorem dX6_by_23 : decode cX6_by 23 = .ok (.ifCond .lt 8, 3) := by decide +kernel
theorem dX6_by_26 : decode cX6_by 26 = .ok (.iload_n 3, 1) := by decide +kernel
theorem dX6_by_27 : decode cX6_by 27 = .ok (.iconst 3, 1) := by decide +kernel
theorem dX6_by_28 : decode cX6_by 28 = .ok (.if_icmp .le 6, 3) := by decide +kernel
theorem dX6_by_31 : decode cX6_by 31 = .ok (.bipush (-2), 2) := by decide +kernel
theorem dX6_by_33 : decode cX6_by 33 = .ok (.ireturn, 1) := by decide +kernel
theorem dX6_by_34 : decode cX6_by 34 = .ok (.aload_n 0, 1) := by decide +kernel
theorem dX6_by_35 : decode cX6_by 35 = .ok (.iload_n 1, 1) := by decide +kernel
theorem dX6_by_36 : decode cX6_by 36 = .ok (.iload_n 2, 1) := by decide +kernel
theorem dX6_by_37 : decode cX6_by 37 = .ok (.invokevirtual 165, 3) := by decide +kernel
theorem dX6_by_40 : decode cX6_by 40 = .ok (.iload_n 3, 1) := by decide +kernel
theorem dX6_by_41 : decode cX6_by 41 = .ok (.tableswitch 55 0 2 #[27, 35, 43], 27) := by decide +kernel
theorem dX6_by_68 : decode cX6_by 68 = .ok (.aload_n 0, 1) := by decide +kernel
theorem dX6_by_69 : decode cX6_by 69 = .ok (.getfield 62, 3) := by decide +kernel
theorem dX6_by_72 : decode cX6_by 72 = .ok (.invokevirtual 172, 3) := by decide +kernel
theorem dX6_by_75 : decode cX6_by 75 = .ok (.ireturn, 1) := by decide +kernel
theorem dX6_by_76 : decode cX6_by 76 = .ok (.aload_n 0, 1) := by decide +kernel
theorem dX6_by_77 : decode cX6_by 77 = .ok (.getfield 62, 3) := by decide +kernel
theorem dX6_by_80 : decode cX6_by 80 = .ok (.invokevirtual 154, 3) := by decide +kernel
theorem dX6_by_83 : decode cX6_by 83 = .ok (.ireturn, 1) := by decide +kernel
theorem dX6_by_84 : decode cX6_by 84 = .ok (.aload_n 0, 1) := by decide +kernel
theorem dX6_by_85 : decode cX6_by 85 = .ok (.getfield 62, 3) := by decide +kernel
theorem dX6_by_88 : decode cX6_by 88 = .ok (.aload_n 0, 1) := by decide +kernel
theorem dX6_by_89 : decode cX6_by 89 = .ok (.getfield 23, 3) := by decide +kernel
theorem dX6_by_92 : decode cX6_by 92 = .ok (.invokevirtual 175, 3) := by decide +kernel
theorem dX6_by_95 : decode cX6_by 95 = .ok (.ireturn, 1) := by decide +kernel
theorem dX6_by_96 : decode cX6_by 96 = .ok (.aload_n 0, 1) := by decide +kernel
theorem dX6_by_97 : decode cX6_by 97 = .ok (.getfield 62, 3) := by decide +kernel
theorem dX6_by_100 : decode cX6_by 100 = .ok (.invokevirtual 179, 3) := by decide +kernel
theorem dX6_by_103 : decode cX6_by 103 = .ok (.ifCond .eq 7, 3) := by decide +kernel
theorem dX6_by_106 : decode cX6_by 106 = .ok (.iconst 1, 1) := by decide +kernel
theorem dX6_by_107 : decode cX6_by 107 = .ok (.goto 4, 3) := by decide +kernel
theorem dX6_by_110 : decode cX6_by 110 = .ok (.iconst 0, 1) := by decide +kernel
theorem dX6_by_111 : decode cX6_by 111 = .ok (.ireturn, 1) := by decide +kernel
theorem dX6_once_0 : decode cX6_once 0 = .ok (.iload_n 1, 1) := by decide +kernel
theorem dX6_once_1 : decode cX6_once 1 = .ok (.invokestatic 162, 3) := by decide +kernel
theorem dX6_once_4 : decode cX6_once 4 = .ok (.ifCond .ne 6, 3) := by decide +kernel
theorem dX6_once_7 : decode cX6_once 7 = .ok (.bipush (-2), 2) := by decide +kernel
theorem dX6_once_9 : decode cX6_once 9 = .ok (.ireturn, 1) := by decide +kernel
theorem dX6_once_10 : decode cX6_once 10 = .ok (.aload_n 0, 1) := by decide +kernel
theorem dX6_once_11 : decode cX6_once 11 = .ok (.iload_n 1, 1) := by decide +kernel
theorem dX6_once_12 : decode cX6_once 12 = .ok (.iconst 0, 1) := by decide +kernel
theorem dX6_once_13 : decode cX6_once 13 = .ok (.invokevirtual 183, 3) := by decide +kernel
theorem dX6_once_16 : decode cX6_once 16 = .ok (.istore_n 3, 1) := by decide +kernel
theorem dX6_once_17 : decode cX6_once 17 = .ok (.iload_n 3, 1) := by decide +kernel
theorem dX6_once_18 : decode cX6_once 18 = .ok (.bipush (-9), 2) := by decide +kernel
theorem dX6_once_20 : decode cX6_once 20 = .ok (.if_icmp .ne 6, 3) := by decide +kernel
theorem dX6_once_23 : decode cX6_once 23 = .ok (.bipush (-9), 2) := by decide +kernel
theorem dX6_once_25 : decode cX6_once 25 = .ok (.ireturn, 1) := by decide +kernel
theorem dX6_once_26 : decode cX6_once 26 = .ok (.iload_n 2, 1) := by decide +kernel
theorem dX6_once_27 : decode cX6_once 27 = .ok (.ifCond .eq 18, 3) := by decide +kernel
theorem dX6_once_30 : decode cX6_once 30 = .ok (.iload_n 3, 1) := by decide +kernel
theorem dX6_once_31 : decode cX6_once 31 = .ok (.aload_n 0, 1) := by decide +kernel
theorem dX6_once_32 : decode cX6_once 32 = .ok (.getfield 40, 3) := by decide +kernel
theorem dX6_once_35 : decode cX6_once 35 = .ok (.getfield 117, 3) := by decide +kernel
theorem dX6_once_38 : decode cX6_once 38 = .ok (.ixor, 1) := by decide +kernel
theorem dX6_once_39 : decode cX6_once 39 = .ok (.invokestatic 186, 3) := by decide +kernel
theorem dX6_once_42 : decode cX6_once 42 = .ok (.goto 4, 3) := by decide +kernel
theorem dX6_once_45 : decode cX6_once 45 = .ok (.iload_n 3, 1) := by decide +kernel
theorem dX6_once_46 : decode cX6_once 46 = .ok (.ireturn, 1) := by decide +kernel
theorem dX6_twice_0 : decode cX6_twice 0 = .ok (.iload_n 1, 1) := by decide +kernel
theorem dX6_twice_1 : decode cX6_twice 1 = .ok (.invokestatic 162, 3) := by decide +kernel
theorem dX6_twice_4 : decode cX6_twice 4 = .ok (.ifCond .eq 13, 3) := by decide +kernel
theorem dX6_twice_7 : decode cX6_twice 7 = .ok (.iload_n 2, 1) := by decide +kernel
theorem dX6_twice_8 : decode cX6_twice 8 = .ok (.iconst 1, 1) := by decide +kernel
theorem dX6_twice_9 : decode cX6_twice 9 = .ok (.if_icmp .lt 8, 3) := by decide +kernel
theorem dX6_twice_12 : decode cX6_twice 12 = .ok (.iload_n 2, 1) := by decide +kernel
theorem dX6_twice_13 : decode cX6_twice 13 = .ok (.iload_n 1, 1) := by decide +kernel
theorem dX6_twice_14 : decode cX6_twice 14 = .ok (.if_icmp .le 6, 3) := by decide +kernel
theorem dX6_twice_17 : decode cX6_twice 17 = .ok (.bipush (-2), 2) := by decide +kernel
theorem dX6_twice_19 : decode cX6_twice 19 = .ok (.ireturn, 1) := by decide +kernel
theorem dX6_twice_20 : decode cX6_twice 20 = .ok (.bipush 13, 2) := by decide +kernel
theorem dX6_twice_22 : decode cX6_twice 22 = .ok (.istore_n 3, 1) := by decide +kernel
theorem dX6_twice_23 : decode cX6_twice 23 = .ok (.aload_n 0, 1) := by decide +kernel
theorem dX6_twice_24 : decode cX6_twice 24 = .ok (.getfield 23, 3) := by decide +kernel
theorem dX6_twice_27 : decode cX6_twice 27 = .ok (.invokevirtual 169, 3) := by decide +kernel
theorem dX6_twice_30 : decode cX6_twice 30 = .ok (.istore 4, 2) := by decide +kernel
theorem dX6_twice_32 : decode cX6_twice 32 = .ok (.iconst 0, 1) := by decide +kernel
theorem dX6_twice_33 : decode cX6_twice 33 = .ok (.istore 5, 2) := by decide +kernel
theorem dX6_twice_35 : decode cX6_twice 35 = .ok (.iload 5, 2) := by decide +kernel
theorem dX6_twice_37 : decode cX6_twice 37 = .ok (.iload 4, 2) := by decide +kernel
theorem dX6_twice_39 : decode cX6_twice 39 = .ok (.if_icmp .gt 21, 3) := by decide +kernel
theorem dX6_twice_42 : decode cX6_twice 42 = .ok (.aload_n 0, 1) := by decide +kernel
theorem dX6_twice_43 : decode cX6_twice 43 = .ok (.iload 5, 2) := by decide +kernel
theorem dX6_twice_45 : decode cX6_twice 45 = .ok (.iload_n 2, 1) := by decide +kernel
theorem dX6_twice_46 : decode cX6_twice 46 = .ok (.iload_n 1, 1) := by decide +kernel
theorem dX6_twice_47 : decode cX6_twice 47 = .ok (.iload_n 2, 1) := by decide +kernel
theorem dX6_twice_48 : decode cX6_twice 48 = .ok (.isub, 1) := by decide +kernel
theorem dX6_twice_49 : decode cX6_twice 49 = .ok (.iload_n 3, 1) := by decide +kernel
theorem dX6_twice_50 : decode cX6_twice 50 = .ok (.invokevirtual 192, 3) := by decide +kernel
theorem dX6_twice_53 : decode cX6_twice 53 = .ok (.istore_n 3, 1) := by decide +kernel
theorem dX6_twice_54 : decode cX6_twice 54 = .ok (.iinc 5 1, 3) := by decide +kernel
theorem dX6_twice_57 : decode cX6_twice 57 = .ok (.goto (-22), 3) := by decide +kernel
theorem dX6_twice_60 : decode cX6_twice 60 = .ok (.iload_n 3, 1) := by decide +kernel
theorem dX6_twice_61 : decode cX6_twice 61 = .ok (.bipush 13, 2) := by decide +kernel
theorem dX6_twice_63 : decode cX6_twice 63 = .ok (.if_icmp .ne 8, 3) := by decide +kernel
theorem dX6_twice_66 : decode cX6_twice 66 = .ok (.bipush (-9), 2) := by decide +kernel
theorem dX6_twice_68 : decode cX6_twice 68 = .ok (.goto 4, 3) := by decide +kernel
theorem dX6_twice_71 : decode cX6_twice 71 = .ok (.iload_n 3, 1) := by decide +kernel
theorem dX6_twice_72 : decode cX6_twice 72 = .ok (.ireturn, 1) := by decide +kernel
theorem dX6_richest_0 : decode cX6_richest 0 = .ok (.iload_n 1, 1) := by decide +kernel
theorem dX6_richest_1 : decode cX6_richest 1 = .ok (.invokestatic 162, 3) := by decide +kernel
theorem dX6_richest_4 : decode cX6_richest 4 = .ok (.ifCond .ne 6, 3) := by decide +kernel
theorem dX6_richest_7 : decode cX6_richest 7 = .ok (.bipush (-2), 2) := by decide +kernel
theorem dX6_richest_9 : decode cX6_richest 9 = .ok (.ireturn, 1) := by decide +kernel
theorem dX6_richest_10 : decode cX6_richest 10 = .ok (.bipush (-9), 2) := by decide +kernel
theorem dX6_richest_12 : decode cX6_richest 12 = .ok (.istore_n 2, 1) := by decide +kernel
theorem dX6_richest_13 : decode cX6_richest 13 = .ok (.iconst (-1), 1) := by decide +kernel
theorem dX6_richest_14 : decode cX6_richest 14 = .ok (.istore_n 3, 1) := by decide +kernel
theorem dX6_richest_15 : decode cX6_richest 15 = .ok (.aload_n 0, 1) := by decide +kernel
theorem dX6_richest_16 : decode cX6_richest 16 = .ok (.getfield 23, 3) := by decide +kernel
theorem dX6_richest_19 : decode cX6_richest 19 = .ok (.invokevirtual 169, 3) := by decide +kernel
theorem dX6_richest_22 : decode cX6_richest 22 = .ok (.istore 4, 2) := by decide +kernel
theorem dX6_richest_24 : decode cX6_richest 24 = .ok (.iconst 0, 1) := by decide +kernel
theorem dX6_richest_25 : decode cX6_richest 25 = .ok (.istore 5, 2) := by decide +kernel
theorem dX6_richest_27 : decode cX6_richest 27 = .ok (.iload 5, 2) := by decide +kernel
theorem dX6_richest_29 : decode cX6_richest 29 = .ok (.iload 4, 2) := by decide +kernel
theorem dX6_richest_31 : decode cX6_richest 31 = .ok (.if_icmp .gt 56, 3) := by decide +kernel
theorem dX6_richest_34 : decode cX6_richest 34 = .ok (.aload_n 0, 1) := by decide +kernel
theorem dX6_richest_35 : decode cX6_richest 35 = .ok (.iload 5, 2) := by decide +kernel
theorem dX6_richest_37 : decode cX6_richest 37 = .ok (.iload_n 1, 1) := by decide +kernel
theorem dX6_richest_38 : decode cX6_richest 38 = .ok (.invokevirtual 165, 3) := by decide +kernel
theorem dX6_richest_41 : decode cX6_richest 41 = .ok (.aload_n 0, 1) := by decide +kernel
theorem dX6_richest_42 : decode cX6_richest 42 = .ok (.getfield 62, 3) := by decide +kernel
theorem dX6_richest_45 : decode cX6_richest 45 = .ok (.invokevirtual 179, 3) := by decide +kernel
theorem dX6_richest_48 : decode cX6_richest 48 = .ok (.ifCond .eq 33, 3) := by decide +kernel
theorem dX6_richest_51 : decode cX6_richest 51 = .ok (.aload_n 0, 1) := by decide +kernel
theorem dX6_richest_52 : decode cX6_richest 52 = .ok (.getfield 62, 3) := by decide +kernel
theorem dX6_richest_55 : decode cX6_richest 55 = .ok (.aload_n 0, 1) := by decide +kernel
theorem dX6_richest_56 : decode cX6_richest 56 = .ok (.getfield 23, 3) := by decide +kernel
theorem dX6_richest_59 : decode cX6_richest 59 = .ok (.invokevirtual 175, 3) := by decide +kernel
theorem dX6_richest_62 : decode cX6_richest 62 = .ok (.iload_n 3, 1) := by decide +kernel
theorem dX6_richest_63 : decode cX6_richest 63 = .ok (.if_icmp .le 18, 3) := by decide +kernel
theorem dX6_richest_66 : decode cX6_richest 66 = .ok (.aload_n 0, 1) := by decide +kernel
theorem dX6_richest_67 : decode cX6_richest 67 = .ok (.getfield 62, 3) := by decide +kernel
theorem dX6_richest_70 : decode cX6_richest 70 = .ok (.aload_n 0, 1) := by decide +kernel
theorem dX6_richest_71 : decode cX6_richest 71 = .ok (.getfield 23, 3) := by decide +kernel
theorem dX6_richest_74 : decode cX6_richest 74 = .ok (.invokevirtual 175, 3) := by decide +kernel
theorem dX6_richest_77 : decode cX6_richest 77 = .ok (.istore_n 3, 1) := by decide +kernel
theorem dX6_richest_78 : decode cX6_richest 78 = .ok (.iload 5, 2) := by decide +kernel
theorem dX6_richest_80 : decode cX6_richest 80 = .ok (.istore_n 2, 1) := by decide +kernel
theorem dX6_richest_81 : decode cX6_richest 81 = .ok (.iinc 5 1, 3) := by decide +kernel
theorem dX6_richest_84 : decode cX6_richest 84 = .ok (.goto (-57), 3) := by decide +kernel
theorem dX6_richest_87 : decode cX6_richest 87 = .ok (.iload_n 2, 1) := by decide +kernel
theorem dX6_richest_88 : decode cX6_richest 88 = .ok (.ireturn, 1) := by decide +kernel
theorem dX6_barred_0 : decode cX6_barred 0 = .ok (.iload_n 1, 1) := by decide +kernel
theorem dX6_barred_1 : decode cX6_barred 1 = .ok (.invokestatic 162, 3) := by decide +kernel
theorem dX6_barred_4 : decode cX6_barred 4 = .ok (.ifCond .ne 6, 3) := by decide +kernel
theorem dX6_barred_7 : decode cX6_barred 7 = .ok (.bipush (-2), 2) := by decide +kernel
theorem dX6_barred_9 : decode cX6_barred 9 = .ok (.ireturn, 1) := by decide +kernel
theorem dX6_barred_10 : decode cX6_barred 10 = .ok (.aload_n 0, 1) := by decide +kernel
theorem dX6_barred_11 : decode cX6_barred 11 = .ok (.getfield 23, 3) := by decide +kernel
theorem dX6_barred_14 : decode cX6_barred 14 = .ok (.iconst 1, 1) := by decide +kernel
theorem dX6_barred_15 : decode cX6_barred 15 = .ok (.invokevirtual 196, 3) := by decide +kernel
theorem dX6_barred_18 : decode cX6_barred 18 = .ok (.istore_n 2, 1) := by decide +kernel
theorem dX6_barred_19 : decode cX6_barred 19 = .ok (.aload_n 0, 1) := by decide +kernel
theorem dX6_barred_20 : decode cX6_barred 20 = .ok (.getfield 23, 3) := by decide +kernel
theorem dX6_barred_23 : decode cX6_barred 23 = .ok (.invokevirtual 169, 3) := by decide +kernel
theorem dX6_barred_26 : decode cX6_barred 26 = .ok (.istore_n 3, 1) := by decide +kernel
theorem dX6_barred_27 : decode cX6_barred 27 = .ok (.iconst 0, 1) := by decide +kernel
theorem dX6_barred_28 : decode cX6_barred 28 = .ok (.istore 4, 2) := by decide +kernel
theorem dX6_barred_30 : decode cX6_barred 30 = .ok (.iload 4, 2) := by decide +kernel
theorem dX6_barred_32 : decode cX6_barred 32 = .ok (.iload_n 3, 1) := by decide +kernel
theorem dX6_barred_33 : decode cX6_barred 33 = .ok (.if_icmp .gt 30, 3) := by decide +kernel
theorem dX6_barred_36 : decode cX6_barred 36 = .ok (.iload_n 2, 1) := by decide +kernel
theorem dX6_barred_37 : decode cX6_barred 37 = .ok (.ifCond .eq 26, 3) := by decide +kernel
theorem dX6_barred_40 : decode cX6_barred 40 = .ok (.aload_n 0, 1) := by decide +kernel
theorem dX6_barred_41 : decode cX6_barred 41 = .ok (.iload 4, 2) := by decide +kernel
theorem dX6_barred_43 : decode cX6_barred 43 = .ok (.iload_n 1, 1) := by decide +kernel
theorem dX6_barred_44 : decode cX6_barred 44 = .ok (.invokevirtual 165, 3) := by decide +kernel
theorem dX6_barred_47 : decode cX6_barred 47 = .ok (.iload_n 2, 1) := by decide +kernel
theorem dX6_barred_48 : decode cX6_barred 48 = .ok (.aload_n 0, 1) := by decide +kernel
theorem dX6_barred_49 : decode cX6_barred 49 = .ok (.getfield 62, 3) := by decide +kernel
theorem dX6_barred_52 : decode cX6_barred 52 = .ok (.invokevirtual 199, 3) := by decide +kernel
theorem dX6_barred_55 : decode cX6_barred 55 = .ok (.iand, 1) := by decide +kernel
theorem dX6_barred_56 : decode cX6_barred 56 = .ok (.istore_n 2, 1) := by decide +kernel
theorem dX6_barred_57 : decode cX6_barred 57 = .ok (.iinc 4 1, 3) := by decide +kernel
theorem dX6_barred_60 : decode cX6_barred 60 = .ok (.goto (-30), 3) := by decide +kernel
theorem dX6_barred_63 : decode cX6_barred 63 = .ok (.iload_n 2, 1) := by decide +kernel
theorem dX6_barred_64 : decode cX6_barred 64 = .ok (.invokestatic 202, 3) := by decide +kernel
theorem dX6_barred_67 : decode cX6_barred 67 = .ok (.ireturn, 1) := by decide +kernel
theorem dX6_free_0 : decode cX6_free 0 = .ok (.aload_n 0, 1) := by decide +kernel
theorem dX6_free_1 : decode cX6_free 1 = .ok (.getfield 23, 3) := by decide +kernel
theorem dX6_free_4 : decode cX6_free 4 = .ok (.iload_n 1, 1) := by decide +kernel
theorem dX6_free_5 : decode cX6_free 5 = .ok (.invokevirtual 124, 3) := by decide +kernel
theorem dX6_free_8 : decode cX6_free 8 = .ok (.ifCond .ne 5, 3) := by decide +kernel
theorem dX6_free_11 : decode cX6_free 11 = .ok (.iconst (-1), 1) := by decide +kernel
theorem dX6_free_12 : decode cX6_free 12 = .ok (.ireturn, 1) := by decide +kernel
theorem dX6_free_13 : decode cX6_free 13 = .ok (.iload_n 2, 1) := by decide +kernel
theorem dX6_free_14 : decode cX6_free 14 = .ok (.invokestatic 162, 3) := by decide +kernel
theorem dX6_free_17 : decode cX6_free 17 = .ok (.ifCond .ne 6, 3) := by decide +kernel
theorem dX6_free_20 : decode cX6_free 20 = .ok (.bipush (-2), 2) := by decide +kernel
theorem dX6_free_22 : decode cX6_free 22 = .ok (.ireturn, 1) := by decide +kernel
theorem dX6_free_23 : decode cX6_free 23 = .ok (.iconst 0, 1) := by decide +kernel
theorem dX6_free_24 : decode cX6_free 24 = .ok (.istore_n 3, 1) := by decide +kernel
theorem dX6_free_25 : decode cX6_free 25 = .ok (.aload_n 0, 1) := by decide +kernel
theorem dX6_free_26 : decode cX6_free 26 = .ok (.getfield 23, 3) := by decide +kernel
theorem dX6_free_29 : decode cX6_free 29 = .ok (.invokevirtual 169, 3) := by decide +kernel
theorem dX6_free_32 : decode cX6_free 32 = .ok (.istore 4, 2) := by decide +kernel
theorem dX6_free_34 : decode cX6_free 34 = .ok (.iconst 0, 1) := by decide +kernel
theorem dX6_free_35 : decode cX6_free 35 = .ok (.istore 5, 2) := by decide +kernel
theorem dX6_free_37 : decode cX6_free 37 = .ok (.iload 5, 2) := by decide +kernel
theorem dX6_free_39 : decode cX6_free 39 = .ok (.iload 4, 2) := by decide +kernel
theorem dX6_free_41 : decode cX6_free 41 = .ok (.if_icmp .gt 44, 3) := by decide +kernel
theorem dX6_free_44 : decode cX6_free 44 = .ok (.iload 5, 2) := by decide +kernel
theorem dX6_free_46 : decode cX6_free 46 = .ok (.iload_n 1, 1) := by decide +kernel
theorem dX6_free_47 : decode cX6_free 47 = .ok (.ishr, 1) := by decide +kernel
theorem dX6_free_48 : decode cX6_free 48 = .ok (.iconst 1, 1) := by decide +kernel
theorem dX6_free_49 : decode cX6_free 49 = .ok (.iand, 1) := by decide +kernel
theorem dX6_free_50 : decode cX6_free 50 = .ok (.iconst 1, 1) := by decide +kernel
theorem dX6_free_51 : decode cX6_free 51 = .ok (.if_icmp .ne 28, 3) := by decide +kernel
theorem dX6_free_54 : decode cX6_free 54 = .ok (.aload_n 0, 1) := by decide +kernel
theorem dX6_free_55 : decode cX6_free 55 = .ok (.iload 5, 2) := by decide +kernel
theorem dX6_free_57 : decode cX6_free 57 = .ok (.iload_n 2, 1) := by decide +kernel
theorem dX6_free_58 : decode cX6_free 58 = .ok (.invokevirtual 165, 3) := by decide +kernel
theorem dX6_free_61 : decode cX6_free 61 = .ok (.iload_n 3, 1) := by decide +kernel
theorem dX6_free_62 : decode cX6_free 62 = .ok (.aload_n 0, 1) := by decide +kernel
theorem dX6_free_63 : decode cX6_free 63 = .ok (.getfield 62, 3) := by decide +kernel
theorem dX6_free_66 : decode cX6_free 66 = .ok (.invokevirtual 179, 3) := by decide +kernel
theorem dX6_free_69 : decode cX6_free 69 = .ok (.ifCond .eq 7, 3) := by decide +kernel
theorem dX6_free_72 : decode cX6_free 72 = .ok (.iconst 1, 1) := by decide +kernel
theorem dX6_free_73 : decode cX6_free 73 = .ok (.goto 4, 3) := by decide +kernel
theorem dX6_free_76 : decode cX6_free 76 = .ok (.iconst 0, 1) := by decide +kernel
theorem dX6_free_77 : decode cX6_free 77 = .ok (.iadd, 1) := by decide +kernel
theorem dX6_free_78 : decode cX6_free 78 = .ok (.istore_n 3, 1) := by decide +kernel
theorem dX6_free_79 : decode cX6_free 79 = .ok (.iinc 5 1, 3) := by decide +kernel
theorem dX6_free_82 : decode cX6_free 82 = .ok (.goto (-45), 3) := by decide +kernel
theorem dX6_free_85 : decode cX6_free 85 = .ok (.iload_n 3, 1) := by decide +kernel
theorem dX6_free_86 : decode cX6_free 86 = .ok (.ireturn, 1) := by decide +kernel
theorem dX6_stuck_0 : decode cX6_stuck 0 = .ok (.aload_n 0, 1) := by decide +kernel
theorem dX6_stuck_1 : decode cX6_stuck 1 = .ok (.getfield 23, 3) := by decide +kernel
theorem dX6_stuck_4 : decode cX6_stuck 4 = .ok (.iload_n 1, 1) := by decide +kernel
theorem dX6_stuck_5 : decode cX6_stuck 5 = .ok (.invokevirtual 124, 3) := by decide +kernel
theorem dX6_stuck_8 : decode cX6_stuck 8 = .ok (.ifCond .ne 5, 3) := by decide +kernel
theorem dX6_stuck_11 : decode cX6_stuck 11 = .ok (.iconst (-1), 1) := by decide +kernel
theorem dX6_stuck_12 : decode cX6_stuck 12 = .ok (.ireturn, 1) := by decide +kernel
theorem dX6_stuck_13 : decode cX6_stuck 13 = .ok (.iload_n 2, 1) := by decide +kernel
theorem dX6_stuck_14 : decode cX6_stuck 14 = .ok (.invokestatic 162, 3) := by decide +kernel
theorem dX6_stuck_17 : decode cX6_stuck 17 = .ok (.ifCond .ne 6, 3) := by decide +kernel
theorem dX6_stuck_20 : decode cX6_stuck 20 = .ok (.bipush (-2), 2) := by decide +kernel
theorem dX6_stuck_22 : decode cX6_stuck 22 = .ok (.ireturn, 1) := by decide +kernel
theorem dX6_stuck_23 : decode cX6_stuck 23 = .ok (.aload_n 0, 1) := by decide +kernel
theorem dX6_stuck_24 : decode cX6_stuck 24 = .ok (.iload_n 2, 1) := by decide +kernel
theorem dX6_stuck_25 : decode cX6_stuck 25 = .ok (.iconst 1, 1) := by decide +kernel
theorem dX6_stuck_26 : decode cX6_stuck 26 = .ok (.iload_n 1, 1) := by decide +kernel
theorem dX6_stuck_27 : decode cX6_stuck 27 = .ok (.ishl, 1) := by decide +kernel
theorem dX6_stuck_28 : decode cX6_stuck 28 = .ok (.invokevirtual 183, 3) := by decide +kernel
theorem dX6_stuck_31 : decode cX6_stuck 31 = .ok (.istore_n 3, 1) := by decide +kernel
theorem dX6_stuck_32 : decode cX6_stuck 32 = .ok (.iload_n 3, 1) := by decide +kernel
theorem dX6_stuck_33 : decode cX6_stuck 33 = .ok (.bipush (-9), 2) := by decide +kernel
theorem dX6_stuck_35 : decode cX6_stuck 35 = .ok (.if_icmp .ne 6, 3) := by decide +kernel
theorem dX6_stuck_38 : decode cX6_stuck 38 = .ok (.bipush (-9), 2) := by decide +kernel
theorem dX6_stuck_40 : decode cX6_stuck 40 = .ok (.ireturn, 1) := by decide +kernel
theorem dX6_stuck_41 : decode cX6_stuck 41 = .ok (.aload_n 0, 1) := by decide +kernel
theorem dX6_stuck_42 : decode cX6_stuck 42 = .ok (.iload_n 2, 1) := by decide +kernel
theorem dX6_stuck_43 : decode cX6_stuck 43 = .ok (.iconst 0, 1) := by decide +kernel
theorem dX6_stuck_44 : decode cX6_stuck 44 = .ok (.invokevirtual 183, 3) := by decide +kernel
theorem dX6_stuck_47 : decode cX6_stuck 47 = .ok (.istore 4, 2) := by decide +kernel
theorem dX6_stuck_49 : decode cX6_stuck 49 = .ok (.iload_n 3, 1) := by decide +kernel
theorem dX6_stuck_50 : decode cX6_stuck 50 = .ok (.aload_n 0, 1) := by decide +kernel
theorem dX6_stuck_51 : decode cX6_stuck 51 = .ok (.getfield 40, 3) := by decide +kernel
theorem dX6_stuck_54 : decode cX6_stuck 54 = .ok (.getfield 117, 3) := by decide +kernel
theorem dX6_stuck_57 : decode cX6_stuck 57 = .ok (.ixor, 1) := by decide +kernel
theorem dX6_stuck_58 : decode cX6_stuck 58 = .ok (.invokestatic 186, 3) := by decide +kernel
theorem dX6_stuck_61 : decode cX6_stuck 61 = .ok (.iload 4, 2) := by decide +kernel
theorem dX6_stuck_63 : decode cX6_stuck 63 = .ok (.aload_n 0, 1) := by decide +kernel
theorem dX6_stuck_64 : decode cX6_stuck 64 = .ok (.getfield 40, 3) := by decide +kernel
theorem dX6_stuck_67 : decode cX6_stuck 67 = .ok (.getfield 117, 3) := by decide +kernel
theorem dX6_stuck_70 : decode cX6_stuck 70 = .ok (.ixor, 1) := by decide +kernel
theorem dX6_stuck_71 : decode cX6_stuck 71 = .ok (.invokestatic 186, 3) := by decide +kernel
theorem dX6_stuck_74 : decode cX6_stuck 74 = .ok (.isub, 1) := by decide +kernel
theorem dX6_stuck_75 : decode cX6_stuck 75 = .ok (.ireturn, 1) := by decide +kernel
theorem dX6_leastBit_0 : decode cX6_leastBit 0 = .ok (.iconst 0, 1) := by decide +kernel
theorem dX6_leastBit_1 : decode cX6_leastBit 1 = .ok (.istore_n 1, 1) := by decide +kernel
theorem dX6_leastBit_2 : decode cX6_leastBit 2 = .ok (.iload_n 1, 1) := by decide +kernel
theorem dX6_leastBit_3 : decode cX6_leastBit 3 = .ok (.bipush 6, 2) := by decide +kernel
theorem dX6_leastBit_5 : decode cX6_leastBit 5 = .ok (.if_icmp .ge 20, 3) := by decide +kernel
theorem dX6_leastBit_8 : decode cX6_leastBit 8 = .ok (.iload_n 0, 1) := by decide +kernel
theorem dX6_leastBit_9 : decode cX6_leastBit 9 = .ok (.iload_n 1, 1) := by decide +kernel
theorem dX6_leastBit_10 : decode cX6_leastBit 10 = .ok (.ishr, 1) := by decide +kernel
theorem dX6_leastBit_11 : decode cX6_leastBit 11 = .ok (.iconst 1, 1) := by decide +kernel
theorem dX6_leastBit_12 : decode cX6_leastBit 12 = .ok (.iand, 1) := by decide +kernel
theorem dX6_leastBit_13 : decode cX6_leastBit 13 = .ok (.iconst 1, 1) := by decide +kernel
theorem dX6_leastBit_14 : decode cX6_leastBit 14 = .ok (.if_icmp .ne 5, 3) := by decide +kernel
theorem dX6_leastBit_17 : decode cX6_leastBit 17 = .ok (.iload_n 1, 1) := by decide +kernel
theorem dX6_leastBit_18 : decode cX6_leastBit 18 = .ok (.ireturn, 1) := by decide +kernel
theorem dX6_leastBit_19 : decode cX6_leastBit 19 = .ok (.iinc 1 1, 3) := by decide +kernel
theorem dX6_leastBit_22 : decode cX6_leastBit 22 = .ok (.goto (-20), 3) := by decide +kernel
theorem dX6_leastBit_25 : decode cX6_leastBit 25 = .ok (.bipush (-9), 2) := by decide +kernel
theorem dX6_leastBit_27 : decode cX6_leastBit 27 = .ok (.ireturn, 1) := by decide +kernel
theorem dX6_areHours_0 : decode cX6_areHours 0 = .ok (.iload_n 0, 1) := by decide +kernel
theorem dX6_areHours_1 : decode cX6_areHours 1 = .ok (.ifCond .lt 13, 3) := by decide +kernel
theorem dX6_areHours_4 : decode cX6_areHours 4 = .ok (.iload_n 0, 1) := by decide +kernel
theorem dX6_areHours_5 : decode cX6_areHours 5 = .ok (.bipush 12, 2) := by decide +kernel
theorem dX6_areHours_7 : decode cX6_areHours 7 = .ok (.if_icmp .gt 7, 3) := by decide +kernel
theorem dX6_areHours_10 : decode cX6_areHours 10 = .ok (.iconst 1, 1) := by decide +kernel
theorem dX6_areHours_11 : decode cX6_areHours 11 = .ok (.goto 4, 3) := by decide +kernel
theorem dX6_areHours_14 : decode cX6_areHours 14 = .ok (.iconst 0, 1) := by decide +kernel
theorem dX6_areHours_15 : decode cX6_areHours 15 = .ok (.ireturn, 1) := by decide +kernel
theorem dX6_tryTurning_0 : decode cX6_tryTurning 0 = .ok (.aload_n 0, 1) := by decide +kernel
theorem dX6_tryTurning_1 : decode cX6_tryTurning 1 = .ok (.getfield 62, 3) := by decide +kernel
theorem dX6_tryTurning_4 : decode cX6_tryTurning 4 = .ok (.aload_n 0, 1) := by decide +kernel
theorem dX6_tryTurning_5 : decode cX6_tryTurning 5 = .ok (.getfield 40, 3) := by decide +kernel
theorem dX6_tryTurning_8 : decode cX6_tryTurning 8 = .ok (.invokevirtual 151, 3) := by decide +kernel
theorem dX6_tryTurning_11 : decode cX6_tryTurning 11 = .ok (.aload_n 0, 1) := by decide +kernel
theorem dX6_tryTurning_12 : decode cX6_tryTurning 12 = .ok (.getfield 62, 3) := by decide +kernel
theorem dX6_tryTurning_15 : decode cX6_tryTurning 15 = .ok (.iload_n 1, 1) := by decide +kernel
theorem dX6_tryTurning_16 : decode cX6_tryTurning 16 = .ok (.putfield 117, 3) := by decide +kernel
theorem dX6_tryTurning_19 : decode cX6_tryTurning 19 = .ok (.aload_n 0, 1) := by decide +kernel
theorem dX6_tryTurning_20 : decode cX6_tryTurning 20 = .ok (.aload_n 0, 1) := by decide +kernel
theorem dX6_tryTurning_21 : decode cX6_tryTurning 21 = .ok (.getfield 62, 3) := by decide +kernel
theorem dX6_tryTurning_24 : decode cX6_tryTurning 24 = .ok (.iload_n 2, 1) := by decide +kernel
theorem dX6_tryTurning_25 : decode cX6_tryTurning 25 = .ok (.iconst 0, 1) := by decide +kernel
theorem dX6_tryTurning_26 : decode cX6_tryTurning 26 = .ok (.invokevirtual 205, 3) := by decide +kernel
theorem dX6_tryTurning_29 : decode cX6_tryTurning 29 = .ok (.return_, 1) := by decide +kernel
theorem dX6_passHours_0 : decode cX6_passHours 0 = .ok (.iconst 0, 1) := by decide +kernel
theorem dX6_passHours_1 : decode cX6_passHours 1 = .ok (.istore 4, 2) := by decide +kernel
theorem dX6_passHours_3 : decode cX6_passHours 3 = .ok (.iload 4, 2) := by decide +kernel
theorem dX6_passHours_5 : decode cX6_passHours 5 = .ok (.iload_n 2, 1) := by decide +kernel
theorem dX6_passHours_6 : decode cX6_passHours 6 = .ok (.if_icmp .ge 23, 3) := by decide +kernel
theorem dX6_passHours_9 : decode cX6_passHours 9 = .ok (.aload_n 0, 1) := by decide +kernel
theorem dX6_passHours_10 : decode cX6_passHours 10 = .ok (.getfield 33, 3) := by decide +kernel
theorem dX6_passHours_13 : decode cX6_passHours 13 = .ok (.aload_n 0, 1) := by decide +kernel
theorem dX6_passHours_14 : decode cX6_passHours 14 = .ok (.getfield 23, 3) := by decide +kernel
theorem dX6_passHours_17 : decode cX6_passHours 17 = .ok (.aload_n 1, 1) := by decide +kernel
theorem dX6_passHours_18 : decode cX6_passHours 18 = .ok (.iload_n 3, 1) := by decide +kernel
theorem dX6_passHours_19 : decode cX6_passHours 19 = .ok (.invokevirtual 137, 3) := by decide +kernel
theorem dX6_passHours_22 : decode cX6_passHours 22 = .ok (.pop, 1) := by decide +kernel
theorem dX6_passHours_23 : decode cX6_passHours 23 = .ok (.iinc 4 1, 3) := by decide +kernel
theorem dX6_passHours_26 : decode cX6_passHours 26 = .ok (.goto (-23), 3) := by decide +kernel
theorem dX6_passHours_29 : decode cX6_passHours 29 = .ok (.return_, 1) := by decide +kernel
theorem dX6_fewestTurned_0 : decode cX6_fewestTurned 0 = .ok (.bipush (-9), 2) := by decide +kernel
theorem dX6_fewestTurned_2 : decode cX6_fewestTurned 2 = .ok (.istore_n 3, 1) := by decide +kernel
theorem dX6_fewestTurned_3 : decode cX6_fewestTurned 3 = .ok (.bipush 13, 2) := by decide +kernel
theorem dX6_fewestTurned_5 : decode cX6_fewestTurned 5 = .ok (.istore 4, 2) := by decide +kernel
theorem dX6_fewestTurned_7 : decode cX6_fewestTurned 7 = .ok (.aload_n 0, 1) := by decide +kernel
theorem dX6_fewestTurned_8 : decode cX6_fewestTurned 8 = .ok (.getfield 23, 3) := by decide +kernel
theorem dX6_fewestTurned_11 : decode cX6_fewestTurned 11 = .ok (.invokevirtual 169, 3) := by decide +kernel
theorem dX6_fewestTurned_14 : decode cX6_fewestTurned 14 = .ok (.istore 5, 2) := by decide +kernel
theorem dX6_fewestTurned_16 : decode cX6_fewestTurned 16 = .ok (.iconst 0, 1) := by decide +kernel
theorem dX6_fewestTurned_17 : decode cX6_fewestTurned 17 = .ok (.istore 6, 2) := by decide +kernel
theorem dX6_fewestTurned_19 : decode cX6_fewestTurned 19 = .ok (.iload 6, 2) := by decide +kernel
theorem dX6_fewestTurned_21 : decode cX6_fewestTurned 21 = .ok (.iload 5, 2) := by decide +kernel
theorem dX6_fewestTurned_23 : decode cX6_fewestTurned 23 = .ok (.if_icmp .gt 65, 3) := by decide +kernel
theorem dX6_fewestTurned_26 : decode cX6_fewestTurned 26 = .ok (.iload 6, 2) := by decide +kernel
theorem dX6_fewestTurned_28 : decode cX6_fewestTurned 28 = .ok (.aload_n 0, 1) := by decide +kernel
theorem dX6_fewestTurned_29 : decode cX6_fewestTurned 29 = .ok (.getfield 40, 3) := by decide +kernel
theorem dX6_fewestTurned_32 : decode cX6_fewestTurned 32 = .ok (.getfield 117, 3) := by decide +kernel
theorem dX6_fewestTurned_35 : decode cX6_fewestTurned 35 = .ok (.ixor, 1) := by decide +kernel
theorem dX6_fewestTurned_36 : decode cX6_fewestTurned 36 = .ok (.istore 7, 2) := by decide +kernel
theorem dX6_fewestTurned_38 : decode cX6_fewestTurned 38 = .ok (.iload 7, 2) := by decide +kernel
theorem dX6_fewestTurned_40 : decode cX6_fewestTurned 40 = .ok (.iload_n 2, 1) := by decide +kernel
theorem dX6_fewestTurned_41 : decode cX6_fewestTurned 41 = .ok (.iand, 1) := by decide +kernel
theorem dX6_fewestTurned_42 : decode cX6_fewestTurned 42 = .ok (.ifCond .ne 40, 3) := by decide +kernel
theorem dX6_fewestTurned_45 : decode cX6_fewestTurned 45 = .ok (.iload 7, 2) := by decide +kernel
theorem dX6_fewestTurned_47 : decode cX6_fewestTurned 47 = .ok (.invokestatic 186, 3) := by decide +kernel
theorem dX6_fewestTurned_50 : decode cX6_fewestTurned 50 = .ok (.iload 4, 2) := by decide +kernel
theorem dX6_fewestTurned_52 : decode cX6_fewestTurned 52 = .ok (.if_icmp .ge 30, 3) := by decide +kernel
theorem dX6_fewestTurned_55 : decode cX6_fewestTurned 55 = .ok (.aload_n 0, 1) := by decide +kernel
theorem dX6_fewestTurned_56 : decode cX6_fewestTurned 56 = .ok (.iload 6, 2) := by decide +kernel
theorem dX6_fewestTurned_58 : decode cX6_fewestTurned 58 = .ok (.iload_n 1, 1) := by decide +kernel
theorem dX6_fewestTurned_59 : decode cX6_fewestTurned 59 = .ok (.invokevirtual 165, 3) := by decide +kernel
theorem dX6_fewestTurned_62 : decode cX6_fewestTurned 62 = .ok (.aload_n 0, 1) := by decide +kernel
theorem dX6_fewestTurned_63 : decode cX6_fewestTurned 63 = .ok (.getfield 62, 3) := by decide +kernel
theorem dX6_fewestTurned_66 : decode cX6_fewestTurned 66 = .ok (.invokevirtual 179, 3) := by decide +kernel
theorem dX6_fewestTurned_69 : decode cX6_fewestTurned 69 = .ok (.ifCond .eq 13, 3) := by decide +kernel
theorem dX6_fewestTurned_72 : decode cX6_fewestTurned 72 = .ok (.iload 7, 2) := by decide +kernel
theorem dX6_fewestTurned_74 : decode cX6_fewestTurned 74 = .ok (.invokestatic 186, 3) := by decide +kernel
theorem dX6_fewestTurned_77 : decode cX6_fewestTurned 77 = .ok (.istore 4, 2) := by decide +kernel
theorem dX6_fewestTurned_79 : decode cX6_fewestTurned 79 = .ok (.iload 6, 2) := by decide +kernel
theorem dX6_fewestTurned_81 : decode cX6_fewestTurned 81 = .ok (.istore_n 3, 1) := by decide +kernel
theorem dX6_fewestTurned_82 : decode cX6_fewestTurned 82 = .ok (.iinc 6 1, 3) := by decide +kernel
theorem dX6_fewestTurned_85 : decode cX6_fewestTurned 85 = .ok (.goto (-66), 3) := by decide +kernel
theorem dX6_fewestTurned_88 : decode cX6_fewestTurned 88 = .ok (.iload_n 3, 1) := by decide +kernel
theorem dX6_fewestTurned_89 : decode cX6_fewestTurned 89 = .ok (.ireturn, 1) := by decide +kernel
theorem dX6_fewestBySecond_0 : decode cX6_fewestBySecond 0 = .ok (.iload_n 1, 1) := by decide +kernel
theorem dX6_fewestBySecond_1 : decode cX6_fewestBySecond 1 = .ok (.aload_n 0, 1) := by decide +kernel
theorem dX6_fewestBySecond_2 : decode cX6_fewestBySecond 2 = .ok (.getfield 40, 3) := by decide +kernel
theorem dX6_fewestBySecond_5 : decode cX6_fewestBySecond 5 = .ok (.getfield 117, 3) := by decide +kernel
theorem dX6_fewestBySecond_8 : decode cX6_fewestBySecond 8 = .ok (.ixor, 1) := by decide +kernel
theorem dX6_fewestBySecond_9 : decode cX6_fewestBySecond 9 = .ok (.invokestatic 186, 3) := by decide +kernel
theorem dX6_fewestBySecond_12 : decode cX6_fewestBySecond 12 = .ok (.istore 5, 2) := by decide +kernel
theorem dX6_fewestBySecond_14 : decode cX6_fewestBySecond 14 = .ok (.iload 5, 2) := by decide +kernel
theorem dX6_fewestBySecond_16 : decode cX6_fewestBySecond 16 = .ok (.iload 4, 2) := by decide +kernel
theorem dX6_fewestBySecond_18 : decode cX6_fewestBySecond 18 = .ok (.if_icmp .lt 6, 3) := by decide +kernel
theorem dX6_fewestBySecond_21 : decode cX6_fewestBySecond 21 = .ok (.iload 4, 2) := by decide +kernel
theorem dX6_fewestBySecond_23 : decode cX6_fewestBySecond 23 = .ok (.ireturn, 1) := by decide +kernel
theorem dX6_fewestBySecond_24 : decode cX6_fewestBySecond 24 = .ok (.aload_n 0, 1) := by decide +kernel
theorem dX6_fewestBySecond_25 : decode cX6_fewestBySecond 25 = .ok (.getfield 65, 3) := by decide +kernel
theorem dX6_fewestBySecond_28 : decode cX6_fewestBySecond 28 = .ok (.aload_n 0, 1) := by decide +kernel
theorem dX6_fewestBySecond_29 : decode cX6_fewestBySecond 29 = .ok (.getfield 40, 3) := by decide +kernel
theorem dX6_fewestBySecond_32 : decode cX6_fewestBySecond 32 = .ok (.invokevirtual 151, 3) := by decide +kernel
theorem dX6_fewestBySecond_35 : decode cX6_fewestBySecond 35 = .ok (.aload_n 0, 1) := by decide +kernel
theorem dX6_fewestBySecond_36 : decode cX6_fewestBySecond 36 = .ok (.getfield 65, 3) := by decide +kernel
theorem dX6_fewestBySecond_39 : decode cX6_fewestBySecond 39 = .ok (.iload_n 1, 1) := by decide +kernel
theorem dX6_fewestBySecond_40 : decode cX6_fewestBySecond 40 = .ok (.putfield 117, 3) := by decide +kernel
theorem dX6_fewestBySecond_43 : decode cX6_fewestBySecond 43 = .ok (.aload_n 0, 1) := by decide +kernel
theorem dX6_fewestBySecond_44 : decode cX6_fewestBySecond 44 = .ok (.aload_n 0, 1) := by decide +kernel
theorem dX6_fewestBySecond_45 : decode cX6_fewestBySecond 45 = .ok (.getfield 65, 3) := by decide +kernel
theorem dX6_fewestBySecond_48 : decode cX6_fewestBySecond 48 = .ok (.iload_n 2, 1) := by decide +kernel
theorem dX6_fewestBySecond_49 : decode cX6_fewestBySecond 49 = .ok (.iconst 0, 1) := by decide +kernel
theorem dX6_fewestBySecond_50 : decode cX6_fewestBySecond 50 = .ok (.invokevirtual 205, 3) := by decide +kernel
theorem dX6_fewestBySecond_53 : decode cX6_fewestBySecond 53 = .ok (.aload_n 0, 1) := by decide +kernel
theorem dX6_fewestBySecond_54 : decode cX6_fewestBySecond 54 = .ok (.getfield 65, 3) := by decide +kernel
theorem dX6_fewestBySecond_57 : decode cX6_fewestBySecond 57 = .ok (.invokevirtual 154, 3) := by decide +kernel
theorem dX6_fewestBySecond_60 : decode cX6_fewestBySecond 60 = .ok (.ifCond .eq 6, 3) := by decide +kernel
theorem dX6_fewestBySecond_63 : decode cX6_fewestBySecond 63 = .ok (.iload 4, 2) := by decide +kernel
theorem dX6_fewestBySecond_65 : decode cX6_fewestBySecond 65 = .ok (.ireturn, 1) := by decide +kernel
theorem dX6_fewestBySecond_66 : decode cX6_fewestBySecond 66 = .ok (.iload 4, 2) := by decide +kernel
theorem dX6_fewestBySecond_68 : decode cX6_fewestBySecond 68 = .ok (.istore 6, 2) := by decide +kernel
theorem dX6_fewestBySecond_70 : decode cX6_fewestBySecond 70 = .ok (.aload_n 0, 1) := by decide +kernel
theorem dX6_fewestBySecond_71 : decode cX6_fewestBySecond 71 = .ok (.getfield 23, 3) := by decide +kernel
theorem dX6_fewestBySecond_74 : decode cX6_fewestBySecond 74 = .ok (.invokevirtual 169, 3) := by decide +kernel
theorem dX6_fewestBySecond_77 : decode cX6_fewestBySecond 77 = .ok (.istore 7, 2) := by decide +kernel
theorem dX6_fewestBySecond_79 : decode cX6_fewestBySecond 79 = .ok (.iconst 0, 1) := by decide +kernel
theorem dX6_fewestBySecond_80 : decode cX6_fewestBySecond 80 = .ok (.istore 8, 2) := by decide +kernel
theorem dX6_fewestBySecond_82 : decode cX6_fewestBySecond 82 = .ok (.iload 8, 2) := by decide +kernel
theorem dX6_fewestBySecond_84 : decode cX6_fewestBySecond 84 = .ok (.iload 7, 2) := by decide +kernel
theorem dX6_fewestBySecond_86 : decode cX6_fewestBySecond 86 = .ok (.if_icmp .gt 77, 3) := by decide +kernel
theorem dX6_fewestBySecond_89 : decode cX6_fewestBySecond 89 = .ok (.iload 5, 2) := by decide +kernel
theorem dX6_fewestBySecond_91 : decode cX6_fewestBySecond 91 = .ok (.iload_n 1, 1) := by decide +kernel
theorem dX6_fewestBySecond_92 : decode cX6_fewestBySecond 92 = .ok (.iload 8, 2) := by decide +kernel
theorem dX6_fewestBySecond_94 : decode cX6_fewestBySecond 94 = .ok (.ixor, 1) := by decide +kernel
theorem dX6_fewestBySecond_95 : decode cX6_fewestBySecond 95 = .ok (.invokestatic 186, 3) := by decide +kernel
theorem dX6_fewestBySecond_98 : decode cX6_fewestBySecond 98 = .ok (.iadd, 1) := by decide +kernel
theorem dX6_fewestBySecond_99 : decode cX6_fewestBySecond 99 = .ok (.istore 9, 2) := by decide +kernel
theorem dX6_fewestBySecond_101 : decode cX6_fewestBySecond 101 = .ok (.iload 9, 2) := by decide +kernel
theorem dX6_fewestBySecond_103 : decode cX6_fewestBySecond 103 = .ok (.iload 6, 2) := by decide +kernel
theorem dX6_fewestBySecond_105 : decode cX6_fewestBySecond 105 = .ok (.if_icmp .ge 52, 3) := by decide +kernel
theorem dX6_fewestBySecond_108 : decode cX6_fewestBySecond 108 = .ok (.aload_n 0, 1) := by decide +kernel
theorem dX6_fewestBySecond_109 : decode cX6_fewestBySecond 109 = .ok (.getfield 62, 3) := by decide +kernel
theorem dX6_fewestBySecond_112 : decode cX6_fewestBySecond 112 = .ok (.aload_n 0, 1) := by decide +kernel
theorem dX6_fewestBySecond_113 : decode cX6_fewestBySecond 113 = .ok (.getfield 65, 3) := by decide +kernel
theorem dX6_fewestBySecond_116 : decode cX6_fewestBySecond 116 = .ok (.invokevirtual 151, 3) := by decide +kernel
theorem dX6_fewestBySecond_119 : decode cX6_fewestBySecond 119 = .ok (.aload_n 0, 1) := by decide +kernel
theorem dX6_fewestBySecond_120 : decode cX6_fewestBySecond 120 = .ok (.getfield 62, 3) := by decide +kernel
theorem dX6_fewestBySecond_123 : decode cX6_fewestBySecond 123 = .ok (.iload 8, 2) := by decide +kernel
theorem dX6_fewestBySecond_125 : decode cX6_fewestBySecond 125 = .ok (.putfield 117, 3) := by decide +kernel
theorem dX6_fewestBySecond_128 : decode cX6_fewestBySecond 128 = .ok (.aload_n 0, 1) := by decide +kernel
theorem dX6_fewestBySecond_129 : decode cX6_fewestBySecond 129 = .ok (.aload_n 0, 1) := by decide +kernel
theorem dX6_fewestBySecond_130 : decode cX6_fewestBySecond 130 = .ok (.getfield 62, 3) := by decide +kernel
theorem dX6_fewestBySecond_133 : decode cX6_fewestBySecond 133 = .ok (.iload_n 3, 1) := by decide +kernel
theorem dX6_fewestBySecond_134 : decode cX6_fewestBySecond 134 = .ok (.iconst 0, 1) := by decide +kernel
theorem dX6_fewestBySecond_135 : decode cX6_fewestBySecond 135 = .ok (.invokevirtual 205, 3) := by decide +kernel
theorem dX6_fewestBySecond_138 : decode cX6_fewestBySecond 138 = .ok (.aload_n 0, 1) := by decide +kernel
theorem dX6_fewestBySecond_139 : decode cX6_fewestBySecond 139 = .ok (.getfield 62, 3) := by decide +kernel
theorem dX6_fewestBySecond_142 : decode cX6_fewestBySecond 142 = .ok (.invokevirtual 179, 3) := by decide +kernel
theorem dX6_fewestBySecond_145 : decode cX6_fewestBySecond 145 = .ok (.ifCond .eq 8, 3) := by decide +kernel
theorem dX6_fewestBySecond_148 : decode cX6_fewestBySecond 148 = .ok (.iload 9, 2) := by decide +kernel
theorem dX6_fewestBySecond_150 : decode cX6_fewestBySecond 150 = .ok (.goto 5, 3) := by decide +kernel
theorem dX6_fewestBySecond_153 : decode cX6_fewestBySecond 153 = .ok (.iload 6, 2) := by decide +kernel
theorem dX6_fewestBySecond_155 : decode cX6_fewestBySecond 155 = .ok (.istore 6, 2) := by decide +kernel
theorem dX6_fewestBySecond_157 : decode cX6_fewestBySecond 157 = .ok (.iinc 8 1, 3) := by decide +kernel
theorem dX6_fewestBySecond_160 : decode cX6_fewestBySecond 160 = .ok (.goto (-78), 3) := by decide +kernel
theorem dX6_fewestBySecond_163 : decode cX6_fewestBySecond 163 = .ok (.iload 6, 2) := by decide +kernel
theorem dX6_fewestBySecond_165 : decode cX6_fewestBySecond 165 = .ok (.ireturn, 1) := by decide +kernel
theorem dX6_share_0 : decode cX6_share 0 = .ok (.aload_n 0, 1) := by decide +kernel
theorem dX6_share_1 : decode cX6_share 1 = .ok (.getfield 23, 3) := by decide +kernel
theorem dX6_share_4 : decode cX6_share 4 = .ok (.iload_n 1, 1) := by decide +kernel
theorem dX6_share_5 : decode cX6_share 5 = .ok (.invokevirtual 98, 3) := by decide +kernel
theorem dX6_share_8 : decode cX6_share 8 = .ok (.ifCond .ne 5, 3) := by decide +kernel
theorem dX6_share_11 : decode cX6_share 11 = .ok (.iconst (-1), 1) := by decide +kernel
theorem dX6_share_12 : decode cX6_share 12 = .ok (.ireturn, 1) := by decide +kernel
theorem dX6_share_13 : decode cX6_share 13 = .ok (.iload_n 2, 1) := by decide +kernel
theorem dX6_share_14 : decode cX6_share 14 = .ok (.invokestatic 162, 3) := by decide +kernel
theorem dX6_share_17 : decode cX6_share 17 = .ok (.ifCond .ne 6, 3) := by decide +kernel
theorem dX6_share_20 : decode cX6_share 20 = .ok (.bipush (-2), 2) := by decide +kernel
theorem dX6_share_22 : decode cX6_share 22 = .ok (.ireturn, 1) := by decide +kernel
theorem dX6_share_23 : decode cX6_share 23 = .ok (.aload_n 0, 1) := by decide +kernel
theorem dX6_share_24 : decode cX6_share 24 = .ok (.getfield 23, 3) := by decide +kernel
theorem dX6_share_27 : decode cX6_share 27 = .ok (.getfield 102, 3) := by decide +kernel
theorem dX6_share_30 : decode cX6_share 30 = .ok (.iload_n 1, 1) := by decide +kernel
theorem dX6_share_31 : decode cX6_share 31 = .ok (.iaload, 1) := by decide +kernel
theorem dX6_share_32 : decode cX6_share 32 = .ok (.ifCond .eq 6, 3) := by decide +kernel
theorem dX6_share_35 : decode cX6_share 35 = .ok (.bipush (-3), 2) := by decide +kernel
theorem dX6_share_37 : decode cX6_share 37 = .ok (.ireturn, 1) := by decide +kernel
theorem dX6_share_38 : decode cX6_share 38 = .ok (.aload_n 0, 1) := by decide +kernel
theorem dX6_share_39 : decode cX6_share 39 = .ok (.getfield 23, 3) := by decide +kernel
theorem dX6_share_42 : decode cX6_share 42 = .ok (.iconst 0, 1) := by decide +kernel
theorem dX6_share_43 : decode cX6_share 43 = .ok (.invokevirtual 196, 3) := by decide +kernel
theorem dX6_share_46 : decode cX6_share 46 = .ok (.istore 4, 2) := by decide +kernel
theorem dX6_share_48 : decode cX6_share 48 = .ok (.iload 4, 2) := by decide +kernel
theorem dX6_share_50 : decode cX6_share 50 = .ok (.iconst 1, 1) := by decide +kernel
theorem dX6_share_51 : decode cX6_share 51 = .ok (.iload_n 1, 1) := by decide +kernel
theorem dX6_share_52 : decode cX6_share 52 = .ok (.ishl, 1) := by decide +kernel
theorem dX6_share_53 : decode cX6_share 53 = .ok (.iconst (-1), 1) := by decide +kernel
theorem dX6_share_54 : decode cX6_share 54 = .ok (.ixor, 1) := by decide +kernel
theorem dX6_share_55 : decode cX6_share 55 = .ok (.iand, 1) := by decide +kernel
theorem dX6_share_56 : decode cX6_share 56 = .ok (.istore 5, 2) := by decide +kernel
theorem dX6_share_58 : decode cX6_share 58 = .ok (.iload 5, 2) := by decide +kernel
theorem dX6_share_60 : decode cX6_share 60 = .ok (.invokestatic 186, 3) := by decide +kernel
theorem dX6_share_63 : decode cX6_share 63 = .ok (.istore 6, 2) := by decide +kernel
theorem dX6_share_65 : decode cX6_share 65 = .ok (.iconst 0, 1) := by decide +kernel
theorem dX6_share_66 : decode cX6_share 66 = .ok (.istore 7, 2) := by decide +kernel
theorem dX6_share_68 : decode cX6_share 68 = .ok (.iconst 0, 1) := by decide +kernel
theorem dX6_share_69 : decode cX6_share 69 = .ok (.istore 8, 2) := by decide +kernel
theorem dX6_share_71 : decode cX6_share 71 = .ok (.iload 8, 2) := by decide +kernel
theorem dX6_share_73 : decode cX6_share 73 = .ok (.bipush 64, 2) := by decide +kernel
theorem dX6_share_75 : decode cX6_share 75 = .ok (.if_icmp .ge 81, 3) := by decide +kernel
theorem dX6_share_78 : decode cX6_share 78 = .ok (.iload 8, 2) := by decide +kernel
theorem dX6_share_80 : decode cX6_share 80 = .ok (.iload 5, 2) := by decide +kernel
theorem dX6_share_82 : decode cX6_share 82 = .ok (.iconst (-1), 1) := by decide +kernel
theorem dX6_share_83 : decode cX6_share 83 = .ok (.ixor, 1) := by decide +kernel
theorem dX6_share_84 : decode cX6_share 84 = .ok (.iand, 1) := by decide +kernel
theorem dX6_share_85 : decode cX6_share 85 = .ok (.ifCond .ne 65, 3) := by decide +kernel
theorem dX6_share_88 : decode cX6_share 88 = .ok (.iload 8, 2) := by decide +kernel
theorem dX6_share_90 : decode cX6_share 90 = .ok (.invokestatic 186, 3) := by decide +kernel
theorem dX6_share_93 : decode cX6_share 93 = .ok (.istore 9, 2) := by decide +kernel
theorem dX6_share_95 : decode cX6_share 95 = .ok (.getstatic 209, 3) := by decide +kernel
theorem dX6_share_98 : decode cX6_share 98 = .ok (.iload 9, 2) := by decide +kernel
theorem dX6_share_100 : decode cX6_share 100 = .ok (.iaload, 1) := by decide +kernel
theorem dX6_share_101 : decode cX6_share 101 = .ok (.getstatic 209, 3) := by decide +kernel
theorem dX6_share_104 : decode cX6_share 104 = .ok (.iload 6, 2) := by decide +kernel
theorem dX6_share_106 : decode cX6_share 106 = .ok (.iload 9, 2) := by decide +kernel
theorem dX6_share_108 : decode cX6_share 108 = .ok (.isub, 1) := by decide +kernel
theorem dX6_share_109 : decode cX6_share 109 = .ok (.iaload, 1) := by decide +kernel
theorem dX6_share_110 : decode cX6_share 110 = .ok (.imul, 1) := by decide +kernel
theorem dX6_share_111 : decode cX6_share 111 = .ok (.istore 10, 2) := by decide +kernel
theorem dX6_share_113 : decode cX6_share 113 = .ok (.aload_n 0, 1) := by decide +kernel
theorem dX6_share_114 : decode cX6_share 114 = .ok (.iload_n 2, 1) := by decide +kernel
theorem dX6_share_115 : decode cX6_share 115 = .ok (.iload 4, 2) := by decide +kernel
theorem dX6_share_117 : decode cX6_share 117 = .ok (.iload 8, 2) := by decide +kernel
theorem dX6_share_119 : decode cX6_share 119 = .ok (.iconst (-1), 1) := by decide +kernel
theorem dX6_share_120 : decode cX6_share 120 = .ok (.ixor, 1) := by decide +kernel
theorem dX6_share_121 : decode cX6_share 121 = .ok (.iand, 1) := by decide +kernel
theorem dX6_share_122 : decode cX6_share 122 = .ok (.invokevirtual 212, 3) := by decide +kernel
theorem dX6_share_125 : decode cX6_share 125 = .ok (.aload_n 0, 1) := by decide +kernel
theorem dX6_share_126 : decode cX6_share 126 = .ok (.iload_n 2, 1) := by decide +kernel
theorem dX6_share_127 : decode cX6_share 127 = .ok (.iload 5, 2) := by decide +kernel
theorem dX6_share_129 : decode cX6_share 129 = .ok (.iload 8, 2) := by decide +kernel
theorem dX6_share_131 : decode cX6_share 131 = .ok (.iconst (-1), 1) := by decide +kernel
theorem dX6_share_132 : decode cX6_share 132 = .ok (.ixor, 1) := by decide +kernel
theorem dX6_share_133 : decode cX6_share 133 = .ok (.iand, 1) := by decide +kernel
theorem dX6_share_134 : decode cX6_share 134 = .ok (.invokevirtual 212, 3) := by decide +kernel
theorem dX6_share_137 : decode cX6_share 137 = .ok (.isub, 1) := by decide +kernel
theorem dX6_share_138 : decode cX6_share 138 = .ok (.istore 11, 2) := by decide +kernel
theorem dX6_share_140 : decode cX6_share 140 = .ok (.iload 7, 2) := by decide +kernel
theorem dX6_share_142 : decode cX6_share 142 = .ok (.iload 10, 2) := by decide +kernel
theorem dX6_share_144 : decode cX6_share 144 = .ok (.iload 11, 2) := by decide +kernel
theorem dX6_share_146 : decode cX6_share 146 = .ok (.imul, 1) := by decide +kernel
theorem dX6_share_147 : decode cX6_share 147 = .ok (.iadd, 1) := by decide +kernel
theorem dX6_share_148 : decode cX6_share 148 = .ok (.istore 7, 2) := by decide +kernel
theorem dX6_share_150 : decode cX6_share 150 = .ok (.iinc 8 1, 3) := by decide +kernel
theorem dX6_share_153 : decode cX6_share 153 = .ok (.goto (-82), 3) := by decide +kernel
theorem dX6_share_156 : decode cX6_share 156 = .ok (.iload 7, 2) := by decide +kernel
theorem dX6_share_158 : decode cX6_share 158 = .ok (.getstatic 209, 3) := by decide +kernel
theorem dX6_share_161 : decode cX6_share 161 = .ok (.iload 6, 2) := by decide +kernel
theorem dX6_share_163 : decode cX6_share 163 = .ok (.iconst 1, 1) := by decide +kernel
theorem dX6_share_164 : decode cX6_share 164 = .ok (.iadd, 1) := by decide +kernel
theorem dX6_share_165 : decode cX6_share 165 = .ok (.iaload, 1) := by decide +kernel
theorem dX6_share_166 : decode cX6_share 166 = .ok (.iload_n 3, 1) := by decide +kernel
theorem dX6_share_167 : decode cX6_share 167 = .ok (.invokestatic 215, 3) := by decide +kernel
theorem dX6_share_170 : decode cX6_share 170 = .ok (.ireturn, 1) := by decide +kernel
theorem dX6_chance_0 : decode cX6_chance 0 = .ok (.iload_n 1, 1) := by decide +kernel
theorem dX6_chance_1 : decode cX6_chance 1 = .ok (.ifCond .lt 16, 3) := by decide +kernel
theorem dX6_chance_4 : decode cX6_chance 4 = .ok (.iload_n 1, 1) := by decide +kernel
theorem dX6_chance_5 : decode cX6_chance 5 = .ok (.bipush 10, 2) := by decide +kernel
theorem dX6_chance_7 : decode cX6_chance 7 = .ok (.if_icmp .gt 10, 3) := by decide +kernel
theorem dX6_chance_10 : decode cX6_chance 10 = .ok (.iload_n 2, 1) := by decide +kernel
theorem dX6_chance_11 : decode cX6_chance 11 = .ok (.invokestatic 162, 3) := by decide +kernel
theorem dX6_chance_14 : decode cX6_chance 14 = .ok (.ifCond .ne 6, 3) := by decide +kernel
theorem dX6_chance_17 : decode cX6_chance 17 = .ok (.bipush (-2), 2) := by decide +kernel
theorem dX6_chance_19 : decode cX6_chance 19 = .ok (.ireturn, 1) := by decide +kernel
theorem dX6_chance_20 : decode cX6_chance 20 = .ok (.aload_n 0, 1) := by decide +kernel
theorem dX6_chance_21 : decode cX6_chance 21 = .ok (.iload_n 1, 1) := by decide +kernel
theorem dX6_chance_22 : decode cX6_chance 22 = .ok (.iload_n 2, 1) := by decide +kernel
theorem dX6_chance_23 : decode cX6_chance 23 = .ok (.iload_n 3, 1) := by decide +kernel
theorem dX6_chance_24 : decode cX6_chance 24 = .ok (.iconst 0, 1) := by decide +kernel
theorem dX6_chance_25 : decode cX6_chance 25 = .ok (.invokevirtual 219, 3) := by decide +kernel
theorem dX6_chance_28 : decode cX6_chance 28 = .ok (.ireturn, 1) := by decide +kernel
theorem dX6_mean_0 : decode cX6_mean 0 = .ok (.iload_n 1, 1) := by decide +kernel
theorem dX6_mean_1 : decode cX6_mean 1 = .ok (.ifCond .lt 16, 3) := by decide +kernel
theorem dX6_mean_4 : decode cX6_mean 4 = .ok (.iload_n 1, 1) := by decide +kernel
theorem dX6_mean_5 : decode cX6_mean 5 = .ok (.bipush 10, 2) := by decide +kernel
theorem dX6_mean_7 : decode cX6_mean 7 = .ok (.if_icmp .gt 10, 3) := by decide +kernel
theorem dX6_mean_10 : decode cX6_mean 10 = .ok (.iload_n 2, 1) := by decide +kernel
theorem dX6_mean_11 : decode cX6_mean 11 = .ok (.invokestatic 162, 3) := by decide +kernel
theorem dX6_mean_14 : decode cX6_mean 14 = .ok (.ifCond .ne 6, 3) := by decide +kernel
theorem dX6_mean_17 : decode cX6_mean 17 = .ok (.bipush (-2), 2) := by decide +kernel
theorem dX6_mean_19 : decode cX6_mean 19 = .ok (.ireturn, 1) := by decide +kernel
theorem dX6_mean_20 : decode cX6_mean 20 = .ok (.aload_n 0, 1) := by decide +kernel
theorem dX6_mean_21 : decode cX6_mean 21 = .ok (.iload_n 1, 1) := by decide +kernel
theorem dX6_mean_22 : decode cX6_mean 22 = .ok (.iload_n 2, 1) := by decide +kernel
theorem dX6_mean_23 : decode cX6_mean 23 = .ok (.iload_n 3, 1) := by decide +kernel
theorem dX6_mean_24 : decode cX6_mean 24 = .ok (.iconst 1, 1) := by decide +kernel
theorem dX6_mean_25 : decode cX6_mean 25 = .ok (.invokevirtual 219, 3) := by decide +kernel
theorem dX6_mean_28 : decode cX6_mean 28 = .ok (.ireturn, 1) := by decide +kernel
theorem dX6_dungHalting_0 : decode cX6_dungHalting 0 = .ok (.aload_n 0, 1) := by decide +kernel
theorem dX6_dungHalting_1 : decode cX6_dungHalting 1 = .ok (.getfield 62, 3) := by decide +kernel
theorem dX6_dungHalting_4 : decode cX6_dungHalting 4 = .ok (.aload_n 0, 1) := by decide +kernel
theorem dX6_dungHalting_5 : decode cX6_dungHalting 5 = .ok (.getfield 40, 3) := by decide +kernel
theorem dX6_dungHalting_8 : decode cX6_dungHalting 8 = .ok (.invokevirtual 151, 3) := by decide +kernel
theorem dX6_dungHalting_11 : decode cX6_dungHalting 11 = .ok (.aload_n 0, 1) := by decide +kernel
theorem dX6_dungHalting_12 : decode cX6_dungHalting 12 = .ok (.aload_n 0, 1) := by decide +kernel
theorem dX6_dungHalting_13 : decode cX6_dungHalting 13 = .ok (.getfield 62, 3) := by decide +kernel
theorem dX6_dungHalting_16 : decode cX6_dungHalting 16 = .ok (.iload_n 1, 1) := by decide +kernel
theorem dX6_dungHalting_17 : decode cX6_dungHalting 17 = .ok (.iload_n 2, 1) := by decide +kernel
theorem dX6_dungHalting_18 : decode cX6_dungHalting 18 = .ok (.invokevirtual 205, 3) := by decide +kernel
theorem dX6_dungHalting_21 : decode cX6_dungHalting 21 = .ok (.aload_n 0, 1) := by decide +kernel
theorem dX6_dungHalting_22 : decode cX6_dungHalting 22 = .ok (.getfield 62, 3) := by decide +kernel
theorem dX6_dungHalting_25 : decode cX6_dungHalting 25 = .ok (.invokevirtual 172, 3) := by decide +kernel
theorem dX6_dungHalting_28 : decode cX6_dungHalting 28 = .ok (.ireturn, 1) := by decide +kernel
theorem dX6_overRains_0 : decode cX6_overRains 0 = .ok (.aload_n 0, 1) := by decide +kernel
theorem dX6_overRains_1 : decode cX6_overRains 1 = .ok (.getfield 23, 3) := by decide +kernel
theorem dX6_overRains_4 : decode cX6_overRains 4 = .ok (.iconst 0, 1) := by decide +kernel
theorem dX6_overRains_5 : decode cX6_overRains 5 = .ok (.invokevirtual 196, 3) := by decide +kernel
theorem dX6_overRains_8 : decode cX6_overRains 8 = .ok (.istore 5, 2) := by decide +kernel
theorem dX6_overRains_10 : decode cX6_overRains 10 = .ok (.iconst 0, 1) := by decide +kernel
theorem dX6_overRains_11 : decode cX6_overRains 11 = .ok (.istore 6, 2) := by decide +kernel
theorem dX6_overRains_13 : decode cX6_overRains 13 = .ok (.iconst 0, 1) := by decide +kernel
theorem dX6_overRains_14 : decode cX6_overRains 14 = .ok (.istore 7, 2) := by decide +kernel
theorem dX6_overRains_16 : decode cX6_overRains 16 = .ok (.iload 7, 2) := by decide +kernel
theorem dX6_overRains_18 : decode cX6_overRains 18 = .ok (.bipush 64, 2) := by decide +kernel
theorem dX6_overRains_20 : decode cX6_overRains 20 = .ok (.if_icmp .ge 110, 3) := by decide +kernel
theorem dX6_overRains_23 : decode cX6_overRains 23 = .ok (.iload 7, 2) := by decide +kernel
theorem dX6_overRains_25 : decode cX6_overRains 25 = .ok (.iload 5, 2) := by decide +kernel
theorem dX6_overRains_27 : decode cX6_overRains 27 = .ok (.iconst (-1), 1) := by decide +kernel
theorem dX6_overRains_28 : decode cX6_overRains 28 = .ok (.ixor, 1) := by decide +kernel
theorem dX6_overRains_29 : decode cX6_overRains 29 = .ok (.iand, 1) := by decide +kernel
theorem dX6_overRains_30 : decode cX6_overRains 30 = .ok (.ifCond .ne 14, 3) := by decide +kernel
theorem dX6_overRains_33 : decode cX6_overRains 33 = .ok (.iload 7, 2) := by decide +kernel
theorem dX6_overRains_35 : decode cX6_overRains 35 = .ok (.iload 5, 2) := by decide +kernel
theorem dX6_overRains_37 : decode cX6_overRains 37 = .ok (.iload_n 1, 1) := by decide +kernel
theorem dX6_overRains_38 : decode cX6_overRains 38 = .ok (.invokestatic 223, 3) := by decide +kernel
theorem dX6_overRains_41 : decode cX6_overRains 41 = .ok (.goto 4, 3) := by decide +kernel
theorem dX6_overRains_44 : decode cX6_overRains 44 = .ok (.iconst 0, 1) := by decide +kernel
theorem dX6_overRains_45 : decode cX6_overRains 45 = .ok (.istore 8, 2) := by decide +kernel
theorem dX6_overRains_47 : decode cX6_overRains 47 = .ok (.iload 8, 2) := by decide +kernel
theorem dX6_overRains_49 : decode cX6_overRains 49 = .ok (.ifCond .le 75, 3) := by decide +kernel
theorem dX6_overRains_52 : decode cX6_overRains 52 = .ok (.aload_n 0, 1) := by decide +kernel
theorem dX6_overRains_53 : decode cX6_overRains 53 = .ok (.getfield 62, 3) := by decide +kernel
theorem dX6_overRains_56 : decode cX6_overRains 56 = .ok (.aload_n 0, 1) := by decide +kernel
theorem dX6_overRains_57 : decode cX6_overRains 57 = .ok (.getfield 40, 3) := by decide +kernel
theorem dX6_overRains_60 : decode cX6_overRains 60 = .ok (.invokevirtual 151, 3) := by decide +kernel
theorem dX6_overRains_63 : decode cX6_overRains 63 = .ok (.aload_n 0, 1) := by decide +kernel
theorem dX6_overRains_64 : decode cX6_overRains 64 = .ok (.getfield 62, 3) := by decide +kernel
theorem dX6_overRains_67 : decode cX6_overRains 67 = .ok (.iload 7, 2) := by decide +kernel
theorem dX6_overRains_69 : decode cX6_overRains 69 = .ok (.invokevirtual 227, 3) := by decide +kernel
theorem dX6_overRains_72 : decode cX6_overRains 72 = .ok (.aload_n 0, 1) := by decide +kernel
theorem dX6_overRains_73 : decode cX6_overRains 73 = .ok (.aload_n 0, 1) := by decide +kernel
theorem dX6_overRains_74 : decode cX6_overRains 74 = .ok (.getfield 62, 3) := by decide +kernel
theorem dX6_overRains_77 : decode cX6_overRains 77 = .ok (.iload_n 2, 1) := by decide +kernel
theorem dX6_overRains_78 : decode cX6_overRains 78 = .ok (.iconst 0, 1) := by decide +kernel
theorem dX6_overRains_79 : decode cX6_overRains 79 = .ok (.invokevirtual 205, 3) := by decide +kernel
theorem dX6_overRains_82 : decode cX6_overRains 82 = .ok (.aload_n 0, 1) := by decide +kernel
theorem dX6_overRains_83 : decode cX6_overRains 83 = .ok (.getfield 62, 3) := by decide +kernel
theorem dX6_overRains_86 : decode cX6_overRains 86 = .ok (.invokevirtual 179, 3) := by decide +kernel
theorem dX6_overRains_89 : decode cX6_overRains 89 = .ok (.ifCond .eq 7, 3) := by decide +kernel
theorem dX6_overRains_92 : decode cX6_overRains 92 = .ok (.iconst 1, 1) := by decide +kernel
theorem dX6_overRains_93 : decode cX6_overRains 93 = .ok (.goto 4, 3) := by decide +kernel
theorem dX6_overRains_96 : decode cX6_overRains 96 = .ok (.iconst 0, 1) := by decide +kernel
theorem dX6_overRains_97 : decode cX6_overRains 97 = .ok (.istore 9, 2) := by decide +kernel
theorem dX6_overRains_99 : decode cX6_overRains 99 = .ok (.iload 6, 2) := by decide +kernel
theorem dX6_overRains_101 : decode cX6_overRains 101 = .ok (.iload 8, 2) := by decide +kernel
theorem dX6_overRains_103 : decode cX6_overRains 103 = .ok (.iload 4, 2) := by decide +kernel
theorem dX6_overRains_105 : decode cX6_overRains 105 = .ok (.ifCond .eq 13, 3) := by decide +kernel
theorem dX6_overRains_108 : decode cX6_overRains 108 = .ok (.aload_n 0, 1) := by decide +kernel
theorem dX6_overRains_109 : decode cX6_overRains 109 = .ok (.getfield 62, 3) := by decide +kernel
theorem dX6_overRains_112 : decode cX6_overRains 112 = .ok (.invokevirtual 172, 3) := by decide +kernel
theorem dX6_overRains_115 : decode cX6_overRains 115 = .ok (.goto 5, 3) := by decide +kernel
theorem dX6_overRains_118 : decode cX6_overRains 118 = .ok (.iload 9, 2) := by decide +kernel
theorem dX6_overRains_120 : decode cX6_overRains 120 = .ok (.imul, 1) := by decide +kernel
theorem dX6_overRains_121 : decode cX6_overRains 121 = .ok (.iadd, 1) := by decide +kernel
theorem dX6_overRains_122 : decode cX6_overRains 122 = .ok (.istore 6, 2) := by decide +kernel
theorem dX6_overRains_124 : decode cX6_overRains 124 = .ok (.iinc 7 1, 3) := by decide +kernel
theorem dX6_overRains_127 : decode cX6_overRains 127 = .ok (.goto (-111), 3) := by decide +kernel
theorem dX6_overRains_130 : decode cX6_overRains 130 = .ok (.iload 6, 2) := by decide +kernel
theorem dX6_overRains_132 : decode cX6_overRains 132 = .ok (.bipush 10, 2) := by decide +kernel
theorem dX6_overRains_134 : decode cX6_overRains 134 = .ok (.iload 5, 2) := by decide +kernel
theorem dX6_overRains_136 : decode cX6_overRains 136 = .ok (.invokestatic 186, 3) := by decide +kernel
theorem dX6_overRains_139 : decode cX6_overRains 139 = .ok (.invokestatic 231, 3) := by decide +kernel
theorem dX6_overRains_142 : decode cX6_overRains 142 = .ok (.iload_n 3, 1) := by decide +kernel
theorem dX6_overRains_143 : decode cX6_overRains 143 = .ok (.invokestatic 215, 3) := by decide +kernel
theorem dX6_overRains_146 : decode cX6_overRains 146 = .ok (.ireturn, 1) := by decide +kernel
theorem dX6_weightOf_0 : decode cX6_weightOf 0 = .ok (.iload_n 1, 1) := by decide +kernel
theorem dX6_weightOf_1 : decode cX6_weightOf 1 = .ok (.iload_n 0, 1) := by decide +kernel
theorem dX6_weightOf_2 : decode cX6_weightOf 2 = .ok (.iconst (-1), 1) := by decide +kernel
theorem dX6_weightOf_3 : decode cX6_weightOf 3 = .ok (.ixor, 1) := by decide +kernel
theorem dX6_weightOf_4 : decode cX6_weightOf 4 = .ok (.iand, 1) := by decide +kernel
theorem dX6_weightOf_5 : decode cX6_weightOf 5 = .ok (.istore_n 3, 1) := by decide +kernel
theorem dX6_weightOf_6 : decode cX6_weightOf 6 = .ok (.iload_n 2, 1) := by decide +kernel
theorem dX6_weightOf_7 : decode cX6_weightOf 7 = .ok (.iload_n 0, 1) := by decide +kernel
theorem dX6_weightOf_8 : decode cX6_weightOf 8 = .ok (.invokestatic 186, 3) := by decide +kernel
theorem dX6_weightOf_11 : decode cX6_weightOf 11 = .ok (.invokestatic 231, 3) := by decide +kernel
theorem dX6_weightOf_14 : decode cX6_weightOf 14 = .ok (.bipush 10, 2) := by decide +kernel
theorem dX6_weightOf_16 : decode cX6_weightOf 16 = .ok (.iload_n 2, 1) := by decide +kernel
theorem dX6_weightOf_17 : decode cX6_weightOf 17 = .ok (.isub, 1) := by decide +kernel
theorem dX6_weightOf_18 : decode cX6_weightOf 18 = .ok (.iload_n 3, 1) := by decide +kernel
theorem dX6_weightOf_19 : decode cX6_weightOf 19 = .ok (.invokestatic 186, 3) := by decide +kernel
theorem dX6_weightOf_22 : decode cX6_weightOf 22 = .ok (.invokestatic 231, 3) := by decide +kernel
theorem dX6_weightOf_25 : decode cX6_weightOf 25 = .ok (.imul, 1) := by decide +kernel
theorem dX6_weightOf_26 : decode cX6_weightOf 26 = .ok (.ireturn, 1) := by decide +kernel
theorem dX6_power_0 : decode cX6_power 0 = .ok (.iconst 1, 1) := by decide +kernel
theorem dX6_power_1 : decode cX6_power 1 = .ok (.istore_n 2, 1) := by decide +kernel
theorem dX6_power_2 : decode cX6_power 2 = .ok (.iconst 0, 1) := by decide +kernel
theorem dX6_power_3 : decode cX6_power 3 = .ok (.istore_n 3, 1) := by decide +kernel
theorem dX6_power_4 : decode cX6_power 4 = .ok (.iload_n 3, 1) := by decide +kernel
theorem dX6_power_5 : decode cX6_power 5 = .ok (.iload_n 1, 1) := by decide +kernel
theorem dX6_power_6 : decode cX6_power 6 = .ok (.if_icmp .ge 13, 3) := by decide +kernel
theorem dX6_power_9 : decode cX6_power 9 = .ok (.iload_n 2, 1) := by decide +kernel
theorem dX6_power_10 : decode cX6_power 10 = .ok (.iload_n 0, 1) := by decide +kernel
theorem dX6_power_11 : decode cX6_power 11 = .ok (.imul, 1) := by decide +kernel
theorem dX6_power_12 : decode cX6_power 12 = .ok (.istore_n 2, 1) := by decide +kernel
theorem dX6_power_13 : decode cX6_power 13 = .ok (.iinc 3 1, 3) := by decide +kernel
theorem dX6_power_16 : decode cX6_power 16 = .ok (.goto (-12), 3) := by decide +kernel
theorem dX6_power_19 : decode cX6_power 19 = .ok (.iload_n 2, 1) := by decide +kernel
theorem dX6_power_20 : decode cX6_power 20 = .ok (.ireturn, 1) := by decide +kernel
theorem dX6_fraction_0 : decode cX6_fraction 0 = .ok (.iload_n 0, 1) := by decide +kernel
theorem dX6_fraction_1 : decode cX6_fraction 1 = .ok (.iload_n 1, 1) := by decide +kernel
theorem dX6_fraction_2 : decode cX6_fraction 2 = .ok (.invokestatic 234, 3) := by decide +kernel
theorem dX6_fraction_5 : decode cX6_fraction 5 = .ok (.istore_n 3, 1) := by decide +kernel
theorem dX6_fraction_6 : decode cX6_fraction 6 = .ok (.iload_n 3, 1) := by decide +kernel
theorem dX6_fraction_7 : decode cX6_fraction 7 = .ok (.iconst 1, 1) := by decide +kernel
theorem dX6_fraction_8 : decode cX6_fraction 8 = .ok (.if_icmp .ge 13, 3) := by decide +kernel
theorem dX6_fraction_11 : decode cX6_fraction 11 = .ok (.iload_n 2, 1) := by decide +kernel
theorem dX6_fraction_12 : decode cX6_fraction 12 = .ok (.ifCond .eq 7, 3) := by decide +kernel
theorem dX6_fraction_15 : decode cX6_fraction 15 = .ok (.iload_n 0, 1) := by decide +kernel
theorem dX6_fraction_16 : decode cX6_fraction 16 = .ok (.goto 4, 3) := by decide +kernel
theorem dX6_fraction_19 : decode cX6_fraction 19 = .ok (.iload_n 1, 1) := by decide +kernel
theorem dX6_fraction_20 : decode cX6_fraction 20 = .ok (.ireturn, 1) := by decide +kernel
theorem dX6_fraction_21 : decode cX6_fraction 21 = .ok (.iload_n 2, 1) := by decide +kernel
theorem dX6_fraction_22 : decode cX6_fraction 22 = .ok (.ifCond .eq 9, 3) := by decide +kernel
theorem dX6_fraction_25 : decode cX6_fraction 25 = .ok (.iload_n 0, 1) := by decide +kernel
theorem dX6_fraction_26 : decode cX6_fraction 26 = .ok (.iload_n 3, 1) := by decide +kernel
theorem dX6_fraction_27 : decode cX6_fraction 27 = .ok (.idiv, 1) := by decide +kernel
theorem dX6_fraction_28 : decode cX6_fraction 28 = .ok (.goto 6, 3) := by decide +kernel
theorem dX6_fraction_31 : decode cX6_fraction 31 = .ok (.iload_n 1, 1) := by decide +kernel
theorem dX6_fraction_32 : decode cX6_fraction 32 = .ok (.iload_n 3, 1) := by decide +kernel
theorem dX6_fraction_33 : decode cX6_fraction 33 = .ok (.idiv, 1) := by decide +kernel
theorem dX6_fraction_34 : decode cX6_fraction 34 = .ok (.ireturn, 1) := by decide +kernel
theorem dX6_greatestDivisor_0 : decode cX6_greatestDivisor 0 = .ok (.iload_n 0, 1) := by decide +kernel
theorem dX6_greatestDivisor_1 : decode cX6_greatestDivisor 1 = .ok (.invokestatic 237, 3) := by decide +kernel
theorem dX6_greatestDivisor_4 : decode cX6_greatestDivisor 4 = .ok (.istore_n 2, 1) := by decide +kernel
theorem dX6_greatestDivisor_5 : decode cX6_greatestDivisor 5 = .ok (.iload_n 1, 1) := by decide +kernel
theorem dX6_greatestDivisor_6 : decode cX6_greatestDivisor 6 = .ok (.invokestatic 237, 3) := by decide +kernel
theorem dX6_greatestDivisor_9 : decode cX6_greatestDivisor 9 = .ok (.istore_n 3, 1) := by decide +kernel
theorem dX6_greatestDivisor_10 : decode cX6_greatestDivisor 10 = .ok (.iconst 0, 1) := by decide +kernel
theorem dX6_greatestDivisor_11 : decode cX6_greatestDivisor 11 = .ok (.istore 4, 2) := by decide +kernel
theorem dX6_greatestDivisor_13 : decode cX6_greatestDivisor 13 = .ok (.iload 4, 2) := by decide +kernel
theorem dX6_greatestDivisor_15 : decode cX6_greatestDivisor 15 = .ok (.bipush 64, 2) := by decide +kernel
theorem dX6_greatestDivisor_17 : decode cX6_greatestDivisor 17 = .ok (.if_icmp .ge 23, 3) := by decide +kernel
theorem dX6_greatestDivisor_20 : decode cX6_greatestDivisor 20 = .ok (.iload_n 3, 1) := by decide +kernel
theorem dX6_greatestDivisor_21 : decode cX6_greatestDivisor 21 = .ok (.ifCond .eq 19, 3) := by decide +kernel
theorem dX6_greatestDivisor_24 : decode cX6_greatestDivisor 24 = .ok (.iload_n 2, 1) := by decide +kernel
theorem dX6_greatestDivisor_25 : decode cX6_greatestDivisor 25 = .ok (.iload_n 3, 1) := by decide +kernel
theorem dX6_greatestDivisor_26 : decode cX6_greatestDivisor 26 = .ok (.irem, 1) := by decide +kernel
theorem dX6_greatestDivisor_27 : decode cX6_greatestDivisor 27 = .ok (.istore 5, 2) := by decide +kernel
theorem dX6_greatestDivisor_29 : decode cX6_greatestDivisor 29 = .ok (.iload_n 3, 1) := by decide +kernel
theorem dX6_greatestDivisor_30 : decode cX6_greatestDivisor 30 = .ok (.istore_n 2, 1) := by decide +kernel
theorem dX6_greatestDivisor_31 : decode cX6_greatestDivisor 31 = .ok (.iload 5, 2) := by decide +kernel
theorem dX6_greatestDivisor_33 : decode cX6_greatestDivisor 33 = .ok (.istore_n 3, 1) := by decide +kernel
theorem dX6_greatestDivisor_34 : decode cX6_greatestDivisor 34 = .ok (.iinc 4 1, 3) := by decide +kernel
theorem dX6_greatestDivisor_37 : decode cX6_greatestDivisor 37 = .ok (.goto (-24), 3) := by decide +kernel
theorem dX6_greatestDivisor_40 : decode cX6_greatestDivisor 40 = .ok (.iload_n 2, 1) := by decide +kernel
theorem dX6_greatestDivisor_41 : decode cX6_greatestDivisor 41 = .ok (.ireturn, 1) := by decide +kernel
theorem dX6_see_0 : decode cX6_see 0 = .ok (.aload_n 0, 1) := by decide +kernel
theorem dX6_see_1 : decode cX6_see 1 = .ok (.getfield 23, 3) := by decide +kernel
theorem dX6_see_4 : decode cX6_see 4 = .ok (.iload_n 1, 1) := by decide +kernel
theorem dX6_see_5 : decode cX6_see 5 = .ok (.invokevirtual 98, 3) := by decide +kernel
theorem dX6_see_8 : decode cX6_see 8 = .ok (.ifCond .ne 5, 3) := by decide +kernel
theorem dX6_see_11 : decode cX6_see 11 = .ok (.iconst (-1), 1) := by decide +kernel
theorem dX6_see_12 : decode cX6_see 12 = .ok (.ireturn, 1) := by decide +kernel
theorem dX6_see_13 : decode cX6_see 13 = .ok (.iload_n 2, 1) := by decide +kernel
theorem dX6_see_14 : decode cX6_see 14 = .ok (.invokestatic 162, 3) := by decide +kernel
theorem dX6_see_17 : decode cX6_see 17 = .ok (.ifCond .eq 13, 3) := by decide +kernel
theorem dX6_see_20 : decode cX6_see 20 = .ok (.iload_n 3, 1) := by decide +kernel
theorem dX6_see_21 : decode cX6_see 21 = .ok (.ifCond .lt 9, 3) := by decide +kernel
theorem dX6_see_24 : decode cX6_see 24 = .ok (.iload_n 3, 1) := by decide +kernel
theorem dX6_see_25 : decode cX6_see 25 = .ok (.bipush 99, 2) := by decide +kernel
theorem dX6_see_27 : decode cX6_see 27 = .ok (.if_icmp .le 6, 3) := by decide +kernel
theorem dX6_see_30 : decode cX6_see 30 = .ok (.bipush (-2), 2) := by decide +kernel
theorem dX6_see_32 : decode cX6_see 32 = .ok (.ireturn, 1) := by decide +kernel
theorem dX6_see_33 : decode cX6_see 33 = .ok (.aload_n 0, 1) := by decide +kernel
theorem dX6_see_34 : decode cX6_see 34 = .ok (.getfield 54, 3) := by decide +kernel
theorem dX6_see_37 : decode cX6_see 37 = .ok (.getfield 242, 3) := by decide +kernel
theorem dX6_see_40 : decode cX6_see 40 = .ok (.bipush 6, 2) := by decide +kernel
theorem dX6_see_42 : decode cX6_see 42 = .ok (.if_icmp .lt 6, 3) := by decide +kernel
theorem dX6_see_45 : decode cX6_see 45 = .ok (.bipush (-4), 2) := by decide +kernel
theorem dX6_see_47 : decode cX6_see 47 = .ok (.ireturn, 1) := by decide +kernel
theorem dX6_see_48 : decode cX6_see 48 = .ok (.aload_n 0, 1) := by decide +kernel
theorem dX6_see_49 : decode cX6_see 49 = .ok (.getfield 54, 3) := by decide +kernel
theorem dX6_see_52 : decode cX6_see 52 = .ok (.iload_n 1, 1) := by decide +kernel
theorem dX6_see_53 : decode cX6_see 53 = .ok (.iload_n 2, 1) := by decide +kernel
theorem dX6_see_54 : decode cX6_see 54 = .ok (.iload_n 3, 1) := by decide +kernel
theorem dX6_see_55 : decode cX6_see 55 = .ok (.invokevirtual 243, 3) := by decide +kernel
theorem dX6_see_58 : decode cX6_see 58 = .ok (.aload_n 0, 1) := by decide +kernel
theorem dX6_see_59 : decode cX6_see 59 = .ok (.getfield 54, 3) := by decide +kernel
theorem dX6_see_62 : decode cX6_see 62 = .ok (.getfield 242, 3) := by decide +kernel
theorem dX6_see_65 : decode cX6_see 65 = .ok (.ireturn, 1) := by decide +kernel
theorem dX6_unsee_0 : decode cX6_unsee 0 = .ok (.aload_n 0, 1) := by decide +kernel
theorem dX6_unsee_1 : decode cX6_unsee 1 = .ok (.getfield 54, 3) := by decide +kernel
theorem dX6_unsee_4 : decode cX6_unsee 4 = .ok (.getfield 242, 3) := by decide +kernel
theorem dX6_unsee_7 : decode cX6_unsee 7 = .ok (.istore_n 1, 1) := by decide +kernel
theorem dX6_unsee_8 : decode cX6_unsee 8 = .ok (.aload_n 0, 1) := by decide +kernel
theorem dX6_unsee_9 : decode cX6_unsee 9 = .ok (.getfield 54, 3) := by decide +kernel
theorem dX6_unsee_12 : decode cX6_unsee 12 = .ok (.iconst 0, 1) := by decide +kernel
theorem dX6_unsee_13 : decode cX6_unsee 13 = .ok (.putfield 242, 3) := by decide +kernel
theorem dX6_unsee_16 : decode cX6_unsee 16 = .ok (.iload_n 1, 1) := by decide +kernel
theorem dX6_unsee_17 : decode cX6_unsee 17 = .ok (.ireturn, 1) := by decide +kernel
theorem dX6_fit_0 : decode cX6_fit 0 = .ok (.iload_n 1, 1) := by decide +kernel
theorem dX6_fit_1 : decode cX6_fit 1 = .ok (.ifCond .lt 8, 3) := by decide +kernel
theorem dX6_fit_4 : decode cX6_fit 4 = .ok (.iload_n 1, 1) := by decide +kernel
theorem dX6_fit_5 : decode cX6_fit 5 = .ok (.iconst 2, 1) := by decide +kernel
theorem dX6_fit_6 : decode cX6_fit 6 = .ok (.if_icmp .le 6, 3) := by decide +kernel
theorem dX6_fit_9 : decode cX6_fit 9 = .ok (.bipush (-2), 2) := by decide +kernel
theorem dX6_fit_11 : decode cX6_fit 11 = .ok (.ireturn, 1) := by decide +kernel
theorem dX6_fit_12 : decode cX6_fit 12 = .ok (.iconst 0, 1) := by decide +kernel
theorem dX6_fit_13 : decode cX6_fit 13 = .ok (.istore_n 2, 1) := by decide +kernel
theorem dX6_fit_14 : decode cX6_fit 14 = .ok (.aload_n 0, 1) := by decide +kernel
theorem dX6_fit_15 : decode cX6_fit 15 = .ok (.getfield 23, 3) := by decide +kernel
theorem dX6_fit_18 : decode cX6_fit 18 = .ok (.invokevirtual 169, 3) := by decide +kernel
theorem dX6_fit_21 : decode cX6_fit 21 = .ok (.istore_n 3, 1) := by decide +kernel
theorem dX6_fit_22 : decode cX6_fit 22 = .ok (.aload_n 0, 1) := by decide +kernel
theorem dX6_fit_23 : decode cX6_fit 23 = .ok (.getfield 23, 3) := by decide +kernel
theorem dX6_fit_26 : decode cX6_fit 26 = .ok (.invokevirtual 169, 3) := by decide +kernel
theorem dX6_fit_29 : decode cX6_fit 29 = .ok (.istore 4, 2) := by decide +kernel
theorem dX6_fit_31 : decode cX6_fit 31 = .ok (.aload_n 0, 1) := by decide +kernel
theorem dX6_fit_32 : decode cX6_fit 32 = .ok (.getfield 23, 3) := by decide +kernel
theorem dX6_fit_35 : decode cX6_fit 35 = .ok (.invokevirtual 169, 3) := by decide +kernel
theorem dX6_fit_38 : decode cX6_fit 38 = .ok (.istore 5, 2) := by decide +kernel
theorem dX6_fit_40 : decode cX6_fit 40 = .ok (.iconst 0, 1) := by decide +kernel
theorem dX6_fit_41 : decode cX6_fit 41 = .ok (.istore 6, 2) := by decide +kernel
theorem dX6_fit_43 : decode cX6_fit 43 = .ok (.iload 6, 2) := by decide +kernel
theorem dX6_fit_45 : decode cX6_fit 45 = .ok (.iload 5, 2) := by decide +kernel
theorem dX6_fit_47 : decode cX6_fit 47 = .ok (.if_icmp .gt 35, 3) := by decide +kernel
theorem dX6_fit_50 : decode cX6_fit 50 = .ok (.aload_n 0, 1) := by decide +kernel
theorem dX6_fit_51 : decode cX6_fit 51 = .ok (.iload 6, 2) := by decide +kernel
theorem dX6_fit_53 : decode cX6_fit 53 = .ok (.invokevirtual 247, 3) := by decide +kernel
theorem dX6_fit_56 : decode cX6_fit 56 = .ok (.ifCond .eq 20, 3) := by decide +kernel
theorem dX6_fit_59 : decode cX6_fit 59 = .ok (.iinc 2 1, 3) := by decide +kernel
theorem dX6_fit_62 : decode cX6_fit 62 = .ok (.iload_n 3, 1) := by decide +kernel
theorem dX6_fit_63 : decode cX6_fit 63 = .ok (.iload 6, 2) := by decide +kernel
theorem dX6_fit_65 : decode cX6_fit 65 = .ok (.iand, 1) := by decide +kernel
theorem dX6_fit_66 : decode cX6_fit 66 = .ok (.istore_n 3, 1) := by decide +kernel
theorem dX6_fit_67 : decode cX6_fit 67 = .ok (.iload 4, 2) := by decide +kernel
theorem dX6_fit_69 : decode cX6_fit 69 = .ok (.iload 6, 2) := by decide +kernel
theorem dX6_fit_71 : decode cX6_fit 71 = .ok (.iconst (-1), 1) := by decide +kernel
theorem dX6_fit_72 : decode cX6_fit 72 = .ok (.ixor, 1) := by decide +kernel
theorem dX6_fit_73 : decode cX6_fit 73 = .ok (.iand, 1) := by decide +kernel
theorem dX6_fit_74 : decode cX6_fit 74 = .ok (.istore 4, 2) := by decide +kernel
theorem dX6_fit_76 : decode cX6_fit 76 = .ok (.iinc 6 1, 3) := by decide +kernel
theorem dX6_fit_79 : decode cX6_fit 79 = .ok (.goto (-36), 3) := by decide +kernel
theorem dX6_fit_82 : decode cX6_fit 82 = .ok (.iload_n 1, 1) := by decide +kernel
theorem dX6_fit_83 : decode cX6_fit 83 = .ok (.ifCond .ne 5, 3) := by decide +kernel
theorem dX6_fit_86 : decode cX6_fit 86 = .ok (.iload_n 2, 1) := by decide +kernel
theorem dX6_fit_87 : decode cX6_fit 87 = .ok (.ireturn, 1) := by decide +kernel
theorem dX6_fit_88 : decode cX6_fit 88 = .ok (.iload_n 2, 1) := by decide +kernel
theorem dX6_fit_89 : decode cX6_fit 89 = .ok (.ifCond .ne 6, 3) := by decide +kernel
theorem dX6_fit_92 : decode cX6_fit 92 = .ok (.bipush (-9), 2) := by decide +kernel
theorem dX6_fit_94 : decode cX6_fit 94 = .ok (.ireturn, 1) := by decide +kernel
theorem dX6_fit_95 : decode cX6_fit 95 = .ok (.iload_n 1, 1) := by decide +kernel
theorem dX6_fit_96 : decode cX6_fit 96 = .ok (.iconst 1, 1) := by decide +kernel
theorem dX6_fit_97 : decode cX6_fit 97 = .ok (.if_icmp .ne 7, 3) := by decide +kernel
theorem dX6_fit_100 : decode cX6_fit 100 = .ok (.iload_n 3, 1) := by decide +kernel
theorem dX6_fit_101 : decode cX6_fit 101 = .ok (.goto 5, 3) := by decide +kernel
theorem dX6_fit_104 : decode cX6_fit 104 = .ok (.iload 4, 2) := by decide +kernel
theorem dX6_fit_106 : decode cX6_fit 106 = .ok (.ireturn, 1) := by decide +kernel
theorem dX6_isAsSeen_0 : decode cX6_isAsSeen 0 = .ok (.aload_n 0, 1) := by decide +kernel
theorem dX6_isAsSeen_1 : decode cX6_isAsSeen 1 = .ok (.getfield 62, 3) := by decide +kernel
theorem dX6_isAsSeen_4 : decode cX6_isAsSeen 4 = .ok (.aload_n 0, 1) := by decide +kernel
theorem dX6_isAsSeen_5 : decode cX6_isAsSeen 5 = .ok (.getfield 40, 3) := by decide +kernel
theorem dX6_isAsSeen_8 : decode cX6_isAsSeen 8 = .ok (.invokevirtual 151, 3) := by decide +kernel
theorem dX6_isAsSeen_11 : decode cX6_isAsSeen 11 = .ok (.aload_n 0, 1) := by decide +kernel
theorem dX6_isAsSeen_12 : decode cX6_isAsSeen 12 = .ok (.getfield 62, 3) := by decide +kernel
theorem dX6_isAsSeen_15 : decode cX6_isAsSeen 15 = .ok (.iload_n 1, 1) := by decide +kernel
theorem dX6_isAsSeen_16 : decode cX6_isAsSeen 16 = .ok (.putfield 117, 3) := by decide +kernel
theorem dX6_isAsSeen_19 : decode cX6_isAsSeen 19 = .ok (.aload_n 0, 1) := by decide +kernel
theorem dX6_isAsSeen_20 : decode cX6_isAsSeen 20 = .ok (.getfield 54, 3) := by decide +kernel
theorem dX6_isAsSeen_23 : decode cX6_isAsSeen 23 = .ok (.invokevirtual 250, 3) := by decide +kernel
theorem dX6_isAsSeen_26 : decode cX6_isAsSeen 26 = .ok (.istore_n 2, 1) := by decide +kernel
theorem dX6_isAsSeen_27 : decode cX6_isAsSeen 27 = .ok (.iconst 0, 1) := by decide +kernel
theorem dX6_isAsSeen_28 : decode cX6_isAsSeen 28 = .ok (.istore_n 3, 1) := by decide +kernel
theorem dX6_isAsSeen_29 : decode cX6_isAsSeen 29 = .ok (.iload_n 3, 1) := by decide +kernel
theorem dX6_isAsSeen_30 : decode cX6_isAsSeen 30 = .ok (.iload_n 2, 1) := by decide +kernel
theorem dX6_isAsSeen_31 : decode cX6_isAsSeen 31 = .ok (.if_icmp .ge 47, 3) := by decide +kernel
theorem dX6_isAsSeen_34 : decode cX6_isAsSeen 34 = .ok (.aload_n 0, 1) := by decide +kernel
theorem dX6_isAsSeen_35 : decode cX6_isAsSeen 35 = .ok (.getfield 54, 3) := by decide +kernel
theorem dX6_isAsSeen_38 : decode cX6_isAsSeen 38 = .ok (.aload_n 0, 1) := by decide +kernel
theorem dX6_isAsSeen_39 : decode cX6_isAsSeen 39 = .ok (.getfield 23, 3) := by decide +kernel
theorem dX6_isAsSeen_42 : decode cX6_isAsSeen 42 = .ok (.aload_n 0, 1) := by decide +kernel
theorem dX6_isAsSeen_43 : decode cX6_isAsSeen 43 = .ok (.getfield 62, 3) := by decide +kernel
theorem dX6_isAsSeen_46 : decode cX6_isAsSeen 46 = .ok (.iload_n 3, 1) := by decide +kernel
theorem dX6_isAsSeen_47 : decode cX6_isAsSeen 47 = .ok (.invokevirtual 253, 3) := by decide +kernel
theorem dX6_isAsSeen_50 : decode cX6_isAsSeen 50 = .ok (.ifCond .ne 5, 3) := by decide +kernel
theorem dX6_isAsSeen_53 : decode cX6_isAsSeen 53 = .ok (.iconst 0, 1) := by decide +kernel
theorem dX6_isAsSeen_54 : decode cX6_isAsSeen 54 = .ok (.ireturn, 1) := by decide +kernel
theorem dX6_isAsSeen_55 : decode cX6_isAsSeen 55 = .ok (.aload_n 0, 1) := by decide +kernel
theorem dX6_isAsSeen_56 : decode cX6_isAsSeen 56 = .ok (.getfield 33, 3) := by decide +kernel
theorem dX6_isAsSeen_59 : decode cX6_isAsSeen 59 = .ok (.aload_n 0, 1) := by decide +kernel
theorem dX6_isAsSeen_60 : decode cX6_isAsSeen 60 = .ok (.getfield 23, 3) := by decide +kernel
theorem dX6_isAsSeen_63 : decode cX6_isAsSeen 63 = .ok (.aload_n 0, 1) := by decide +kernel
theorem dX6_isAsSeen_64 : decode cX6_isAsSeen 64 = .ok (.getfield 62, 3) := by decide +kernel
theorem dX6_isAsSeen_67 : decode cX6_isAsSeen 67 = .ok (.iconst 0, 1) := by decide +kernel
theorem dX6_isAsSeen_68 : decode cX6_isAsSeen 68 = .ok (.invokevirtual 137, 3) := by decide +kernel
theorem dX6_isAsSeen_71 : decode cX6_isAsSeen 71 = .ok (.pop, 1) := by decide +kernel
theorem dX6_isAsSeen_72 : decode cX6_isAsSeen 72 = .ok (.iinc 3 1, 3) := by decide +kernel
theorem dX6_isAsSeen_75 : decode cX6_isAsSeen 75 = .ok (.goto (-46), 3) := by decide +kernel
theorem dX6_isAsSeen_78 : decode cX6_isAsSeen 78 = .ok (.aload_n 0, 1) := by decide +kernel
theorem dX6_isAsSeen_79 : decode cX6_isAsSeen 79 = .ok (.getfield 54, 3) := by decide +kernel
theorem dX6_isAsSeen_82 : decode cX6_isAsSeen 82 = .ok (.aload_n 0, 1) := by decide +kernel
theorem dX6_isAsSeen_83 : decode cX6_isAsSeen 83 = .ok (.getfield 23, 3) := by decide +kernel
theorem dX6_isAsSeen_86 : decode cX6_isAsSeen 86 = .ok (.aload_n 0, 1) := by decide +kernel
theorem dX6_isAsSeen_87 : decode cX6_isAsSeen 87 = .ok (.getfield 62, 3) := by decide +kernel
theorem dX6_isAsSeen_90 : decode cX6_isAsSeen 90 = .ok (.iload_n 2, 1) := by decide +kernel
theorem dX6_isAsSeen_91 : decode cX6_isAsSeen 91 = .ok (.invokevirtual 253, 3) := by decide +kernel
theorem dX6_isAsSeen_94 : decode cX6_isAsSeen 94 = .ok (.ireturn, 1) := by decide +kernel
theorem dX6_kings_0 : decode cX6_kings 0 = .ok (.aload_n 0, 1) := by decide +kernel
theorem dX6_kings_1 : decode cX6_kings 1 = .ok (.getfield 23, 3) := by decide +kernel
theorem dX6_kings_4 : decode cX6_kings 4 = .ok (.iload_n 1, 1) := by decide +kernel
theorem dX6_kings_5 : decode cX6_kings 5 = .ok (.invokevirtual 98, 3) := by decide +kernel
theorem dX6_kings_8 : decode cX6_kings 8 = .ok (.ifCond .ne 5, 3) := by decide +kernel
theorem dX6_kings_11 : decode cX6_kings 11 = .ok (.iconst (-1), 1) := by decide +kernel
theorem dX6_kings_12 : decode cX6_kings 12 = .ok (.ireturn, 1) := by decide +kernel
theorem dX6_kings_13 : decode cX6_kings 13 = .ok (.iload_n 2, 1) := by decide +kernel
theorem dX6_kings_14 : decode cX6_kings 14 = .ok (.iconst 1, 1) := by decide +kernel
theorem dX6_kings_15 : decode cX6_kings 15 = .ok (.if_icmp .lt 8, 3) := by decide +kernel
theorem dX6_kings_18 : decode cX6_kings 18 = .ok (.iload_n 2, 1) := by decide +kernel
theorem dX6_kings_19 : decode cX6_kings 19 = .ok (.iconst 4, 1) := by decide +kernel
theorem dX6_kings_20 : decode cX6_kings 20 = .ok (.if_icmp .le 6, 3) := by decide +kernel
theorem dX6_kings_23 : decode cX6_kings 23 = .ok (.bipush (-2), 2) := by decide +kernel
theorem dX6_kings_25 : decode cX6_kings 25 = .ok (.ireturn, 1) := by decide +kernel
theorem dX6_kings_26 : decode cX6_kings 26 = .ok (.aload_n 0, 1) := by decide +kernel
theorem dX6_kings_27 : decode cX6_kings 27 = .ok (.getfield 23, 3) := by decide +kernel
theorem dX6_kings_30 : decode cX6_kings 30 = .ok (.getfield 102, 3) := by decide +kernel
theorem dX6_kings_33 : decode cX6_kings 33 = .ok (.iload_n 1, 1) := by decide +kernel
theorem dX6_kings_34 : decode cX6_kings 34 = .ok (.iaload, 1) := by decide +kernel
theorem dX6_kings_35 : decode cX6_kings 35 = .ok (.iconst 1, 1) := by decide +kernel
theorem dX6_kings_36 : decode cX6_kings 36 = .ok (.if_icmp .eq 6, 3) := by decide +kernel
theorem dX6_kings_39 : decode cX6_kings 39 = .ok (.bipush (-3), 2) := by decide +kernel
theorem dX6_kings_41 : decode cX6_kings 41 = .ok (.ireturn, 1) := by decide +kernel
theorem dX6_kings_42 : decode cX6_kings 42 = .ok (.aload_n 0, 1) := by decide +kernel
theorem dX6_kings_43 : decode cX6_kings 43 = .ok (.getfield 68, 3) := by decide +kernel
theorem dX6_kings_46 : decode cX6_kings 46 = .ok (.iconst 0, 1) := by decide +kernel
theorem dX6_kings_47 : decode cX6_kings 47 = .ok (.aaload, 1) := by decide +kernel
theorem dX6_kings_48 : decode cX6_kings 48 = .ok (.aload_n 0, 1) := by decide +kernel
theorem dX6_kings_49 : decode cX6_kings 49 = .ok (.getfield 40, 3) := by decide +kernel
theorem dX6_kings_52 : decode cX6_kings 52 = .ok (.invokevirtual 151, 3) := by decide +kernel
theorem dX6_kings_55 : decode cX6_kings 55 = .ok (.iconst 0, 1) := by decide +kernel
theorem dX6_kings_56 : decode cX6_kings 56 = .ok (.istore 4, 2) := by decide +kernel
theorem dX6_kings_58 : decode cX6_kings 58 = .ok (.aload_n 0, 1) := by decide +kernel
theorem dX6_kings_59 : decode cX6_kings 59 = .ok (.iload_n 1, 1) := by decide +kernel
theorem dX6_kings_60 : decode cX6_kings 60 = .ok (.iconst 0, 1) := by decide +kernel
theorem dX6_kings_61 : decode cX6_kings 61 = .ok (.iload_n 2, 1) := by decide +kernel
theorem dX6_kings_62 : decode cX6_kings 62 = .ok (.iconst 0, 1) := by decide +kernel
theorem dX6_kings_63 : decode cX6_kings 63 = .ok (.invokevirtual 257, 3) := by decide +kernel
theorem dX6_kings_66 : decode cX6_kings 66 = .ok (.istore 5, 2) := by decide +kernel
theorem dX6_kings_68 : decode cX6_kings 68 = .ok (.iconst 1, 1) := by decide +kernel
theorem dX6_kings_69 : decode cX6_kings 69 = .ok (.istore 6, 2) := by decide +kernel
theorem dX6_kings_71 : decode cX6_kings 71 = .ok (.iload 6, 2) := by decide +kernel
theorem dX6_kings_73 : decode cX6_kings 73 = .ok (.aload_n 0, 1) := by decide +kernel
theorem dX6_kings_74 : decode cX6_kings 74 = .ok (.getfield 23, 3) := by decide +kernel
theorem dX6_kings_77 : decode cX6_kings 77 = .ok (.getfield 95, 3) := by decide +kernel
theorem dX6_kings_80 : decode cX6_kings 80 = .ok (.if_icmp .gt 35, 3) := by decide +kernel
theorem dX6_kings_83 : decode cX6_kings 83 = .ok (.aload_n 0, 1) := by decide +kernel
theorem dX6_kings_84 : decode cX6_kings 84 = .ok (.iload_n 1, 1) := by decide +kernel
theorem dX6_kings_85 : decode cX6_kings 85 = .ok (.iconst 0, 1) := by decide +kernel
theorem dX6_kings_86 : decode cX6_kings 86 = .ok (.iload_n 2, 1) := by decide +kernel
theorem dX6_kings_87 : decode cX6_kings 87 = .ok (.iload 6, 2) := by decide +kernel
theorem dX6_kings_89 : decode cX6_kings 89 = .ok (.invokevirtual 257, 3) := by decide +kernel
theorem dX6_kings_92 : decode cX6_kings 92 = .ok (.istore 7, 2) := by decide +kernel
theorem dX6_kings_94 : decode cX6_kings 94 = .ok (.iload 7, 2) := by decide +kernel
theorem dX6_kings_96 : decode cX6_kings 96 = .ok (.iload 5, 2) := by decide +kernel
theorem dX6_kings_98 : decode cX6_kings 98 = .ok (.if_icmp .ge 11, 3) := by decide +kernel
theorem dX6_kings_101 : decode cX6_kings 101 = .ok (.iload 7, 2) := by decide +kernel
theorem dX6_kings_103 : decode cX6_kings 103 = .ok (.istore 5, 2) := by decide +kernel
theorem dX6_kings_105 : decode cX6_kings 105 = .ok (.iload 6, 2) := by decide +kernel
theorem dX6_kings_107 : decode cX6_kings 107 = .ok (.istore 4, 2) := by decide +kernel
theorem dX6_kings_109 : decode cX6_kings 109 = .ok (.iinc 6 1, 3) := by decide +kernel
theorem dX6_kings_112 : decode cX6_kings 112 = .ok (.goto (-41), 3) := by decide +kernel
theorem dX6_kings_115 : decode cX6_kings 115 = .ok (.iload_n 3, 1) := by decide +kernel
theorem dX6_kings_116 : decode cX6_kings 116 = .ok (.ifCond .eq 8, 3) := by decide +kernel
theorem dX6_kings_119 : decode cX6_kings 119 = .ok (.iload 4, 2) := by decide +kernel
theorem dX6_kings_121 : decode cX6_kings 121 = .ok (.goto 5, 3) := by decide +kernel
theorem dX6_kings_124 : decode cX6_kings 124 = .ok (.iload 5, 2) := by decide +kernel
theorem dX6_kings_126 : decode cX6_kings 126 = .ok (.ireturn, 1) := by decide +kernel
theorem dX6_leftByMove_0 : decode cX6_leftByMove 0 = .ok (.iload_n 2, 1) := by decide +kernel
theorem dX6_leftByMove_1 : decode cX6_leftByMove 1 = .ok (.iconst 4, 1) := by decide +kernel
theorem dX6_leftByMove_2 : decode cX6_leftByMove 2 = .ok (.if_icmp .lt 13, 3) := by decide +kernel
theorem dX6_leftByMove_5 : decode cX6_leftByMove 5 = .ok (.aload_n 0, 1) := by decide +kernel
theorem dX6_leftByMove_6 : decode cX6_leftByMove 6 = .ok (.getfield 40, 3) := by decide +kernel
theorem dX6_leftByMove_9 : decode cX6_leftByMove 9 = .ok (.getfield 108, 3) := by decide +kernel
theorem dX6_leftByMove_12 : decode cX6_leftByMove 12 = .ok (.iload_n 1, 1) := by decide +kernel
theorem dX6_leftByMove_13 : decode cX6_leftByMove 13 = .ok (.iaload, 1) := by decide +kernel
theorem dX6_leftByMove_14 : decode cX6_leftByMove 14 = .ok (.ireturn, 1) := by decide +kernel
theorem dX6_leftByMove_15 : decode cX6_leftByMove 15 = .ok (.aload_n 0, 1) := by decide +kernel
theorem dX6_leftByMove_16 : decode cX6_leftByMove 16 = .ok (.getfield 68, 3) := by decide +kernel
theorem dX6_leftByMove_19 : decode cX6_leftByMove 19 = .ok (.iload_n 2, 1) := by decide +kernel
theorem dX6_leftByMove_20 : decode cX6_leftByMove 20 = .ok (.iconst 1, 1) := by decide +kernel
theorem dX6_leftByMove_21 : decode cX6_leftByMove 21 = .ok (.iadd, 1) := by decide +kernel
theorem dX6_leftByMove_22 : decode cX6_leftByMove 22 = .ok (.aaload, 1) := by decide +kernel
theorem dX6_leftByMove_23 : decode cX6_leftByMove 23 = .ok (.astore 5, 2) := by decide +kernel
theorem dX6_leftByMove_25 : decode cX6_leftByMove 25 = .ok (.aload 5, 2) := by decide +kernel
theorem dX6_leftByMove_27 : decode cX6_leftByMove 27 = .ok (.aload_n 0, 1) := by decide +kernel
theorem dX6_leftByMove_28 : decode cX6_leftByMove 28 = .ok (.getfield 68, 3) := by decide +kernel
theorem dX6_leftByMove_31 : decode cX6_leftByMove 31 = .ok (.iload_n 2, 1) := by decide +kernel
theorem dX6_leftByMove_32 : decode cX6_leftByMove 32 = .ok (.aaload, 1) := by decide +kernel
theorem dX6_leftByMove_33 : decode cX6_leftByMove 33 = .ok (.invokevirtual 151, 3) := by decide +kernel
theorem dX6_leftByMove_36 : decode cX6_leftByMove 36 = .ok (.iload 4, 2) := by decide +kernel
theorem dX6_leftByMove_38 : decode cX6_leftByMove 38 = .ok (.ifCond .le 19, 3) := by decide +kernel
theorem dX6_leftByMove_41 : decode cX6_leftByMove 41 = .ok (.aload 5, 2) := by decide +kernel
theorem dX6_leftByMove_43 : decode cX6_leftByMove 43 = .ok (.dup, 1) := by decide +kernel
theorem dX6_leftByMove_44 : decode cX6_leftByMove 44 = .ok (.getfield 117, 3) := by decide +kernel
theorem dX6_leftByMove_47 : decode cX6_leftByMove 47 = .ok (.iconst 1, 1) := by decide +kernel
theorem dX6_leftByMove_48 : decode cX6_leftByMove 48 = .ok (.iload 4, 2) := by decide +kernel
theorem dX6_leftByMove_50 : decode cX6_leftByMove 50 = .ok (.iconst 1, 1) := by decide +kernel
theorem dX6_leftByMove_51 : decode cX6_leftByMove 51 = .ok (.isub, 1) := by decide +kernel
theorem dX6_leftByMove_52 : decode cX6_leftByMove 52 = .ok (.ishl, 1) := by decide +kernel
theorem dX6_leftByMove_53 : decode cX6_leftByMove 53 = .ok (.ixor, 1) := by decide +kernel
theorem dX6_leftByMove_54 : decode cX6_leftByMove 54 = .ok (.putfield 117, 3) := by decide +kernel
theorem dX6_leftByMove_57 : decode cX6_leftByMove 57 = .ok (.aload_n 0, 1) := by decide +kernel
theorem dX6_leftByMove_58 : decode cX6_leftByMove 58 = .ok (.getfield 33, 3) := by decide +kernel
theorem dX6_leftByMove_61 : decode cX6_leftByMove 61 = .ok (.aload_n 0, 1) := by decide +kernel
theorem dX6_leftByMove_62 : decode cX6_leftByMove 62 = .ok (.getfield 23, 3) := by decide +kernel
theorem dX6_leftByMove_65 : decode cX6_leftByMove 65 = .ok (.aload 5, 2) := by decide +kernel
theorem dX6_leftByMove_67 : decode cX6_leftByMove 67 = .ok (.iconst 0, 1) := by decide +kernel
theorem dX6_leftByMove_68 : decode cX6_leftByMove 68 = .ok (.invokevirtual 137, 3) := by decide +kernel
theorem dX6_leftByMove_71 : decode cX6_leftByMove 71 = .ok (.pop, 1) := by decide +kernel
theorem dX6_leftByMove_72 : decode cX6_leftByMove 72 = .ok (.aload_n 0, 1) := by decide +kernel
theorem dX6_leftByMove_73 : decode cX6_leftByMove 73 = .ok (.iload_n 1, 1) := by decide +kernel
theorem dX6_leftByMove_74 : decode cX6_leftByMove 74 = .ok (.iload_n 2, 1) := by decide +kernel
theorem dX6_leftByMove_75 : decode cX6_leftByMove 75 = .ok (.iconst 1, 1) := by decide +kernel
theorem dX6_leftByMove_76 : decode cX6_leftByMove 76 = .ok (.iadd, 1) := by decide +kernel
theorem dX6_leftByMove_77 : decode cX6_leftByMove 77 = .ok (.iload_n 3, 1) := by decide +kernel
theorem dX6_leftByMove_78 : decode cX6_leftByMove 78 = .ok (.invokevirtual 260, 3) := by decide +kernel
theorem dX6_leftByMove_81 : decode cX6_leftByMove 81 = .ok (.ireturn, 1) := by decide +kernel
theorem dX6_leftFrom_0 : decode cX6_leftFrom 0 = .ok (.iload_n 2, 1) := by decide +kernel
theorem dX6_leftFrom_1 : decode cX6_leftFrom 1 = .ok (.iload_n 3, 1) := by decide +kernel
theorem dX6_leftFrom_2 : decode cX6_leftFrom 2 = .ok (.if_icmp .ge 8, 3) := by decide +kernel
theorem dX6_leftFrom_5 : decode cX6_leftFrom 5 = .ok (.iload_n 2, 1) := by decide +kernel
theorem dX6_leftFrom_6 : decode cX6_leftFrom 6 = .ok (.iconst 4, 1) := by decide +kernel
theorem dX6_leftFrom_7 : decode cX6_leftFrom 7 = .ok (.if_icmp .lt 15, 3) := by decide +kernel
theorem dX6_leftFrom_10 : decode cX6_leftFrom 10 = .ok (.aload_n 0, 1) := by decide +kernel
theorem dX6_leftFrom_11 : decode cX6_leftFrom 11 = .ok (.getfield 68, 3) := by decide +kernel
theorem dX6_leftFrom_14 : decode cX6_leftFrom 14 = .ok (.iload_n 2, 1) := by decide +kernel
theorem dX6_leftFrom_15 : decode cX6_leftFrom 15 = .ok (.aaload, 1) := by decide +kernel
theorem dX6_leftFrom_16 : decode cX6_leftFrom 16 = .ok (.getfield 108, 3) := by decide +kernel
theorem dX6_leftFrom_19 : decode cX6_leftFrom 19 = .ok (.iload_n 1, 1) := by decide +kernel
theorem dX6_leftFrom_20 : decode cX6_leftFrom 20 = .ok (.iaload, 1) := by decide +kernel
theorem dX6_leftFrom_21 : decode cX6_leftFrom 21 = .ok (.ireturn, 1) := by decide +kernel
theorem dX6_leftFrom_22 : decode cX6_leftFrom 22 = .ok (.iload_n 2, 1) := by decide +kernel
theorem dX6_leftFrom_23 : decode cX6_leftFrom 23 = .ok (.iconst 2, 1) := by decide +kernel
theorem dX6_leftFrom_24 : decode cX6_leftFrom 24 = .ok (.irem, 1) := by decide +kernel
theorem dX6_leftFrom_25 : decode cX6_leftFrom 25 = .ok (.ifCond .ne 7, 3) := by decide +kernel
theorem dX6_leftFrom_28 : decode cX6_leftFrom 28 = .ok (.iconst 1, 1) := by decide +kernel
theorem dX6_leftFrom_29 : decode cX6_leftFrom 29 = .ok (.goto 4, 3) := by decide +kernel
theorem dX6_leftFrom_32 : decode cX6_leftFrom 32 = .ok (.iconst 0, 1) := by decide +kernel
theorem dX6_leftFrom_33 : decode cX6_leftFrom 33 = .ok (.istore 4, 2) := by decide +kernel
theorem dX6_leftFrom_35 : decode cX6_leftFrom 35 = .ok (.aload_n 0, 1) := by decide +kernel
theorem dX6_leftFrom_36 : decode cX6_leftFrom 36 = .ok (.iload_n 1, 1) := by decide +kernel
theorem dX6_leftFrom_37 : decode cX6_leftFrom 37 = .ok (.iload_n 2, 1) := by decide +kernel
theorem dX6_leftFrom_38 : decode cX6_leftFrom 38 = .ok (.iload_n 3, 1) := by decide +kernel
theorem dX6_leftFrom_39 : decode cX6_leftFrom 39 = .ok (.iconst 0, 1) := by decide +kernel
theorem dX6_leftFrom_40 : decode cX6_leftFrom 40 = .ok (.invokevirtual 257, 3) := by decide +kernel
theorem dX6_leftFrom_43 : decode cX6_leftFrom 43 = .ok (.istore 5, 2) := by decide +kernel
theorem dX6_leftFrom_45 : decode cX6_leftFrom 45 = .ok (.iconst 1, 1) := by decide +kernel
theorem dX6_leftFrom_46 : decode cX6_leftFrom 46 = .ok (.istore 6, 2) := by decide +kernel
theorem dX6_leftFrom_48 : decode cX6_leftFrom 48 = .ok (.iload 6, 2) := by decide +kernel
theorem dX6_leftFrom_50 : decode cX6_leftFrom 50 = .ok (.aload_n 0, 1) := by decide +kernel
theorem dX6_leftFrom_51 : decode cX6_leftFrom 51 = .ok (.getfield 23, 3) := by decide +kernel
theorem dX6_leftFrom_54 : decode cX6_leftFrom 54 = .ok (.getfield 95, 3) := by decide +kernel
theorem dX6_leftFrom_57 : decode cX6_leftFrom 57 = .ok (.if_icmp .gt 44, 3) := by decide +kernel
theorem dX6_leftFrom_60 : decode cX6_leftFrom 60 = .ok (.aload_n 0, 1) := by decide +kernel
theorem dX6_leftFrom_61 : decode cX6_leftFrom 61 = .ok (.iload_n 1, 1) := by decide +kernel
theorem dX6_leftFrom_62 : decode cX6_leftFrom 62 = .ok (.iload_n 2, 1) := by decide +kernel
theorem dX6_leftFrom_63 : decode cX6_leftFrom 63 = .ok (.iload_n 3, 1) := by decide +kernel
theorem dX6_leftFrom_64 : decode cX6_leftFrom 64 = .ok (.iload 6, 2) := by decide +kernel
theorem dX6_leftFrom_66 : decode cX6_leftFrom 66 = .ok (.invokevirtual 257, 3) := by decide +kernel
theorem dX6_leftFrom_69 : decode cX6_leftFrom 69 = .ok (.istore 7, 2) := by decide +kernel
theorem dX6_leftFrom_71 : decode cX6_leftFrom 71 = .ok (.iload 4, 2) := by decide +kernel
theorem dX6_leftFrom_73 : decode cX6_leftFrom 73 = .ok (.ifCond .eq 13, 3) := by decide +kernel
theorem dX6_leftFrom_76 : decode cX6_leftFrom 76 = .ok (.iload 5, 2) := by decide +kernel
theorem dX6_leftFrom_78 : decode cX6_leftFrom 78 = .ok (.iload 7, 2) := by decide +kernel
theorem dX6_leftFrom_80 : decode cX6_leftFrom 80 = .ok (.invokestatic 263, 3) := by decide +kernel
theorem dX6_leftFrom_83 : decode cX6_leftFrom 83 = .ok (.goto 10, 3) := by decide +kernel
theorem dX6_leftFrom_86 : decode cX6_leftFrom 86 = .ok (.iload 5, 2) := by decide +kernel
theorem dX6_leftFrom_88 : decode cX6_leftFrom 88 = .ok (.iload 7, 2) := by decide +kernel
theorem dX6_leftFrom_90 : decode cX6_leftFrom 90 = .ok (.invokestatic 266, 3) := by decide +kernel
theorem dX6_leftFrom_93 : decode cX6_leftFrom 93 = .ok (.istore 5, 2) := by decide +kernel
theorem dX6_leftFrom_95 : decode cX6_leftFrom 95 = .ok (.iinc 6 1, 3) := by decide +kernel
theorem dX6_leftFrom_98 : decode cX6_leftFrom 98 = .ok (.goto (-50), 3) := by decide +kernel
theorem dX6_leftFrom_101 : decode cX6_leftFrom 101 = .ok (.iload 5, 2) := by decide +kernel
theorem dX6_leftFrom_103 : decode cX6_leftFrom 103 = .ok (.ireturn, 1) := by decide +kernel
theorem dX6_seed_0 : decode cX6_seed 0 = .ok (.aload_n 0, 1) := by decide +kernel
theorem dX6_seed_1 : decode cX6_seed 1 = .ok (.getfield 269, 3) := by decide +kernel
theorem dX6_seed_4 : decode cX6_seed 4 = .ok (.lstore_n 3, 1) := by decide +kernel
theorem dX6_seed_5 : decode cX6_seed 5 = .ok (.aload_n 0, 1) := by decide +kernel
theorem dX6_seed_6 : decode cX6_seed 6 = .ok (.lload_n 1, 1) := by decide +kernel
theorem dX6_seed_7 : decode cX6_seed 7 = .ok (.putfield 269, 3) := by decide +kernel
theorem dX6_seed_10 : decode cX6_seed 10 = .ok (.lload_n 3, 1) := by decide +kernel
theorem dX6_seed_11 : decode cX6_seed 11 = .ok (.lreturn, 1) := by decide +kernel
theorem dX6_days_0 : decode cX6_days 0 = .ok (.iload_n 1, 1) := by decide +kernel
theorem dX6_days_1 : decode cX6_days 1 = .ok (.iconst 1, 1) := by decide +kernel
theorem dX6_days_2 : decode cX6_days 2 = .ok (.if_icmp .lt 9, 3) := by decide +kernel
theorem dX6_days_5 : decode cX6_days 5 = .ok (.iload_n 1, 1) := by decide +kernel
theorem dX6_days_6 : decode cX6_days 6 = .ok (.bipush 40, 2) := by decide +kernel
theorem dX6_days_8 : decode cX6_days 8 = .ok (.if_icmp .le 6, 3) := by decide +kernel
theorem dX6_days_11 : decode cX6_days 11 = .ok (.bipush (-2), 2) := by decide +kernel
theorem dX6_days_13 : decode cX6_days 13 = .ok (.ireturn, 1) := by decide +kernel
theorem dX6_days_14 : decode cX6_days 14 = .ok (.aload_n 0, 1) := by decide +kernel
theorem dX6_days_15 : decode cX6_days 15 = .ok (.getfield 23, 3) := by decide +kernel
theorem dX6_days_18 : decode cX6_days 18 = .ok (.getfield 92, 3) := by decide +kernel
theorem dX6_days_21 : decode cX6_days 21 = .ok (.istore_n 2, 1) := by decide +kernel
theorem dX6_days_22 : decode cX6_days 22 = .ok (.iload_n 2, 1) := by decide +kernel
theorem dX6_days_23 : decode cX6_days 23 = .ok (.ifCond .ne 5, 3) := by decide +kernel
theorem dX6_days_26 : decode cX6_days 26 = .ok (.iconst 0, 1) := by decide +kernel
theorem dX6_days_27 : decode cX6_days 27 = .ok (.ireturn, 1) := by decide +kernel
theorem dX6_days_28 : decode cX6_days 28 = .ok (.aload_n 0, 1) := by decide +kernel
theorem dX6_days_29 : decode cX6_days 29 = .ok (.getfield 62, 3) := by decide +kernel
theorem dX6_days_32 : decode cX6_days 32 = .ok (.aload_n 0, 1) := by decide +kernel
theorem dX6_days_33 : decode cX6_days 33 = .ok (.getfield 40, 3) := by decide +kernel
theorem dX6_days_36 : decode cX6_days 36 = .ok (.invokevirtual 151, 3) := by decide +kernel
theorem dX6_days_39 : decode cX6_days 39 = .ok (.iconst 0, 1) := by decide +kernel
theorem dX6_days_40 : decode cX6_days 40 = .ok (.istore_n 3, 1) := by decide +kernel
theorem dX6_days_41 : decode cX6_days 41 = .ok (.iload_n 3, 1) := by decide +kernel
theorem dX6_days_42 : decode cX6_days 42 = .ok (.iload_n 1, 1) := by decide +kernel
theorem dX6_days_43 : decode cX6_days 43 = .ok (.if_icmp .ge 96, 3) := by decide +kernel
theorem dX6_days_46 : decode cX6_days 46 = .ok (.aload_n 0, 1) := by decide +kernel
theorem dX6_days_47 : decode cX6_days 47 = .ok (.aload_n 0, 1) := by decide +kernel
theorem dX6_days_48 : decode cX6_days 48 = .ok (.getfield 269, 3) := by decide +kernel
theorem dX6_days_51 : decode cX6_days 51 = .ok (.ldc2_w 273, 3) := by decide +kernel
theorem dX6_days_54 : decode cX6_days 54 = .ok (.lmul, 1) := by decide +kernel
theorem dX6_days_55 : decode cX6_days 55 = .ok (.ldc2_w 275, 3) := by decide +kernel
theorem dX6_days_58 : decode cX6_days 58 = .ok (.ladd, 1) := by decide +kernel
theorem dX6_days_59 : decode cX6_days 59 = .ok (.putfield 269, 3) := by decide +kernel
theorem dX6_days_62 : decode cX6_days 62 = .ok (.aload_n 0, 1) := by decide +kernel
theorem dX6_days_63 : decode cX6_days 63 = .ok (.getfield 269, 3) := by decide +kernel
theorem dX6_days_66 : decode cX6_days 66 = .ok (.bipush 33, 2) := by decide +kernel
theorem dX6_days_68 : decode cX6_days 68 = .ok (.lushr, 1) := by decide +kernel
theorem dX6_days_69 : decode cX6_days 69 = .ok (.l2i, 1) := by decide +kernel
theorem dX6_days_70 : decode cX6_days 70 = .ok (.iload_n 2, 1) := by decide +kernel
theorem dX6_days_71 : decode cX6_days 71 = .ok (.irem, 1) := by decide +kernel
theorem dX6_days_72 : decode cX6_days 72 = .ok (.istore 4, 2) := by decide +kernel
theorem dX6_days_74 : decode cX6_days 74 = .ok (.aload_n 0, 1) := by decide +kernel
theorem dX6_days_75 : decode cX6_days 75 = .ok (.getfield 23, 3) := by decide +kernel
theorem dX6_days_78 : decode cX6_days 78 = .ok (.getfield 102, 3) := by decide +kernel
theorem dX6_days_81 : decode cX6_days 81 = .ok (.iload 4, 2) := by decide +kernel
theorem dX6_days_83 : decode cX6_days 83 = .ok (.iaload, 1) := by decide +kernel
theorem dX6_days_84 : decode cX6_days 84 = .ok (.ifCond .ne 32, 3) := by decide +kernel
theorem dX6_days_87 : decode cX6_days 87 = .ok (.aload_n 0, 1) := by decide +kernel
theorem dX6_days_88 : decode cX6_days 88 = .ok (.getfield 62, 3) := by decide +kernel
theorem dX6_days_91 : decode cX6_days 91 = .ok (.getfield 105, 3) := by decide +kernel
theorem dX6_days_94 : decode cX6_days 94 = .ok (.iload 4, 2) := by decide +kernel
theorem dX6_days_96 : decode cX6_days 96 = .ok (.iaload, 1) := by decide +kernel
theorem dX6_days_97 : decode cX6_days 97 = .ok (.bipush 99, 2) := by decide +kernel
theorem dX6_days_99 : decode cX6_days 99 = .ok (.if_icmp .ge 17, 3) := by decide +kernel
theorem dX6_days_102 : decode cX6_days 102 = .ok (.aload_n 0, 1) := by decide +kernel
theorem dX6_days_103 : decode cX6_days 103 = .ok (.getfield 62, 3) := by decide +kernel
theorem dX6_days_106 : decode cX6_days 106 = .ok (.getfield 105, 3) := by decide +kernel
theorem dX6_days_109 : decode cX6_days 109 = .ok (.iload 4, 2) := by decide +kernel
theorem dX6_days_111 : decode cX6_days 111 = .ok (.dup2, 1) := by decide +kernel
theorem dX6_days_112 : decode cX6_days 112 = .ok (.iaload, 1) := by decide +kernel
theorem dX6_days_113 : decode cX6_days 113 = .ok (.iconst 1, 1) := by decide +kernel
theorem dX6_days_114 : decode cX6_days 114 = .ok (.iadd, 1) := by decide +kernel
theorem dX6_days_115 : decode cX6_days 115 = .ok (.iastore, 1) := by decide +kernel
theorem dX6_days_116 : decode cX6_days 116 = .ok (.aload_n 0, 1) := by decide +kernel
theorem dX6_days_117 : decode cX6_days 117 = .ok (.getfield 33, 3) := by decide +kernel
theorem dX6_days_120 : decode cX6_days 120 = .ok (.aload_n 0, 1) := by decide +kernel
theorem dX6_days_121 : decode cX6_days 121 = .ok (.getfield 23, 3) := by decide +kernel
theorem dX6_days_124 : decode cX6_days 124 = .ok (.aload_n 0, 1) := by decide +kernel
theorem dX6_days_125 : decode cX6_days 125 = .ok (.getfield 62, 3) := by decide +kernel
theorem dX6_days_128 : decode cX6_days 128 = .ok (.iconst 0, 1) := by decide +kernel
theorem dX6_days_129 : decode cX6_days 129 = .ok (.invokevirtual 137, 3) := by decide +kernel
theorem dX6_days_132 : decode cX6_days 132 = .ok (.pop, 1) := by decide +kernel
theorem dX6_days_133 : decode cX6_days 133 = .ok (.iinc 3 1, 3) := by decide +kernel
theorem dX6_days_136 : decode cX6_days 136 = .ok (.goto (-95), 3) := by decide +kernel
theorem dX6_days_139 : decode cX6_days 139 = .ok (.aload_n 0, 1) := by decide +kernel
theorem dX6_days_140 : decode cX6_days 140 = .ok (.getfield 62, 3) := by decide +kernel
theorem dX6_days_143 : decode cX6_days 143 = .ok (.invokevirtual 172, 3) := by decide +kernel
theorem dX6_days_146 : decode cX6_days 146 = .ok (.bipush 100, 2) := by decide +kernel
theorem dX6_days_148 : decode cX6_days 148 = .ok (.aload_n 0, 1) := by decide +kernel
theorem dX6_days_149 : decode cX6_days 149 = .ok (.getfield 62, 3) := by decide +kernel
theorem dX6_days_152 : decode cX6_days 152 = .ok (.invokevirtual 154, 3) := by decide +kernel
theorem dX6_days_155 : decode cX6_days 155 = .ok (.invokestatic 186, 3) := by decide +kernel
theorem dX6_days_158 : decode cX6_days 158 = .ok (.imul, 1) := by decide +kernel
theorem dX6_days_159 : decode cX6_days 159 = .ok (.iadd, 1) := by decide +kernel
theorem dX6_days_160 : decode cX6_days 160 = .ok (.ireturn, 1) := by decide +kernel
theorem dX6_keep_0 : decode cX6_keep 0 = .ok (.iload_n 1, 1) := by decide +kernel
theorem dX6_keep_1 : decode cX6_keep 1 = .ok (.ifCond .lt 8, 3) := by decide +kernel
theorem dX6_keep_4 : decode cX6_keep 4 = .ok (.iload_n 1, 1) := by decide +kernel
theorem dX6_keep_5 : decode cX6_keep 5 = .ok (.iconst 2, 1) := by decide +kernel
theorem dX6_keep_6 : decode cX6_keep 6 = .ok (.if_icmp .lt 5, 3) := by decide +kernel
theorem dX6_keep_9 : decode cX6_keep 9 = .ok (.iconst (-1), 1) := by decide +kernel
theorem dX6_keep_10 : decode cX6_keep 10 = .ok (.ireturn, 1) := by decide +kernel
theorem dX6_keep_11 : decode cX6_keep 11 = .ok (.aload_n 0, 1) := by decide +kernel
theorem dX6_keep_12 : decode cX6_keep 12 = .ok (.getfield 58, 3) := by decide +kernel
theorem dX6_keep_15 : decode cX6_keep 15 = .ok (.iload_n 1, 1) := by decide +kernel
theorem dX6_keep_16 : decode cX6_keep 16 = .ok (.aaload, 1) := by decide +kernel
theorem dX6_keep_17 : decode cX6_keep 17 = .ok (.aload_n 0, 1) := by decide +kernel
theorem dX6_keep_18 : decode cX6_keep 18 = .ok (.getfield 40, 3) := by decide +kernel
theorem dX6_keep_21 : decode cX6_keep 21 = .ok (.invokevirtual 151, 3) := by decide +kernel
theorem dX6_keep_24 : decode cX6_keep 24 = .ok (.aload_n 0, 1) := by decide +kernel
theorem dX6_keep_25 : decode cX6_keep 25 = .ok (.dup, 1) := by decide +kernel
theorem dX6_keep_26 : decode cX6_keep 26 = .ok (.getfield 89, 3) := by decide +kernel
theorem dX6_keep_29 : decode cX6_keep 29 = .ok (.iconst 1, 1) := by decide +kernel
theorem dX6_keep_30 : decode cX6_keep 30 = .ok (.iload_n 1, 1) := by decide +kernel
theorem dX6_keep_31 : decode cX6_keep 31 = .ok (.ishl, 1) := by decide +kernel
theorem dX6_keep_32 : decode cX6_keep 32 = .ok (.ior, 1) := by decide +kernel
theorem dX6_keep_33 : decode cX6_keep 33 = .ok (.putfield 89, 3) := by decide +kernel
theorem dX6_keep_36 : decode cX6_keep 36 = .ok (.aload_n 0, 1) := by decide +kernel
theorem dX6_keep_37 : decode cX6_keep 37 = .ok (.getfield 40, 3) := by decide +kernel
theorem dX6_keep_40 : decode cX6_keep 40 = .ok (.getfield 277, 3) := by decide +kernel
theorem dX6_keep_43 : decode cX6_keep 43 = .ok (.ireturn, 1) := by decide +kernel
theorem dX6_again_0 : decode cX6_again 0 = .ok (.iload_n 1, 1) := by decide +kernel
theorem dX6_again_1 : decode cX6_again 1 = .ok (.ifCond .lt 8, 3) := by decide +kernel
theorem dX6_again_4 : decode cX6_again 4 = .ok (.iload_n 1, 1) := by decide +kernel
theorem dX6_again_5 : decode cX6_again 5 = .ok (.iconst 2, 1) := by decide +kernel
theorem dX6_again_6 : decode cX6_again 6 = .ok (.if_icmp .lt 5, 3) := by decide +kernel
theorem dX6_again_9 : decode cX6_again 9 = .ok (.iconst (-1), 1) := by decide +kernel
theorem dX6_again_10 : decode cX6_again 10 = .ok (.ireturn, 1) := by decide +kernel
theorem dX6_again_11 : decode cX6_again 11 = .ok (.aload_n 0, 1) := by decide +kernel
theorem dX6_again_12 : decode cX6_again 12 = .ok (.getfield 89, 3) := by decide +kernel
theorem dX6_again_15 : decode cX6_again 15 = .ok (.iload_n 1, 1) := by decide +kernel
theorem dX6_again_16 : decode cX6_again 16 = .ok (.ishr, 1) := by decide +kernel
theorem dX6_again_17 : decode cX6_again 17 = .ok (.iconst 1, 1) := by decide +kernel
theorem dX6_again_18 : decode cX6_again 18 = .ok (.iand, 1) := by decide +kernel
theorem dX6_again_19 : decode cX6_again 19 = .ok (.ifCond .ne 6, 3) := by decide +kernel
theorem dX6_again_22 : decode cX6_again 22 = .ok (.bipush (-3), 2) := by decide +kernel
theorem dX6_again_24 : decode cX6_again 24 = .ok (.ireturn, 1) := by decide +kernel
theorem dX6_again_25 : decode cX6_again 25 = .ok (.aload_n 0, 1) := by decide +kernel
theorem dX6_again_26 : decode cX6_again 26 = .ok (.getfield 40, 3) := by decide +kernel
theorem dX6_again_29 : decode cX6_again 29 = .ok (.aload_n 0, 1) := by decide +kernel
theorem dX6_again_30 : decode cX6_again 30 = .ok (.getfield 58, 3) := by decide +kernel
theorem dX6_again_33 : decode cX6_again 33 = .ok (.iload_n 1, 1) := by decide +kernel
theorem dX6_again_34 : decode cX6_again 34 = .ok (.aaload, 1) := by decide +kernel
theorem dX6_again_35 : decode cX6_again 35 = .ok (.invokevirtual 151, 3) := by decide +kernel
theorem dX6_again_38 : decode cX6_again 38 = .ok (.aload_n 0, 1) := by decide +kernel
theorem dX6_again_39 : decode cX6_again 39 = .ok (.getfield 47, 3) := by decide +kernel
theorem dX6_again_42 : decode cX6_again 42 = .ok (.invokevirtual 86, 3) := by decide +kernel
theorem dX6_again_45 : decode cX6_again 45 = .ok (.aload_n 0, 1) := by decide +kernel
theorem dX6_again_46 : decode cX6_again 46 = .ok (.getfield 40, 3) := by decide +kernel
theorem dX6_again_49 : decode cX6_again 49 = .ok (.getfield 277, 3) := by decide +kernel
theorem dX6_again_52 : decode cX6_again 52 = .ok (.ireturn, 1) := by decide +kernel
theorem dX6_count_0 : decode cX6_count 0 = .ok (.iload_n 1, 1) := by decide +kernel
theorem dX6_count_1 : decode cX6_count 1 = .ok (.tableswitch 148 0 10 #[59, 64, 72, 80, 88, 96, 104, 112, 120, 132, 140], 59) := by decide +kernel
theorem dX6_count_60 : decode cX6_count 60 = .ok (.aload_n 0, 1) := by decide +kernel
theorem dX6_count_61 : decode cX6_count 61 = .ok (.getfield 78, 3) := by decide +kernel
theorem dX6_count_64 : decode cX6_count 64 = .ok (.ireturn, 1) := by decide +kernel
theorem dX6_count_65 : decode cX6_count 65 = .ok (.aload_n 0, 1) := by decide +kernel
theorem dX6_count_66 : decode cX6_count 66 = .ok (.getfield 23, 3) := by decide +kernel
theorem dX6_count_69 : decode cX6_count 69 = .ok (.getfield 92, 3) := by decide +kernel
theorem dX6_count_72 : decode cX6_count 72 = .ok (.ireturn, 1) := by decide +kernel
theorem dX6_count_73 : decode cX6_count 73 = .ok (.aload_n 0, 1) := by decide +kernel
theorem dX6_count_74 : decode cX6_count 74 = .ok (.getfield 23, 3) := by decide +kernel
theorem dX6_count_77 : decode cX6_count 77 = .ok (.getfield 95, 3) := by decide +kernel
theorem dX6_count_80 : decode cX6_count 80 = .ok (.ireturn, 1) := by decide +kernel
theorem dX6_count_81 : decode cX6_count 81 = .ok (.aload_n 0, 1) := by decide +kernel
theorem dX6_count_82 : decode cX6_count 82 = .ok (.getfield 40, 3) := by decide +kernel
theorem dX6_count_85 : decode cX6_count 85 = .ok (.getfield 277, 3) := by decide +kernel
theorem dX6_count_88 : decode cX6_count 88 = .ok (.ireturn, 1) := by decide +kernel
theorem dX6_count_89 : decode cX6_count 89 = .ok (.aload_n 0, 1) := by decide +kernel
theorem dX6_count_90 : decode cX6_count 90 = .ok (.getfield 40, 3) := by decide +kernel
theorem dX6_count_93 : decode cX6_count 93 = .ok (.getfield 117, 3) := by decide +kernel
theorem dX6_count_96 : decode cX6_count 96 = .ok (.ireturn, 1) := by decide +kernel
theorem dX6_count_97 : decode cX6_count 97 = .ok (.aload_n 0, 1) := by decide +kernel
theorem dX6_count_98 : decode cX6_count 98 = .ok (.getfield 40, 3) := by decide +kernel
theorem dX6_count_101 : decode cX6_count 101 = .ok (.invokevirtual 172, 3) := by decide +kernel
theorem dX6_count_104 : decode cX6_count 104 = .ok (.ireturn, 1) := by decide +kernel
theorem dX6_count_105 : decode cX6_count 105 = .ok (.aload_n 0, 1) := by decide +kernel
theorem dX6_count_106 : decode cX6_count 106 = .ok (.getfield 40, 3) := by decide +kernel
theorem dX6_count_109 : decode cX6_count 109 = .ok (.invokevirtual 280, 3) := by decide +kernel
theorem dX6_count_112 : decode cX6_count 112 = .ok (.ireturn, 1) := by decide +kernel
theorem dX6_count_113 : decode cX6_count 113 = .ok (.aload_n 0, 1) := by decide +kernel
theorem dX6_count_114 : decode cX6_count 114 = .ok (.getfield 40, 3) := by decide +kernel
theorem dX6_count_117 : decode cX6_count 117 = .ok (.invokevirtual 154, 3) := by decide +kernel
theorem dX6_count_120 : decode cX6_count 120 = .ok (.ireturn, 1) := by decide +kernel
theorem dX6_count_121 : decode cX6_count 121 = .ok (.aload_n 0, 1) := by decide +kernel
theorem dX6_count_122 : decode cX6_count 122 = .ok (.getfield 40, 3) := by decide +kernel
theorem dX6_count_125 : decode cX6_count 125 = .ok (.aload_n 0, 1) := by decide +kernel
theorem dX6_count_126 : decode cX6_count 126 = .ok (.getfield 23, 3) := by decide +kernel
theorem dX6_count_129 : decode cX6_count 129 = .ok (.invokevirtual 175, 3) := by decide +kernel
theorem dX6_count_132 : decode cX6_count 132 = .ok (.ireturn, 1) := by decide +kernel
theorem dX6_count_133 : decode cX6_count 133 = .ok (.aload_n 0, 1) := by decide +kernel
theorem dX6_count_134 : decode cX6_count 134 = .ok (.getfield 47, 3) := by decide +kernel
theorem dX6_count_137 : decode cX6_count 137 = .ok (.getfield 141, 3) := by decide +kernel
theorem dX6_count_140 : decode cX6_count 140 = .ok (.ireturn, 1) := by decide +kernel
theorem dX6_count_141 : decode cX6_count 141 = .ok (.aload_n 0, 1) := by decide +kernel
theorem dX6_count_142 : decode cX6_count 142 = .ok (.getfield 54, 3) := by decide +kernel
theorem dX6_count_145 : decode cX6_count 145 = .ok (.getfield 242, 3) := by decide +kernel
theorem dX6_count_148 : decode cX6_count 148 = .ok (.ireturn, 1) := by decide +kernel
theorem dX6_count_149 : decode cX6_count 149 = .ok (.bipush (-2), 2) := by decide +kernel
theorem dX6_count_151 : decode cX6_count 151 = .ok (.ireturn, 1) := by decide +kernel
theorem dX7_init_0 : decode cX7_init 0 = .ok (.aload_n 0, 1) := by decide +kernel
theorem dX7_init_1 : decode cX7_init 1 = .ok (.invokespecial 1, 3) := by decide +kernel
theorem dX7_init_4 : decode cX7_init 4 = .ok (.aload_n 0, 1) := by decide +kernel
theorem dX7_init_5 : decode cX7_init 5 = .ok (.bipush 6, 2) := by decide +kernel
theorem dX7_init_7 : decode cX7_init 7 = .ok (.newarray .int, 2) := by decide +kernel
theorem dX7_init_9 : decode cX7_init 9 = .ok (.putfield 7, 3) := by decide +kernel
theorem dX7_init_12 : decode cX7_init 12 = .ok (.aload_n 0, 1) := by decide +kernel
theorem dX7_init_13 : decode cX7_init 13 = .ok (.bipush 6, 2) := by decide +kernel
theorem dX7_init_15 : decode cX7_init 15 = .ok (.newarray .int, 2) := by decide +kernel
theorem dX7_init_17 : decode cX7_init 17 = .ok (.putfield 13, 3) := by decide +kernel
theorem dX7_init_20 : decode cX7_init 20 = .ok (.aload_n 0, 1) := by decide +kernel
theorem dX7_init_21 : decode cX7_init 21 = .ok (.bipush 6, 2) := by decide +kernel
theorem dX7_init_23 : decode cX7_init 23 = .ok (.newarray .int, 2) := by decide +kernel
theorem dX7_init_25 : decode cX7_init 25 = .ok (.putfield 16, 3) := by decide +kernel
theorem dX7_init_28 : decode cX7_init 28 = .ok (.aload_n 0, 1) := by decide +kernel
theorem dX7_init_29 : decode cX7_init 29 = .ok (.bipush 6, 2) := by decide +kernel
theorem dX7_init_31 : decode cX7_init 31 = .ok (.newarray .int, 2) := by decide +kernel
theorem dX7_init_33 : decode cX7_init 33 = .ok (.putfield 19, 3) := by decide +kernel
theorem dX7_init_36 : decode cX7_init 36 = .ok (.aload_n 0, 1) := by decide +kernel
theorem dX7_init_37 : decode cX7_init 37 = .ok (.bipush 6, 2) := by decide +kernel
theorem dX7_init_39 : decode cX7_init 39 = .ok (.newarray .int, 2) := by decide +kernel
theorem dX7_init_41 : decode cX7_init 41 = .ok (.putfield 22, 3) := by decide +kernel
theorem dX7_init_44 : decode cX7_init 44 = .ok (.aload_n 0, 1) := by decide +kernel
theorem dX7_init_45 : decode cX7_init 45 = .ok (.bipush 6, 2) := by decide +kernel
theorem dX7_init_47 : decode cX7_init 47 = .ok (.newarray .int, 2) := by decide +kernel
theorem dX7_init_49 : decode cX7_init 49 = .ok (.putfield 25, 3) := by decide +kernel
theorem dX7_init_52 : decode cX7_init 52 = .ok (.aload_n 0, 1) := by decide +kernel
theorem dX7_init_53 : decode cX7_init 53 = .ok (.bipush 6, 2) := by decide +kernel
theorem dX7_init_55 : decode cX7_init 55 = .ok (.newarray .int, 2) := by decide +kernel
theorem dX7_init_57 : decode cX7_init 57 = .ok (.putfield 28, 3) := by decide +kernel
theorem dX7_init_60 : decode cX7_init 60 = .ok (.aload_n 0, 1) := by decide +kernel
theorem dX7_init_61 : decode cX7_init 61 = .ok (.bipush 6, 2) := by decide +kernel
theorem dX7_init_63 : decode cX7_init 63 = .ok (.newarray .int, 2) := by decide +kernel
theorem dX7_init_65 : decode cX7_init 65 = .ok (.putfield 31, 3) := by decide +kernel
theorem dX7_init_68 : decode cX7_init 68 = .ok (.aload_n 0, 1) := by decide +kernel
theorem dX7_init_69 : decode cX7_init 69 = .ok (.bipush 6, 2) := by decide +kernel
theorem dX7_init_71 : decode cX7_init 71 = .ok (.newarray .int, 2) := by decide +kernel
theorem dX7_init_73 : decode cX7_init 73 = .ok (.putfield 34, 3) := by decide +kernel
theorem dX7_init_76 : decode cX7_init 76 = .ok (.aload_n 0, 1) := by decide +kernel
theorem dX7_init_77 : decode cX7_init 77 = .ok (.bipush 6, 2) := by decide +kernel
theorem dX7_init_79 : decode cX7_init 79 = .ok (.newarray .int, 2) := by decide +kernel
theorem dX7_init_81 : decode cX7_init 81 = .ok (.putfield 37, 3) := by decide +kernel
theorem dX7_init_84 : decode cX7_init 84 = .ok (.aload_n 0, 1) := by decide +kernel
theorem dX7_init_85 : decode cX7_init 85 = .ok (.sipush 160, 3) := by decide +kernel
theorem dX7_init_88 : decode cX7_init 88 = .ok (.newarray .int, 2) := by decide +kernel
theorem dX7_init_90 : decode cX7_init 90 = .ok (.putfield 40, 3) := by decide +kernel
theorem dX7_init_93 : decode cX7_init 93 = .ok (.aload_n 0, 1) := by decide +kernel
theorem dX7_init_94 : decode cX7_init 94 = .ok (.bipush 48, 2) := by decide +kernel
theorem dX7_init_96 : decode cX7_init 96 = .ok (.newarray .int, 2) := by decide +kernel
theorem dX7_init_98 : decode cX7_init 98 = .ok (.putfield 43, 3) := by decide +kernel
theorem dX7_init_101 : decode cX7_init 101 = .ok (.aload_n 0, 1) := by decide +kernel
theorem dX7_init_102 : decode cX7_init 102 = .ok (.bipush 6, 2) := by decide +kernel
theorem dX7_init_104 : decode cX7_init 104 = .ok (.newarray .int, 2) := by decide +kernel
theorem dX7_init_106 : decode cX7_init 106 = .ok (.putfield 46, 3) := by decide +kernel
theorem dX7_init_109 : decode cX7_init 109 = .ok (.aload_n 0, 1) := by decide +kernel
theorem dX7_init_110 : decode cX7_init 110 = .ok (.sipush 280, 3) := by decide +kernel
theorem dX7_init_113 : decode cX7_init 113 = .ok (.newarray .int, 2) := by decide +kernel
theorem dX7_init_115 : decode cX7_init 115 = .ok (.putfield 49, 3) := by decide +kernel
theorem dX7_init_118 : decode cX7_init 118 = .ok (.aload_n 0, 1) := by decide +kernel
theorem dX7_init_119 : decode cX7_init 119 = .ok (.bipush 6, 2) := by decide +kernel
theorem dX7_init_121 : decode cX7_init 121 = .ok (.newarray .int, 2) := by decide +kernel
theorem dX7_init_123 : decode cX7_init 123 = .ok (.putfield 52, 3) := by decide +kernel
theorem dX7_init_126 : decode cX7_init 126 = .ok (.aload_n 0, 1) := by decide +kernel
theorem dX7_init_127 : decode cX7_init 127 = .ok (.bipush 6, 2) := by decide +kernel
theorem dX7_init_129 : decode cX7_init 129 = .ok (.newarray .int, 2) := by decide +kernel
theorem dX7_init_131 : decode cX7_init 131 = .ok (.putfield 55, 3) := by decide +kernel
theorem dX7_init_134 : decode cX7_init 134 = .ok (.aload_n 0, 1) := by decide +kernel
theorem dX7_init_135 : decode cX7_init 135 = .ok (.bipush 6, 2) := by decide +kernel
theorem dX7_init_137 : decode cX7_init 137 = .ok (.newarray .int, 2) := by decide +kernel
theorem dX7_init_139 : decode cX7_init 139 = .ok (.putfield 58, 3) := by decide +kernel
theorem dX7_init_142 : decode cX7_init 142 = .ok (.aload_n 0, 1) := by decide +kernel
theorem dX7_init_143 : decode cX7_init 143 = .ok (.bipush 6, 2) := by decide +kernel
theorem dX7_init_145 : decode cX7_init 145 = .ok (.newarray .int, 2) := by decide +kernel
theorem dX7_init_147 : decode cX7_init 147 = .ok (.putfield 61, 3) := by decide +kernel
theorem dX7_init_150 : decode cX7_init 150 = .ok (.aload_n 0, 1) := by decide +kernel
theorem dX7_init_151 : decode cX7_init 151 = .ok (.bipush 6, 2) := by decide +kernel
theorem dX7_init_153 : decode cX7_init 153 = .ok (.newarray .int, 2) := by decide +kernel
theorem dX7_init_155 : decode cX7_init 155 = .ok (.putfield 64, 3) := by decide +kernel
theorem dX7_init_158 : decode cX7_init 158 = .ok (.aload_n 0, 1) := by decide +kernel
theorem dX7_init_159 : decode cX7_init 159 = .ok (.bipush 6, 2) := by decide +kernel
theorem dX7_init_161 : decode cX7_init 161 = .ok (.newarray .int, 2) := by decide +kernel
theorem dX7_init_163 : decode cX7_init 163 = .ok (.putfield 67, 3) := by decide +kernel
theorem dX7_init_166 : decode cX7_init 166 = .ok (.aload_n 0, 1) := by decide +kernel
theorem dX7_init_167 : decode cX7_init 167 = .ok (.iconst 2, 1) := by decide +kernel
theorem dX7_init_168 : decode cX7_init 168 = .ok (.newarray .boolean, 2) := by decide +kernel
theorem dX7_init_170 : decode cX7_init 170 = .ok (.putfield 70, 3) := by decide +kernel
theorem dX7_init_173 : decode cX7_init 173 = .ok (.aload_n 0, 1) := by decide +kernel
theorem dX7_init_174 : decode cX7_init 174 = .ok (.bipush 40, 2) := by decide +kernel
theorem dX7_init_176 : decode cX7_init 176 = .ok (.newarray .int, 2) := by decide +kernel
theorem dX7_init_178 : decode cX7_init 178 = .ok (.putfield 74, 3) := by decide +kernel
theorem dX7_init_181 : decode cX7_init 181 = .ok (.aload_n 0, 1) := by decide +kernel
theorem dX7_init_182 : decode cX7_init 182 = .ok (.iconst 0, 1) := by decide +kernel
theorem dX7_init_183 : decode cX7_init 183 = .ok (.putfield 77, 3) := by decide +kernel
theorem dX7_init_186 : decode cX7_init 186 = .ok (.return_, 1) := by decide +kernel
theorem dX7_in_0 : decode cX7_in 0 = .ok (.lload_n 0, 1) := by decide +kernel
theorem dX7_in_1 : decode cX7_in 1 = .ok (.lload_n 2, 1) := by decide +kernel
theorem dX7_in_2 : decode cX7_in 2 = .ok (.lcmp, 1) := by decide +kernel
theorem dX7_in_3 : decode cX7_in 3 = .ok (.ifCond .lt 14, 3) := by decide +kernel
theorem dX7_in_6 : decode cX7_in 6 = .ok (.lload_n 0, 1) := by decide +kernel
theorem dX7_in_7 : decode cX7_in 7 = .ok (.lload 4, 2) := by decide +kernel
theorem dX7_in_9 : decode cX7_in 9 = .ok (.lcmp, 1) := by decide +kernel
theorem dX7_in_10 : decode cX7_in 10 = .ok (.ifCond .gt 7, 3) := by decide +kernel
theorem dX7_in_13 : decode cX7_in 13 = .ok (.iconst 1, 1) := by decide +kernel
theorem dX7_in_14 : decode cX7_in 14 = .ok (.goto 4, 3) := by decide +kernel
theorem dX7_in_17 : decode cX7_in 17 = .ok (.iconst 0, 1) := by decide +kernel
theorem dX7_in_18 : decode cX7_in 18 = .ok (.ireturn, 1) := by decide +kernel
theorem dX7_has_0 : decode cX7_has 0 = .ok (.iload_n 0, 1) := by decide +kernel
theorem dX7_has_1 : decode cX7_has 1 = .ok (.iload_n 1, 1) := by decide +kernel
theorem dX7_has_2 : decode cX7_has 2 = .ok (.ishr, 1) := by decide +kernel
theorem dX7_has_3 : decode cX7_has 3 = .ok (.iconst 1, 1) := by decide +kernel
theorem dX7_has_4 : decode cX7_has 4 = .ok (.iand, 1) := by decide +kernel
theorem dX7_has_5 : decode cX7_has 5 = .ok (.iconst 1, 1) := by decide +kernel
theorem dX7_has_6 : decode cX7_has 6 = .ok (.if_icmp .ne 7, 3) := by decide +kernel
theorem dX7_has_9 : decode cX7_has 9 = .ok (.iconst 1, 1) := by decide +kernel
theorem dX7_has_10 : decode cX7_has 10 = .ok (.goto 4, 3) := by decide +kernel
theorem dX7_has_13 : decode cX7_has 13 = .ok (.iconst 0, 1) := by decide +kernel
theorem dX7_has_14 : decode cX7_has 14 = .ok (.ireturn, 1) := by decide +kernel
theorem dX7_ones_0 : decode cX7_ones 0 = .ok (.iconst 0, 1) := by decide +kernel
theorem dX7_ones_1 : decode cX7_ones 1 = .ok (.istore_n 1, 1) := by decide +kernel
theorem dX7_ones_2 : decode cX7_ones 2 = .ok (.iconst 0, 1) := by decide +kernel
theorem dX7_ones_3 : decode cX7_ones 3 = .ok (.istore_n 2, 1) := by decide +kernel
theorem dX7_ones_4 : decode cX7_ones 4 = .ok (.iload_n 2, 1) := by decide +kernel
theorem dX7_ones_5 : decode cX7_ones 5 = .ok (.bipush 8, 2) := by decide +kernel
theorem dX7_ones_7 : decode cX7_ones 7 = .ok (.if_icmp .ge 17, 3) := by decide +kernel
theorem dX7_ones_10 : decode cX7_ones 10 = .ok (.iload_n 1, 1) := by decide +kernel
theorem dX7_ones_11 : decode cX7_ones 11 = .ok (.iload_n 0, 1) := by decide +kernel
theorem dX7_ones_12 : decode cX7_ones 12 = .ok (.iload_n 2, 1) := by decide +kernel
theorem dX7_ones_13 : decode cX7_ones 13 = .ok (.ishr, 1) := by decide +kernel
theorem dX7_ones_14 : decode cX7_ones 14 = .ok (.iconst 1, 1) := by decide +kernel
theorem dX7_ones_15 : decode cX7_ones 15 = .ok (.iand, 1) := by decide +kernel
theorem dX7_ones_16 : decode cX7_ones 16 = .ok (.iadd, 1) := by decide +kernel
theorem dX7_ones_17 : decode cX7_ones 17 = .ok (.istore_n 1, 1) := by decide +kernel
theorem dX7_ones_18 : decode cX7_ones 18 = .ok (.iinc 2 1, 3) := by decide +kernel
theorem dX7_ones_21 : decode cX7_ones 21 = .ok (.goto (-17), 3) := by decide +kernel
theorem dX7_ones_24 : decode cX7_ones 24 = .ok (.iload_n 1, 1) := by decide +kernel
theorem dX7_ones_25 : decode cX7_ones 25 = .ok (.ireturn, 1) := by decide +kernel
theorem dX7_write_0 : decode cX7_write 0 = .ok (.iload_n 1, 1) := by decide +kernel
theorem dX7_write_1 : decode cX7_write 1 = .ok (.i2l, 1) := by decide +kernel
theorem dX7_write_2 : decode cX7_write 2 = .ok (.lconst 0, 1) := by decide +kernel
theorem dX7_write_3 : decode cX7_write 3 = .ok (.ldc2_w 81, 3) := by decide +kernel
theorem dX7_write_6 : decode cX7_write 6 = .ok (.invokestatic 83, 3) := by decide +kernel
theorem dX7_write_9 : decode cX7_write 9 = .ok (.ifCond .ne 6, 3) := by decide +kernel
theorem dX7_write_12 : decode cX7_write 12 = .ok (.bipush (-2), 2) := by decide +kernel
theorem dX7_write_14 : decode cX7_write 14 = .ok (.ireturn, 1) := by decide +kernel
theorem dX7_write_15 : decode cX7_write 15 = .ok (.aload_n 0, 1) := by decide +kernel
theorem dX7_write_16 : decode cX7_write 16 = .ok (.getfield 87, 3) := by decide +kernel
theorem dX7_write_19 : decode cX7_write 19 = .ok (.bipush 48, 2) := by decide +kernel
theorem dX7_write_21 : decode cX7_write 21 = .ok (.if_icmp .ne 6, 3) := by decide +kernel
theorem dX7_write_24 : decode cX7_write 24 = .ok (.bipush (-4), 2) := by decide +kernel
theorem dX7_write_26 : decode cX7_write 26 = .ok (.ireturn, 1) := by decide +kernel
theorem dX7_write_27 : decode cX7_write 27 = .ok (.aload_n 0, 1) := by decide +kernel
theorem dX7_write_28 : decode cX7_write 28 = .ok (.getfield 43, 3) := by decide +kernel
theorem dX7_write_31 : decode cX7_write 31 = .ok (.aload_n 0, 1) := by decide +kernel
theorem dX7_write_32 : decode cX7_write 32 = .ok (.getfield 87, 3) := by decide +kernel
theorem dX7_write_35 : decode cX7_write 35 = .ok (.iload_n 1, 1) := by decide +kernel
theorem dX7_write_36 : decode cX7_write 36 = .ok (.iastore, 1) := by decide +kernel
theorem dX7_write_37 : decode cX7_write 37 = .ok (.aload_n 0, 1) := by decide +kernel
theorem dX7_write_38 : decode cX7_write 38 = .ok (.dup, 1) := by decide +kernel
theorem dX7_write_39 : decode cX7_write 39 = .ok (.getfield 87, 3) := by decide +kernel
theorem dX7_write_42 : decode cX7_write 42 = .ok (.iconst 1, 1) := by decide +kernel
theorem dX7_write_43 : decode cX7_write 43 = .ok (.iadd, 1) := by decide +kernel
theorem dX7_write_44 : decode cX7_write 44 = .ok (.putfield 87, 3) := by decide +kernel
theorem dX7_write_47 : decode cX7_write 47 = .ok (.aload_n 0, 1) := by decide +kernel
theorem dX7_write_48 : decode cX7_write 48 = .ok (.getfield 87, 3) := by decide +kernel
theorem dX7_write_51 : decode cX7_write 51 = .ok (.ireturn, 1) := by decide +kernel
theorem dX7_wipe_0 : decode cX7_wipe 0 = .ok (.aload_n 0, 1) := by decide +kernel
theorem dX7_wipe_1 : decode cX7_wipe 1 = .ok (.getfield 87, 3) := by decide +kernel
theorem dX7_wipe_4 : decode cX7_wipe 4 = .ok (.istore_n 1, 1) := by decide +kernel
theorem dX7_wipe_5 : decode cX7_wipe 5 = .ok (.aload_n 0, 1) := by decide +kernel
theorem dX7_wipe_6 : decode cX7_wipe 6 = .ok (.iconst 0, 1) := by decide +kernel
theorem dX7_wipe_7 : decode cX7_wipe 7 = .ok (.putfield 87, 3) := by decide +kernel
theorem dX7_wipe_10 : decode cX7_wipe 10 = .ok (.iload_n 1, 1) := by decide +kernel
theorem dX7_wipe_11 : decode cX7_wipe 11 = .ok (.ireturn, 1) := by decide +kernel
theorem dX7_figure_0 : decode cX7_figure 0 = .ok (.aload_n 0, 1) := by decide +kernel
theorem dX7_figure_1 : decode cX7_figure 1 = .ok (.getfield 90, 3) := by decide +kernel
theorem dX7_figure_4 : decode cX7_figure 4 = .ok (.bipush (-9), 2) := by decide +kernel
theorem dX7_figure_6 : decode cX7_figure 6 = .ok (.if_icmp .ne 29, 3) := by decide +kernel
theorem dX7_figure_9 : decode cX7_figure 9 = .ok (.aload_n 0, 1) := by decide +kernel
theorem dX7_figure_10 : decode cX7_figure 10 = .ok (.getfield 93, 3) := by decide +kernel
theorem dX7_figure_13 : decode cX7_figure 13 = .ok (.aload_n 0, 1) := by decide +kernel
theorem dX7_figure_14 : decode cX7_figure 14 = .ok (.getfield 87, 3) := by decide +kernel
theorem dX7_figure_17 : decode cX7_figure 17 = .ok (.if_icmp .ge 18, 3) := by decide +kernel
theorem dX7_figure_20 : decode cX7_figure 20 = .ok (.aload_n 0, 1) := by decide +kernel
theorem dX7_figure_21 : decode cX7_figure 21 = .ok (.getfield 43, 3) := by decide +kernel
theorem dX7_figure_24 : decode cX7_figure 24 = .ok (.aload_n 0, 1) := by decide +kernel
theorem dX7_figure_25 : decode cX7_figure 25 = .ok (.getfield 93, 3) := by decide +kernel
theorem dX7_figure_28 : decode cX7_figure 28 = .ok (.iaload, 1) := by decide +kernel
theorem dX7_figure_29 : decode cX7_figure 29 = .ok (.bipush 48, 2) := by decide +kernel
theorem dX7_figure_31 : decode cX7_figure 31 = .ok (.isub, 1) := by decide +kernel
theorem dX7_figure_32 : decode cX7_figure 32 = .ok (.goto 4, 3) := by decide +kernel
theorem dX7_figure_35 : decode cX7_figure 35 = .ok (.iconst (-1), 1) := by decide +kernel
theorem dX7_figure_36 : decode cX7_figure 36 = .ok (.istore_n 2, 1) := by decide +kernel
theorem dX7_figure_37 : decode cX7_figure 37 = .ok (.iload_n 2, 1) := by decide +kernel
theorem dX7_figure_38 : decode cX7_figure 38 = .ok (.i2l, 1) := by decide +kernel
theorem dX7_figure_39 : decode cX7_figure 39 = .ok (.lconst 0, 1) := by decide +kernel
theorem dX7_figure_40 : decode cX7_figure 40 = .ok (.ldc2_w 96, 3) := by decide +kernel
theorem dX7_figure_43 : decode cX7_figure 43 = .ok (.invokestatic 83, 3) := by decide +kernel
theorem dX7_figure_46 : decode cX7_figure 46 = .ok (.ifCond .eq 11, 3) := by decide +kernel
theorem dX7_figure_49 : decode cX7_figure 49 = .ok (.iload_n 1, 1) := by decide +kernel
theorem dX7_figure_50 : decode cX7_figure 50 = .ok (.iload_n 2, 1) := by decide +kernel
theorem dX7_figure_51 : decode cX7_figure 51 = .ok (.ishr, 1) := by decide +kernel
theorem dX7_figure_52 : decode cX7_figure 52 = .ok (.iconst 1, 1) := by decide +kernel
theorem dX7_figure_53 : decode cX7_figure 53 = .ok (.iand, 1) := by decide +kernel
theorem dX7_figure_54 : decode cX7_figure 54 = .ok (.ifCond .ne 29, 3) := by decide +kernel
theorem dX7_figure_57 : decode cX7_figure 57 = .ok (.aload_n 0, 1) := by decide +kernel
theorem dX7_figure_58 : decode cX7_figure 58 = .ok (.aload_n 0, 1) := by decide +kernel
theorem dX7_figure_59 : decode cX7_figure 59 = .ok (.getfield 90, 3) := by decide +kernel
theorem dX7_figure_62 : decode cX7_figure 62 = .ok (.bipush (-9), 2) := by decide +kernel
theorem dX7_figure_64 : decode cX7_figure 64 = .ok (.if_icmp .ne 10, 3) := by decide +kernel
theorem dX7_figure_67 : decode cX7_figure 67 = .ok (.aload_n 0, 1) := by decide +kernel
theorem dX7_figure_68 : decode cX7_figure 68 = .ok (.getfield 93, 3) := by decide +kernel
theorem dX7_figure_71 : decode cX7_figure 71 = .ok (.goto 7, 3) := by decide +kernel
theorem dX7_figure_74 : decode cX7_figure 74 = .ok (.aload_n 0, 1) := by decide +kernel
theorem dX7_figure_75 : decode cX7_figure 75 = .ok (.getfield 90, 3) := by decide +kernel
theorem dX7_figure_78 : decode cX7_figure 78 = .ok (.putfield 90, 3) := by decide +kernel
theorem dX7_figure_81 : decode cX7_figure 81 = .ok (.iconst 0, 1) := by decide +kernel
theorem dX7_figure_82 : decode cX7_figure 82 = .ok (.ireturn, 1) := by decide +kernel
theorem dX7_figure_83 : decode cX7_figure 83 = .ok (.aload_n 0, 1) := by decide +kernel
theorem dX7_figure_84 : decode cX7_figure 84 = .ok (.dup, 1) := by decide +kernel
theorem dX7_figure_85 : decode cX7_figure 85 = .ok (.getfield 93, 3) := by decide +kernel
theorem dX7_figure_88 : decode cX7_figure 88 = .ok (.iconst 1, 1) := by decide +kernel
theorem dX7_figure_89 : decode cX7_figure 89 = .ok (.iadd, 1) := by decide +kernel
theorem dX7_figure_90 : decode cX7_figure 90 = .ok (.putfield 93, 3) := by decide +kernel
theorem dX7_figure_93 : decode cX7_figure 93 = .ok (.iload_n 2, 1) := by decide +kernel
theorem dX7_figure_94 : decode cX7_figure 94 = .ok (.ireturn, 1) := by decide +kernel
theorem dX7_left_0 : decode cX7_left 0 = .ok (.iconst 1, 1) := by decide +kernel
theorem dX7_left_1 : decode cX7_left 1 = .ok (.aload_n 0, 1) := by decide +kernel
theorem dX7_left_2 : decode cX7_left 2 = .ok (.getfield 98, 3) := by decide +kernel
theorem dX7_left_5 : decode cX7_left 5 = .ok (.ishl, 1) := by decide +kernel
theorem dX7_left_6 : decode cX7_left 6 = .ok (.iconst 1, 1) := by decide +kernel
theorem dX7_left_7 : decode cX7_left 7 = .ok (.isub, 1) := by decide +kernel
theorem dX7_left_8 : decode cX7_left 8 = .ok (.iconst 1, 1) := by decide +kernel
theorem dX7_left_9 : decode cX7_left 9 = .ok (.iload_n 1, 1) := by decide +kernel
theorem dX7_left_10 : decode cX7_left 10 = .ok (.ishl, 1) := by decide +kernel
theorem dX7_left_11 : decode cX7_left 11 = .ok (.iconst (-1), 1) := by decide +kernel
theorem dX7_left_12 : decode cX7_left 12 = .ok (.ixor, 1) := by decide +kernel
theorem dX7_left_13 : decode cX7_left 13 = .ok (.iand, 1) := by decide +kernel
theorem dX7_left_14 : decode cX7_left 14 = .ok (.aload_n 0, 1) := by decide +kernel
theorem dX7_left_15 : decode cX7_left 15 = .ok (.getfield 25, 3) := by decide +kernel
theorem dX7_left_18 : decode cX7_left 18 = .ok (.iload_n 1, 1) := by decide +kernel
theorem dX7_left_19 : decode cX7_left 19 = .ok (.iaload, 1) := by decide +kernel
theorem dX7_left_20 : decode cX7_left 20 = .ok (.iconst (-1), 1) := by decide +kernel
theorem dX7_left_21 : decode cX7_left 21 = .ok (.ixor, 1) := by decide +kernel
theorem dX7_left_22 : decode cX7_left 22 = .ok (.iand, 1) := by decide +kernel
theorem dX7_left_23 : decode cX7_left 23 = .ok (.ireturn, 1) := by decide +kernel
theorem dX7_begins_0 : decode cX7_begins 0 = .ok (.iconst 0, 1) := by decide +kernel
theorem dX7_begins_1 : decode cX7_begins 1 = .ok (.istore_n 1, 1) := by decide +kernel
theorem dX7_begins_2 : decode cX7_begins 2 = .ok (.iconst 0, 1) := by decide +kernel
theorem dX7_begins_3 : decode cX7_begins 3 = .ok (.istore_n 2, 1) := by decide +kernel
theorem dX7_begins_4 : decode cX7_begins 4 = .ok (.iload_n 2, 1) := by decide +kernel
theorem dX7_begins_5 : decode cX7_begins 5 = .ok (.aload_n 0, 1) := by decide +kernel
theorem dX7_begins_6 : decode cX7_begins 6 = .ok (.getfield 98, 3) := by decide +kernel
theorem dX7_begins_9 : decode cX7_begins 9 = .ok (.if_icmp .ge 37, 3) := by decide +kernel
theorem dX7_begins_12 : decode cX7_begins 12 = .ok (.iload_n 1, 1) := by decide +kernel
theorem dX7_begins_13 : decode cX7_begins 13 = .ok (.aload_n 0, 1) := by decide +kernel
theorem dX7_begins_14 : decode cX7_begins 14 = .ok (.getfield 7, 3) := by decide +kernel
theorem dX7_begins_17 : decode cX7_begins 17 = .ok (.iload_n 2, 1) := by decide +kernel
theorem dX7_begins_18 : decode cX7_begins 18 = .ok (.iaload, 1) := by decide +kernel
theorem dX7_begins_19 : decode cX7_begins 19 = .ok (.iconst 2, 1) := by decide +kernel
theorem dX7_begins_20 : decode cX7_begins 20 = .ok (.if_icmp .ge 17, 3) := by decide +kernel
theorem dX7_begins_23 : decode cX7_begins 23 = .ok (.aload_n 0, 1) := by decide +kernel
theorem dX7_begins_24 : decode cX7_begins 24 = .ok (.iload_n 2, 1) := by decide +kernel
theorem dX7_begins_25 : decode cX7_begins 25 = .ok (.invokevirtual 101, 3) := by decide +kernel
theorem dX7_begins_28 : decode cX7_begins 28 = .ok (.ifCond .eq 9, 3) := by decide +kernel
theorem dX7_begins_31 : decode cX7_begins 31 = .ok (.iconst 1, 1) := by decide +kernel
theorem dX7_begins_32 : decode cX7_begins 32 = .ok (.iload_n 2, 1) := by decide +kernel
theorem dX7_begins_33 : decode cX7_begins 33 = .ok (.ishl, 1) := by decide +kernel
theorem dX7_begins_34 : decode cX7_begins 34 = .ok (.goto 4, 3) := by decide +kernel
theorem dX7_begins_37 : decode cX7_begins 37 = .ok (.iconst 0, 1) := by decide +kernel
theorem dX7_begins_38 : decode cX7_begins 38 = .ok (.ior, 1) := by decide +kernel
theorem dX7_begins_39 : decode cX7_begins 39 = .ok (.istore_n 1, 1) := by decide +kernel
theorem dX7_begins_40 : decode cX7_begins 40 = .ok (.iinc 2 1, 3) := by decide +kernel
theorem dX7_begins_43 : decode cX7_begins 43 = .ok (.goto (-39), 3) := by decide +kernel
theorem dX7_begins_46 : decode cX7_begins 46 = .ok (.iload_n 1, 1) := by decide +kernel
theorem dX7_begins_47 : decode cX7_begins 47 = .ok (.ireturn, 1) := by decide +kernel
theorem dX7_readText_0 : decode cX7_readText 0 = .ok (.aload_n 0, 1) := by decide +kernel
theorem dX7_readText_1 : decode cX7_readText 1 = .ok (.iconst 0, 1) := by decide +kernel
theorem dX7_readText_2 : decode cX7_readText 2 = .ok (.putfield 93, 3) := by decide +kernel
theorem dX7_readText_5 : decode cX7_readText 5 = .ok (.aload_n 0, 1) := by decide +kernel
theorem dX7_readText_6 : decode cX7_readText 6 = .ok (.bipush (-9), 2) := by decide +kernel
theorem dX7_readText_8 : decode cX7_readText 8 = .ok (.putfield 90, 3) := by decide +kernel
theorem dX7_readText_11 : decode cX7_readText 11 = .ok (.aload_n 0, 1) := by decide +kernel
theorem dX7_readText_12 : decode cX7_readText 12 = .ok (.iconst 0, 1) := by decide +kernel
theorem dX7_readText_13 : decode cX7_readText 13 = .ok (.putfield 98, 3) := by decide +kernel
theorem dX7_readText_16 : decode cX7_readText 16 = .ok (.aload_n 0, 1) := by decide +kernel
theorem dX7_readText_17 : decode cX7_readText 17 = .ok (.iconst 0, 1) := by decide +kernel
theorem dX7_readText_18 : decode cX7_readText 18 = .ok (.putfield 105, 3) := by decide +kernel
theorem dX7_readText_21 : decode cX7_readText 21 = .ok (.aload_n 0, 1) := by decide +kernel
theorem dX7_readText_22 : decode cX7_readText 22 = .ok (.iconst 0, 1) := by decide +kernel
theorem dX7_readText_23 : decode cX7_readText 23 = .ok (.putfield 108, 3) := by decide +kernel
theorem dX7_readText_26 : decode cX7_readText 26 = .ok (.aload_n 0, 1) := by decide +kernel
theorem dX7_readText_27 : decode cX7_readText 27 = .ok (.getfield 87, 3) := by decide +kernel
theorem dX7_readText_30 : decode cX7_readText 30 = .ok (.ifCond .eq 14, 3) := by decide +kernel
theorem dX7_readText_33 : decode cX7_readText 33 = .ok (.aload_n 0, 1) := by decide +kernel
theorem dX7_readText_34 : decode cX7_readText 34 = .ok (.getfield 43, 3) := by decide +kernel
theorem dX7_readText_37 : decode cX7_readText 37 = .ok (.iconst 0, 1) := by decide +kernel
theorem dX7_readText_38 : decode cX7_readText 38 = .ok (.iaload, 1) := by decide +kernel
theorem dX7_readText_39 : decode cX7_readText 39 = .ok (.bipush 82, 2) := by decide +kernel
theorem dX7_readText_41 : decode cX7_readText 41 = .ok (.if_icmp .eq 5, 3) := by decide +kernel
theorem dX7_readText_44 : decode cX7_readText 44 = .ok (.iconst 0, 1) := by decide +kernel
theorem dX7_readText_45 : decode cX7_readText 45 = .ok (.ireturn, 1) := by decide +kernel
theorem dX7_readText_46 : decode cX7_readText 46 = .ok (.aload_n 0, 1) := by decide +kernel
theorem dX7_readText_47 : decode cX7_readText 47 = .ok (.iconst 1, 1) := by decide +kernel
theorem dX7_readText_48 : decode cX7_readText 48 = .ok (.putfield 93, 3) := by decide +kernel
theorem dX7_readText_51 : decode cX7_readText 51 = .ok (.aload_n 0, 1) := by decide +kernel
theorem dX7_readText_52 : decode cX7_readText 52 = .ok (.getfield 90, 3) := by decide +kernel
theorem dX7_readText_55 : decode cX7_readText 55 = .ok (.bipush (-9), 2) := by decide +kernel
theorem dX7_readText_57 : decode cX7_readText 57 = .ok (.if_icmp .ne 30, 3) := by decide +kernel
theorem dX7_readText_60 : decode cX7_readText 60 = .ok (.aload_n 0, 1) := by decide +kernel
theorem dX7_readText_61 : decode cX7_readText 61 = .ok (.getfield 93, 3) := by decide +kernel
theorem dX7_readText_64 : decode cX7_readText 64 = .ok (.aload_n 0, 1) := by decide +kernel
theorem dX7_readText_65 : decode cX7_readText 65 = .ok (.getfield 87, 3) := by decide +kernel
theorem dX7_readText_68 : decode cX7_readText 68 = .ok (.if_icmp .ge 19, 3) := by decide +kernel
theorem dX7_readText_71 : decode cX7_readText 71 = .ok (.aload_n 0, 1) := by decide +kernel
theorem dX7_readText_72 : decode cX7_readText 72 = .ok (.aload_n 0, 1) := by decide +kernel
theorem dX7_readText_73 : decode cX7_readText 73 = .ok (.getfield 43, 3) := by decide +kernel
theorem dX7_readText_76 : decode cX7_readText 76 = .ok (.aload_n 0, 1) := by decide +kernel
theorem dX7_readText_77 : decode cX7_readText 77 = .ok (.getfield 93, 3) := by decide +kernel
theorem dX7_readText_80 : decode cX7_readText 80 = .ok (.iaload, 1) := by decide +kernel
theorem dX7_readText_81 : decode cX7_readText 81 = .ok (.invokevirtual 111, 3) := by decide +kernel
theorem dX7_readText_84 : decode cX7_readText 84 = .ok (.goto (-33), 3) := by decide +kernel
theorem dX7_readText_87 : decode cX7_readText 87 = .ok (.aload_n 0, 1) := by decide +kernel
theorem dX7_readText_88 : decode cX7_readText 88 = .ok (.getfield 90, 3) := by decide +kernel
theorem dX7_readText_91 : decode cX7_readText 91 = .ok (.ireturn, 1) := by decide +kernel
theorem dX7_readPart_0 : decode cX7_readPart 0 = .ok (.iload_n 1, 1) := by decide +kernel
theorem dX7_readPart_1 : decode cX7_readPart 1 = .ok (.bipush 68, 2) := by decide +kernel
theorem dX7_readPart_3 : decode cX7_readPart 3 = .ok (.if_icmp .ne 7, 3) := by decide +kernel
theorem dX7_readPart_6 : decode cX7_readPart 6 = .ok (.iconst 0, 1) := by decide +kernel
theorem dX7_readPart_7 : decode cX7_readPart 7 = .ok (.goto 35, 3) := by decide +kernel
theorem dX7_readPart_10 : decode cX7_readPart 10 = .ok (.iload_n 1, 1) := by decide +kernel
theorem dX7_readPart_11 : decode cX7_readPart 11 = .ok (.bipush 83, 2) := by decide +kernel
theorem dX7_readPart_13 : decode cX7_readPart 13 = .ok (.if_icmp .ne 7, 3) := by decide +kernel
theorem dX7_readPart_16 : decode cX7_readPart 16 = .ok (.iconst 1, 1) := by decide +kernel
theorem dX7_readPart_17 : decode cX7_readPart 17 = .ok (.goto 25, 3) := by decide +kernel
theorem dX7_readPart_20 : decode cX7_readPart 20 = .ok (.iload_n 1, 1) := by decide +kernel
theorem dX7_readPart_21 : decode cX7_readPart 21 = .ok (.bipush 77, 2) := by decide +kernel
theorem dX7_readPart_23 : decode cX7_readPart 23 = .ok (.if_icmp .ne 7, 3) := by decide +kernel
theorem dX7_readPart_26 : decode cX7_readPart 26 = .ok (.iconst 2, 1) := by decide +kernel
theorem dX7_readPart_27 : decode cX7_readPart 27 = .ok (.goto 15, 3) := by decide +kernel
theorem dX7_readPart_30 : decode cX7_readPart 30 = .ok (.iload_n 1, 1) := by decide +kernel
theorem dX7_readPart_31 : decode cX7_readPart 31 = .ok (.bipush 84, 2) := by decide +kernel
theorem dX7_readPart_33 : decode cX7_readPart 33 = .ok (.if_icmp .ne 7, 3) := by decide +kernel
theorem dX7_readPart_36 : decode cX7_readPart 36 = .ok (.iconst 3, 1) := by decide +kernel
theorem dX7_readPart_37 : decode cX7_readPart 37 = .ok (.goto 5, 3) := by decide +kernel
theorem dX7_readPart_40 : decode cX7_readPart 40 = .ok (.bipush (-9), 2) := by decide +kernel
theorem dX7_readPart_42 : decode cX7_readPart 42 = .ok (.istore_n 2, 1) := by decide +kernel
theorem dX7_readPart_43 : decode cX7_readPart 43 = .ok (.iload_n 2, 1) := by decide +kernel
theorem dX7_readPart_44 : decode cX7_readPart 44 = .ok (.bipush (-9), 2) := by decide +kernel
theorem dX7_readPart_46 : decode cX7_readPart 46 = .ok (.if_icmp .eq 119, 3) := by decide +kernel
theorem dX7_readPart_49 : decode cX7_readPart 49 = .ok (.aload_n 0, 1) := by decide +kernel
theorem dX7_readPart_50 : decode cX7_readPart 50 = .ok (.getfield 98, 3) := by decide +kernel
theorem dX7_readPart_53 : decode cX7_readPart 53 = .ok (.bipush 6, 2) := by decide +kernel
theorem dX7_readPart_55 : decode cX7_readPart 55 = .ok (.if_icmp .ge 110, 3) := by decide +kernel
theorem dX7_readPart_58 : decode cX7_readPart 58 = .ok (.aload_n 0, 1) := by decide +kernel
theorem dX7_readPart_59 : decode cX7_readPart 59 = .ok (.dup, 1) := by decide +kernel
theorem dX7_readPart_60 : decode cX7_readPart 60 = .ok (.getfield 93, 3) := by decide +kernel
theorem dX7_readPart_63 : decode cX7_readPart 63 = .ok (.iconst 1, 1) := by decide +kernel
theorem dX7_readPart_64 : decode cX7_readPart 64 = .ok (.iadd, 1) := by decide +kernel
theorem dX7_readPart_65 : decode cX7_readPart 65 = .ok (.putfield 93, 3) := by decide +kernel
theorem dX7_readPart_68 : decode cX7_readPart 68 = .ok (.aload_n 0, 1) := by decide +kernel
theorem dX7_readPart_69 : decode cX7_readPart 69 = .ok (.getfield 7, 3) := by decide +kernel
theorem dX7_readPart_72 : decode cX7_readPart 72 = .ok (.aload_n 0, 1) := by decide +kernel
theorem dX7_readPart_73 : decode cX7_readPart 73 = .ok (.getfield 98, 3) := by decide +kernel
theorem dX7_readPart_76 : decode cX7_readPart 76 = .ok (.iload_n 2, 1) := by decide +kernel
theorem dX7_readPart_77 : decode cX7_readPart 77 = .ok (.iastore, 1) := by decide +kernel
theorem dX7_readPart_78 : decode cX7_readPart 78 = .ok (.aload_n 0, 1) := by decide +kernel
theorem dX7_readPart_79 : decode cX7_readPart 79 = .ok (.getfield 25, 3) := by decide +kernel
theorem dX7_readPart_82 : decode cX7_readPart 82 = .ok (.aload_n 0, 1) := by decide +kernel
theorem dX7_readPart_83 : decode cX7_readPart 83 = .ok (.getfield 98, 3) := by decide +kernel
theorem dX7_readPart_86 : decode cX7_readPart 86 = .ok (.iconst 0, 1) := by decide +kernel
theorem dX7_readPart_87 : decode cX7_readPart 87 = .ok (.iastore, 1) := by decide +kernel
theorem dX7_readPart_88 : decode cX7_readPart 88 = .ok (.aload_n 0, 1) := by decide +kernel
