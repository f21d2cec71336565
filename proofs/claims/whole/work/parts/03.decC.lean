theorem dX0_init_0 : decode cX0_init 0 = .ok (.aload_n 0, 1) := by decide +kernel
theorem dX0_init_1 : decode cX0_init 1 = .ok (.invokespecial 3, 3) := by decide +kernel
theorem dX0_init_4 : decode cX0_init 4 = .ok (.aload_n 0, 1) := by decide +kernel
theorem dX0_init_5 : decode cX0_init 5 = .ok (.iconst 0, 1) := by decide +kernel
theorem dX0_init_6 : decode cX0_init 6 = .ok (.putfield 9, 3) := by decide +kernel
theorem dX0_init_9 : decode cX0_init 9 = .ok (.aload_n 0, 1) := by decide +kernel
theorem dX0_init_10 : decode cX0_init 10 = .ok (.iconst 0, 1) := by decide +kernel
theorem dX0_init_11 : decode cX0_init 11 = .ok (.putfield 15, 3) := by decide +kernel
theorem dX0_init_14 : decode cX0_init 14 = .ok (.aload_n 0, 1) := by decide +kernel
theorem dX0_init_15 : decode cX0_init 15 = .ok (.bipush 10, 2) := by decide +kernel
theorem dX0_init_17 : decode cX0_init 17 = .ok (.anewarray 18, 3) := by decide +kernel
theorem dX0_init_20 : decode cX0_init 20 = .ok (.putfield 20, 3) := by decide +kernel
theorem dX0_init_23 : decode cX0_init 23 = .ok (.iconst 0, 1) := by decide +kernel
theorem dX0_init_24 : decode cX0_init 24 = .ok (.istore_n 1, 1) := by decide +kernel
theorem dX0_init_25 : decode cX0_init 25 = .ok (.iload_n 1, 1) := by decide +kernel
theorem dX0_init_26 : decode cX0_init 26 = .ok (.bipush 10, 2) := by decide +kernel
theorem dX0_init_28 : decode cX0_init 28 = .ok (.if_icmp .ge 22, 3) := by decide +kernel
theorem dX0_init_31 : decode cX0_init 31 = .ok (.aload_n 0, 1) := by decide +kernel
theorem dX0_init_32 : decode cX0_init 32 = .ok (.getfield 20, 3) := by decide +kernel
theorem dX0_init_35 : decode cX0_init 35 = .ok (.iload_n 1, 1) := by decide +kernel
theorem dX0_init_36 : decode cX0_init 36 = .ok (.new 18, 3) := by decide +kernel
theorem dX0_init_39 : decode cX0_init 39 = .ok (.dup, 1) := by decide +kernel
theorem dX0_init_40 : decode cX0_init 40 = .ok (.invokespecial 24, 3) := by decide +kernel
theorem dX0_init_43 : decode cX0_init 43 = .ok (.aastore, 1) := by decide +kernel
theorem dX0_init_44 : decode cX0_init 44 = .ok (.iinc 1 1, 3) := by decide +kernel
theorem dX0_init_47 : decode cX0_init 47 = .ok (.goto (-22), 3) := by decide +kernel
theorem dX0_init_50 : decode cX0_init 50 = .ok (.return_, 1) := by decide +kernel
theorem dX0_remember_0 : decode cX0_remember 0 = .ok (.aload_n 0, 1) := by decide +kernel
theorem dX0_remember_1 : decode cX0_remember 1 = .ok (.getfield 20, 3) := by decide +kernel
theorem dX0_remember_4 : decode cX0_remember 4 = .ok (.aload_n 0, 1) := by decide +kernel
theorem dX0_remember_5 : decode cX0_remember 5 = .ok (.getfield 15, 3) := by decide +kernel
theorem dX0_remember_8 : decode cX0_remember 8 = .ok (.aaload, 1) := by decide +kernel
theorem dX0_remember_9 : decode cX0_remember 9 = .ok (.aload_n 1, 1) := by decide +kernel
theorem dX0_remember_10 : decode cX0_remember 10 = .ok (.invokevirtual 25, 3) := by decide +kernel
theorem dX0_remember_13 : decode cX0_remember 13 = .ok (.aload_n 0, 1) := by decide +kernel
theorem dX0_remember_14 : decode cX0_remember 14 = .ok (.aload_n 0, 1) := by decide +kernel
theorem dX0_remember_15 : decode cX0_remember 15 = .ok (.getfield 15, 3) := by decide +kernel
theorem dX0_remember_18 : decode cX0_remember 18 = .ok (.bipush 9, 2) := by decide +kernel
theorem dX0_remember_20 : decode cX0_remember 20 = .ok (.if_icmp .ne 7, 3) := by decide +kernel
theorem dX0_remember_23 : decode cX0_remember 23 = .ok (.iconst 0, 1) := by decide +kernel
theorem dX0_remember_24 : decode cX0_remember 24 = .ok (.goto 9, 3) := by decide +kernel
theorem dX0_remember_27 : decode cX0_remember 27 = .ok (.aload_n 0, 1) := by decide +kernel
theorem dX0_remember_28 : decode cX0_remember 28 = .ok (.getfield 15, 3) := by decide +kernel
theorem dX0_remember_31 : decode cX0_remember 31 = .ok (.iconst 1, 1) := by decide +kernel
theorem dX0_remember_32 : decode cX0_remember 32 = .ok (.iadd, 1) := by decide +kernel
theorem dX0_remember_33 : decode cX0_remember 33 = .ok (.putfield 15, 3) := by decide +kernel
theorem dX0_remember_36 : decode cX0_remember 36 = .ok (.aload_n 0, 1) := by decide +kernel
theorem dX0_remember_37 : decode cX0_remember 37 = .ok (.aload_n 0, 1) := by decide +kernel
theorem dX0_remember_38 : decode cX0_remember 38 = .ok (.getfield 9, 3) := by decide +kernel
theorem dX0_remember_41 : decode cX0_remember 41 = .ok (.iconst 1, 1) := by decide +kernel
theorem dX0_remember_42 : decode cX0_remember 42 = .ok (.iadd, 1) := by decide +kernel
theorem dX0_remember_43 : decode cX0_remember 43 = .ok (.bipush 10, 2) := by decide +kernel
theorem dX0_remember_45 : decode cX0_remember 45 = .ok (.invokestatic 29, 3) := by decide +kernel
theorem dX0_remember_48 : decode cX0_remember 48 = .ok (.putfield 9, 3) := by decide +kernel
theorem dX0_remember_51 : decode cX0_remember 51 = .ok (.return_, 1) := by decide +kernel
theorem dX0_takeBack_0 : decode cX0_takeBack 0 = .ok (.aload_n 0, 1) := by decide +kernel
theorem dX0_takeBack_1 : decode cX0_takeBack 1 = .ok (.aload_n 0, 1) := by decide +kernel
theorem dX0_takeBack_2 : decode cX0_takeBack 2 = .ok (.getfield 15, 3) := by decide +kernel
theorem dX0_takeBack_5 : decode cX0_takeBack 5 = .ok (.ifCond .ne 8, 3) := by decide +kernel
theorem dX0_takeBack_8 : decode cX0_takeBack 8 = .ok (.bipush 9, 2) := by decide +kernel
theorem dX0_takeBack_10 : decode cX0_takeBack 10 = .ok (.goto 9, 3) := by decide +kernel
theorem dX0_takeBack_13 : decode cX0_takeBack 13 = .ok (.aload_n 0, 1) := by decide +kernel
theorem dX0_takeBack_14 : decode cX0_takeBack 14 = .ok (.getfield 15, 3) := by decide +kernel
theorem dX0_takeBack_17 : decode cX0_takeBack 17 = .ok (.iconst 1, 1) := by decide +kernel
theorem dX0_takeBack_18 : decode cX0_takeBack 18 = .ok (.isub, 1) := by decide +kernel
theorem dX0_takeBack_19 : decode cX0_takeBack 19 = .ok (.putfield 15, 3) := by decide +kernel
theorem dX0_takeBack_22 : decode cX0_takeBack 22 = .ok (.aload_n 1, 1) := by decide +kernel
theorem dX0_takeBack_23 : decode cX0_takeBack 23 = .ok (.aload_n 0, 1) := by decide +kernel
theorem dX0_takeBack_24 : decode cX0_takeBack 24 = .ok (.getfield 20, 3) := by decide +kernel
theorem dX0_takeBack_27 : decode cX0_takeBack 27 = .ok (.aload_n 0, 1) := by decide +kernel
theorem dX0_takeBack_28 : decode cX0_takeBack 28 = .ok (.getfield 15, 3) := by decide +kernel
theorem dX0_takeBack_31 : decode cX0_takeBack 31 = .ok (.aaload, 1) := by decide +kernel
theorem dX0_takeBack_32 : decode cX0_takeBack 32 = .ok (.invokevirtual 25, 3) := by decide +kernel
theorem dX0_takeBack_35 : decode cX0_takeBack 35 = .ok (.aload_n 0, 1) := by decide +kernel
theorem dX0_takeBack_36 : decode cX0_takeBack 36 = .ok (.dup, 1) := by decide +kernel
theorem dX0_takeBack_37 : decode cX0_takeBack 37 = .ok (.getfield 9, 3) := by decide +kernel
theorem dX0_takeBack_40 : decode cX0_takeBack 40 = .ok (.iconst 1, 1) := by decide +kernel
theorem dX0_takeBack_41 : decode cX0_takeBack 41 = .ok (.isub, 1) := by decide +kernel
theorem dX0_takeBack_42 : decode cX0_takeBack 42 = .ok (.putfield 9, 3) := by decide +kernel
theorem dX0_takeBack_45 : decode cX0_takeBack 45 = .ok (.return_, 1) := by decide +kernel
theorem dX1_init_0 : decode cX1_init 0 = .ok (.aload_n 0, 1) := by decide +kernel
theorem dX1_init_1 : decode cX1_init 1 = .ok (.invokespecial 3, 3) := by decide +kernel
theorem dX1_init_4 : decode cX1_init 4 = .ok (.aload_n 0, 1) := by decide +kernel
theorem dX1_init_5 : decode cX1_init 5 = .ok (.bipush 6, 2) := by decide +kernel
theorem dX1_init_7 : decode cX1_init 7 = .ok (.newarray .int, 2) := by decide +kernel
theorem dX1_init_9 : decode cX1_init 9 = .ok (.putfield 9, 3) := by decide +kernel
theorem dX1_init_12 : decode cX1_init 12 = .ok (.aload_n 0, 1) := by decide +kernel
theorem dX1_init_13 : decode cX1_init 13 = .ok (.bipush 6, 2) := by decide +kernel
theorem dX1_init_15 : decode cX1_init 15 = .ok (.newarray .int, 2) := by decide +kernel
theorem dX1_init_17 : decode cX1_init 17 = .ok (.putfield 15, 3) := by decide +kernel
theorem dX1_init_20 : decode cX1_init 20 = .ok (.aload_n 0, 1) := by decide +kernel
theorem dX1_init_21 : decode cX1_init 21 = .ok (.bipush 6, 2) := by decide +kernel
theorem dX1_init_23 : decode cX1_init 23 = .ok (.newarray .int, 2) := by decide +kernel
theorem dX1_init_25 : decode cX1_init 25 = .ok (.putfield 18, 3) := by decide +kernel
theorem dX1_init_28 : decode cX1_init 28 = .ok (.aload_n 0, 1) := by decide +kernel
theorem dX1_init_29 : decode cX1_init 29 = .ok (.iconst 4, 1) := by decide +kernel
theorem dX1_init_30 : decode cX1_init 30 = .ok (.newarray .int, 2) := by decide +kernel
theorem dX1_init_32 : decode cX1_init 32 = .ok (.putfield 21, 3) := by decide +kernel
theorem dX1_init_35 : decode cX1_init 35 = .ok (.aload_n 0, 1) := by decide +kernel
theorem dX1_init_36 : decode cX1_init 36 = .ok (.iconst 4, 1) := by decide +kernel
theorem dX1_init_37 : decode cX1_init 37 = .ok (.newarray .int, 2) := by decide +kernel
theorem dX1_init_39 : decode cX1_init 39 = .ok (.putfield 24, 3) := by decide +kernel
theorem dX1_init_42 : decode cX1_init 42 = .ok (.aload_n 0, 1) := by decide +kernel
theorem dX1_init_43 : decode cX1_init 43 = .ok (.iconst 4, 1) := by decide +kernel
theorem dX1_init_44 : decode cX1_init 44 = .ok (.newarray .int, 2) := by decide +kernel
theorem dX1_init_46 : decode cX1_init 46 = .ok (.putfield 27, 3) := by decide +kernel
theorem dX1_init_49 : decode cX1_init 49 = .ok (.aload_n 0, 1) := by decide +kernel
theorem dX1_init_50 : decode cX1_init 50 = .ok (.invokevirtual 30, 3) := by decide +kernel
theorem dX1_init_53 : decode cX1_init 53 = .ok (.return_, 1) := by decide +kernel
theorem dX1_forget_0 : decode cX1_forget 0 = .ok (.aload_n 0, 1) := by decide +kernel
theorem dX1_forget_1 : decode cX1_forget 1 = .ok (.bipush 10, 2) := by decide +kernel
theorem dX1_forget_3 : decode cX1_forget 3 = .ok (.putfield 33, 3) := by decide +kernel
theorem dX1_forget_6 : decode cX1_forget 6 = .ok (.aload_n 0, 1) := by decide +kernel
theorem dX1_forget_7 : decode cX1_forget 7 = .ok (.iconst 2, 1) := by decide +kernel
theorem dX1_forget_8 : decode cX1_forget 8 = .ok (.putfield 37, 3) := by decide +kernel
theorem dX1_forget_11 : decode cX1_forget 11 = .ok (.aload_n 0, 1) := by decide +kernel
theorem dX1_forget_12 : decode cX1_forget 12 = .ok (.iconst 1, 1) := by decide +kernel
theorem dX1_forget_13 : decode cX1_forget 13 = .ok (.putfield 40, 3) := by decide +kernel
theorem dX1_forget_16 : decode cX1_forget 16 = .ok (.aload_n 0, 1) := by decide +kernel
theorem dX1_forget_17 : decode cX1_forget 17 = .ok (.iconst 0, 1) := by decide +kernel
theorem dX1_forget_18 : decode cX1_forget 18 = .ok (.putfield 43, 3) := by decide +kernel
theorem dX1_forget_21 : decode cX1_forget 21 = .ok (.aload_n 0, 1) := by decide +kernel
theorem dX1_forget_22 : decode cX1_forget 22 = .ok (.iconst 0, 1) := by decide +kernel
theorem dX1_forget_23 : decode cX1_forget 23 = .ok (.putfield 46, 3) := by decide +kernel
theorem dX1_forget_26 : decode cX1_forget 26 = .ok (.return_, 1) := by decide +kernel
theorem dX1_addTraveller_0 : decode cX1_addTraveller 0 = .ok (.aload_n 0, 1) := by decide +kernel
theorem dX1_addTraveller_1 : decode cX1_addTraveller 1 = .ok (.getfield 43, 3) := by decide +kernel
theorem dX1_addTraveller_4 : decode cX1_addTraveller 4 = .ok (.bipush 6, 2) := by decide +kernel
theorem dX1_addTraveller_6 : decode cX1_addTraveller 6 = .ok (.if_icmp .lt 4, 3) := by decide +kernel
theorem dX1_addTraveller_9 : decode cX1_addTraveller 9 = .ok (.return_, 1) := by decide +kernel
theorem dX1_addTraveller_10 : decode cX1_addTraveller 10 = .ok (.aload_n 0, 1) := by decide +kernel
theorem dX1_addTraveller_11 : decode cX1_addTraveller 11 = .ok (.getfield 9, 3) := by decide +kernel
theorem dX1_addTraveller_14 : decode cX1_addTraveller 14 = .ok (.aload_n 0, 1) := by decide +kernel
theorem dX1_addTraveller_15 : decode cX1_addTraveller 15 = .ok (.getfield 43, 3) := by decide +kernel
theorem dX1_addTraveller_18 : decode cX1_addTraveller 18 = .ok (.iload_n 1, 1) := by decide +kernel
theorem dX1_addTraveller_19 : decode cX1_addTraveller 19 = .ok (.iastore, 1) := by decide +kernel
theorem dX1_addTraveller_20 : decode cX1_addTraveller 20 = .ok (.aload_n 0, 1) := by decide +kernel
theorem dX1_addTraveller_21 : decode cX1_addTraveller 21 = .ok (.getfield 15, 3) := by decide +kernel
theorem dX1_addTraveller_24 : decode cX1_addTraveller 24 = .ok (.aload_n 0, 1) := by decide +kernel
theorem dX1_addTraveller_25 : decode cX1_addTraveller 25 = .ok (.getfield 43, 3) := by decide +kernel
theorem dX1_addTraveller_28 : decode cX1_addTraveller 28 = .ok (.iload_n 2, 1) := by decide +kernel
theorem dX1_addTraveller_29 : decode cX1_addTraveller 29 = .ok (.iastore, 1) := by decide +kernel
theorem dX1_addTraveller_30 : decode cX1_addTraveller 30 = .ok (.aload_n 0, 1) := by decide +kernel
theorem dX1_addTraveller_31 : decode cX1_addTraveller 31 = .ok (.getfield 43, 3) := by decide +kernel
theorem dX1_addTraveller_34 : decode cX1_addTraveller 34 = .ok (.istore_n 3, 1) := by decide +kernel
theorem dX1_addTraveller_35 : decode cX1_addTraveller 35 = .ok (.iload_n 3, 1) := by decide +kernel
theorem dX1_addTraveller_36 : decode cX1_addTraveller 36 = .ok (.ifCond .le 40, 3) := by decide +kernel
theorem dX1_addTraveller_39 : decode cX1_addTraveller 39 = .ok (.aload_n 0, 1) := by decide +kernel
theorem dX1_addTraveller_40 : decode cX1_addTraveller 40 = .ok (.getfield 9, 3) := by decide +kernel
theorem dX1_addTraveller_43 : decode cX1_addTraveller 43 = .ok (.aload_n 0, 1) := by decide +kernel
theorem dX1_addTraveller_44 : decode cX1_addTraveller 44 = .ok (.getfield 18, 3) := by decide +kernel
theorem dX1_addTraveller_47 : decode cX1_addTraveller 47 = .ok (.iload_n 3, 1) := by decide +kernel
theorem dX1_addTraveller_48 : decode cX1_addTraveller 48 = .ok (.iconst 1, 1) := by decide +kernel
theorem dX1_addTraveller_49 : decode cX1_addTraveller 49 = .ok (.isub, 1) := by decide +kernel
theorem dX1_addTraveller_50 : decode cX1_addTraveller 50 = .ok (.iaload, 1) := by decide +kernel
theorem dX1_addTraveller_51 : decode cX1_addTraveller 51 = .ok (.iaload, 1) := by decide +kernel
theorem dX1_addTraveller_52 : decode cX1_addTraveller 52 = .ok (.iload_n 1, 1) := by decide +kernel
theorem dX1_addTraveller_53 : decode cX1_addTraveller 53 = .ok (.if_icmp .le 23, 3) := by decide +kernel
theorem dX1_addTraveller_56 : decode cX1_addTraveller 56 = .ok (.aload_n 0, 1) := by decide +kernel
theorem dX1_addTraveller_57 : decode cX1_addTraveller 57 = .ok (.getfield 18, 3) := by decide +kernel
theorem dX1_addTraveller_60 : decode cX1_addTraveller 60 = .ok (.iload_n 3, 1) := by decide +kernel
theorem dX1_addTraveller_61 : decode cX1_addTraveller 61 = .ok (.aload_n 0, 1) := by decide +kernel
theorem dX1_addTraveller_62 : decode cX1_addTraveller 62 = .ok (.getfield 18, 3) := by decide +kernel
theorem dX1_addTraveller_65 : decode cX1_addTraveller 65 = .ok (.iload_n 3, 1) := by decide +kernel
theorem dX1_addTraveller_66 : decode cX1_addTraveller 66 = .ok (.iconst 1, 1) := by decide +kernel
theorem dX1_addTraveller_67 : decode cX1_addTraveller 67 = .ok (.isub, 1) := by decide +kernel
theorem dX1_addTraveller_68 : decode cX1_addTraveller 68 = .ok (.iaload, 1) := by decide +kernel
theorem dX1_addTraveller_69 : decode cX1_addTraveller 69 = .ok (.iastore, 1) := by decide +kernel
theorem dX1_addTraveller_70 : decode cX1_addTraveller 70 = .ok (.iinc 3 (-1), 3) := by decide +kernel
theorem dX1_addTraveller_73 : decode cX1_addTraveller 73 = .ok (.goto (-38), 3) := by decide +kernel
theorem dX1_addTraveller_76 : decode cX1_addTraveller 76 = .ok (.aload_n 0, 1) := by decide +kernel
theorem dX1_addTraveller_77 : decode cX1_addTraveller 77 = .ok (.getfield 18, 3) := by decide +kernel
theorem dX1_addTraveller_80 : decode cX1_addTraveller 80 = .ok (.iload_n 3, 1) := by decide +kernel
theorem dX1_addTraveller_81 : decode cX1_addTraveller 81 = .ok (.aload_n 0, 1) := by decide +kernel
theorem dX1_addTraveller_82 : decode cX1_addTraveller 82 = .ok (.getfield 43, 3) := by decide +kernel
theorem dX1_addTraveller_85 : decode cX1_addTraveller 85 = .ok (.iastore, 1) := by decide +kernel
theorem dX1_addTraveller_86 : decode cX1_addTraveller 86 = .ok (.aload_n 0, 1) := by decide +kernel
theorem dX1_addTraveller_87 : decode cX1_addTraveller 87 = .ok (.dup, 1) := by decide +kernel
theorem dX1_addTraveller_88 : decode cX1_addTraveller 88 = .ok (.getfield 43, 3) := by decide +kernel
theorem dX1_addTraveller_91 : decode cX1_addTraveller 91 = .ok (.iconst 1, 1) := by decide +kernel
theorem dX1_addTraveller_92 : decode cX1_addTraveller 92 = .ok (.iadd, 1) := by decide +kernel
theorem dX1_addTraveller_93 : decode cX1_addTraveller 93 = .ok (.putfield 43, 3) := by decide +kernel
theorem dX1_addTraveller_96 : decode cX1_addTraveller 96 = .ok (.return_, 1) := by decide +kernel
theorem dX1_addClerk_0 : decode cX1_addClerk 0 = .ok (.aload_n 0, 1) := by decide +kernel
theorem dX1_addClerk_1 : decode cX1_addClerk 1 = .ok (.getfield 46, 3) := by decide +kernel
theorem dX1_addClerk_4 : decode cX1_addClerk 4 = .ok (.iconst 4, 1) := by decide +kernel
theorem dX1_addClerk_5 : decode cX1_addClerk 5 = .ok (.if_icmp .lt 4, 3) := by decide +kernel
theorem dX1_addClerk_8 : decode cX1_addClerk 8 = .ok (.return_, 1) := by decide +kernel
theorem dX1_addClerk_9 : decode cX1_addClerk 9 = .ok (.aload_n 0, 1) := by decide +kernel
theorem dX1_addClerk_10 : decode cX1_addClerk 10 = .ok (.getfield 21, 3) := by decide +kernel
theorem dX1_addClerk_13 : decode cX1_addClerk 13 = .ok (.aload_n 0, 1) := by decide +kernel
theorem dX1_addClerk_14 : decode cX1_addClerk 14 = .ok (.getfield 46, 3) := by decide +kernel
theorem dX1_addClerk_17 : decode cX1_addClerk 17 = .ok (.iload_n 1, 1) := by decide +kernel
theorem dX1_addClerk_18 : decode cX1_addClerk 18 = .ok (.iastore, 1) := by decide +kernel
theorem dX1_addClerk_19 : decode cX1_addClerk 19 = .ok (.aload_n 0, 1) := by decide +kernel
theorem dX1_addClerk_20 : decode cX1_addClerk 20 = .ok (.getfield 24, 3) := by decide +kernel
theorem dX1_addClerk_23 : decode cX1_addClerk 23 = .ok (.aload_n 0, 1) := by decide +kernel
theorem dX1_addClerk_24 : decode cX1_addClerk 24 = .ok (.getfield 46, 3) := by decide +kernel
theorem dX1_addClerk_27 : decode cX1_addClerk 27 = .ok (.iload_n 2, 1) := by decide +kernel
theorem dX1_addClerk_28 : decode cX1_addClerk 28 = .ok (.iastore, 1) := by decide +kernel
theorem dX1_addClerk_29 : decode cX1_addClerk 29 = .ok (.aload_n 0, 1) := by decide +kernel
theorem dX1_addClerk_30 : decode cX1_addClerk 30 = .ok (.getfield 27, 3) := by decide +kernel
theorem dX1_addClerk_33 : decode cX1_addClerk 33 = .ok (.aload_n 0, 1) := by decide +kernel
theorem dX1_addClerk_34 : decode cX1_addClerk 34 = .ok (.getfield 46, 3) := by decide +kernel
theorem dX1_addClerk_37 : decode cX1_addClerk 37 = .ok (.iload_n 3, 1) := by decide +kernel
theorem dX1_addClerk_38 : decode cX1_addClerk 38 = .ok (.iastore, 1) := by decide +kernel
theorem dX1_addClerk_39 : decode cX1_addClerk 39 = .ok (.aload_n 0, 1) := by decide +kernel
theorem dX1_addClerk_40 : decode cX1_addClerk 40 = .ok (.dup, 1) := by decide +kernel
theorem dX1_addClerk_41 : decode cX1_addClerk 41 = .ok (.getfield 46, 3) := by decide +kernel
theorem dX1_addClerk_44 : decode cX1_addClerk 44 = .ok (.iconst 1, 1) := by decide +kernel
theorem dX1_addClerk_45 : decode cX1_addClerk 45 = .ok (.iadd, 1) := by decide +kernel
theorem dX1_addClerk_46 : decode cX1_addClerk 46 = .ok (.putfield 46, 3) := by decide +kernel
theorem dX1_addClerk_49 : decode cX1_addClerk 49 = .ok (.return_, 1) := by decide +kernel
theorem dX1_hasTraveller_0 : decode cX1_hasTraveller 0 = .ok (.iload_n 1, 1) := by decide +kernel
theorem dX1_hasTraveller_1 : decode cX1_hasTraveller 1 = .ok (.ifCond .lt 15, 3) := by decide +kernel
theorem dX1_hasTraveller_4 : decode cX1_hasTraveller 4 = .ok (.iload_n 1, 1) := by decide +kernel
theorem dX1_hasTraveller_5 : decode cX1_hasTraveller 5 = .ok (.aload_n 0, 1) := by decide +kernel
theorem dX1_hasTraveller_6 : decode cX1_hasTraveller 6 = .ok (.getfield 43, 3) := by decide +kernel
theorem dX1_hasTraveller_9 : decode cX1_hasTraveller 9 = .ok (.if_icmp .ge 7, 3) := by decide +kernel
theorem dX1_hasTraveller_12 : decode cX1_hasTraveller 12 = .ok (.iconst 1, 1) := by decide +kernel
theorem dX1_hasTraveller_13 : decode cX1_hasTraveller 13 = .ok (.goto 4, 3) := by decide +kernel
theorem dX1_hasTraveller_16 : decode cX1_hasTraveller 16 = .ok (.iconst 0, 1) := by decide +kernel
theorem dX1_hasTraveller_17 : decode cX1_hasTraveller 17 = .ok (.ireturn, 1) := by decide +kernel
theorem dX1_hasClerk_0 : decode cX1_hasClerk 0 = .ok (.iload_n 1, 1) := by decide +kernel
theorem dX1_hasClerk_1 : decode cX1_hasClerk 1 = .ok (.ifCond .lt 15, 3) := by decide +kernel
theorem dX1_hasClerk_4 : decode cX1_hasClerk 4 = .ok (.iload_n 1, 1) := by decide +kernel
theorem dX1_hasClerk_5 : decode cX1_hasClerk 5 = .ok (.aload_n 0, 1) := by decide +kernel
theorem dX1_hasClerk_6 : decode cX1_hasClerk 6 = .ok (.getfield 46, 3) := by decide +kernel
theorem dX1_hasClerk_9 : decode cX1_hasClerk 9 = .ok (.if_icmp .ge 7, 3) := by decide +kernel
theorem dX1_hasClerk_12 : decode cX1_hasClerk 12 = .ok (.iconst 1, 1) := by decide +kernel
theorem dX1_hasClerk_13 : decode cX1_hasClerk 13 = .ok (.goto 4, 3) := by decide +kernel
theorem dX1_hasClerk_16 : decode cX1_hasClerk 16 = .ok (.iconst 0, 1) := by decide +kernel
theorem dX1_hasClerk_17 : decode cX1_hasClerk 17 = .ok (.ireturn, 1) := by decide +kernel
theorem dX1_hasRow_0 : decode cX1_hasRow 0 = .ok (.iload_n 1, 1) := by decide +kernel
theorem dX1_hasRow_1 : decode cX1_hasRow 1 = .ok (.ifCond .lt 15, 3) := by decide +kernel
theorem dX1_hasRow_4 : decode cX1_hasRow 4 = .ok (.iload_n 1, 1) := by decide +kernel
theorem dX1_hasRow_5 : decode cX1_hasRow 5 = .ok (.aload_n 0, 1) := by decide +kernel
theorem dX1_hasRow_6 : decode cX1_hasRow 6 = .ok (.getfield 37, 3) := by decide +kernel
theorem dX1_hasRow_9 : decode cX1_hasRow 9 = .ok (.if_icmp .ge 7, 3) := by decide +kernel
theorem dX1_hasRow_12 : decode cX1_hasRow 12 = .ok (.iconst 1, 1) := by decide +kernel
theorem dX1_hasRow_13 : decode cX1_hasRow 13 = .ok (.goto 4, 3) := by decide +kernel
theorem dX1_hasRow_16 : decode cX1_hasRow 16 = .ok (.iconst 0, 1) := by decide +kernel
theorem dX1_hasRow_17 : decode cX1_hasRow 17 = .ok (.ireturn, 1) := by decide +kernel
theorem dX1_boatSailsOn_0 : decode cX1_boatSailsOn 0 = .ok (.aload_n 0, 1) := by decide +kernel
theorem dX1_boatSailsOn_1 : decode cX1_boatSailsOn 1 = .ok (.getfield 40, 3) := by decide +kernel
theorem dX1_boatSailsOn_4 : decode cX1_boatSailsOn 4 = .ok (.ifCond .le 16, 3) := by decide +kernel
theorem dX1_boatSailsOn_7 : decode cX1_boatSailsOn 7 = .ok (.iload_n 1, 1) := by decide +kernel
theorem dX1_boatSailsOn_8 : decode cX1_boatSailsOn 8 = .ok (.aload_n 0, 1) := by decide +kernel
theorem dX1_boatSailsOn_9 : decode cX1_boatSailsOn 9 = .ok (.getfield 40, 3) := by decide +kernel
theorem dX1_boatSailsOn_12 : decode cX1_boatSailsOn 12 = .ok (.irem, 1) := by decide +kernel
theorem dX1_boatSailsOn_13 : decode cX1_boatSailsOn 13 = .ok (.ifCond .ne 7, 3) := by decide +kernel
theorem dX1_boatSailsOn_16 : decode cX1_boatSailsOn 16 = .ok (.iconst 1, 1) := by decide +kernel
theorem dX1_boatSailsOn_17 : decode cX1_boatSailsOn 17 = .ok (.goto 4, 3) := by decide +kernel
theorem dX1_boatSailsOn_20 : decode cX1_boatSailsOn 20 = .ok (.iconst 0, 1) := by decide +kernel
theorem dX1_boatSailsOn_21 : decode cX1_boatSailsOn 21 = .ok (.ireturn, 1) := by decide +kernel
theorem dX1_boatFrom_0 : decode cX1_boatFrom 0 = .ok (.aload_n 0, 1) := by decide +kernel
theorem dX1_boatFrom_1 : decode cX1_boatFrom 1 = .ok (.getfield 40, 3) := by decide +kernel
theorem dX1_boatFrom_4 : decode cX1_boatFrom 4 = .ok (.ifCond .le 24, 3) := by decide +kernel
theorem dX1_boatFrom_7 : decode cX1_boatFrom 7 = .ok (.iload_n 1, 1) := by decide +kernel
theorem dX1_boatFrom_8 : decode cX1_boatFrom 8 = .ok (.aload_n 0, 1) := by decide +kernel
theorem dX1_boatFrom_9 : decode cX1_boatFrom 9 = .ok (.getfield 40, 3) := by decide +kernel
theorem dX1_boatFrom_12 : decode cX1_boatFrom 12 = .ok (.iadd, 1) := by decide +kernel
theorem dX1_boatFrom_13 : decode cX1_boatFrom 13 = .ok (.iconst 1, 1) := by decide +kernel
theorem dX1_boatFrom_14 : decode cX1_boatFrom 14 = .ok (.isub, 1) := by decide +kernel
theorem dX1_boatFrom_15 : decode cX1_boatFrom 15 = .ok (.aload_n 0, 1) := by decide +kernel
theorem dX1_boatFrom_16 : decode cX1_boatFrom 16 = .ok (.getfield 40, 3) := by decide +kernel
theorem dX1_boatFrom_19 : decode cX1_boatFrom 19 = .ok (.idiv, 1) := by decide +kernel
theorem dX1_boatFrom_20 : decode cX1_boatFrom 20 = .ok (.aload_n 0, 1) := by decide +kernel
theorem dX1_boatFrom_21 : decode cX1_boatFrom 21 = .ok (.getfield 40, 3) := by decide +kernel
theorem dX1_boatFrom_24 : decode cX1_boatFrom 24 = .ok (.imul, 1) := by decide +kernel
theorem dX1_boatFrom_25 : decode cX1_boatFrom 25 = .ok (.goto 4, 3) := by decide +kernel
theorem dX1_boatFrom_28 : decode cX1_boatFrom 28 = .ok (.iload_n 1, 1) := by decide +kernel
theorem dX1_boatFrom_29 : decode cX1_boatFrom 29 = .ok (.ireturn, 1) := by decide +kernel
theorem dX1_copied_0 : decode cX1_copied 0 = .ok (.iload_n 1, 1) := by decide +kernel
theorem dX1_copied_1 : decode cX1_copied 1 = .ok (.bipush 10, 2) := by decide +kernel
theorem dX1_copied_3 : decode cX1_copied 3 = .ok (.if_icmp .ge 16, 3) := by decide +kernel
theorem dX1_copied_6 : decode cX1_copied 6 = .ok (.aload_n 0, 1) := by decide +kernel
theorem dX1_copied_7 : decode cX1_copied 7 = .ok (.getfield 21, 3) := by decide +kernel
theorem dX1_copied_10 : decode cX1_copied 10 = .ok (.iload_n 2, 1) := by decide +kernel
theorem dX1_copied_11 : decode cX1_copied 11 = .ok (.iaload, 1) := by decide +kernel
theorem dX1_copied_12 : decode cX1_copied 12 = .ok (.iload_n 1, 1) := by decide +kernel
theorem dX1_copied_13 : decode cX1_copied 13 = .ok (.ishr, 1) := by decide +kernel
theorem dX1_copied_14 : decode cX1_copied 14 = .ok (.iconst 1, 1) := by decide +kernel
theorem dX1_copied_15 : decode cX1_copied 15 = .ok (.iand, 1) := by decide +kernel
theorem dX1_copied_16 : decode cX1_copied 16 = .ok (.ifCond .eq 6, 3) := by decide +kernel
theorem dX1_copied_19 : decode cX1_copied 19 = .ok (.bipush 10, 2) := by decide +kernel
theorem dX1_copied_21 : decode cX1_copied 21 = .ok (.ireturn, 1) := by decide +kernel
theorem dX1_copied_22 : decode cX1_copied 22 = .ok (.iload_n 1, 1) := by decide +kernel
theorem dX1_copied_23 : decode cX1_copied 23 = .ok (.aload_n 0, 1) := by decide +kernel
theorem dX1_copied_24 : decode cX1_copied 24 = .ok (.getfield 24, 3) := by decide +kernel
theorem dX1_copied_27 : decode cX1_copied 27 = .ok (.iload_n 2, 1) := by decide +kernel
theorem dX1_copied_28 : decode cX1_copied 28 = .ok (.iaload, 1) := by decide +kernel
theorem dX1_copied_29 : decode cX1_copied 29 = .ok (.if_icmp .ne 12, 3) := by decide +kernel
theorem dX1_copied_32 : decode cX1_copied 32 = .ok (.aload_n 0, 1) := by decide +kernel
theorem dX1_copied_33 : decode cX1_copied 33 = .ok (.getfield 27, 3) := by decide +kernel
theorem dX1_copied_36 : decode cX1_copied 36 = .ok (.iload_n 2, 1) := by decide +kernel
theorem dX1_copied_37 : decode cX1_copied 37 = .ok (.iaload, 1) := by decide +kernel
theorem dX1_copied_38 : decode cX1_copied 38 = .ok (.goto 4, 3) := by decide +kernel
theorem dX1_copied_41 : decode cX1_copied 41 = .ok (.iload_n 1, 1) := by decide +kernel
theorem dX1_copied_42 : decode cX1_copied 42 = .ok (.ireturn, 1) := by decide +kernel
theorem dX1_copiedFrom_0 : decode cX1_copiedFrom 0 = .ok (.iconst 0, 1) := by decide +kernel
theorem dX1_copiedFrom_1 : decode cX1_copiedFrom 1 = .ok (.istore_n 3, 1) := by decide +kernel
theorem dX1_copiedFrom_2 : decode cX1_copiedFrom 2 = .ok (.iconst 0, 1) := by decide +kernel
theorem dX1_copiedFrom_3 : decode cX1_copiedFrom 3 = .ok (.istore 4, 2) := by decide +kernel
theorem dX1_copiedFrom_5 : decode cX1_copiedFrom 5 = .ok (.iload 4, 2) := by decide +kernel
theorem dX1_copiedFrom_7 : decode cX1_copiedFrom 7 = .ok (.bipush 10, 2) := by decide +kernel
theorem dX1_copiedFrom_9 : decode cX1_copiedFrom 9 = .ok (.if_icmp .ge 27, 3) := by decide +kernel
theorem dX1_copiedFrom_12 : decode cX1_copiedFrom 12 = .ok (.aload_n 0, 1) := by decide +kernel
theorem dX1_copiedFrom_13 : decode cX1_copiedFrom 13 = .ok (.iload 4, 2) := by decide +kernel
theorem dX1_copiedFrom_15 : decode cX1_copiedFrom 15 = .ok (.iload_n 2, 1) := by decide +kernel
theorem dX1_copiedFrom_16 : decode cX1_copiedFrom 16 = .ok (.invokevirtual 49, 3) := by decide +kernel
theorem dX1_copiedFrom_19 : decode cX1_copiedFrom 19 = .ok (.iload_n 1, 1) := by decide +kernel
theorem dX1_copiedFrom_20 : decode cX1_copiedFrom 20 = .ok (.if_icmp .ne 10, 3) := by decide +kernel
theorem dX1_copiedFrom_23 : decode cX1_copiedFrom 23 = .ok (.iload_n 3, 1) := by decide +kernel
theorem dX1_copiedFrom_24 : decode cX1_copiedFrom 24 = .ok (.iconst 1, 1) := by decide +kernel
theorem dX1_copiedFrom_25 : decode cX1_copiedFrom 25 = .ok (.iload 4, 2) := by decide +kernel
theorem dX1_copiedFrom_27 : decode cX1_copiedFrom 27 = .ok (.ishl, 1) := by decide +kernel
theorem dX1_copiedFrom_28 : decode cX1_copiedFrom 28 = .ok (.ior, 1) := by decide +kernel
theorem dX1_copiedFrom_29 : decode cX1_copiedFrom 29 = .ok (.istore_n 3, 1) := by decide +kernel
theorem dX1_copiedFrom_30 : decode cX1_copiedFrom 30 = .ok (.iinc 4 1, 3) := by decide +kernel
theorem dX1_copiedFrom_33 : decode cX1_copiedFrom 33 = .ok (.goto (-28), 3) := by decide +kernel
theorem dX1_copiedFrom_36 : decode cX1_copiedFrom 36 = .ok (.iload_n 3, 1) := by decide +kernel
theorem dX1_copiedFrom_37 : decode cX1_copiedFrom 37 = .ok (.ireturn, 1) := by decide +kernel
theorem dX1_smoked_0 : decode cX1_smoked 0 = .ok (.iconst 0, 1) := by decide +kernel
theorem dX1_smoked_1 : decode cX1_smoked 1 = .ok (.istore_n 3, 1) := by decide +kernel
theorem dX1_smoked_2 : decode cX1_smoked 2 = .ok (.iconst 1, 1) := by decide +kernel
theorem dX1_smoked_3 : decode cX1_smoked 3 = .ok (.istore 4, 2) := by decide +kernel
theorem dX1_smoked_5 : decode cX1_smoked 5 = .ok (.iload_n 1, 1) := by decide +kernel
theorem dX1_smoked_6 : decode cX1_smoked 6 = .ok (.istore 5, 2) := by decide +kernel
theorem dX1_smoked_8 : decode cX1_smoked 8 = .ok (.iload 5, 2) := by decide +kernel
theorem dX1_smoked_10 : decode cX1_smoked 10 = .ok (.bipush 11, 2) := by decide +kernel
theorem dX1_smoked_12 : decode cX1_smoked 12 = .ok (.if_icmp .lt 36, 3) := by decide +kernel
theorem dX1_smoked_15 : decode cX1_smoked 15 = .ok (.iload_n 3, 1) := by decide +kernel
theorem dX1_smoked_16 : decode cX1_smoked 16 = .ok (.iload 4, 2) := by decide +kernel
theorem dX1_smoked_18 : decode cX1_smoked 18 = .ok (.aload_n 0, 1) := by decide +kernel
theorem dX1_smoked_19 : decode cX1_smoked 19 = .ok (.iload 5, 2) := by decide +kernel
theorem dX1_smoked_21 : decode cX1_smoked 21 = .ok (.bipush 11, 2) := by decide +kernel
theorem dX1_smoked_23 : decode cX1_smoked 23 = .ok (.irem, 1) := by decide +kernel
theorem dX1_smoked_24 : decode cX1_smoked 24 = .ok (.iload_n 2, 1) := by decide +kernel
theorem dX1_smoked_25 : decode cX1_smoked 25 = .ok (.invokevirtual 49, 3) := by decide +kernel
theorem dX1_smoked_28 : decode cX1_smoked 28 = .ok (.imul, 1) := by decide +kernel
theorem dX1_smoked_29 : decode cX1_smoked 29 = .ok (.iadd, 1) := by decide +kernel
theorem dX1_smoked_30 : decode cX1_smoked 30 = .ok (.istore_n 3, 1) := by decide +kernel
theorem dX1_smoked_31 : decode cX1_smoked 31 = .ok (.iload 4, 2) := by decide +kernel
theorem dX1_smoked_33 : decode cX1_smoked 33 = .ok (.bipush 11, 2) := by decide +kernel
theorem dX1_smoked_35 : decode cX1_smoked 35 = .ok (.imul, 1) := by decide +kernel
theorem dX1_smoked_36 : decode cX1_smoked 36 = .ok (.istore 4, 2) := by decide +kernel
theorem dX1_smoked_38 : decode cX1_smoked 38 = .ok (.iload 5, 2) := by decide +kernel
theorem dX1_smoked_40 : decode cX1_smoked 40 = .ok (.bipush 11, 2) := by decide +kernel
theorem dX1_smoked_42 : decode cX1_smoked 42 = .ok (.idiv, 1) := by decide +kernel
theorem dX1_smoked_43 : decode cX1_smoked 43 = .ok (.istore 5, 2) := by decide +kernel
theorem dX1_smoked_45 : decode cX1_smoked 45 = .ok (.goto (-37), 3) := by decide +kernel
theorem dX1_smoked_48 : decode cX1_smoked 48 = .ok (.iload_n 3, 1) := by decide +kernel
theorem dX1_smoked_49 : decode cX1_smoked 49 = .ok (.iload 4, 2) := by decide +kernel
theorem dX1_smoked_51 : decode cX1_smoked 51 = .ok (.iadd, 1) := by decide +kernel
theorem dX1_smoked_52 : decode cX1_smoked 52 = .ok (.ireturn, 1) := by decide +kernel
theorem dX2_init_0 : decode cX2_init 0 = .ok (.aload_n 0, 1) := by decide +kernel
theorem dX2_init_1 : decode cX2_init 1 = .ok (.invokespecial 3, 3) := by decide +kernel
theorem dX2_init_4 : decode cX2_init 4 = .ok (.aload_n 0, 1) := by decide +kernel
theorem dX2_init_5 : decode cX2_init 5 = .ok (.iconst 3, 1) := by decide +kernel
theorem dX2_init_6 : decode cX2_init 6 = .ok (.newarray .int, 2) := by decide +kernel
theorem dX2_init_8 : decode cX2_init 8 = .ok (.putfield 9, 3) := by decide +kernel
theorem dX2_init_11 : decode cX2_init 11 = .ok (.aload_n 0, 1) := by decide +kernel
theorem dX2_init_12 : decode cX2_init 12 = .ok (.iconst 3, 1) := by decide +kernel
theorem dX2_init_13 : decode cX2_init 13 = .ok (.newarray .int, 2) := by decide +kernel
theorem dX2_init_15 : decode cX2_init 15 = .ok (.putfield 15, 3) := by decide +kernel
theorem dX2_init_18 : decode cX2_init 18 = .ok (.aload_n 0, 1) := by decide +kernel
theorem dX2_init_19 : decode cX2_init 19 = .ok (.invokevirtual 18, 3) := by decide +kernel
theorem dX2_init_22 : decode cX2_init 22 = .ok (.return_, 1) := by decide +kernel
theorem dX2_beginAnew_0 : decode cX2_beginAnew 0 = .ok (.aload_n 0, 1) := by decide +kernel
theorem dX2_beginAnew_1 : decode cX2_beginAnew 1 = .ok (.iconst 0, 1) := by decide +kernel
theorem dX2_beginAnew_2 : decode cX2_beginAnew 2 = .ok (.putfield 21, 3) := by decide +kernel
theorem dX2_beginAnew_5 : decode cX2_beginAnew 5 = .ok (.aload_n 0, 1) := by decide +kernel
theorem dX2_beginAnew_6 : decode cX2_beginAnew 6 = .ok (.iconst 0, 1) := by decide +kernel
theorem dX2_beginAnew_7 : decode cX2_beginAnew 7 = .ok (.putfield 25, 3) := by decide +kernel
theorem dX2_beginAnew_10 : decode cX2_beginAnew 10 = .ok (.aload_n 0, 1) := by decide +kernel
theorem dX2_beginAnew_11 : decode cX2_beginAnew 11 = .ok (.iconst 0, 1) := by decide +kernel
theorem dX2_beginAnew_12 : decode cX2_beginAnew 12 = .ok (.putfield 28, 3) := by decide +kernel
theorem dX2_beginAnew_15 : decode cX2_beginAnew 15 = .ok (.aload_n 0, 1) := by decide +kernel
theorem dX2_beginAnew_16 : decode cX2_beginAnew 16 = .ok (.iconst 1, 1) := by decide +kernel
theorem dX2_beginAnew_17 : decode cX2_beginAnew 17 = .ok (.putfield 31, 3) := by decide +kernel
theorem dX2_beginAnew_20 : decode cX2_beginAnew 20 = .ok (.aload_n 0, 1) := by decide +kernel
theorem dX2_beginAnew_21 : decode cX2_beginAnew 21 = .ok (.getfield 9, 3) := by decide +kernel
theorem dX2_beginAnew_24 : decode cX2_beginAnew 24 = .ok (.iconst 0, 1) := by decide +kernel
theorem dX2_beginAnew_25 : decode cX2_beginAnew 25 = .ok (.invokestatic 34, 3) := by decide +kernel
theorem dX2_beginAnew_28 : decode cX2_beginAnew 28 = .ok (.aload_n 0, 1) := by decide +kernel
theorem dX2_beginAnew_29 : decode cX2_beginAnew 29 = .ok (.getfield 15, 3) := by decide +kernel
theorem dX2_beginAnew_32 : decode cX2_beginAnew 32 = .ok (.iconst 0, 1) := by decide +kernel
theorem dX2_beginAnew_33 : decode cX2_beginAnew 33 = .ok (.invokestatic 34, 3) := by decide +kernel
theorem dX2_beginAnew_36 : decode cX2_beginAnew 36 = .ok (.return_, 1) := by decide +kernel
theorem dX2_becomeAs_0 : decode cX2_becomeAs 0 = .ok (.aload_n 0, 1) := by decide +kernel
theorem dX2_becomeAs_1 : decode cX2_becomeAs 1 = .ok (.aload_n 1, 1) := by decide +kernel
theorem dX2_becomeAs_2 : decode cX2_becomeAs 2 = .ok (.getfield 21, 3) := by decide +kernel
theorem dX2_becomeAs_5 : decode cX2_becomeAs 5 = .ok (.putfield 21, 3) := by decide +kernel
theorem dX2_becomeAs_8 : decode cX2_becomeAs 8 = .ok (.aload_n 0, 1) := by decide +kernel
theorem dX2_becomeAs_9 : decode cX2_becomeAs 9 = .ok (.aload_n 1, 1) := by decide +kernel
theorem dX2_becomeAs_10 : decode cX2_becomeAs 10 = .ok (.getfield 25, 3) := by decide +kernel
theorem dX2_becomeAs_13 : decode cX2_becomeAs 13 = .ok (.putfield 25, 3) := by decide +kernel
theorem dX2_becomeAs_16 : decode cX2_becomeAs 16 = .ok (.aload_n 0, 1) := by decide +kernel
theorem dX2_becomeAs_17 : decode cX2_becomeAs 17 = .ok (.aload_n 1, 1) := by decide +kernel
theorem dX2_becomeAs_18 : decode cX2_becomeAs 18 = .ok (.getfield 28, 3) := by decide +kernel
theorem dX2_becomeAs_21 : decode cX2_becomeAs 21 = .ok (.putfield 28, 3) := by decide +kernel
theorem dX2_becomeAs_24 : decode cX2_becomeAs 24 = .ok (.aload_n 0, 1) := by decide +kernel
theorem dX2_becomeAs_25 : decode cX2_becomeAs 25 = .ok (.aload_n 1, 1) := by decide +kernel
theorem dX2_becomeAs_26 : decode cX2_becomeAs 26 = .ok (.getfield 31, 3) := by decide +kernel
theorem dX2_becomeAs_29 : decode cX2_becomeAs 29 = .ok (.putfield 31, 3) := by decide +kernel
theorem dX2_becomeAs_32 : decode cX2_becomeAs 32 = .ok (.iconst 0, 1) := by decide +kernel
theorem dX2_becomeAs_33 : decode cX2_becomeAs 33 = .ok (.istore_n 2, 1) := by decide +kernel
theorem dX2_becomeAs_34 : decode cX2_becomeAs 34 = .ok (.iload_n 2, 1) := by decide +kernel
theorem dX2_becomeAs_35 : decode cX2_becomeAs 35 = .ok (.iconst 3, 1) := by decide +kernel
theorem dX2_becomeAs_36 : decode cX2_becomeAs 36 = .ok (.if_icmp .ge 33, 3) := by decide +kernel
theorem dX2_becomeAs_39 : decode cX2_becomeAs 39 = .ok (.aload_n 0, 1) := by decide +kernel
theorem dX2_becomeAs_40 : decode cX2_becomeAs 40 = .ok (.getfield 9, 3) := by decide +kernel
theorem dX2_becomeAs_43 : decode cX2_becomeAs 43 = .ok (.iload_n 2, 1) := by decide +kernel
theorem dX2_becomeAs_44 : decode cX2_becomeAs 44 = .ok (.aload_n 1, 1) := by decide +kernel
theorem dX2_becomeAs_45 : decode cX2_becomeAs 45 = .ok (.getfield 9, 3) := by decide +kernel
theorem dX2_becomeAs_48 : decode cX2_becomeAs 48 = .ok (.iload_n 2, 1) := by decide +kernel
theorem dX2_becomeAs_49 : decode cX2_becomeAs 49 = .ok (.iaload, 1) := by decide +kernel
theorem dX2_becomeAs_50 : decode cX2_becomeAs 50 = .ok (.iastore, 1) := by decide +kernel
theorem dX2_becomeAs_51 : decode cX2_becomeAs 51 = .ok (.aload_n 0, 1) := by decide +kernel
theorem dX2_becomeAs_52 : decode cX2_becomeAs 52 = .ok (.getfield 15, 3) := by decide +kernel
theorem dX2_becomeAs_55 : decode cX2_becomeAs 55 = .ok (.iload_n 2, 1) := by decide +kernel
theorem dX2_becomeAs_56 : decode cX2_becomeAs 56 = .ok (.aload_n 1, 1) := by decide +kernel
theorem dX2_becomeAs_57 : decode cX2_becomeAs 57 = .ok (.getfield 15, 3) := by decide +kernel
theorem dX2_becomeAs_60 : decode cX2_becomeAs 60 = .ok (.iload_n 2, 1) := by decide +kernel
theorem dX2_becomeAs_61 : decode cX2_becomeAs 61 = .ok (.iaload, 1) := by decide +kernel
theorem dX2_becomeAs_62 : decode cX2_becomeAs 62 = .ok (.iastore, 1) := by decide +kernel
theorem dX2_becomeAs_63 : decode cX2_becomeAs 63 = .ok (.iinc 2 1, 3) := by decide +kernel
theorem dX2_becomeAs_66 : decode cX2_becomeAs 66 = .ok (.goto (-32), 3) := by decide +kernel
theorem dX2_becomeAs_69 : decode cX2_becomeAs 69 = .ok (.return_, 1) := by decide +kernel
theorem dX2_rowOf_0 : decode cX2_rowOf 0 = .ok (.aload_n 0, 1) := by decide +kernel
theorem dX2_rowOf_1 : decode cX2_rowOf 1 = .ok (.getfield 9, 3) := by decide +kernel
theorem dX2_rowOf_4 : decode cX2_rowOf 4 = .ok (.iload_n 1, 1) := by decide +kernel
theorem dX2_rowOf_5 : decode cX2_rowOf 5 = .ok (.invokestatic 40, 3) := by decide +kernel
theorem dX2_rowOf_8 : decode cX2_rowOf 8 = .ok (.ireturn, 1) := by decide +kernel
theorem dX2_daysInRow_0 : decode cX2_daysInRow 0 = .ok (.aload_n 0, 1) := by decide +kernel
theorem dX2_daysInRow_1 : decode cX2_daysInRow 1 = .ok (.iload_n 1, 1) := by decide +kernel
theorem dX2_daysInRow_2 : decode cX2_daysInRow 2 = .ok (.invokevirtual 44, 3) := by decide +kernel
theorem dX2_daysInRow_5 : decode cX2_daysInRow 5 = .ok (.istore_n 2, 1) := by decide +kernel
theorem dX2_daysInRow_6 : decode cX2_daysInRow 6 = .ok (.iload_n 2, 1) := by decide +kernel
theorem dX2_daysInRow_7 : decode cX2_daysInRow 7 = .ok (.ifCond .lt 17, 3) := by decide +kernel
theorem dX2_daysInRow_10 : decode cX2_daysInRow 10 = .ok (.iload_n 2, 1) := by decide +kernel
theorem dX2_daysInRow_11 : decode cX2_daysInRow 11 = .ok (.iconst 3, 1) := by decide +kernel
theorem dX2_daysInRow_12 : decode cX2_daysInRow 12 = .ok (.if_icmp .ge 12, 3) := by decide +kernel
theorem dX2_daysInRow_15 : decode cX2_daysInRow 15 = .ok (.aload_n 0, 1) := by decide +kernel
theorem dX2_daysInRow_16 : decode cX2_daysInRow 16 = .ok (.getfield 15, 3) := by decide +kernel
theorem dX2_daysInRow_19 : decode cX2_daysInRow 19 = .ok (.iload_n 2, 1) := by decide +kernel
theorem dX2_daysInRow_20 : decode cX2_daysInRow 20 = .ok (.iaload, 1) := by decide +kernel
theorem dX2_daysInRow_21 : decode cX2_daysInRow 21 = .ok (.goto 4, 3) := by decide +kernel
theorem dX2_daysInRow_24 : decode cX2_daysInRow 24 = .ok (.iconst 0, 1) := by decide +kernel
theorem dX2_daysInRow_25 : decode cX2_daysInRow 25 = .ok (.ireturn, 1) := by decide +kernel
theorem dX2_isGone_0 : decode cX2_isGone 0 = .ok (.aload_n 0, 1) := by decide +kernel
theorem dX2_isGone_1 : decode cX2_isGone 1 = .ok (.getfield 28, 3) := by decide +kernel
theorem dX2_isGone_4 : decode cX2_isGone 4 = .ok (.iload_n 1, 1) := by decide +kernel
theorem dX2_isGone_5 : decode cX2_isGone 5 = .ok (.ishr, 1) := by decide +kernel
theorem dX2_isGone_6 : decode cX2_isGone 6 = .ok (.iconst 1, 1) := by decide +kernel
theorem dX2_isGone_7 : decode cX2_isGone 7 = .ok (.iand, 1) := by decide +kernel
theorem dX2_isGone_8 : decode cX2_isGone 8 = .ok (.ifCond .eq 7, 3) := by decide +kernel
theorem dX2_isGone_11 : decode cX2_isGone 11 = .ok (.iconst 1, 1) := by decide +kernel
theorem dX2_isGone_12 : decode cX2_isGone 12 = .ok (.goto 4, 3) := by decide +kernel
theorem dX2_isGone_15 : decode cX2_isGone 15 = .ok (.iconst 0, 1) := by decide +kernel
theorem dX2_isGone_16 : decode cX2_isGone 16 = .ok (.ireturn, 1) := by decide +kernel
theorem dX2_mayLeave_0 : decode cX2_mayLeave 0 = .ok (.iconst 0, 1) := by decide +kernel
theorem dX2_mayLeave_1 : decode cX2_mayLeave 1 = .ok (.istore_n 3, 1) := by decide +kernel
theorem dX2_mayLeave_2 : decode cX2_mayLeave 2 = .ok (.iconst 0, 1) := by decide +kernel
theorem dX2_mayLeave_3 : decode cX2_mayLeave 3 = .ok (.istore 4, 2) := by decide +kernel
theorem dX2_mayLeave_5 : decode cX2_mayLeave 5 = .ok (.iload 4, 2) := by decide +kernel
theorem dX2_mayLeave_7 : decode cX2_mayLeave 7 = .ok (.iconst 3, 1) := by decide +kernel
theorem dX2_mayLeave_8 : decode cX2_mayLeave 8 = .ok (.if_icmp .ge 32, 3) := by decide +kernel
theorem dX2_mayLeave_11 : decode cX2_mayLeave 11 = .ok (.aload_n 0, 1) := by decide +kernel
theorem dX2_mayLeave_12 : decode cX2_mayLeave 12 = .ok (.getfield 15, 3) := by decide +kernel
theorem dX2_mayLeave_15 : decode cX2_mayLeave 15 = .ok (.iload 4, 2) := by decide +kernel
theorem dX2_mayLeave_17 : decode cX2_mayLeave 17 = .ok (.iaload, 1) := by decide +kernel
theorem dX2_mayLeave_18 : decode cX2_mayLeave 18 = .ok (.iload_n 2, 1) := by decide +kernel
theorem dX2_mayLeave_19 : decode cX2_mayLeave 19 = .ok (.iadd, 1) := by decide +kernel
theorem dX2_mayLeave_20 : decode cX2_mayLeave 20 = .ok (.iload_n 1, 1) := by decide +kernel
theorem dX2_mayLeave_21 : decode cX2_mayLeave 21 = .ok (.if_icmp .lt 13, 3) := by decide +kernel
theorem dX2_mayLeave_24 : decode cX2_mayLeave 24 = .ok (.iload_n 3, 1) := by decide +kernel
theorem dX2_mayLeave_25 : decode cX2_mayLeave 25 = .ok (.aload_n 0, 1) := by decide +kernel
theorem dX2_mayLeave_26 : decode cX2_mayLeave 26 = .ok (.getfield 9, 3) := by decide +kernel
theorem dX2_mayLeave_29 : decode cX2_mayLeave 29 = .ok (.iload 4, 2) := by decide +kernel
theorem dX2_mayLeave_31 : decode cX2_mayLeave 31 = .ok (.iaload, 1) := by decide +kernel
theorem dX2_mayLeave_32 : decode cX2_mayLeave 32 = .ok (.ior, 1) := by decide +kernel
theorem dX2_mayLeave_33 : decode cX2_mayLeave 33 = .ok (.istore_n 3, 1) := by decide +kernel
theorem dX2_mayLeave_34 : decode cX2_mayLeave 34 = .ok (.iinc 4 1, 3) := by decide +kernel
theorem dX2_mayLeave_37 : decode cX2_mayLeave 37 = .ok (.goto (-32), 3) := by decide +kernel
theorem dX2_mayLeave_40 : decode cX2_mayLeave 40 = .ok (.iload_n 3, 1) := by decide +kernel
theorem dX2_mayLeave_41 : decode cX2_mayLeave 41 = .ok (.ireturn, 1) := by decide +kernel
theorem dX2_passDay_0 : decode cX2_passDay 0 = .ok (.aload_n 0, 1) := by decide +kernel
theorem dX2_passDay_1 : decode cX2_passDay 1 = .ok (.dup, 1) := by decide +kernel
theorem dX2_passDay_2 : decode cX2_passDay 2 = .ok (.getfield 21, 3) := by decide +kernel
theorem dX2_passDay_5 : decode cX2_passDay 5 = .ok (.iconst 1, 1) := by decide +kernel
theorem dX2_passDay_6 : decode cX2_passDay 6 = .ok (.iadd, 1) := by decide +kernel
theorem dX2_passDay_7 : decode cX2_passDay 7 = .ok (.putfield 21, 3) := by decide +kernel
theorem dX2_passDay_10 : decode cX2_passDay 10 = .ok (.iconst 0, 1) := by decide +kernel
theorem dX2_passDay_11 : decode cX2_passDay 11 = .ok (.istore_n 1, 1) := by decide +kernel
theorem dX2_passDay_12 : decode cX2_passDay 12 = .ok (.iload_n 1, 1) := by decide +kernel
theorem dX2_passDay_13 : decode cX2_passDay 13 = .ok (.iconst 3, 1) := by decide +kernel
theorem dX2_passDay_14 : decode cX2_passDay 14 = .ok (.if_icmp .ge 37, 3) := by decide +kernel
theorem dX2_passDay_17 : decode cX2_passDay 17 = .ok (.aload_n 0, 1) := by decide +kernel
theorem dX2_passDay_18 : decode cX2_passDay 18 = .ok (.dup, 1) := by decide +kernel
theorem dX2_passDay_19 : decode cX2_passDay 19 = .ok (.getfield 25, 3) := by decide +kernel
theorem dX2_passDay_22 : decode cX2_passDay 22 = .ok (.aload_n 0, 1) := by decide +kernel
theorem dX2_passDay_23 : decode cX2_passDay 23 = .ok (.getfield 9, 3) := by decide +kernel
theorem dX2_passDay_26 : decode cX2_passDay 26 = .ok (.iload_n 1, 1) := by decide +kernel
theorem dX2_passDay_27 : decode cX2_passDay 27 = .ok (.iaload, 1) := by decide +kernel
theorem dX2_passDay_28 : decode cX2_passDay 28 = .ok (.invokestatic 48, 3) := by decide +kernel
theorem dX2_passDay_31 : decode cX2_passDay 31 = .ok (.iadd, 1) := by decide +kernel
theorem dX2_passDay_32 : decode cX2_passDay 32 = .ok (.putfield 25, 3) := by decide +kernel
theorem dX2_passDay_35 : decode cX2_passDay 35 = .ok (.aload_n 0, 1) := by decide +kernel
theorem dX2_passDay_36 : decode cX2_passDay 36 = .ok (.getfield 15, 3) := by decide +kernel
theorem dX2_passDay_39 : decode cX2_passDay 39 = .ok (.iload_n 1, 1) := by decide +kernel
theorem dX2_passDay_40 : decode cX2_passDay 40 = .ok (.dup2, 1) := by decide +kernel
theorem dX2_passDay_41 : decode cX2_passDay 41 = .ok (.iaload, 1) := by decide +kernel
theorem dX2_passDay_42 : decode cX2_passDay 42 = .ok (.iconst 1, 1) := by decide +kernel
theorem dX2_passDay_43 : decode cX2_passDay 43 = .ok (.iadd, 1) := by decide +kernel
theorem dX2_passDay_44 : decode cX2_passDay 44 = .ok (.iastore, 1) := by decide +kernel
theorem dX2_passDay_45 : decode cX2_passDay 45 = .ok (.iinc 1 1, 3) := by decide +kernel
theorem dX2_passDay_48 : decode cX2_passDay 48 = .ok (.goto (-36), 3) := by decide +kernel
theorem dX2_passDay_51 : decode cX2_passDay 51 = .ok (.return_, 1) := by decide +kernel
theorem dX2_letGo_0 : decode cX2_letGo 0 = .ok (.aload_n 0, 1) := by decide +kernel
theorem dX2_letGo_1 : decode cX2_letGo 1 = .ok (.dup, 1) := by decide +kernel
theorem dX2_letGo_2 : decode cX2_letGo 2 = .ok (.getfield 28, 3) := by decide +kernel
theorem dX2_letGo_5 : decode cX2_letGo 5 = .ok (.iconst 1, 1) := by decide +kernel
theorem dX2_letGo_6 : decode cX2_letGo 6 = .ok (.iload_n 1, 1) := by decide +kernel
theorem dX2_letGo_7 : decode cX2_letGo 7 = .ok (.ishl, 1) := by decide +kernel
theorem dX2_letGo_8 : decode cX2_letGo 8 = .ok (.ior, 1) := by decide +kernel
theorem dX2_letGo_9 : decode cX2_letGo 9 = .ok (.putfield 28, 3) := by decide +kernel
theorem dX2_letGo_12 : decode cX2_letGo 12 = .ok (.iconst 0, 1) := by decide +kernel
theorem dX2_letGo_13 : decode cX2_letGo 13 = .ok (.istore_n 2, 1) := by decide +kernel
theorem dX2_letGo_14 : decode cX2_letGo 14 = .ok (.iload_n 2, 1) := by decide +kernel
theorem dX2_letGo_15 : decode cX2_letGo 15 = .ok (.iconst 3, 1) := by decide +kernel
theorem dX2_letGo_16 : decode cX2_letGo 16 = .ok (.if_icmp .ge 23, 3) := by decide +kernel
theorem dX2_letGo_19 : decode cX2_letGo 19 = .ok (.aload_n 0, 1) := by decide +kernel
theorem dX2_letGo_20 : decode cX2_letGo 20 = .ok (.getfield 9, 3) := by decide +kernel
theorem dX2_letGo_23 : decode cX2_letGo 23 = .ok (.iload_n 2, 1) := by decide +kernel
theorem dX2_letGo_24 : decode cX2_letGo 24 = .ok (.dup2, 1) := by decide +kernel
theorem dX2_letGo_25 : decode cX2_letGo 25 = .ok (.iaload, 1) := by decide +kernel
theorem dX2_letGo_26 : decode cX2_letGo 26 = .ok (.iconst 1, 1) := by decide +kernel
theorem dX2_letGo_27 : decode cX2_letGo 27 = .ok (.iload_n 1, 1) := by decide +kernel
theorem dX2_letGo_28 : decode cX2_letGo 28 = .ok (.ishl, 1) := by decide +kernel
theorem dX2_letGo_29 : decode cX2_letGo 29 = .ok (.iconst (-1), 1) := by decide +kernel
theorem dX2_letGo_30 : decode cX2_letGo 30 = .ok (.ixor, 1) := by decide +kernel
theorem dX2_letGo_31 : decode cX2_letGo 31 = .ok (.iand, 1) := by decide +kernel
theorem dX2_letGo_32 : decode cX2_letGo 32 = .ok (.iastore, 1) := by decide +kernel
theorem dX2_letGo_33 : decode cX2_letGo 33 = .ok (.iinc 2 1, 3) := by decide +kernel
theorem dX2_letGo_36 : decode cX2_letGo 36 = .ok (.goto (-22), 3) := by decide +kernel
theorem dX2_letGo_39 : decode cX2_letGo 39 = .ok (.return_, 1) := by decide +kernel
theorem dX2_vinegarFor_0 : decode cX2_vinegarFor 0 = .ok (.iload_n 0, 1) := by decide +kernel
theorem dX2_vinegarFor_1 : decode cX2_vinegarFor 1 = .ok (.ifCond .ne 7, 3) := by decide +kernel
theorem dX2_vinegarFor_4 : decode cX2_vinegarFor 4 = .ok (.iconst 0, 1) := by decide +kernel
theorem dX2_vinegarFor_5 : decode cX2_vinegarFor 5 = .ok (.goto 11, 3) := by decide +kernel
theorem dX2_vinegarFor_8 : decode cX2_vinegarFor 8 = .ok (.iconst 1, 1) := by decide +kernel
theorem dX2_vinegarFor_9 : decode cX2_vinegarFor 9 = .ok (.iload_n 0, 1) := by decide +kernel
theorem dX2_vinegarFor_10 : decode cX2_vinegarFor 10 = .ok (.invokestatic 51, 3) := by decide +kernel
theorem dX2_vinegarFor_13 : decode cX2_vinegarFor 13 = .ok (.iconst 2, 1) := by decide +kernel
theorem dX2_vinegarFor_14 : decode cX2_vinegarFor 14 = .ok (.idiv, 1) := by decide +kernel
theorem dX2_vinegarFor_15 : decode cX2_vinegarFor 15 = .ok (.iadd, 1) := by decide +kernel
theorem dX2_vinegarFor_16 : decode cX2_vinegarFor 16 = .ok (.ireturn, 1) := by decide +kernel
theorem dX3_init_0 : decode cX3_init 0 = .ok (.aload_n 0, 1) := by decide +kernel
theorem dX3_init_1 : decode cX3_init 1 = .ok (.invokespecial 3, 3) := by decide +kernel
theorem dX3_init_4 : decode cX3_init 4 = .ok (.aload_n 0, 1) := by decide +kernel
theorem dX3_init_5 : decode cX3_init 5 = .ok (.bipush 6, 2) := by decide +kernel
theorem dX3_init_7 : decode cX3_init 7 = .ok (.newarray .int, 2) := by decide +kernel
theorem dX3_init_9 : decode cX3_init 9 = .ok (.putfield 9, 3) := by decide +kernel
theorem dX3_init_12 : decode cX3_init 12 = .ok (.aload_n 0, 1) := by decide +kernel
theorem dX3_init_13 : decode cX3_init 13 = .ok (.iconst 3, 1) := by decide +kernel
theorem dX3_init_14 : decode cX3_init 14 = .ok (.newarray .int, 2) := by decide +kernel
theorem dX3_init_16 : decode cX3_init 16 = .ok (.putfield 15, 3) := by decide +kernel
theorem dX3_init_19 : decode cX3_init 19 = .ok (.aload_n 0, 1) := by decide +kernel
theorem dX3_init_20 : decode cX3_init 20 = .ok (.bipush 64, 2) := by decide +kernel
theorem dX3_init_22 : decode cX3_init 22 = .ok (.newarray .int, 2) := by decide +kernel
theorem dX3_init_24 : decode cX3_init 24 = .ok (.putfield 18, 3) := by decide +kernel
theorem dX3_init_27 : decode cX3_init 27 = .ok (.aload_n 0, 1) := by decide +kernel
theorem dX3_init_28 : decode cX3_init 28 = .ok (.bipush 64, 2) := by decide +kernel
theorem dX3_init_30 : decode cX3_init 30 = .ok (.newarray .int, 2) := by decide +kernel
theorem dX3_init_32 : decode cX3_init 32 = .ok (.putfield 21, 3) := by decide +kernel
theorem dX3_init_35 : decode cX3_init 35 = .ok (.aload_n 0, 1) := by decide +kernel
theorem dX3_init_36 : decode cX3_init 36 = .ok (.iconst 0, 1) := by decide +kernel
theorem dX3_init_37 : decode cX3_init 37 = .ok (.putfield 24, 3) := by decide +kernel
theorem dX3_init_40 : decode cX3_init 40 = .ok (.return_, 1) := by decide +kernel
theorem dX3_runRow_0 : decode cX3_runRow 0 = .ok (.iconst 0, 1) := by decide +kernel
theorem dX3_runRow_1 : decode cX3_runRow 1 = .ok (.istore_n 3, 1) := by decide +kernel
theorem dX3_runRow_2 : decode cX3_runRow 2 = .ok (.iconst 0, 1) := by decide +kernel
theorem dX3_runRow_3 : decode cX3_runRow 3 = .ok (.istore 4, 2) := by decide +kernel
theorem dX3_runRow_5 : decode cX3_runRow 5 = .ok (.iconst 0, 1) := by decide +kernel
theorem dX3_runRow_6 : decode cX3_runRow 6 = .ok (.istore 5, 2) := by decide +kernel
theorem dX3_runRow_8 : decode cX3_runRow 8 = .ok (.iconst 0, 1) := by decide +kernel
theorem dX3_runRow_9 : decode cX3_runRow 9 = .ok (.istore 6, 2) := by decide +kernel
theorem dX3_runRow_11 : decode cX3_runRow 11 = .ok (.iload 6, 2) := by decide +kernel
theorem dX3_runRow_13 : decode cX3_runRow 13 = .ok (.aload_n 1, 1) := by decide +kernel
theorem dX3_runRow_14 : decode cX3_runRow 14 = .ok (.getfield 28, 3) := by decide +kernel
theorem dX3_runRow_17 : decode cX3_runRow 17 = .ok (.if_icmp .ge 99, 3) := by decide +kernel
theorem dX3_runRow_20 : decode cX3_runRow 20 = .ok (.aload_n 1, 1) := by decide +kernel
theorem dX3_runRow_21 : decode cX3_runRow 21 = .ok (.getfield 33, 3) := by decide +kernel
theorem dX3_runRow_24 : decode cX3_runRow 24 = .ok (.iload 6, 2) := by decide +kernel
theorem dX3_runRow_26 : decode cX3_runRow 26 = .ok (.iaload, 1) := by decide +kernel
theorem dX3_runRow_27 : decode cX3_runRow 27 = .ok (.istore 7, 2) := by decide +kernel
theorem dX3_runRow_29 : decode cX3_runRow 29 = .ok (.iload_n 2, 1) := by decide +kernel
theorem dX3_runRow_30 : decode cX3_runRow 30 = .ok (.iload 7, 2) := by decide +kernel
theorem dX3_runRow_32 : decode cX3_runRow 32 = .ok (.ishr, 1) := by decide +kernel
theorem dX3_runRow_33 : decode cX3_runRow 33 = .ok (.iconst 1, 1) := by decide +kernel
theorem dX3_runRow_34 : decode cX3_runRow 34 = .ok (.iand, 1) := by decide +kernel
theorem dX3_runRow_35 : decode cX3_runRow 35 = .ok (.ifCond .ne 6, 3) := by decide +kernel
theorem dX3_runRow_38 : decode cX3_runRow 38 = .ok (.goto 72, 3) := by decide +kernel
theorem dX3_runRow_41 : decode cX3_runRow 41 = .ok (.aload_n 1, 1) := by decide +kernel
theorem dX3_runRow_42 : decode cX3_runRow 42 = .ok (.iload 4, 2) := by decide +kernel
theorem dX3_runRow_44 : decode cX3_runRow 44 = .ok (.aload_n 1, 1) := by decide +kernel
theorem dX3_runRow_45 : decode cX3_runRow 45 = .ok (.getfield 36, 3) := by decide +kernel
theorem dX3_runRow_48 : decode cX3_runRow 48 = .ok (.iadd, 1) := by decide +kernel
theorem dX3_runRow_49 : decode cX3_runRow 49 = .ok (.invokevirtual 39, 3) := by decide +kernel
theorem dX3_runRow_52 : decode cX3_runRow 52 = .ok (.istore 8, 2) := by decide +kernel
theorem dX3_runRow_54 : decode cX3_runRow 54 = .ok (.aload_n 1, 1) := by decide +kernel
theorem dX3_runRow_55 : decode cX3_runRow 55 = .ok (.getfield 43, 3) := by decide +kernel
theorem dX3_runRow_58 : decode cX3_runRow 58 = .ok (.iload 7, 2) := by decide +kernel
theorem dX3_runRow_60 : decode cX3_runRow 60 = .ok (.iaload, 1) := by decide +kernel
theorem dX3_runRow_61 : decode cX3_runRow 61 = .ok (.istore 9, 2) := by decide +kernel
theorem dX3_runRow_63 : decode cX3_runRow 63 = .ok (.iload 5, 2) := by decide +kernel
theorem dX3_runRow_65 : decode cX3_runRow 65 = .ok (.iload 8, 2) := by decide +kernel
theorem dX3_runRow_67 : decode cX3_runRow 67 = .ok (.iload 9, 2) := by decide +kernel
theorem dX3_runRow_69 : decode cX3_runRow 69 = .ok (.invokestatic 46, 3) := by decide +kernel
theorem dX3_runRow_72 : decode cX3_runRow 72 = .ok (.iload 4, 2) := by decide +kernel
theorem dX3_runRow_74 : decode cX3_runRow 74 = .ok (.isub, 1) := by decide +kernel
theorem dX3_runRow_75 : decode cX3_runRow 75 = .ok (.iload_n 3, 1) := by decide +kernel
theorem dX3_runRow_76 : decode cX3_runRow 76 = .ok (.invokestatic 52, 3) := by decide +kernel
theorem dX3_runRow_79 : decode cX3_runRow 79 = .ok (.imul, 1) := by decide +kernel
theorem dX3_runRow_80 : decode cX3_runRow 80 = .ok (.iadd, 1) := by decide +kernel
theorem dX3_runRow_81 : decode cX3_runRow 81 = .ok (.istore 5, 2) := by decide +kernel
theorem dX3_runRow_83 : decode cX3_runRow 83 = .ok (.iload 8, 2) := by decide +kernel
theorem dX3_runRow_85 : decode cX3_runRow 85 = .ok (.iload 9, 2) := by decide +kernel
theorem dX3_runRow_87 : decode cX3_runRow 87 = .ok (.if_icmp .gt 12, 3) := by decide +kernel
theorem dX3_runRow_90 : decode cX3_runRow 90 = .ok (.aload_n 0, 1) := by decide +kernel
theorem dX3_runRow_91 : decode cX3_runRow 91 = .ok (.iload_n 3, 1) := by decide +kernel
theorem dX3_runRow_92 : decode cX3_runRow 92 = .ok (.iload 8, 2) := by decide +kernel
theorem dX3_runRow_94 : decode cX3_runRow 94 = .ok (.invokevirtual 57, 3) := by decide +kernel
theorem dX3_runRow_97 : decode cX3_runRow 97 = .ok (.iconst 0, 1) := by decide +kernel
theorem dX3_runRow_98 : decode cX3_runRow 98 = .ok (.istore_n 3, 1) := by decide +kernel
theorem dX3_runRow_99 : decode cX3_runRow 99 = .ok (.iload_n 3, 1) := by decide +kernel
theorem dX3_runRow_100 : decode cX3_runRow 100 = .ok (.iconst 1, 1) := by decide +kernel
theorem dX3_runRow_101 : decode cX3_runRow 101 = .ok (.iload 7, 2) := by decide +kernel
theorem dX3_runRow_103 : decode cX3_runRow 103 = .ok (.ishl, 1) := by decide +kernel
theorem dX3_runRow_104 : decode cX3_runRow 104 = .ok (.ior, 1) := by decide +kernel
theorem dX3_runRow_105 : decode cX3_runRow 105 = .ok (.istore_n 3, 1) := by decide +kernel
theorem dX3_runRow_106 : decode cX3_runRow 106 = .ok (.iload 9, 2) := by decide +kernel
theorem dX3_runRow_108 : decode cX3_runRow 108 = .ok (.istore 4, 2) := by decide +kernel
theorem dX3_runRow_110 : decode cX3_runRow 110 = .ok (.iinc 6 1, 3) := by decide +kernel
theorem dX3_runRow_113 : decode cX3_runRow 113 = .ok (.goto (-102), 3) := by decide +kernel
theorem dX3_runRow_116 : decode cX3_runRow 116 = .ok (.aload_n 1, 1) := by decide +kernel
theorem dX3_runRow_117 : decode cX3_runRow 117 = .ok (.iload 4, 2) := by decide +kernel
theorem dX3_runRow_119 : decode cX3_runRow 119 = .ok (.aload_n 1, 1) := by decide +kernel
theorem dX3_runRow_120 : decode cX3_runRow 120 = .ok (.getfield 36, 3) := by decide +kernel
theorem dX3_runRow_123 : decode cX3_runRow 123 = .ok (.iadd, 1) := by decide +kernel
theorem dX3_runRow_124 : decode cX3_runRow 124 = .ok (.invokevirtual 39, 3) := by decide +kernel
theorem dX3_runRow_127 : decode cX3_runRow 127 = .ok (.istore 6, 2) := by decide +kernel
theorem dX3_runRow_129 : decode cX3_runRow 129 = .ok (.aload_n 0, 1) := by decide +kernel
theorem dX3_runRow_130 : decode cX3_runRow 130 = .ok (.iload_n 3, 1) := by decide +kernel
theorem dX3_runRow_131 : decode cX3_runRow 131 = .ok (.iload 6, 2) := by decide +kernel
theorem dX3_runRow_133 : decode cX3_runRow 133 = .ok (.invokevirtual 57, 3) := by decide +kernel
theorem dX3_runRow_136 : decode cX3_runRow 136 = .ok (.iload 5, 2) := by decide +kernel
theorem dX3_runRow_138 : decode cX3_runRow 138 = .ok (.iload 6, 2) := by decide +kernel
theorem dX3_runRow_140 : decode cX3_runRow 140 = .ok (.iload 4, 2) := by decide +kernel
theorem dX3_runRow_142 : decode cX3_runRow 142 = .ok (.isub, 1) := by decide +kernel
theorem dX3_runRow_143 : decode cX3_runRow 143 = .ok (.iload_n 3, 1) := by decide +kernel
theorem dX3_runRow_144 : decode cX3_runRow 144 = .ok (.invokestatic 52, 3) := by decide +kernel
theorem dX3_runRow_147 : decode cX3_runRow 147 = .ok (.imul, 1) := by decide +kernel
theorem dX3_runRow_148 : decode cX3_runRow 148 = .ok (.iadd, 1) := by decide +kernel
theorem dX3_runRow_149 : decode cX3_runRow 149 = .ok (.ireturn, 1) := by decide +kernel
theorem dX3_letSail_0 : decode cX3_letSail 0 = .ok (.iconst 0, 1) := by decide +kernel
theorem dX3_letSail_1 : decode cX3_letSail 1 = .ok (.istore_n 3, 1) := by decide +kernel
theorem dX3_letSail_2 : decode cX3_letSail 2 = .ok (.iload_n 3, 1) := by decide +kernel
theorem dX3_letSail_3 : decode cX3_letSail 3 = .ok (.bipush 6, 2) := by decide +kernel
theorem dX3_letSail_5 : decode cX3_letSail 5 = .ok (.if_icmp .ge 24, 3) := by decide +kernel
theorem dX3_letSail_8 : decode cX3_letSail 8 = .ok (.iload_n 1, 1) := by decide +kernel
theorem dX3_letSail_9 : decode cX3_letSail 9 = .ok (.iload_n 3, 1) := by decide +kernel
theorem dX3_letSail_10 : decode cX3_letSail 10 = .ok (.ishr, 1) := by decide +kernel
theorem dX3_letSail_11 : decode cX3_letSail 11 = .ok (.iconst 1, 1) := by decide +kernel
theorem dX3_letSail_12 : decode cX3_letSail 12 = .ok (.iand, 1) := by decide +kernel
theorem dX3_letSail_13 : decode cX3_letSail 13 = .ok (.ifCond .eq 10, 3) := by decide +kernel
theorem dX3_letSail_16 : decode cX3_letSail 16 = .ok (.aload_n 0, 1) := by decide +kernel
theorem dX3_letSail_17 : decode cX3_letSail 17 = .ok (.getfield 9, 3) := by decide +kernel
theorem dX3_letSail_20 : decode cX3_letSail 20 = .ok (.iload_n 3, 1) := by decide +kernel
theorem dX3_letSail_21 : decode cX3_letSail 21 = .ok (.iload_n 2, 1) := by decide +kernel
theorem dX3_letSail_22 : decode cX3_letSail 22 = .ok (.iastore, 1) := by decide +kernel
theorem dX3_letSail_23 : decode cX3_letSail 23 = .ok (.iinc 3 1, 3) := by decide +kernel
theorem dX3_letSail_26 : decode cX3_letSail 26 = .ok (.goto (-24), 3) := by decide +kernel
theorem dX3_letSail_29 : decode cX3_letSail 29 = .ok (.return_, 1) := by decide +kernel
theorem dX3_weigh_0 : decode cX3_weigh 0 = .ok (.iconst 0, 1) := by decide +kernel
theorem dX3_weigh_1 : decode cX3_weigh 1 = .ok (.istore_n 3, 1) := by decide +kernel
theorem dX3_weigh_2 : decode cX3_weigh 2 = .ok (.iload_n 3, 1) := by decide +kernel
theorem dX3_weigh_3 : decode cX3_weigh 3 = .ok (.iconst 1, 1) := by decide +kernel
theorem dX3_weigh_4 : decode cX3_weigh 4 = .ok (.aload_n 1, 1) := by decide +kernel
theorem dX3_weigh_5 : decode cX3_weigh 5 = .ok (.getfield 28, 3) := by decide +kernel
theorem dX3_weigh_8 : decode cX3_weigh 8 = .ok (.ishl, 1) := by decide +kernel
theorem dX3_weigh_9 : decode cX3_weigh 9 = .ok (.if_icmp .ge 134, 3) := by decide +kernel
theorem dX3_weigh_12 : decode cX3_weigh 12 = .ok (.iload_n 3, 1) := by decide +kernel
theorem dX3_weigh_13 : decode cX3_weigh 13 = .ok (.bipush 64, 2) := by decide +kernel
theorem dX3_weigh_15 : decode cX3_weigh 15 = .ok (.if_icmp .ge 128, 3) := by decide +kernel
theorem dX3_weigh_18 : decode cX3_weigh 18 = .ok (.aload_n 0, 1) := by decide +kernel
theorem dX3_weigh_19 : decode cX3_weigh 19 = .ok (.aload_n 1, 1) := by decide +kernel
theorem dX3_weigh_20 : decode cX3_weigh 20 = .ok (.iload_n 3, 1) := by decide +kernel
theorem dX3_weigh_21 : decode cX3_weigh 21 = .ok (.invokevirtual 61, 3) := by decide +kernel
theorem dX3_weigh_24 : decode cX3_weigh 24 = .ok (.pop, 1) := by decide +kernel
theorem dX3_weigh_25 : decode cX3_weigh 25 = .ok (.aload_n 0, 1) := by decide +kernel
theorem dX3_weigh_26 : decode cX3_weigh 26 = .ok (.getfield 18, 3) := by decide +kernel
theorem dX3_weigh_29 : decode cX3_weigh 29 = .ok (.iload_n 3, 1) := by decide +kernel
theorem dX3_weigh_30 : decode cX3_weigh 30 = .ok (.iconst 0, 1) := by decide +kernel
theorem dX3_weigh_31 : decode cX3_weigh 31 = .ok (.iastore, 1) := by decide +kernel
theorem dX3_weigh_32 : decode cX3_weigh 32 = .ok (.aload_n 0, 1) := by decide +kernel
theorem dX3_weigh_33 : decode cX3_weigh 33 = .ok (.getfield 21, 3) := by decide +kernel
theorem dX3_weigh_36 : decode cX3_weigh 36 = .ok (.iload_n 3, 1) := by decide +kernel
theorem dX3_weigh_37 : decode cX3_weigh 37 = .ok (.iconst 0, 1) := by decide +kernel
theorem dX3_weigh_38 : decode cX3_weigh 38 = .ok (.iastore, 1) := by decide +kernel
theorem dX3_weigh_39 : decode cX3_weigh 39 = .ok (.iconst 0, 1) := by decide +kernel
theorem dX3_weigh_40 : decode cX3_weigh 40 = .ok (.istore 4, 2) := by decide +kernel
theorem dX3_weigh_42 : decode cX3_weigh 42 = .ok (.iload 4, 2) := by decide +kernel
theorem dX3_weigh_44 : decode cX3_weigh 44 = .ok (.aload_n 1, 1) := by decide +kernel
theorem dX3_weigh_45 : decode cX3_weigh 45 = .ok (.getfield 28, 3) := by decide +kernel
theorem dX3_weigh_48 : decode cX3_weigh 48 = .ok (.if_icmp .ge 89, 3) := by decide +kernel
theorem dX3_weigh_51 : decode cX3_weigh 51 = .ok (.iload_n 3, 1) := by decide +kernel
theorem dX3_weigh_52 : decode cX3_weigh 52 = .ok (.iload 4, 2) := by decide +kernel
theorem dX3_weigh_54 : decode cX3_weigh 54 = .ok (.ishr, 1) := by decide +kernel
theorem dX3_weigh_55 : decode cX3_weigh 55 = .ok (.iconst 1, 1) := by decide +kernel
theorem dX3_weigh_56 : decode cX3_weigh 56 = .ok (.iand, 1) := by decide +kernel
theorem dX3_weigh_57 : decode cX3_weigh 57 = .ok (.ifCond .ne 6, 3) := by decide +kernel
theorem dX3_weigh_60 : decode cX3_weigh 60 = .ok (.goto 71, 3) := by decide +kernel
theorem dX3_weigh_63 : decode cX3_weigh 63 = .ok (.iload_n 2, 1) := by decide +kernel
theorem dX3_weigh_64 : decode cX3_weigh 64 = .ok (.bipush (-9), 2) := by decide +kernel
theorem dX3_weigh_66 : decode cX3_weigh 66 = .ok (.if_icmp .ne 44, 3) := by decide +kernel
theorem dX3_weigh_69 : decode cX3_weigh 69 = .ok (.aload_n 0, 1) := by decide +kernel
theorem dX3_weigh_70 : decode cX3_weigh 70 = .ok (.getfield 18, 3) := by decide +kernel
theorem dX3_weigh_73 : decode cX3_weigh 73 = .ok (.iload_n 3, 1) := by decide +kernel
theorem dX3_weigh_74 : decode cX3_weigh 74 = .ok (.aload_n 0, 1) := by decide +kernel
theorem dX3_weigh_75 : decode cX3_weigh 75 = .ok (.getfield 18, 3) := by decide +kernel
theorem dX3_weigh_78 : decode cX3_weigh 78 = .ok (.iload_n 3, 1) := by decide +kernel
theorem dX3_weigh_79 : decode cX3_weigh 79 = .ok (.iaload, 1) := by decide +kernel
theorem dX3_weigh_80 : decode cX3_weigh 80 = .ok (.aload_n 0, 1) := by decide +kernel
theorem dX3_weigh_81 : decode cX3_weigh 81 = .ok (.getfield 9, 3) := by decide +kernel
theorem dX3_weigh_84 : decode cX3_weigh 84 = .ok (.iload 4, 2) := by decide +kernel
theorem dX3_weigh_86 : decode cX3_weigh 86 = .ok (.iaload, 1) := by decide +kernel
theorem dX3_weigh_87 : decode cX3_weigh 87 = .ok (.invokestatic 65, 3) := by decide +kernel
theorem dX3_weigh_90 : decode cX3_weigh 90 = .ok (.iastore, 1) := by decide +kernel
theorem dX3_weigh_91 : decode cX3_weigh 91 = .ok (.aload_n 0, 1) := by decide +kernel
theorem dX3_weigh_92 : decode cX3_weigh 92 = .ok (.getfield 21, 3) := by decide +kernel
theorem dX3_weigh_95 : decode cX3_weigh 95 = .ok (.iload_n 3, 1) := by decide +kernel
theorem dX3_weigh_96 : decode cX3_weigh 96 = .ok (.dup2, 1) := by decide +kernel
theorem dX3_weigh_97 : decode cX3_weigh 97 = .ok (.iaload, 1) := by decide +kernel
theorem dX3_weigh_98 : decode cX3_weigh 98 = .ok (.aload_n 0, 1) := by decide +kernel
theorem dX3_weigh_99 : decode cX3_weigh 99 = .ok (.getfield 9, 3) := by decide +kernel
theorem dX3_weigh_102 : decode cX3_weigh 102 = .ok (.iload 4, 2) := by decide +kernel
theorem dX3_weigh_104 : decode cX3_weigh 104 = .ok (.iaload, 1) := by decide +kernel
theorem dX3_weigh_105 : decode cX3_weigh 105 = .ok (.iadd, 1) := by decide +kernel
theorem dX3_weigh_106 : decode cX3_weigh 106 = .ok (.iastore, 1) := by decide +kernel
theorem dX3_weigh_107 : decode cX3_weigh 107 = .ok (.goto 24, 3) := by decide +kernel
theorem dX3_weigh_110 : decode cX3_weigh 110 = .ok (.aload_n 0, 1) := by decide +kernel
theorem dX3_weigh_111 : decode cX3_weigh 111 = .ok (.getfield 9, 3) := by decide +kernel
theorem dX3_weigh_114 : decode cX3_weigh 114 = .ok (.iload 4, 2) := by decide +kernel
theorem dX3_weigh_116 : decode cX3_weigh 116 = .ok (.iaload, 1) := by decide +kernel
theorem dX3_weigh_117 : decode cX3_weigh 117 = .ok (.iload_n 2, 1) := by decide +kernel
theorem dX3_weigh_118 : decode cX3_weigh 118 = .ok (.if_icmp .gt 13, 3) := by decide +kernel
theorem dX3_weigh_121 : decode cX3_weigh 121 = .ok (.aload_n 0, 1) := by decide +kernel
theorem dX3_weigh_122 : decode cX3_weigh 122 = .ok (.getfield 21, 3) := by decide +kernel
theorem dX3_weigh_125 : decode cX3_weigh 125 = .ok (.iload_n 3, 1) := by decide +kernel
theorem dX3_weigh_126 : decode cX3_weigh 126 = .ok (.dup2, 1) := by decide +kernel
theorem dX3_weigh_127 : decode cX3_weigh 127 = .ok (.iaload, 1) := by decide +kernel
theorem dX3_weigh_128 : decode cX3_weigh 128 = .ok (.iconst 1, 1) := by decide +kernel
theorem dX3_weigh_129 : decode cX3_weigh 129 = .ok (.isub, 1) := by decide +kernel
theorem dX3_weigh_130 : decode cX3_weigh 130 = .ok (.iastore, 1) := by decide +kernel
theorem dX3_weigh_131 : decode cX3_weigh 131 = .ok (.iinc 4 1, 3) := by decide +kernel
theorem dX3_weigh_134 : decode cX3_weigh 134 = .ok (.goto (-92), 3) := by decide +kernel
theorem dX3_weigh_137 : decode cX3_weigh 137 = .ok (.iinc 3 1, 3) := by decide +kernel
theorem dX3_weigh_140 : decode cX3_weigh 140 = .ok (.goto (-138), 3) := by decide +kernel
theorem dX3_weigh_143 : decode cX3_weigh 143 = .ok (.return_, 1) := by decide +kernel
theorem dX3_findBest_0 : decode cX3_findBest 0 = .ok (.iconst 1, 1) := by decide +kernel
theorem dX3_findBest_1 : decode cX3_findBest 1 = .ok (.istore_n 2, 1) := by decide +kernel
theorem dX3_findBest_2 : decode cX3_findBest 2 = .ok (.iconst 0, 1) := by decide +kernel
theorem dX3_findBest_3 : decode cX3_findBest 3 = .ok (.istore_n 3, 1) := by decide +kernel
theorem dX3_findBest_4 : decode cX3_findBest 4 = .ok (.iload_n 3, 1) := by decide +kernel
theorem dX3_findBest_5 : decode cX3_findBest 5 = .ok (.aload_n 1, 1) := by decide +kernel
theorem dX3_findBest_6 : decode cX3_findBest 6 = .ok (.getfield 28, 3) := by decide +kernel
theorem dX3_findBest_9 : decode cX3_findBest 9 = .ok (.if_icmp .ge 16, 3) := by decide +kernel
theorem dX3_findBest_12 : decode cX3_findBest 12 = .ok (.iload_n 2, 1) := by decide +kernel
theorem dX3_findBest_13 : decode cX3_findBest 13 = .ok (.aload_n 1, 1) := by decide +kernel
theorem dX3_findBest_14 : decode cX3_findBest 14 = .ok (.getfield 68, 3) := by decide +kernel
theorem dX3_findBest_17 : decode cX3_findBest 17 = .ok (.imul, 1) := by decide +kernel
theorem dX3_findBest_18 : decode cX3_findBest 18 = .ok (.istore_n 2, 1) := by decide +kernel
theorem dX3_findBest_19 : decode cX3_findBest 19 = .ok (.iinc 3 1, 3) := by decide +kernel
theorem dX3_findBest_22 : decode cX3_findBest 22 = .ok (.goto (-18), 3) := by decide +kernel
theorem dX3_findBest_25 : decode cX3_findBest 25 = .ok (.ldc 71, 2) := by decide +kernel
theorem dX3_findBest_27 : decode cX3_findBest 27 = .ok (.istore_n 3, 1) := by decide +kernel
theorem dX3_findBest_28 : decode cX3_findBest 28 = .ok (.iconst 0, 1) := by decide +kernel
theorem dX3_findBest_29 : decode cX3_findBest 29 = .ok (.istore 4, 2) := by decide +kernel
theorem dX3_findBest_31 : decode cX3_findBest 31 = .ok (.iload 4, 2) := by decide +kernel
theorem dX3_findBest_33 : decode cX3_findBest 33 = .ok (.iload_n 2, 1) := by decide +kernel
theorem dX3_findBest_34 : decode cX3_findBest 34 = .ok (.if_icmp .ge 37, 3) := by decide +kernel
theorem dX3_findBest_37 : decode cX3_findBest 37 = .ok (.aload_n 0, 1) := by decide +kernel
theorem dX3_findBest_38 : decode cX3_findBest 38 = .ok (.aload_n 1, 1) := by decide +kernel
theorem dX3_findBest_39 : decode cX3_findBest 39 = .ok (.iload 4, 2) := by decide +kernel
theorem dX3_findBest_41 : decode cX3_findBest 41 = .ok (.invokevirtual 72, 3) := by decide +kernel
theorem dX3_findBest_44 : decode cX3_findBest 44 = .ok (.aload_n 0, 1) := by decide +kernel
theorem dX3_findBest_45 : decode cX3_findBest 45 = .ok (.invokevirtual 76, 3) := by decide +kernel
theorem dX3_findBest_48 : decode cX3_findBest 48 = .ok (.istore 5, 2) := by decide +kernel
theorem dX3_findBest_50 : decode cX3_findBest 50 = .ok (.iload 5, 2) := by decide +kernel
theorem dX3_findBest_52 : decode cX3_findBest 52 = .ok (.iload_n 3, 1) := by decide +kernel
theorem dX3_findBest_53 : decode cX3_findBest 53 = .ok (.if_icmp .ge 12, 3) := by decide +kernel
theorem dX3_findBest_56 : decode cX3_findBest 56 = .ok (.iload 5, 2) := by decide +kernel
theorem dX3_findBest_58 : decode cX3_findBest 58 = .ok (.istore_n 3, 1) := by decide +kernel
theorem dX3_findBest_59 : decode cX3_findBest 59 = .ok (.aload_n 0, 1) := by decide +kernel
theorem dX3_findBest_60 : decode cX3_findBest 60 = .ok (.iload 4, 2) := by decide +kernel
theorem dX3_findBest_62 : decode cX3_findBest 62 = .ok (.putfield 24, 3) := by decide +kernel
theorem dX3_findBest_65 : decode cX3_findBest 65 = .ok (.iinc 4 1, 3) := by decide +kernel
theorem dX3_findBest_68 : decode cX3_findBest 68 = .ok (.goto (-37), 3) := by decide +kernel
theorem dX3_findBest_71 : decode cX3_findBest 71 = .ok (.iload_n 3, 1) := by decide +kernel
theorem dX3_findBest_72 : decode cX3_findBest 72 = .ok (.ireturn, 1) := by decide +kernel
theorem dX3_bestRowOf_0 : decode cX3_bestRowOf 0 = .ok (.aload_n 0, 1) := by decide +kernel
theorem dX3_bestRowOf_1 : decode cX3_bestRowOf 1 = .ok (.aload_n 1, 1) := by decide +kernel
theorem dX3_bestRowOf_2 : decode cX3_bestRowOf 2 = .ok (.aload_n 0, 1) := by decide +kernel
theorem dX3_bestRowOf_3 : decode cX3_bestRowOf 3 = .ok (.getfield 24, 3) := by decide +kernel
theorem dX3_bestRowOf_6 : decode cX3_bestRowOf 6 = .ok (.invokevirtual 72, 3) := by decide +kernel
theorem dX3_bestRowOf_9 : decode cX3_bestRowOf 9 = .ok (.aload_n 0, 1) := by decide +kernel
theorem dX3_bestRowOf_10 : decode cX3_bestRowOf 10 = .ok (.getfield 15, 3) := by decide +kernel
theorem dX3_bestRowOf_13 : decode cX3_bestRowOf 13 = .ok (.iload_n 2, 1) := by decide +kernel
theorem dX3_bestRowOf_14 : decode cX3_bestRowOf 14 = .ok (.invokestatic 80, 3) := by decide +kernel
theorem dX3_bestRowOf_17 : decode cX3_bestRowOf 17 = .ok (.ireturn, 1) := by decide +kernel
theorem dX3_spread_0 : decode cX3_spread 0 = .ok (.aload_n 0, 1) := by decide +kernel
theorem dX3_spread_1 : decode cX3_spread 1 = .ok (.getfield 15, 3) := by decide +kernel
theorem dX3_spread_4 : decode cX3_spread 4 = .ok (.iconst 0, 1) := by decide +kernel
theorem dX3_spread_5 : decode cX3_spread 5 = .ok (.invokestatic 84, 3) := by decide +kernel
theorem dX3_spread_8 : decode cX3_spread 8 = .ok (.iload_n 2, 1) := by decide +kernel
theorem dX3_spread_9 : decode cX3_spread 9 = .ok (.istore_n 3, 1) := by decide +kernel
theorem dX3_spread_10 : decode cX3_spread 10 = .ok (.aload_n 1, 1) := by decide +kernel
theorem dX3_spread_11 : decode cX3_spread 11 = .ok (.getfield 28, 3) := by decide +kernel
theorem dX3_spread_14 : decode cX3_spread 14 = .ok (.iconst 1, 1) := by decide +kernel
theorem dX3_spread_15 : decode cX3_spread 15 = .ok (.isub, 1) := by decide +kernel
theorem dX3_spread_16 : decode cX3_spread 16 = .ok (.istore 4, 2) := by decide +kernel
theorem dX3_spread_18 : decode cX3_spread 18 = .ok (.iload 4, 2) := by decide +kernel
theorem dX3_spread_20 : decode cX3_spread 20 = .ok (.ifCond .lt 41, 3) := by decide +kernel
theorem dX3_spread_23 : decode cX3_spread 23 = .ok (.aload_n 1, 1) := by decide +kernel
theorem dX3_spread_24 : decode cX3_spread 24 = .ok (.getfield 68, 3) := by decide +kernel
theorem dX3_spread_27 : decode cX3_spread 27 = .ok (.ifCond .le 34, 3) := by decide +kernel
theorem dX3_spread_30 : decode cX3_spread 30 = .ok (.aload_n 0, 1) := by decide +kernel
theorem dX3_spread_31 : decode cX3_spread 31 = .ok (.getfield 15, 3) := by decide +kernel
theorem dX3_spread_34 : decode cX3_spread 34 = .ok (.iload_n 3, 1) := by decide +kernel
theorem dX3_spread_35 : decode cX3_spread 35 = .ok (.aload_n 1, 1) := by decide +kernel
theorem dX3_spread_36 : decode cX3_spread 36 = .ok (.getfield 68, 3) := by decide +kernel
theorem dX3_spread_39 : decode cX3_spread 39 = .ok (.irem, 1) := by decide +kernel
theorem dX3_spread_40 : decode cX3_spread 40 = .ok (.dup2, 1) := by decide +kernel
theorem dX3_spread_41 : decode cX3_spread 41 = .ok (.iaload, 1) := by decide +kernel
theorem dX3_spread_42 : decode cX3_spread 42 = .ok (.iconst 1, 1) := by decide +kernel
theorem dX3_spread_43 : decode cX3_spread 43 = .ok (.iload 4, 2) := by decide +kernel
theorem dX3_spread_45 : decode cX3_spread 45 = .ok (.ishl, 1) := by decide +kernel
theorem dX3_spread_46 : decode cX3_spread 46 = .ok (.ior, 1) := by decide +kernel
theorem dX3_spread_47 : decode cX3_spread 47 = .ok (.iastore, 1) := by decide +kernel
theorem dX3_spread_48 : decode cX3_spread 48 = .ok (.iload_n 3, 1) := by decide +kernel
theorem dX3_spread_49 : decode cX3_spread 49 = .ok (.aload_n 1, 1) := by decide +kernel
theorem dX3_spread_50 : decode cX3_spread 50 = .ok (.getfield 68, 3) := by decide +kernel
theorem dX3_spread_53 : decode cX3_spread 53 = .ok (.idiv, 1) := by decide +kernel
theorem dX3_spread_54 : decode cX3_spread 54 = .ok (.istore_n 3, 1) := by decide +kernel
theorem dX3_spread_55 : decode cX3_spread 55 = .ok (.iinc 4 (-1), 3) := by decide +kernel
theorem dX3_spread_58 : decode cX3_spread 58 = .ok (.goto (-40), 3) := by decide +kernel
theorem dX3_spread_61 : decode cX3_spread 61 = .ok (.return_, 1) := by decide +kernel
theorem dX3_costOfRows_0 : decode cX3_costOfRows 0 = .ok (.iconst 0, 1) := by decide +kernel
theorem dX3_costOfRows_1 : decode cX3_costOfRows 1 = .ok (.istore_n 1, 1) := by decide +kernel
theorem dX3_costOfRows_2 : decode cX3_costOfRows 2 = .ok (.iconst 0, 1) := by decide +kernel
theorem dX3_costOfRows_3 : decode cX3_costOfRows 3 = .ok (.istore_n 2, 1) := by decide +kernel
theorem dX3_costOfRows_4 : decode cX3_costOfRows 4 = .ok (.iconst 0, 1) := by decide +kernel
theorem dX3_costOfRows_5 : decode cX3_costOfRows 5 = .ok (.istore_n 3, 1) := by decide +kernel
theorem dX3_costOfRows_6 : decode cX3_costOfRows 6 = .ok (.iload_n 3, 1) := by decide +kernel
theorem dX3_costOfRows_7 : decode cX3_costOfRows 7 = .ok (.iconst 3, 1) := by decide +kernel
theorem dX3_costOfRows_8 : decode cX3_costOfRows 8 = .ok (.if_icmp .ge 39, 3) := by decide +kernel
theorem dX3_costOfRows_11 : decode cX3_costOfRows 11 = .ok (.iload_n 1, 1) := by decide +kernel
theorem dX3_costOfRows_12 : decode cX3_costOfRows 12 = .ok (.aload_n 0, 1) := by decide +kernel
theorem dX3_costOfRows_13 : decode cX3_costOfRows 13 = .ok (.getfield 18, 3) := by decide +kernel
theorem dX3_costOfRows_16 : decode cX3_costOfRows 16 = .ok (.aload_n 0, 1) := by decide +kernel
theorem dX3_costOfRows_17 : decode cX3_costOfRows 17 = .ok (.getfield 15, 3) := by decide +kernel
theorem dX3_costOfRows_20 : decode cX3_costOfRows 20 = .ok (.iload_n 3, 1) := by decide +kernel
theorem dX3_costOfRows_21 : decode cX3_costOfRows 21 = .ok (.iaload, 1) := by decide +kernel
theorem dX3_costOfRows_22 : decode cX3_costOfRows 22 = .ok (.iaload, 1) := by decide +kernel
theorem dX3_costOfRows_23 : decode cX3_costOfRows 23 = .ok (.invokestatic 65, 3) := by decide +kernel
theorem dX3_costOfRows_26 : decode cX3_costOfRows 26 = .ok (.istore_n 1, 1) := by decide +kernel
theorem dX3_costOfRows_27 : decode cX3_costOfRows 27 = .ok (.iload_n 2, 1) := by decide +kernel
theorem dX3_costOfRows_28 : decode cX3_costOfRows 28 = .ok (.aload_n 0, 1) := by decide +kernel
theorem dX3_costOfRows_29 : decode cX3_costOfRows 29 = .ok (.getfield 21, 3) := by decide +kernel
theorem dX3_costOfRows_32 : decode cX3_costOfRows 32 = .ok (.aload_n 0, 1) := by decide +kernel
theorem dX3_costOfRows_33 : decode cX3_costOfRows 33 = .ok (.getfield 15, 3) := by decide +kernel
theorem dX3_costOfRows_36 : decode cX3_costOfRows 36 = .ok (.iload_n 3, 1) := by decide +kernel
theorem dX3_costOfRows_37 : decode cX3_costOfRows 37 = .ok (.iaload, 1) := by decide +kernel
theorem dX3_costOfRows_38 : decode cX3_costOfRows 38 = .ok (.iaload, 1) := by decide +kernel
theorem dX3_costOfRows_39 : decode cX3_costOfRows 39 = .ok (.iadd, 1) := by decide +kernel
theorem dX3_costOfRows_40 : decode cX3_costOfRows 40 = .ok (.istore_n 2, 1) := by decide +kernel
theorem dX3_costOfRows_41 : decode cX3_costOfRows 41 = .ok (.iinc 3 1, 3) := by decide +kernel
theorem dX3_costOfRows_44 : decode cX3_costOfRows 44 = .ok (.goto (-38), 3) := by decide +kernel
theorem dX3_costOfRows_47 : decode cX3_costOfRows 47 = .ok (.iload_n 1, 1) := by decide +kernel
theorem dX3_costOfRows_48 : decode cX3_costOfRows 48 = .ok (.sipush 1000, 3) := by decide +kernel
theorem dX3_costOfRows_51 : decode cX3_costOfRows 51 = .ok (.imul, 1) := by decide +kernel
theorem dX3_costOfRows_52 : decode cX3_costOfRows 52 = .ok (.iload_n 2, 1) := by decide +kernel
theorem dX3_costOfRows_53 : decode cX3_costOfRows 53 = .ok (.iadd, 1) := by decide +kernel
theorem dX3_costOfRows_54 : decode cX3_costOfRows 54 = .ok (.ireturn, 1) := by decide +kernel
theorem dX3_readFigures_0 : decode cX3_readFigures 0 = .ok (.iload_n 2, 1) := by decide +kernel
theorem dX3_readFigures_1 : decode cX3_readFigures 1 = .ok (.ifCond .ge 5, 3) := by decide +kernel
theorem dX3_readFigures_4 : decode cX3_readFigures 4 = .ok (.iconst 0, 1) := by decide +kernel
theorem dX3_readFigures_5 : decode cX3_readFigures 5 = .ok (.ireturn, 1) := by decide +kernel
theorem dX3_readFigures_6 : decode cX3_readFigures 6 = .ok (.aload_n 0, 1) := by decide +kernel
theorem dX3_readFigures_7 : decode cX3_readFigures 7 = .ok (.getfield 15, 3) := by decide +kernel
theorem dX3_readFigures_10 : decode cX3_readFigures 10 = .ok (.iconst 0, 1) := by decide +kernel
theorem dX3_readFigures_11 : decode cX3_readFigures 11 = .ok (.invokestatic 84, 3) := by decide +kernel
theorem dX3_readFigures_14 : decode cX3_readFigures 14 = .ok (.iload_n 2, 1) := by decide +kernel
theorem dX3_readFigures_15 : decode cX3_readFigures 15 = .ok (.istore_n 3, 1) := by decide +kernel
theorem dX3_readFigures_16 : decode cX3_readFigures 16 = .ok (.iconst 0, 1) := by decide +kernel
theorem dX3_readFigures_17 : decode cX3_readFigures 17 = .ok (.istore 4, 2) := by decide +kernel
theorem dX3_readFigures_19 : decode cX3_readFigures 19 = .ok (.iload 4, 2) := by decide +kernel
theorem dX3_readFigures_21 : decode cX3_readFigures 21 = .ok (.aload_n 1, 1) := by decide +kernel
theorem dX3_readFigures_22 : decode cX3_readFigures 22 = .ok (.getfield 28, 3) := by decide +kernel
theorem dX3_readFigures_25 : decode cX3_readFigures 25 = .ok (.if_icmp .ge 45, 3) := by decide +kernel
theorem dX3_readFigures_28 : decode cX3_readFigures 28 = .ok (.iload_n 3, 1) := by decide +kernel
theorem dX3_readFigures_29 : decode cX3_readFigures 29 = .ok (.bipush 10, 2) := by decide +kernel
theorem dX3_readFigures_31 : decode cX3_readFigures 31 = .ok (.irem, 1) := by decide +kernel
theorem dX3_readFigures_32 : decode cX3_readFigures 32 = .ok (.istore 5, 2) := by decide +kernel
theorem dX3_readFigures_34 : decode cX3_readFigures 34 = .ok (.aload_n 1, 1) := by decide +kernel
theorem dX3_readFigures_35 : decode cX3_readFigures 35 = .ok (.iload 5, 2) := by decide +kernel
theorem dX3_readFigures_37 : decode cX3_readFigures 37 = .ok (.invokevirtual 90, 3) := by decide +kernel
theorem dX3_readFigures_40 : decode cX3_readFigures 40 = .ok (.ifCond .ne 5, 3) := by decide +kernel
theorem dX3_readFigures_43 : decode cX3_readFigures 43 = .ok (.iconst 0, 1) := by decide +kernel
theorem dX3_readFigures_44 : decode cX3_readFigures 44 = .ok (.ireturn, 1) := by decide +kernel
theorem dX3_readFigures_45 : decode cX3_readFigures 45 = .ok (.aload_n 0, 1) := by decide +kernel
theorem dX3_readFigures_46 : decode cX3_readFigures 46 = .ok (.getfield 15, 3) := by decide +kernel
theorem dX3_readFigures_49 : decode cX3_readFigures 49 = .ok (.iload 5, 2) := by decide +kernel
theorem dX3_readFigures_51 : decode cX3_readFigures 51 = .ok (.dup2, 1) := by decide +kernel
theorem dX3_readFigures_52 : decode cX3_readFigures 52 = .ok (.iaload, 1) := by decide +kernel
theorem dX3_readFigures_53 : decode cX3_readFigures 53 = .ok (.iconst 1, 1) := by decide +kernel
theorem dX3_readFigures_54 : decode cX3_readFigures 54 = .ok (.iload 4, 2) := by decide +kernel
theorem dX3_readFigures_56 : decode cX3_readFigures 56 = .ok (.ishl, 1) := by decide +kernel
theorem dX3_readFigures_57 : decode cX3_readFigures 57 = .ok (.ior, 1) := by decide +kernel
theorem dX3_readFigures_58 : decode cX3_readFigures 58 = .ok (.iastore, 1) := by decide +kernel
theorem dX3_readFigures_59 : decode cX3_readFigures 59 = .ok (.iload_n 3, 1) := by decide +kernel
theorem dX3_readFigures_60 : decode cX3_readFigures 60 = .ok (.bipush 10, 2) := by decide +kernel
theorem dX3_readFigures_62 : decode cX3_readFigures 62 = .ok (.idiv, 1) := by decide +kernel
theorem dX3_readFigures_63 : decode cX3_readFigures 63 = .ok (.istore_n 3, 1) := by decide +kernel
theorem dX3_readFigures_64 : decode cX3_readFigures 64 = .ok (.iinc 4 1, 3) := by decide +kernel
theorem dX3_readFigures_67 : decode cX3_readFigures 67 = .ok (.goto (-48), 3) := by decide +kernel
theorem dX3_readFigures_70 : decode cX3_readFigures 70 = .ok (.iload_n 3, 1) := by decide +kernel
theorem dX3_readFigures_71 : decode cX3_readFigures 71 = .ok (.ifCond .ne 7, 3) := by decide +kernel
theorem dX3_readFigures_74 : decode cX3_readFigures 74 = .ok (.iconst 1, 1) := by decide +kernel
theorem dX3_readFigures_75 : decode cX3_readFigures 75 = .ok (.goto 4, 3) := by decide +kernel
theorem dX3_readFigures_78 : decode cX3_readFigures 78 = .ok (.iconst 0, 1) := by decide +kernel
theorem dX3_readFigures_79 : decode cX3_readFigures 79 = .ok (.ireturn, 1) := by decide +kernel
theorem dX4_init_0 : decode cX4_init 0 = .ok (.aload_n 0, 1) := by decide +kernel
theorem dX4_init_1 : decode cX4_init 1 = .ok (.invokespecial 3, 3) := by decide +kernel
theorem dX4_init_4 : decode cX4_init 4 = .ok (.aload_n 0, 1) := by decide +kernel
theorem dX4_init_5 : decode cX4_init 5 = .ok (.iconst 0, 1) := by decide +kernel
theorem dX4_init_6 : decode cX4_init 6 = .ok (.putfield 9, 3) := by decide +kernel
theorem dX4_init_9 : decode cX4_init 9 = .ok (.aload_n 0, 1) := by decide +kernel
theorem dX4_init_10 : decode cX4_init 10 = .ok (.sipush 200, 3) := by decide +kernel
theorem dX4_init_13 : decode cX4_init 13 = .ok (.newarray .int, 2) := by decide +kernel
theorem dX4_init_15 : decode cX4_init 15 = .ok (.putfield 15, 3) := by decide +kernel
theorem dX4_init_18 : decode cX4_init 18 = .ok (.aload_n 0, 1) := by decide +kernel
theorem dX4_init_19 : decode cX4_init 19 = .ok (.iconst 0, 1) := by decide +kernel
theorem dX4_init_20 : decode cX4_init 20 = .ok (.putfield 19, 3) := by decide +kernel
theorem dX4_init_23 : decode cX4_init 23 = .ok (.aload_n 0, 1) := by decide +kernel
theorem dX4_init_24 : decode cX4_init 24 = .ok (.iconst 0, 1) := by decide +kernel
theorem dX4_init_25 : decode cX4_init 25 = .ok (.putfield 22, 3) := by decide +kernel
theorem dX4_init_28 : decode cX4_init 28 = .ok (.aload_n 0, 1) := by decide +kernel
theorem dX4_init_29 : decode cX4_init 29 = .ok (.iconst 0, 1) := by decide +kernel
theorem dX4_init_30 : decode cX4_init 30 = .ok (.putfield 25, 3) := by decide +kernel
theorem dX4_init_33 : decode cX4_init 33 = .ok (.aload_n 0, 1) := by decide +kernel
theorem dX4_init_34 : decode cX4_init 34 = .ok (.iconst 0, 1) := by decide +kernel
theorem dX4_init_35 : decode cX4_init 35 = .ok (.putfield 28, 3) := by decide +kernel
theorem dX4_init_38 : decode cX4_init 38 = .ok (.aload_n 0, 1) := by decide +kernel
theorem dX4_init_39 : decode cX4_init 39 = .ok (.iconst 3, 1) := by decide +kernel
theorem dX4_init_40 : decode cX4_init 40 = .ok (.newarray .int, 2) := by decide +kernel
theorem dX4_init_42 : decode cX4_init 42 = .ok (.putfield 31, 3) := by decide +kernel
theorem dX4_init_45 : decode cX4_init 45 = .ok (.aload_n 0, 1) := by decide +kernel
theorem dX4_init_46 : decode cX4_init 46 = .ok (.iconst 0, 1) := by decide +kernel
theorem dX4_init_47 : decode cX4_init 47 = .ok (.putfield 34, 3) := by decide +kernel
theorem dX4_init_50 : decode cX4_init 50 = .ok (.aload_n 0, 1) := by decide +kernel
theorem dX4_init_51 : decode cX4_init 51 = .ok (.iconst 0, 1) := by decide +kernel
theorem dX4_init_52 : decode cX4_init 52 = .ok (.putfield 38, 3) := by decide +kernel
theorem dX4_init_55 : decode cX4_init 55 = .ok (.aload_n 0, 1) := by decide +kernel
theorem dX4_init_56 : decode cX4_init 56 = .ok (.iconst 0, 1) := by decide +kernel
theorem dX4_init_57 : decode cX4_init 57 = .ok (.putfield 41, 3) := by decide +kernel
theorem dX4_init_60 : decode cX4_init 60 = .ok (.return_, 1) := by decide +kernel
theorem dX4_append_0 : decode cX4_append 0 = .ok (.aload_n 0, 1) := by decide +kernel
theorem dX4_append_1 : decode cX4_append 1 = .ok (.getfield 9, 3) := by decide +kernel
theorem dX4_append_4 : decode cX4_append 4 = .ok (.sipush 200, 3) := by decide +kernel
theorem dX4_append_7 : decode cX4_append 7 = .ok (.if_icmp .lt 5, 3) := by decide +kernel
theorem dX4_append_10 : decode cX4_append 10 = .ok (.iconst 0, 1) := by decide +kernel
theorem dX4_append_11 : decode cX4_append 11 = .ok (.ireturn, 1) := by decide +kernel
theorem dX4_append_12 : decode cX4_append 12 = .ok (.aload_n 0, 1) := by decide +kernel
theorem dX4_append_13 : decode cX4_append 13 = .ok (.getfield 15, 3) := by decide +kernel
theorem dX4_append_16 : decode cX4_append 16 = .ok (.aload_n 0, 1) := by decide +kernel
theorem dX4_append_17 : decode cX4_append 17 = .ok (.getfield 9, 3) := by decide +kernel
theorem dX4_append_20 : decode cX4_append 20 = .ok (.iload_n 1, 1) := by decide +kernel
theorem dX4_append_21 : decode cX4_append 21 = .ok (.iastore, 1) := by decide +kernel
theorem dX4_append_22 : decode cX4_append 22 = .ok (.aload_n 0, 1) := by decide +kernel
theorem dX4_append_23 : decode cX4_append 23 = .ok (.dup, 1) := by decide +kernel
theorem dX4_append_24 : decode cX4_append 24 = .ok (.getfield 9, 3) := by decide +kernel
theorem dX4_append_27 : decode cX4_append 27 = .ok (.iconst 1, 1) := by decide +kernel
theorem dX4_append_28 : decode cX4_append 28 = .ok (.iadd, 1) := by decide +kernel
theorem dX4_append_29 : decode cX4_append 29 = .ok (.putfield 9, 3) := by decide +kernel
theorem dX4_append_32 : decode cX4_append 32 = .ok (.iconst 1, 1) := by decide +kernel
theorem dX4_append_33 : decode cX4_append 33 = .ok (.ireturn, 1) := by decide +kernel
theorem dX4_readInto_0 : decode cX4_readInto 0 = .ok (.aload_n 1, 1) := by decide +kernel
theorem dX4_readInto_1 : decode cX4_readInto 1 = .ok (.invokevirtual 44, 3) := by decide +kernel
theorem dX4_readInto_4 : decode cX4_readInto 4 = .ok (.aload_n 0, 1) := by decide +kernel
theorem dX4_readInto_5 : decode cX4_readInto 5 = .ok (.iconst 0, 1) := by decide +kernel
theorem dX4_readInto_6 : decode cX4_readInto 6 = .ok (.putfield 25, 3) := by decide +kernel
theorem dX4_readInto_9 : decode cX4_readInto 9 = .ok (.aload_n 0, 1) := by decide +kernel
theorem dX4_readInto_10 : decode cX4_readInto 10 = .ok (.iconst 0, 1) := by decide +kernel
theorem dX4_readInto_11 : decode cX4_readInto 11 = .ok (.putfield 34, 3) := by decide +kernel
theorem dX4_readInto_14 : decode cX4_readInto 14 = .ok (.aload_n 0, 1) := by decide +kernel
theorem dX4_readInto_15 : decode cX4_readInto 15 = .ok (.iconst 0, 1) := by decide +kernel
theorem dX4_readInto_16 : decode cX4_readInto 16 = .ok (.putfield 38, 3) := by decide +kernel
theorem dX4_readInto_19 : decode cX4_readInto 19 = .ok (.aload_n 0, 1) := by decide +kernel
theorem dX4_readInto_20 : decode cX4_readInto 20 = .ok (.iconst 0, 1) := by decide +kernel
theorem dX4_readInto_21 : decode cX4_readInto 21 = .ok (.putfield 41, 3) := by decide +kernel
theorem dX4_readInto_24 : decode cX4_readInto 24 = .ok (.iconst 0, 1) := by decide +kernel
theorem dX4_readInto_25 : decode cX4_readInto 25 = .ok (.istore_n 2, 1) := by decide +kernel
theorem dX4_readInto_26 : decode cX4_readInto 26 = .ok (.iload_n 2, 1) := by decide +kernel
theorem dX4_readInto_27 : decode cX4_readInto 27 = .ok (.sipush 200, 3) := by decide +kernel
theorem dX4_readInto_30 : decode cX4_readInto 30 = .ok (.if_icmp .gt 33, 3) := by decide +kernel
theorem dX4_readInto_33 : decode cX4_readInto 33 = .ok (.aload_n 0, 1) := by decide +kernel
theorem dX4_readInto_34 : decode cX4_readInto 34 = .ok (.invokevirtual 49, 3) := by decide +kernel
theorem dX4_readInto_37 : decode cX4_readInto 37 = .ok (.aload_n 0, 1) := by decide +kernel
theorem dX4_readInto_38 : decode cX4_readInto 38 = .ok (.getfield 19, 3) := by decide +kernel
theorem dX4_readInto_41 : decode cX4_readInto 41 = .ok (.ifCond .ne 5, 3) := by decide +kernel
theorem dX4_readInto_44 : decode cX4_readInto 44 = .ok (.iload_n 2, 1) := by decide +kernel
theorem dX4_readInto_45 : decode cX4_readInto 45 = .ok (.ireturn, 1) := by decide +kernel
theorem dX4_readInto_46 : decode cX4_readInto 46 = .ok (.aload_n 0, 1) := by decide +kernel
theorem dX4_readInto_47 : decode cX4_readInto 47 = .ok (.aload_n 1, 1) := by decide +kernel
theorem dX4_readInto_48 : decode cX4_readInto 48 = .ok (.invokevirtual 52, 3) := by decide +kernel
theorem dX4_readInto_51 : decode cX4_readInto 51 = .ok (.ifCond .ne 6, 3) := by decide +kernel
theorem dX4_readInto_54 : decode cX4_readInto 54 = .ok (.goto 9, 3) := by decide +kernel
theorem dX4_readInto_57 : decode cX4_readInto 57 = .ok (.iinc 2 1, 3) := by decide +kernel
theorem dX4_readInto_60 : decode cX4_readInto 60 = .ok (.goto (-34), 3) := by decide +kernel
theorem dX4_readInto_63 : decode cX4_readInto 63 = .ok (.bipush (-10), 2) := by decide +kernel
theorem dX4_readInto_65 : decode cX4_readInto 65 = .ok (.aload_n 0, 1) := by decide +kernel
theorem dX4_readInto_66 : decode cX4_readInto 66 = .ok (.getfield 22, 3) := by decide +kernel
theorem dX4_readInto_69 : decode cX4_readInto 69 = .ok (.isub, 1) := by decide +kernel
theorem dX4_readInto_70 : decode cX4_readInto 70 = .ok (.ireturn, 1) := by decide +kernel
theorem dX4_readItem_0 : decode cX4_readItem 0 = .ok (.aload_n 0, 1) := by decide +kernel
theorem dX4_readItem_1 : decode cX4_readItem 1 = .ok (.getfield 19, 3) := by decide +kernel
theorem dX4_readItem_4 : decode cX4_readItem 4 = .ok (.istore_n 2, 1) := by decide +kernel
theorem dX4_readItem_5 : decode cX4_readItem 5 = .ok (.aload_n 0, 1) := by decide +kernel
theorem dX4_readItem_6 : decode cX4_readItem 6 = .ok (.iload_n 2, 1) := by decide +kernel
theorem dX4_readItem_7 : decode cX4_readItem 7 = .ok (.aload_n 1, 1) := by decide +kernel
theorem dX4_readItem_8 : decode cX4_readItem 8 = .ok (.invokevirtual 56, 3) := by decide +kernel
theorem dX4_readItem_11 : decode cX4_readItem 11 = .ok (.ifCond .ne 5, 3) := by decide +kernel
theorem dX4_readItem_14 : decode cX4_readItem 14 = .ok (.iconst 0, 1) := by decide +kernel
theorem dX4_readItem_15 : decode cX4_readItem 15 = .ok (.ireturn, 1) := by decide +kernel
theorem dX4_readItem_16 : decode cX4_readItem 16 = .ok (.iload_n 2, 1) := by decide +kernel
theorem dX4_readItem_17 : decode cX4_readItem 17 = .ok (.bipush 107, 2) := by decide +kernel
theorem dX4_readItem_19 : decode cX4_readItem 19 = .ok (.if_icmp .ne 7, 3) := by decide +kernel
theorem dX4_readItem_22 : decode cX4_readItem 22 = .ok (.iconst 3, 1) := by decide +kernel
theorem dX4_readItem_23 : decode cX4_readItem 23 = .ok (.goto 14, 3) := by decide +kernel
theorem dX4_readItem_26 : decode cX4_readItem 26 = .ok (.iload_n 2, 1) := by decide +kernel
theorem dX4_readItem_27 : decode cX4_readItem 27 = .ok (.bipush 116, 2) := by decide +kernel
theorem dX4_readItem_29 : decode cX4_readItem 29 = .ok (.if_icmp .ne 7, 3) := by decide +kernel
theorem dX4_readItem_32 : decode cX4_readItem 32 = .ok (.iconst 2, 1) := by decide +kernel
theorem dX4_readItem_33 : decode cX4_readItem 33 = .ok (.goto 4, 3) := by decide +kernel
theorem dX4_readItem_36 : decode cX4_readItem 36 = .ok (.iconst 1, 1) := by decide +kernel
theorem dX4_readItem_37 : decode cX4_readItem 37 = .ok (.istore_n 3, 1) := by decide +kernel
theorem dX4_readItem_38 : decode cX4_readItem 38 = .ok (.iconst 0, 1) := by decide +kernel
theorem dX4_readItem_39 : decode cX4_readItem 39 = .ok (.istore 4, 2) := by decide +kernel
theorem dX4_readItem_41 : decode cX4_readItem 41 = .ok (.iload 4, 2) := by decide +kernel
theorem dX4_readItem_43 : decode cX4_readItem 43 = .ok (.iload_n 3, 1) := by decide +kernel
theorem dX4_readItem_44 : decode cX4_readItem 44 = .ok (.if_icmp .ge 44, 3) := by decide +kernel
theorem dX4_readItem_47 : decode cX4_readItem 47 = .ok (.aload_n 0, 1) := by decide +kernel
theorem dX4_readItem_48 : decode cX4_readItem 48 = .ok (.invokevirtual 49, 3) := by decide +kernel
theorem dX4_readItem_51 : decode cX4_readItem 51 = .ok (.aload_n 0, 1) := by decide +kernel
theorem dX4_readItem_52 : decode cX4_readItem 52 = .ok (.getfield 19, 3) := by decide +kernel
theorem dX4_readItem_55 : decode cX4_readItem 55 = .ok (.iconst 1, 1) := by decide +kernel
theorem dX4_readItem_56 : decode cX4_readItem 56 = .ok (.if_icmp .ne 13, 3) := by decide +kernel
theorem dX4_readItem_59 : decode cX4_readItem 59 = .ok (.aload_n 0, 1) := by decide +kernel
theorem dX4_readItem_60 : decode cX4_readItem 60 = .ok (.iload_n 2, 1) := by decide +kernel
theorem dX4_readItem_61 : decode cX4_readItem 61 = .ok (.iload 4, 2) := by decide +kernel
theorem dX4_readItem_63 : decode cX4_readItem 63 = .ok (.invokevirtual 60, 3) := by decide +kernel
theorem dX4_readItem_66 : decode cX4_readItem 66 = .ok (.ifCond .ne 5, 3) := by decide +kernel
theorem dX4_readItem_69 : decode cX4_readItem 69 = .ok (.iconst 0, 1) := by decide +kernel
theorem dX4_readItem_70 : decode cX4_readItem 70 = .ok (.ireturn, 1) := by decide +kernel
theorem dX4_readItem_71 : decode cX4_readItem 71 = .ok (.aload_n 0, 1) := by decide +kernel
theorem dX4_readItem_72 : decode cX4_readItem 72 = .ok (.getfield 31, 3) := by decide +kernel
theorem dX4_readItem_75 : decode cX4_readItem 75 = .ok (.iload 4, 2) := by decide +kernel
theorem dX4_readItem_77 : decode cX4_readItem 77 = .ok (.aload_n 0, 1) := by decide +kernel
theorem dX4_readItem_78 : decode cX4_readItem 78 = .ok (.getfield 28, 3) := by decide +kernel
theorem dX4_readItem_81 : decode cX4_readItem 81 = .ok (.iastore, 1) := by decide +kernel
theorem dX4_readItem_82 : decode cX4_readItem 82 = .ok (.iinc 4 1, 3) := by decide +kernel
theorem dX4_readItem_85 : decode cX4_readItem 85 = .ok (.goto (-44), 3) := by decide +kernel
theorem dX4_readItem_88 : decode cX4_readItem 88 = .ok (.aload_n 0, 1) := by decide +kernel
theorem dX4_readItem_89 : decode cX4_readItem 89 = .ok (.invokevirtual 49, 3) := by decide +kernel
theorem dX4_readItem_92 : decode cX4_readItem 92 = .ok (.aload_n 0, 1) := by decide +kernel
theorem dX4_readItem_93 : decode cX4_readItem 93 = .ok (.getfield 19, 3) := by decide +kernel
theorem dX4_readItem_96 : decode cX4_readItem 96 = .ok (.bipush 59, 2) := by decide +kernel
theorem dX4_readItem_98 : decode cX4_readItem 98 = .ok (.if_icmp .eq 5, 3) := by decide +kernel
theorem dX4_readItem_101 : decode cX4_readItem 101 = .ok (.iconst 0, 1) := by decide +kernel
theorem dX4_readItem_102 : decode cX4_readItem 102 = .ok (.ireturn, 1) := by decide +kernel
theorem dX4_readItem_103 : decode cX4_readItem 103 = .ok (.aload_n 0, 1) := by decide +kernel
theorem dX4_readItem_104 : decode cX4_readItem 104 = .ok (.iload_n 2, 1) := by decide +kernel
theorem dX4_readItem_105 : decode cX4_readItem 105 = .ok (.aload_n 1, 1) := by decide +kernel
theorem dX4_readItem_106 : decode cX4_readItem 106 = .ok (.invokevirtual 64, 3) := by decide +kernel
theorem dX4_readItem_109 : decode cX4_readItem 109 = .ok (.iconst 1, 1) := by decide +kernel
theorem dX4_readItem_110 : decode cX4_readItem 110 = .ok (.ireturn, 1) := by decide +kernel
theorem dX4_mayBegin_0 : decode cX4_mayBegin 0 = .ok (.iload_n 1, 1) := by decide +kernel
theorem dX4_mayBegin_1 : decode cX4_mayBegin 1 = .ok (.lookupswitch 119 #[(98, 77), (107, 105), (113, 51), (114, 64), (116, 90)], 51) := by decide +kernel
theorem dX4_mayBegin_52 : decode cX4_mayBegin 52 = .ok (.aload_n 0, 1) := by decide +kernel
theorem dX4_mayBegin_53 : decode cX4_mayBegin 53 = .ok (.getfield 34, 3) := by decide +kernel
theorem dX4_mayBegin_56 : decode cX4_mayBegin 56 = .ok (.ifCond .ne 7, 3) := by decide +kernel
theorem dX4_mayBegin_59 : decode cX4_mayBegin 59 = .ok (.iconst 1, 1) := by decide +kernel
theorem dX4_mayBegin_60 : decode cX4_mayBegin 60 = .ok (.goto 4, 3) := by decide +kernel
theorem dX4_mayBegin_63 : decode cX4_mayBegin 63 = .ok (.iconst 0, 1) := by decide +kernel
theorem dX4_mayBegin_64 : decode cX4_mayBegin 64 = .ok (.ireturn, 1) := by decide +kernel
theorem dX4_mayBegin_65 : decode cX4_mayBegin 65 = .ok (.aload_n 0, 1) := by decide +kernel
theorem dX4_mayBegin_66 : decode cX4_mayBegin 66 = .ok (.getfield 38, 3) := by decide +kernel
theorem dX4_mayBegin_69 : decode cX4_mayBegin 69 = .ok (.ifCond .ne 7, 3) := by decide +kernel
theorem dX4_mayBegin_72 : decode cX4_mayBegin 72 = .ok (.iconst 1, 1) := by decide +kernel
theorem dX4_mayBegin_73 : decode cX4_mayBegin 73 = .ok (.goto 4, 3) := by decide +kernel
theorem dX4_mayBegin_76 : decode cX4_mayBegin 76 = .ok (.iconst 0, 1) := by decide +kernel
theorem dX4_mayBegin_77 : decode cX4_mayBegin 77 = .ok (.ireturn, 1) := by decide +kernel
theorem dX4_mayBegin_78 : decode cX4_mayBegin 78 = .ok (.aload_n 0, 1) := by decide +kernel
theorem dX4_mayBegin_79 : decode cX4_mayBegin 79 = .ok (.getfield 41, 3) := by decide +kernel
theorem dX4_mayBegin_82 : decode cX4_mayBegin 82 = .ok (.ifCond .ne 7, 3) := by decide +kernel
theorem dX4_mayBegin_85 : decode cX4_mayBegin 85 = .ok (.iconst 1, 1) := by decide +kernel
theorem dX4_mayBegin_86 : decode cX4_mayBegin 86 = .ok (.goto 4, 3) := by decide +kernel
theorem dX4_mayBegin_89 : decode cX4_mayBegin 89 = .ok (.iconst 0, 1) := by decide +kernel
theorem dX4_mayBegin_90 : decode cX4_mayBegin 90 = .ok (.ireturn, 1) := by decide +kernel
theorem dX4_mayBegin_91 : decode cX4_mayBegin 91 = .ok (.aload_n 2, 1) := by decide +kernel
theorem dX4_mayBegin_92 : decode cX4_mayBegin 92 = .ok (.getfield 68, 3) := by decide +kernel
theorem dX4_mayBegin_95 : decode cX4_mayBegin 95 = .ok (.bipush 6, 2) := by decide +kernel
theorem dX4_mayBegin_97 : decode cX4_mayBegin 97 = .ok (.if_icmp .ge 7, 3) := by decide +kernel
theorem dX4_mayBegin_100 : decode cX4_mayBegin 100 = .ok (.iconst 1, 1) := by decide +kernel
theorem dX4_mayBegin_101 : decode cX4_mayBegin 101 = .ok (.goto 4, 3) := by decide +kernel
theorem dX4_mayBegin_104 : decode cX4_mayBegin 104 = .ok (.iconst 0, 1) := by decide +kernel
theorem dX4_mayBegin_105 : decode cX4_mayBegin 105 = .ok (.ireturn, 1) := by decide +kernel
theorem dX4_mayBegin_106 : decode cX4_mayBegin 106 = .ok (.aload_n 2, 1) := by decide +kernel
theorem dX4_mayBegin_107 : decode cX4_mayBegin 107 = .ok (.getfield 71, 3) := by decide +kernel
theorem dX4_mayBegin_110 : decode cX4_mayBegin 110 = .ok (.iconst 4, 1) := by decide +kernel
theorem dX4_mayBegin_111 : decode cX4_mayBegin 111 = .ok (.if_icmp .ge 7, 3) := by decide +kernel
theorem dX4_mayBegin_114 : decode cX4_mayBegin 114 = .ok (.iconst 1, 1) := by decide +kernel
theorem dX4_mayBegin_115 : decode cX4_mayBegin 115 = .ok (.goto 4, 3) := by decide +kernel
theorem dX4_mayBegin_118 : decode cX4_mayBegin 118 = .ok (.iconst 0, 1) := by decide +kernel
theorem dX4_mayBegin_119 : decode cX4_mayBegin 119 = .ok (.ireturn, 1) := by decide +kernel
theorem dX4_mayBegin_120 : decode cX4_mayBegin 120 = .ok (.iconst 0, 1) := by decide +kernel
theorem dX4_mayBegin_121 : decode cX4_mayBegin 121 = .ok (.ireturn, 1) := by decide +kernel
theorem dX4_fits_0 : decode cX4_fits 0 = .ok (.iload_n 1, 1) := by decide +kernel
theorem dX4_fits_1 : decode cX4_fits 1 = .ok (.lookupswitch 135 #[(98, 88), (113, 43), (114, 66), (116, 111)], 43) := by decide +kernel
theorem dX4_fits_44 : decode cX4_fits 44 = .ok (.aload_n 0, 1) := by decide +kernel
theorem dX4_fits_45 : decode cX4_fits 45 = .ok (.getfield 28, 3) := by decide +kernel
theorem dX4_fits_48 : decode cX4_fits 48 = .ok (.iconst 1, 1) := by decide +kernel
theorem dX4_fits_49 : decode cX4_fits 49 = .ok (.if_icmp .lt 16, 3) := by decide +kernel
theorem dX4_fits_52 : decode cX4_fits 52 = .ok (.aload_n 0, 1) := by decide +kernel
theorem dX4_fits_53 : decode cX4_fits 53 = .ok (.getfield 28, 3) := by decide +kernel
theorem dX4_fits_56 : decode cX4_fits 56 = .ok (.bipush 40, 2) := by decide +kernel
theorem dX4_fits_58 : decode cX4_fits 58 = .ok (.if_icmp .gt 7, 3) := by decide +kernel
theorem dX4_fits_61 : decode cX4_fits 61 = .ok (.iconst 1, 1) := by decide +kernel
theorem dX4_fits_62 : decode cX4_fits 62 = .ok (.goto 4, 3) := by decide +kernel
theorem dX4_fits_65 : decode cX4_fits 65 = .ok (.iconst 0, 1) := by decide +kernel
theorem dX4_fits_66 : decode cX4_fits 66 = .ok (.ireturn, 1) := by decide +kernel
theorem dX4_fits_67 : decode cX4_fits 67 = .ok (.aload_n 0, 1) := by decide +kernel
theorem dX4_fits_68 : decode cX4_fits 68 = .ok (.getfield 28, 3) := by decide +kernel
theorem dX4_fits_71 : decode cX4_fits 71 = .ok (.iconst 1, 1) := by decide +kernel
theorem dX4_fits_72 : decode cX4_fits 72 = .ok (.if_icmp .lt 15, 3) := by decide +kernel
theorem dX4_fits_75 : decode cX4_fits 75 = .ok (.aload_n 0, 1) := by decide +kernel
theorem dX4_fits_76 : decode cX4_fits 76 = .ok (.getfield 28, 3) := by decide +kernel
theorem dX4_fits_79 : decode cX4_fits 79 = .ok (.iconst 3, 1) := by decide +kernel
theorem dX4_fits_80 : decode cX4_fits 80 = .ok (.if_icmp .gt 7, 3) := by decide +kernel
theorem dX4_fits_83 : decode cX4_fits 83 = .ok (.iconst 1, 1) := by decide +kernel
theorem dX4_fits_84 : decode cX4_fits 84 = .ok (.goto 4, 3) := by decide +kernel
theorem dX4_fits_87 : decode cX4_fits 87 = .ok (.iconst 0, 1) := by decide +kernel
theorem dX4_fits_88 : decode cX4_fits 88 = .ok (.ireturn, 1) := by decide +kernel
theorem dX4_fits_89 : decode cX4_fits 89 = .ok (.aload_n 0, 1) := by decide +kernel
theorem dX4_fits_90 : decode cX4_fits 90 = .ok (.getfield 28, 3) := by decide +kernel
theorem dX4_fits_93 : decode cX4_fits 93 = .ok (.iconst 1, 1) := by decide +kernel
theorem dX4_fits_94 : decode cX4_fits 94 = .ok (.if_icmp .lt 16, 3) := by decide +kernel
theorem dX4_fits_97 : decode cX4_fits 97 = .ok (.aload_n 0, 1) := by decide +kernel
theorem dX4_fits_98 : decode cX4_fits 98 = .ok (.getfield 28, 3) := by decide +kernel
theorem dX4_fits_101 : decode cX4_fits 101 = .ok (.bipush 9, 2) := by decide +kernel
theorem dX4_fits_103 : decode cX4_fits 103 = .ok (.if_icmp .gt 7, 3) := by decide +kernel
theorem dX4_fits_106 : decode cX4_fits 106 = .ok (.iconst 1, 1) := by decide +kernel
theorem dX4_fits_107 : decode cX4_fits 107 = .ok (.goto 4, 3) := by decide +kernel
theorem dX4_fits_110 : decode cX4_fits 110 = .ok (.iconst 0, 1) := by decide +kernel
theorem dX4_fits_111 : decode cX4_fits 111 = .ok (.ireturn, 1) := by decide +kernel
theorem dX4_fits_112 : decode cX4_fits 112 = .ok (.aload_n 0, 1) := by decide +kernel
theorem dX4_fits_113 : decode cX4_fits 113 = .ok (.getfield 28, 3) := by decide +kernel
theorem dX4_fits_116 : decode cX4_fits 116 = .ok (.iload_n 2, 1) := by decide +kernel
theorem dX4_fits_117 : decode cX4_fits 117 = .ok (.ifCond .ne 8, 3) := by decide +kernel
theorem dX4_fits_120 : decode cX4_fits 120 = .ok (.bipush 40, 2) := by decide +kernel
theorem dX4_fits_122 : decode cX4_fits 122 = .ok (.goto 5, 3) := by decide +kernel
theorem dX4_fits_125 : decode cX4_fits 125 = .ok (.bipush 10, 2) := by decide +kernel
theorem dX4_fits_127 : decode cX4_fits 127 = .ok (.if_icmp .gt 7, 3) := by decide +kernel
theorem dX4_fits_130 : decode cX4_fits 130 = .ok (.iconst 1, 1) := by decide +kernel
theorem dX4_fits_131 : decode cX4_fits 131 = .ok (.goto 4, 3) := by decide +kernel
theorem dX4_fits_134 : decode cX4_fits 134 = .ok (.iconst 0, 1) := by decide +kernel
theorem dX4_fits_135 : decode cX4_fits 135 = .ok (.ireturn, 1) := by decide +kernel
theorem dX4_fits_136 : decode cX4_fits 136 = .ok (.iload_n 2, 1) := by decide +kernel
theorem dX4_fits_137 : decode cX4_fits 137 = .ok (.ifCond .ne 21, 3) := by decide +kernel
theorem dX4_fits_140 : decode cX4_fits 140 = .ok (.aload_n 0, 1) := by decide +kernel
theorem dX4_fits_141 : decode cX4_fits 141 = .ok (.getfield 28, 3) := by decide +kernel
theorem dX4_fits_144 : decode cX4_fits 144 = .ok (.sipush 1023, 3) := by decide +kernel
theorem dX4_fits_147 : decode cX4_fits 147 = .ok (.if_icmp .gt 7, 3) := by decide +kernel
theorem dX4_fits_150 : decode cX4_fits 150 = .ok (.iconst 1, 1) := by decide +kernel
theorem dX4_fits_151 : decode cX4_fits 151 = .ok (.goto 33, 3) := by decide +kernel
theorem dX4_fits_154 : decode cX4_fits 154 = .ok (.iconst 0, 1) := by decide +kernel
theorem dX4_fits_155 : decode cX4_fits 155 = .ok (.goto 29, 3) := by decide +kernel
theorem dX4_fits_158 : decode cX4_fits 158 = .ok (.iload_n 2, 1) := by decide +kernel
theorem dX4_fits_159 : decode cX4_fits 159 = .ok (.iconst 1, 1) := by decide +kernel
theorem dX4_fits_160 : decode cX4_fits 160 = .ok (.if_icmp .ne 20, 3) := by decide +kernel
theorem dX4_fits_163 : decode cX4_fits 163 = .ok (.aload_n 0, 1) := by decide +kernel
theorem dX4_fits_164 : decode cX4_fits 164 = .ok (.getfield 28, 3) := by decide +kernel
theorem dX4_fits_167 : decode cX4_fits 167 = .ok (.bipush 10, 2) := by decide +kernel
theorem dX4_fits_169 : decode cX4_fits 169 = .ok (.if_icmp .gt 7, 3) := by decide +kernel
theorem dX4_fits_172 : decode cX4_fits 172 = .ok (.iconst 1, 1) := by decide +kernel
theorem dX4_fits_173 : decode cX4_fits 173 = .ok (.goto 11, 3) := by decide +kernel
theorem dX4_fits_176 : decode cX4_fits 176 = .ok (.iconst 0, 1) := by decide +kernel
theorem dX4_fits_177 : decode cX4_fits 177 = .ok (.goto 7, 3) := by decide +kernel
theorem dX4_fits_180 : decode cX4_fits 180 = .ok (.aload_n 0, 1) := by decide +kernel
theorem dX4_fits_181 : decode cX4_fits 181 = .ok (.invokevirtual 74, 3) := by decide +kernel
theorem dX4_fits_184 : decode cX4_fits 184 = .ok (.ireturn, 1) := by decide +kernel
theorem dX4_goesWithM_0 : decode cX4_goesWithM 0 = .ok (.aload_n 0, 1) := by decide +kernel
theorem dX4_goesWithM_1 : decode cX4_goesWithM 1 = .ok (.getfield 31, 3) := by decide +kernel
theorem dX4_goesWithM_4 : decode cX4_goesWithM 4 = .ok (.iconst 1, 1) := by decide +kernel
theorem dX4_goesWithM_5 : decode cX4_goesWithM 5 = .ok (.iaload, 1) := by decide +kernel
theorem dX4_goesWithM_6 : decode cX4_goesWithM 6 = .ok (.istore_n 1, 1) := by decide +kernel
theorem dX4_goesWithM_7 : decode cX4_goesWithM 7 = .ok (.iload_n 1, 1) := by decide +kernel
theorem dX4_goesWithM_8 : decode cX4_goesWithM 8 = .ok (.bipush 10, 2) := by decide +kernel
theorem dX4_goesWithM_10 : decode cX4_goesWithM 10 = .ok (.if_icmp .ne 20, 3) := by decide +kernel
theorem dX4_goesWithM_13 : decode cX4_goesWithM 13 = .ok (.aload_n 0, 1) := by decide +kernel
theorem dX4_goesWithM_14 : decode cX4_goesWithM 14 = .ok (.getfield 28, 3) := by decide +kernel
theorem dX4_goesWithM_17 : decode cX4_goesWithM 17 = .ok (.bipush 10, 2) := by decide +kernel
theorem dX4_goesWithM_19 : decode cX4_goesWithM 19 = .ok (.if_icmp .ne 7, 3) := by decide +kernel
theorem dX4_goesWithM_22 : decode cX4_goesWithM 22 = .ok (.iconst 1, 1) := by decide +kernel
theorem dX4_goesWithM_23 : decode cX4_goesWithM 23 = .ok (.goto 29, 3) := by decide +kernel
theorem dX4_goesWithM_26 : decode cX4_goesWithM 26 = .ok (.iconst 0, 1) := by decide +kernel
theorem dX4_goesWithM_27 : decode cX4_goesWithM 27 = .ok (.goto 25, 3) := by decide +kernel
theorem dX4_goesWithM_30 : decode cX4_goesWithM 30 = .ok (.aload_n 0, 1) := by decide +kernel
theorem dX4_goesWithM_31 : decode cX4_goesWithM 31 = .ok (.getfield 28, 3) := by decide +kernel
theorem dX4_goesWithM_34 : decode cX4_goesWithM 34 = .ok (.bipush 10, 2) := by decide +kernel
theorem dX4_goesWithM_36 : decode cX4_goesWithM 36 = .ok (.if_icmp .ge 15, 3) := by decide +kernel
theorem dX4_goesWithM_39 : decode cX4_goesWithM 39 = .ok (.aload_n 0, 1) := by decide +kernel
theorem dX4_goesWithM_40 : decode cX4_goesWithM 40 = .ok (.getfield 28, 3) := by decide +kernel
theorem dX4_goesWithM_43 : decode cX4_goesWithM 43 = .ok (.iload_n 1, 1) := by decide +kernel
theorem dX4_goesWithM_44 : decode cX4_goesWithM 44 = .ok (.if_icmp .eq 7, 3) := by decide +kernel
theorem dX4_goesWithM_47 : decode cX4_goesWithM 47 = .ok (.iconst 1, 1) := by decide +kernel
theorem dX4_goesWithM_48 : decode cX4_goesWithM 48 = .ok (.goto 4, 3) := by decide +kernel
theorem dX4_goesWithM_51 : decode cX4_goesWithM 51 = .ok (.iconst 0, 1) := by decide +kernel
theorem dX4_goesWithM_52 : decode cX4_goesWithM 52 = .ok (.ireturn, 1) := by decide +kernel
theorem dX4_tell_0 : decode cX4_tell 0 = .ok (.iload_n 1, 1) := by decide +kernel
theorem dX4_tell_1 : decode cX4_tell 1 = .ok (.lookupswitch 116 #[(98, 79), (113, 43), (114, 61), (116, 97)], 43) := by decide +kernel
theorem dX4_tell_44 : decode cX4_tell 44 = .ok (.aload_n 2, 1) := by decide +kernel
theorem dX4_tell_45 : decode cX4_tell 45 = .ok (.aload_n 0, 1) := by decide +kernel
theorem dX4_tell_46 : decode cX4_tell 46 = .ok (.getfield 31, 3) := by decide +kernel
theorem dX4_tell_49 : decode cX4_tell 49 = .ok (.iconst 0, 1) := by decide +kernel
theorem dX4_tell_50 : decode cX4_tell 50 = .ok (.iaload, 1) := by decide +kernel
theorem dX4_tell_51 : decode cX4_tell 51 = .ok (.putfield 78, 3) := by decide +kernel
theorem dX4_tell_54 : decode cX4_tell 54 = .ok (.aload_n 0, 1) := by decide +kernel
theorem dX4_tell_55 : decode cX4_tell 55 = .ok (.iconst 1, 1) := by decide +kernel
theorem dX4_tell_56 : decode cX4_tell 56 = .ok (.putfield 34, 3) := by decide +kernel
theorem dX4_tell_59 : decode cX4_tell 59 = .ok (.goto 80, 3) := by decide +kernel
theorem dX4_tell_62 : decode cX4_tell 62 = .ok (.aload_n 2, 1) := by decide +kernel
theorem dX4_tell_63 : decode cX4_tell 63 = .ok (.aload_n 0, 1) := by decide +kernel
theorem dX4_tell_64 : decode cX4_tell 64 = .ok (.getfield 31, 3) := by decide +kernel
theorem dX4_tell_67 : decode cX4_tell 67 = .ok (.iconst 0, 1) := by decide +kernel
theorem dX4_tell_68 : decode cX4_tell 68 = .ok (.iaload, 1) := by decide +kernel
theorem dX4_tell_69 : decode cX4_tell 69 = .ok (.putfield 81, 3) := by decide +kernel
theorem dX4_tell_72 : decode cX4_tell 72 = .ok (.aload_n 0, 1) := by decide +kernel
theorem dX4_tell_73 : decode cX4_tell 73 = .ok (.iconst 1, 1) := by decide +kernel
theorem dX4_tell_74 : decode cX4_tell 74 = .ok (.putfield 38, 3) := by decide +kernel
theorem dX4_tell_77 : decode cX4_tell 77 = .ok (.goto 62, 3) := by decide +kernel
theorem dX4_tell_80 : decode cX4_tell 80 = .ok (.aload_n 2, 1) := by decide +kernel
theorem dX4_tell_81 : decode cX4_tell 81 = .ok (.aload_n 0, 1) := by decide +kernel
theorem dX4_tell_82 : decode cX4_tell 82 = .ok (.getfield 31, 3) := by decide +kernel
theorem dX4_tell_85 : decode cX4_tell 85 = .ok (.iconst 0, 1) := by decide +kernel
theorem dX4_tell_86 : decode cX4_tell 86 = .ok (.iaload, 1) := by decide +kernel
theorem dX4_tell_87 : decode cX4_tell 87 = .ok (.putfield 84, 3) := by decide +kernel
theorem dX4_tell_90 : decode cX4_tell 90 = .ok (.aload_n 0, 1) := by decide +kernel
theorem dX4_tell_91 : decode cX4_tell 91 = .ok (.iconst 1, 1) := by decide +kernel
theorem dX4_tell_92 : decode cX4_tell 92 = .ok (.putfield 41, 3) := by decide +kernel
theorem dX4_tell_95 : decode cX4_tell 95 = .ok (.goto 44, 3) := by decide +kernel
theorem dX4_tell_98 : decode cX4_tell 98 = .ok (.aload_n 2, 1) := by decide +kernel
theorem dX4_tell_99 : decode cX4_tell 99 = .ok (.aload_n 0, 1) := by decide +kernel
theorem dX4_tell_100 : decode cX4_tell 100 = .ok (.getfield 31, 3) := by decide +kernel
theorem dX4_tell_103 : decode cX4_tell 103 = .ok (.iconst 0, 1) := by decide +kernel
theorem dX4_tell_104 : decode cX4_tell 104 = .ok (.iaload, 1) := by decide +kernel
theorem dX4_tell_105 : decode cX4_tell 105 = .ok (.aload_n 0, 1) := by decide +kernel
theorem dX4_tell_106 : decode cX4_tell 106 = .ok (.getfield 31, 3) := by decide +kernel
theorem dX4_tell_109 : decode cX4_tell 109 = .ok (.iconst 1, 1) := by decide +kernel
theorem dX4_tell_110 : decode cX4_tell 110 = .ok (.iaload, 1) := by decide +kernel
theorem dX4_tell_111 : decode cX4_tell 111 = .ok (.invokevirtual 87, 3) := by decide +kernel
theorem dX4_tell_114 : decode cX4_tell 114 = .ok (.goto 25, 3) := by decide +kernel
theorem dX4_tell_117 : decode cX4_tell 117 = .ok (.aload_n 2, 1) := by decide +kernel
theorem dX4_tell_118 : decode cX4_tell 118 = .ok (.aload_n 0, 1) := by decide +kernel
theorem dX4_tell_119 : decode cX4_tell 119 = .ok (.getfield 31, 3) := by decide +kernel
theorem dX4_tell_122 : decode cX4_tell 122 = .ok (.iconst 0, 1) := by decide +kernel
theorem dX4_tell_123 : decode cX4_tell 123 = .ok (.iaload, 1) := by decide +kernel
theorem dX4_tell_124 : decode cX4_tell 124 = .ok (.aload_n 0, 1) := by decide +kernel
theorem dX4_tell_125 : decode cX4_tell 125 = .ok (.getfield 31, 3) := by decide +kernel
theorem dX4_tell_128 : decode cX4_tell 128 = .ok (.iconst 1, 1) := by decide +kernel
theorem dX4_tell_129 : decode cX4_tell 129 = .ok (.iaload, 1) := by decide +kernel
theorem dX4_tell_130 : decode cX4_tell 130 = .ok (.aload_n 0, 1) := by decide +kernel
theorem dX4_tell_131 : decode cX4_tell 131 = .ok (.getfield 31, 3) := by decide +kernel
theorem dX4_tell_134 : decode cX4_tell 134 = .ok (.iconst 2, 1) := by decide +kernel
theorem dX4_tell_135 : decode cX4_tell 135 = .ok (.iaload, 1) := by decide +kernel
theorem dX4_tell_136 : decode cX4_tell 136 = .ok (.invokevirtual 91, 3) := by decide +kernel
theorem dX4_tell_139 : decode cX4_tell 139 = .ok (.return_, 1) := by decide +kernel
theorem dX4_nextToken_0 : decode cX4_nextToken 0 = .ok (.aload_n 0, 1) := by decide +kernel
theorem dX4_nextToken_1 : decode cX4_nextToken 1 = .ok (.aload_n 0, 1) := by decide +kernel
theorem dX4_nextToken_2 : decode cX4_nextToken 2 = .ok (.getfield 25, 3) := by decide +kernel
theorem dX4_nextToken_5 : decode cX4_nextToken 5 = .ok (.putfield 22, 3) := by decide +kernel
theorem dX4_nextToken_8 : decode cX4_nextToken 8 = .ok (.aload_n 0, 1) := by decide +kernel
theorem dX4_nextToken_9 : decode cX4_nextToken 9 = .ok (.getfield 22, 3) := by decide +kernel
theorem dX4_nextToken_12 : decode cX4_nextToken 12 = .ok (.aload_n 0, 1) := by decide +kernel
theorem dX4_nextToken_13 : decode cX4_nextToken 13 = .ok (.getfield 9, 3) := by decide +kernel
theorem dX4_nextToken_16 : decode cX4_nextToken 16 = .ok (.if_icmp .ge 30, 3) := by decide +kernel
theorem dX4_nextToken_19 : decode cX4_nextToken 19 = .ok (.aload_n 0, 1) := by decide +kernel
theorem dX4_nextToken_20 : decode cX4_nextToken 20 = .ok (.getfield 15, 3) := by decide +kernel
theorem dX4_nextToken_23 : decode cX4_nextToken 23 = .ok (.aload_n 0, 1) := by decide +kernel
theorem dX4_nextToken_24 : decode cX4_nextToken 24 = .ok (.getfield 22, 3) := by decide +kernel
theorem dX4_nextToken_27 : decode cX4_nextToken 27 = .ok (.iaload, 1) := by decide +kernel
theorem dX4_nextToken_28 : decode cX4_nextToken 28 = .ok (.bipush 32, 2) := by decide +kernel
theorem dX4_nextToken_30 : decode cX4_nextToken 30 = .ok (.if_icmp .ne 16, 3) := by decide +kernel
theorem dX4_nextToken_33 : decode cX4_nextToken 33 = .ok (.aload_n 0, 1) := by decide +kernel
theorem dX4_nextToken_34 : decode cX4_nextToken 34 = .ok (.dup, 1) := by decide +kernel
theorem dX4_nextToken_35 : decode cX4_nextToken 35 = .ok (.getfield 22, 3) := by decide +kernel
theorem dX4_nextToken_38 : decode cX4_nextToken 38 = .ok (.iconst 1, 1) := by decide +kernel
theorem dX4_nextToken_39 : decode cX4_nextToken 39 = .ok (.iadd, 1) := by decide +kernel
theorem dX4_nextToken_40 : decode cX4_nextToken 40 = .ok (.putfield 22, 3) := by decide +kernel
theorem dX4_nextToken_43 : decode cX4_nextToken 43 = .ok (.goto (-35), 3) := by decide +kernel
theorem dX4_nextToken_46 : decode cX4_nextToken 46 = .ok (.aload_n 0, 1) := by decide +kernel
theorem dX4_nextToken_47 : decode cX4_nextToken 47 = .ok (.getfield 22, 3) := by decide +kernel
theorem dX4_nextToken_50 : decode cX4_nextToken 50 = .ok (.aload_n 0, 1) := by decide +kernel
theorem dX4_nextToken_51 : decode cX4_nextToken 51 = .ok (.getfield 9, 3) := by decide +kernel
theorem dX4_nextToken_54 : decode cX4_nextToken 54 = .ok (.if_icmp .lt 19, 3) := by decide +kernel
theorem dX4_nextToken_57 : decode cX4_nextToken 57 = .ok (.aload_n 0, 1) := by decide +kernel
theorem dX4_nextToken_58 : decode cX4_nextToken 58 = .ok (.iconst 0, 1) := by decide +kernel
theorem dX4_nextToken_59 : decode cX4_nextToken 59 = .ok (.putfield 19, 3) := by decide +kernel
theorem dX4_nextToken_62 : decode cX4_nextToken 62 = .ok (.aload_n 0, 1) := by decide +kernel
theorem dX4_nextToken_63 : decode cX4_nextToken 63 = .ok (.aload_n 0, 1) := by decide +kernel
theorem dX4_nextToken_64 : decode cX4_nextToken 64 = .ok (.getfield 22, 3) := by decide +kernel
theorem dX4_nextToken_67 : decode cX4_nextToken 67 = .ok (.putfield 25, 3) := by decide +kernel
theorem dX4_nextToken_70 : decode cX4_nextToken 70 = .ok (.goto 67, 3) := by decide +kernel
theorem dX4_nextToken_73 : decode cX4_nextToken 73 = .ok (.aload_n 0, 1) := by decide +kernel
theorem dX4_nextToken_74 : decode cX4_nextToken 74 = .ok (.getfield 15, 3) := by decide +kernel
theorem dX4_nextToken_77 : decode cX4_nextToken 77 = .ok (.aload_n 0, 1) := by decide +kernel
theorem dX4_nextToken_78 : decode cX4_nextToken 78 = .ok (.getfield 22, 3) := by decide +kernel
theorem dX4_nextToken_81 : decode cX4_nextToken 81 = .ok (.iaload, 1) := by decide +kernel
theorem dX4_nextToken_82 : decode cX4_nextToken 82 = .ok (.invokestatic 95, 3) := by decide +kernel
theorem dX4_nextToken_85 : decode cX4_nextToken 85 = .ok (.ifCond .eq 10, 3) := by decide +kernel
theorem dX4_nextToken_88 : decode cX4_nextToken 88 = .ok (.aload_n 0, 1) := by decide +kernel
theorem dX4_nextToken_89 : decode cX4_nextToken 89 = .ok (.invokevirtual 99, 3) := by decide +kernel
theorem dX4_nextToken_92 : decode cX4_nextToken 92 = .ok (.goto 45, 3) := by decide +kernel
theorem dX4_nextToken_95 : decode cX4_nextToken 95 = .ok (.aload_n 0, 1) := by decide +kernel
theorem dX4_nextToken_96 : decode cX4_nextToken 96 = .ok (.aload_n 0, 1) := by decide +kernel
theorem dX4_nextToken_97 : decode cX4_nextToken 97 = .ok (.getfield 15, 3) := by decide +kernel
theorem dX4_nextToken_100 : decode cX4_nextToken 100 = .ok (.aload_n 0, 1) := by decide +kernel
theorem dX4_nextToken_101 : decode cX4_nextToken 101 = .ok (.getfield 22, 3) := by decide +kernel
theorem dX4_nextToken_104 : decode cX4_nextToken 104 = .ok (.iaload, 1) := by decide +kernel
theorem dX4_nextToken_105 : decode cX4_nextToken 105 = .ok (.invokestatic 102, 3) := by decide +kernel
theorem dX4_nextToken_108 : decode cX4_nextToken 108 = .ok (.ifCond .eq 15, 3) := by decide +kernel
theorem dX4_nextToken_111 : decode cX4_nextToken 111 = .ok (.aload_n 0, 1) := by decide +kernel
theorem dX4_nextToken_112 : decode cX4_nextToken 112 = .ok (.getfield 15, 3) := by decide +kernel
theorem dX4_nextToken_115 : decode cX4_nextToken 115 = .ok (.aload_n 0, 1) := by decide +kernel
theorem dX4_nextToken_116 : decode cX4_nextToken 116 = .ok (.getfield 22, 3) := by decide +kernel
theorem dX4_nextToken_119 : decode cX4_nextToken 119 = .ok (.iaload, 1) := by decide +kernel
theorem dX4_nextToken_120 : decode cX4_nextToken 120 = .ok (.goto 4, 3) := by decide +kernel
theorem dX4_nextToken_123 : decode cX4_nextToken 123 = .ok (.iconst 2, 1) := by decide +kernel
theorem dX4_nextToken_124 : decode cX4_nextToken 124 = .ok (.putfield 19, 3) := by decide +kernel
theorem dX4_nextToken_127 : decode cX4_nextToken 127 = .ok (.aload_n 0, 1) := by decide +kernel
theorem dX4_nextToken_128 : decode cX4_nextToken 128 = .ok (.aload_n 0, 1) := by decide +kernel
theorem dX4_nextToken_129 : decode cX4_nextToken 129 = .ok (.getfield 22, 3) := by decide +kernel
theorem dX4_nextToken_132 : decode cX4_nextToken 132 = .ok (.iconst 1, 1) := by decide +kernel
theorem dX4_nextToken_133 : decode cX4_nextToken 133 = .ok (.iadd, 1) := by decide +kernel
theorem dX4_nextToken_134 : decode cX4_nextToken 134 = .ok (.putfield 25, 3) := by decide +kernel
theorem dX4_nextToken_137 : decode cX4_nextToken 137 = .ok (.return_, 1) := by decide +kernel
theorem dX4_readNumber_0 : decode cX4_readNumber 0 = .ok (.aload_n 0, 1) := by decide +kernel
theorem dX4_readNumber_1 : decode cX4_readNumber 1 = .ok (.iconst 0, 1) := by decide +kernel
theorem dX4_readNumber_2 : decode cX4_readNumber 2 = .ok (.putfield 28, 3) := by decide +kernel
theorem dX4_readNumber_5 : decode cX4_readNumber 5 = .ok (.aload_n 0, 1) := by decide +kernel
theorem dX4_readNumber_6 : decode cX4_readNumber 6 = .ok (.aload_n 0, 1) := by decide +kernel
theorem dX4_readNumber_7 : decode cX4_readNumber 7 = .ok (.getfield 22, 3) := by decide +kernel
theorem dX4_readNumber_10 : decode cX4_readNumber 10 = .ok (.putfield 25, 3) := by decide +kernel
theorem dX4_readNumber_13 : decode cX4_readNumber 13 = .ok (.aload_n 0, 1) := by decide +kernel
theorem dX4_readNumber_14 : decode cX4_readNumber 14 = .ok (.getfield 25, 3) := by decide +kernel
theorem dX4_readNumber_17 : decode cX4_readNumber 17 = .ok (.aload_n 0, 1) := by decide +kernel
theorem dX4_readNumber_18 : decode cX4_readNumber 18 = .ok (.getfield 9, 3) := by decide +kernel
theorem dX4_readNumber_21 : decode cX4_readNumber 21 = .ok (.if_icmp .ge 61, 3) := by decide +kernel
theorem dX4_readNumber_24 : decode cX4_readNumber 24 = .ok (.aload_n 0, 1) := by decide +kernel
theorem dX4_readNumber_25 : decode cX4_readNumber 25 = .ok (.getfield 15, 3) := by decide +kernel
theorem dX4_readNumber_28 : decode cX4_readNumber 28 = .ok (.aload_n 0, 1) := by decide +kernel
theorem dX4_readNumber_29 : decode cX4_readNumber 29 = .ok (.getfield 25, 3) := by decide +kernel
theorem dX4_readNumber_32 : decode cX4_readNumber 32 = .ok (.iaload, 1) := by decide +kernel
theorem dX4_readNumber_33 : decode cX4_readNumber 33 = .ok (.invokestatic 95, 3) := by decide +kernel
theorem dX4_readNumber_36 : decode cX4_readNumber 36 = .ok (.ifCond .eq 46, 3) := by decide +kernel
theorem dX4_readNumber_39 : decode cX4_readNumber 39 = .ok (.aload_n 0, 1) := by decide +kernel
theorem dX4_readNumber_40 : decode cX4_readNumber 40 = .ok (.aload_n 0, 1) := by decide +kernel
theorem dX4_readNumber_41 : decode cX4_readNumber 41 = .ok (.getfield 28, 3) := by decide +kernel
theorem dX4_readNumber_44 : decode cX4_readNumber 44 = .ok (.bipush 10, 2) := by decide +kernel
theorem dX4_readNumber_46 : decode cX4_readNumber 46 = .ok (.imul, 1) := by decide +kernel
theorem dX4_readNumber_47 : decode cX4_readNumber 47 = .ok (.aload_n 0, 1) := by decide +kernel
theorem dX4_readNumber_48 : decode cX4_readNumber 48 = .ok (.getfield 15, 3) := by decide +kernel
theorem dX4_readNumber_51 : decode cX4_readNumber 51 = .ok (.aload_n 0, 1) := by decide +kernel
theorem dX4_readNumber_52 : decode cX4_readNumber 52 = .ok (.getfield 25, 3) := by decide +kernel
theorem dX4_readNumber_55 : decode cX4_readNumber 55 = .ok (.iaload, 1) := by decide +kernel
theorem dX4_readNumber_56 : decode cX4_readNumber 56 = .ok (.iadd, 1) := by decide +kernel
theorem dX4_readNumber_57 : decode cX4_readNumber 57 = .ok (.bipush 48, 2) := by decide +kernel
theorem dX4_readNumber_59 : decode cX4_readNumber 59 = .ok (.isub, 1) := by decide +kernel
theorem dX4_readNumber_60 : decode cX4_readNumber 60 = .ok (.sipush 1024, 3) := by decide +kernel
theorem dX4_readNumber_63 : decode cX4_readNumber 63 = .ok (.invokestatic 105, 3) := by decide +kernel
theorem dX4_readNumber_66 : decode cX4_readNumber 66 = .ok (.putfield 28, 3) := by decide +kernel
theorem dX4_readNumber_69 : decode cX4_readNumber 69 = .ok (.aload_n 0, 1) := by decide +kernel
theorem dX4_readNumber_70 : decode cX4_readNumber 70 = .ok (.dup, 1) := by decide +kernel
theorem dX4_readNumber_71 : decode cX4_readNumber 71 = .ok (.getfield 25, 3) := by decide +kernel
theorem dX4_readNumber_74 : decode cX4_readNumber 74 = .ok (.iconst 1, 1) := by decide +kernel
theorem dX4_readNumber_75 : decode cX4_readNumber 75 = .ok (.iadd, 1) := by decide +kernel
theorem dX4_readNumber_76 : decode cX4_readNumber 76 = .ok (.putfield 25, 3) := by decide +kernel
theorem dX4_readNumber_79 : decode cX4_readNumber 79 = .ok (.goto (-66), 3) := by decide +kernel
theorem dX4_readNumber_82 : decode cX4_readNumber 82 = .ok (.aload_n 0, 1) := by decide +kernel
theorem dX4_readNumber_83 : decode cX4_readNumber 83 = .ok (.getfield 15, 3) := by decide +kernel
theorem dX4_readNumber_86 : decode cX4_readNumber 86 = .ok (.aload_n 0, 1) := by decide +kernel
theorem dX4_readNumber_87 : decode cX4_readNumber 87 = .ok (.getfield 22, 3) := by decide +kernel
theorem dX4_readNumber_90 : decode cX4_readNumber 90 = .ok (.iaload, 1) := by decide +kernel
theorem dX4_readNumber_91 : decode cX4_readNumber 91 = .ok (.bipush 48, 2) := by decide +kernel
theorem dX4_readNumber_93 : decode cX4_readNumber 93 = .ok (.if_icmp .ne 20, 3) := by decide +kernel
theorem dX4_readNumber_96 : decode cX4_readNumber 96 = .ok (.aload_n 0, 1) := by decide +kernel
theorem dX4_readNumber_97 : decode cX4_readNumber 97 = .ok (.getfield 25, 3) := by decide +kernel
theorem dX4_readNumber_100 : decode cX4_readNumber 100 = .ok (.aload_n 0, 1) := by decide +kernel
theorem dX4_readNumber_101 : decode cX4_readNumber 101 = .ok (.getfield 22, 3) := by decide +kernel
theorem dX4_readNumber_104 : decode cX4_readNumber 104 = .ok (.isub, 1) := by decide +kernel
theorem dX4_readNumber_105 : decode cX4_readNumber 105 = .ok (.iconst 1, 1) := by decide +kernel
theorem dX4_readNumber_106 : decode cX4_readNumber 106 = .ok (.if_icmp .le 7, 3) := by decide +kernel
theorem dX4_readNumber_109 : decode cX4_readNumber 109 = .ok (.iconst 1, 1) := by decide +kernel
theorem dX4_readNumber_110 : decode cX4_readNumber 110 = .ok (.goto 4, 3) := by decide +kernel
theorem dX4_readNumber_113 : decode cX4_readNumber 113 = .ok (.iconst 0, 1) := by decide +kernel
theorem dX4_readNumber_114 : decode cX4_readNumber 114 = .ok (.istore_n 1, 1) := by decide +kernel
theorem dX4_readNumber_115 : decode cX4_readNumber 115 = .ok (.aload_n 0, 1) := by decide +kernel
theorem dX4_readNumber_116 : decode cX4_readNumber 116 = .ok (.iload_n 1, 1) := by decide +kernel
theorem dX4_readNumber_117 : decode cX4_readNumber 117 = .ok (.ifCond .ne 13, 3) := by decide +kernel
theorem dX4_readNumber_120 : decode cX4_readNumber 120 = .ok (.aload_n 0, 1) := by decide +kernel
theorem dX4_readNumber_121 : decode cX4_readNumber 121 = .ok (.getfield 28, 3) := by decide +kernel
theorem dX4_readNumber_124 : decode cX4_readNumber 124 = .ok (.sipush 1023, 3) := by decide +kernel
theorem dX4_readNumber_127 : decode cX4_readNumber 127 = .ok (.if_icmp .le 7, 3) := by decide +kernel
theorem dX4_readNumber_130 : decode cX4_readNumber 130 = .ok (.iconst 2, 1) := by decide +kernel
theorem dX4_readNumber_131 : decode cX4_readNumber 131 = .ok (.goto 4, 3) := by decide +kernel
theorem dX4_readNumber_134 : decode cX4_readNumber 134 = .ok (.iconst 1, 1) := by decide +kernel
theorem dX4_readNumber_135 : decode cX4_readNumber 135 = .ok (.putfield 19, 3) := by decide +kernel
theorem dX4_readNumber_138 : decode cX4_readNumber 138 = .ok (.return_, 1) := by decide +kernel
theorem dX4_isFigure_0 : decode cX4_isFigure 0 = .ok (.iload_n 0, 1) := by decide +kernel
theorem dX4_isFigure_1 : decode cX4_isFigure 1 = .ok (.bipush 48, 2) := by decide +kernel
theorem dX4_isFigure_3 : decode cX4_isFigure 3 = .ok (.if_icmp .lt 13, 3) := by decide +kernel
theorem dX4_isFigure_6 : decode cX4_isFigure 6 = .ok (.iload_n 0, 1) := by decide +kernel
theorem dX4_isFigure_7 : decode cX4_isFigure 7 = .ok (.bipush 57, 2) := by decide +kernel
theorem dX4_isFigure_9 : decode cX4_isFigure 9 = .ok (.if_icmp .gt 7, 3) := by decide +kernel
theorem dX4_isFigure_12 : decode cX4_isFigure 12 = .ok (.iconst 1, 1) := by decide +kernel
theorem dX4_isFigure_13 : decode cX4_isFigure 13 = .ok (.goto 4, 3) := by decide +kernel
theorem dX4_isFigure_16 : decode cX4_isFigure 16 = .ok (.iconst 0, 1) := by decide +kernel
theorem dX4_isFigure_17 : decode cX4_isFigure 17 = .ok (.ireturn, 1) := by decide +kernel
theorem dX4_isTokenLetter_0 : decode cX4_isTokenLetter 0 = .ok (.iload_n 0, 1) := by decide +kernel
theorem dX4_isTokenLetter_1 : decode cX4_isTokenLetter 1 = .ok (.bipush 113, 2) := by decide +kernel
theorem dX4_isTokenLetter_3 : decode cX4_isTokenLetter 3 = .ok (.if_icmp .eq 33, 3) := by decide +kernel
theorem dX4_isTokenLetter_6 : decode cX4_isTokenLetter 6 = .ok (.iload_n 0, 1) := by decide +kernel
theorem dX4_isTokenLetter_7 : decode cX4_isTokenLetter 7 = .ok (.bipush 114, 2) := by decide +kernel
theorem dX4_isTokenLetter_9 : decode cX4_isTokenLetter 9 = .ok (.if_icmp .eq 27, 3) := by decide +kernel
theorem dX4_isTokenLetter_12 : decode cX4_isTokenLetter 12 = .ok (.iload_n 0, 1) := by decide +kernel
theorem dX4_isTokenLetter_13 : decode cX4_isTokenLetter 13 = .ok (.bipush 98, 2) := by decide +kernel
theorem dX4_isTokenLetter_15 : decode cX4_isTokenLetter 15 = .ok (.if_icmp .eq 21, 3) := by decide +kernel
theorem dX4_isTokenLetter_18 : decode cX4_isTokenLetter 18 = .ok (.iload_n 0, 1) := by decide +kernel
theorem dX4_isTokenLetter_19 : decode cX4_isTokenLetter 19 = .ok (.bipush 116, 2) := by decide +kernel
theorem dX4_isTokenLetter_21 : decode cX4_isTokenLetter 21 = .ok (.if_icmp .eq 15, 3) := by decide +kernel
theorem dX4_isTokenLetter_24 : decode cX4_isTokenLetter 24 = .ok (.iload_n 0, 1) := by decide +kernel
theorem dX4_isTokenLetter_25 : decode cX4_isTokenLetter 25 = .ok (.bipush 107, 2) := by decide +kernel
theorem dX4_isTokenLetter_27 : decode cX4_isTokenLetter 27 = .ok (.if_icmp .eq 9, 3) := by decide +kernel
theorem dX4_isTokenLetter_30 : decode cX4_isTokenLetter 30 = .ok (.iload_n 0, 1) := by decide +kernel
theorem dX4_isTokenLetter_31 : decode cX4_isTokenLetter 31 = .ok (.bipush 59, 2) := by decide +kernel
theorem dX4_isTokenLetter_33 : decode cX4_isTokenLetter 33 = .ok (.if_icmp .ne 7, 3) := by decide +kernel
theorem dX4_isTokenLetter_36 : decode cX4_isTokenLetter 36 = .ok (.iconst 1, 1) := by decide +kernel
theorem dX4_isTokenLetter_37 : decode cX4_isTokenLetter 37 = .ok (.goto 4, 3) := by decide +kernel
theorem dX4_isTokenLetter_40 : decode cX4_isTokenLetter 40 = .ok (.iconst 0, 1) := by decide +kernel
theorem dX4_isTokenLetter_41 : decode cX4_isTokenLetter 41 = .ok (.ireturn, 1) := by decide +kernel
theorem dX5_init_0 : decode cX5_init 0 = .ok (.aload_n 0, 1) := by decide +kernel
theorem dX5_init_1 : decode cX5_init 1 = .ok (.invokespecial 1, 3) := by decide +kernel
theorem dX5_init_4 : decode cX5_init 4 = .ok (.aload_n 0, 1) := by decide +kernel
theorem dX5_init_5 : decode cX5_init 5 = .ok (.new 7, 3) := by decide +kernel
theorem dX5_init_8 : decode cX5_init 8 = .ok (.dup, 1) := by decide +kernel
theorem dX5_init_9 : decode cX5_init 9 = .ok (.invokespecial 9, 3) := by decide +kernel
theorem dX5_init_12 : decode cX5_init 12 = .ok (.putfield 10, 3) := by decide +kernel
theorem dX5_init_15 : decode cX5_init 15 = .ok (.aload_n 0, 1) := by decide +kernel
theorem dX5_init_16 : decode cX5_init 16 = .ok (.new 16, 3) := by decide +kernel
theorem dX5_init_19 : decode cX5_init 19 = .ok (.dup, 1) := by decide +kernel
theorem dX5_init_20 : decode cX5_init 20 = .ok (.invokespecial 18, 3) := by decide +kernel
theorem dX5_init_23 : decode cX5_init 23 = .ok (.putfield 19, 3) := by decide +kernel
theorem dX5_init_26 : decode cX5_init 26 = .ok (.aload_n 0, 1) := by decide +kernel
theorem dX5_init_27 : decode cX5_init 27 = .ok (.new 16, 3) := by decide +kernel
theorem dX5_init_30 : decode cX5_init 30 = .ok (.dup, 1) := by decide +kernel
theorem dX5_init_31 : decode cX5_init 31 = .ok (.invokespecial 18, 3) := by decide +kernel
theorem dX5_init_34 : decode cX5_init 34 = .ok (.putfield 23, 3) := by decide +kernel
theorem dX5_init_37 : decode cX5_init 37 = .ok (.aload_n 0, 1) := by decide +kernel
theorem dX5_init_38 : decode cX5_init 38 = .ok (.new 26, 3) := by decide +kernel
theorem dX5_init_41 : decode cX5_init 41 = .ok (.dup, 1) := by decide +kernel
theorem dX5_init_42 : decode cX5_init 42 = .ok (.invokespecial 28, 3) := by decide +kernel
theorem dX5_init_45 : decode cX5_init 45 = .ok (.putfield 29, 3) := by decide +kernel
theorem dX5_init_48 : decode cX5_init 48 = .ok (.aload_n 0, 1) := by decide +kernel
theorem dX5_init_49 : decode cX5_init 49 = .ok (.new 33, 3) := by decide +kernel
theorem dX5_init_52 : decode cX5_init 52 = .ok (.dup, 1) := by decide +kernel
theorem dX5_init_53 : decode cX5_init 53 = .ok (.invokespecial 35, 3) := by decide +kernel
theorem dX5_init_56 : decode cX5_init 56 = .ok (.putfield 36, 3) := by decide +kernel
theorem dX5_init_59 : decode cX5_init 59 = .ok (.aload_n 0, 1) := by decide +kernel
theorem dX5_init_60 : decode cX5_init 60 = .ok (.iconst 2, 1) := by decide +kernel
theorem dX5_init_61 : decode cX5_init 61 = .ok (.anewarray 26, 3) := by decide +kernel
theorem dX5_init_64 : decode cX5_init 64 = .ok (.putfield 40, 3) := by decide +kernel
theorem dX5_init_67 : decode cX5_init 67 = .ok (.aload_n 0, 1) := by decide +kernel
theorem dX5_init_68 : decode cX5_init 68 = .ok (.iconst 0, 1) := by decide +kernel
theorem dX5_init_69 : decode cX5_init 69 = .ok (.putfield 44, 3) := by decide +kernel
theorem dX5_init_72 : decode cX5_init 72 = .ok (.aload_n 0, 1) := by decide +kernel
theorem dX5_init_73 : decode cX5_init 73 = .ok (.new 48, 3) := by decide +kernel
theorem dX5_init_76 : decode cX5_init 76 = .ok (.dup, 1) := by decide +kernel
theorem dX5_init_77 : decode cX5_init 77 = .ok (.invokespecial 50, 3) := by decide +kernel
theorem dX5_init_80 : decode cX5_init 80 = .ok (.putfield 51, 3) := by decide +kernel
theorem dX5_init_83 : decode cX5_init 83 = .ok (.aload_n 0, 1) := by decide +kernel
theorem dX5_init_84 : decode cX5_init 84 = .ok (.iconst 4, 1) := by decide +kernel
theorem dX5_init_85 : decode cX5_init 85 = .ok (.newarray .int, 2) := by decide +kernel
theorem dX5_init_87 : decode cX5_init 87 = .ok (.putfield 55, 3) := by decide +kernel
theorem dX5_init_90 : decode cX5_init 90 = .ok (.aload_n 0, 1) := by decide +kernel
theorem dX5_init_91 : decode cX5_init 91 = .ok (.iconst 4, 1) := by decide +kernel
theorem dX5_init_92 : decode cX5_init 92 = .ok (.newarray .int, 2) := by decide +kernel
theorem dX5_init_94 : decode cX5_init 94 = .ok (.putfield 59, 3) := by decide +kernel
theorem dX5_init_97 : decode cX5_init 97 = .ok (.aload_n 0, 1) := by decide +kernel
theorem dX5_init_98 : decode cX5_init 98 = .ok (.iconst 0, 1) := by decide +kernel
theorem dX5_init_99 : decode cX5_init 99 = .ok (.putfield 62, 3) := by decide +kernel
theorem dX5_init_102 : decode cX5_init 102 = .ok (.aload_n 0, 1) := by decide +kernel
theorem dX5_init_103 : decode cX5_init 103 = .ok (.iconst 4, 1) := by decide +kernel
theorem dX5_init_104 : decode cX5_init 104 = .ok (.newarray .int, 2) := by decide +kernel
theorem dX5_init_106 : decode cX5_init 106 = .ok (.putfield 65, 3) := by decide +kernel
theorem dX5_init_109 : decode cX5_init 109 = .ok (.aload_n 0, 1) := by decide +kernel
theorem dX5_init_110 : decode cX5_init 110 = .ok (.bipush 7, 2) := by decide +kernel
theorem dX5_init_112 : decode cX5_init 112 = .ok (.newarray .int, 2) := by decide +kernel
theorem dX5_init_114 : decode cX5_init 114 = .ok (.putfield 68, 3) := by decide +kernel
theorem dX5_init_117 : decode cX5_init 117 = .ok (.aload_n 0, 1) := by decide +kernel
theorem dX5_init_118 : decode cX5_init 118 = .ok (.lconst 0, 1) := by decide +kernel
theorem dX5_init_119 : decode cX5_init 119 = .ok (.putfield 71, 3) := by decide +kernel
theorem dX5_init_122 : decode cX5_init 122 = .ok (.iconst 0, 1) := by decide +kernel
theorem dX5_init_123 : decode cX5_init 123 = .ok (.istore_n 1, 1) := by decide +kernel
theorem dX5_init_124 : decode cX5_init 124 = .ok (.iload_n 1, 1) := by decide +kernel
theorem dX5_init_125 : decode cX5_init 125 = .ok (.iconst 2, 1) := by decide +kernel
theorem dX5_init_126 : decode cX5_init 126 = .ok (.if_icmp .ge 22, 3) := by decide +kernel
theorem dX5_init_129 : decode cX5_init 129 = .ok (.aload_n 0, 1) := by decide +kernel
theorem dX5_init_130 : decode cX5_init 130 = .ok (.getfield 40, 3) := by decide +kernel
theorem dX5_init_133 : decode cX5_init 133 = .ok (.iload_n 1, 1) := by decide +kernel
theorem dX5_init_134 : decode cX5_init 134 = .ok (.new 26, 3) := by decide +kernel
theorem dX5_init_137 : decode cX5_init 137 = .ok (.dup, 1) := by decide +kernel
theorem dX5_init_138 : decode cX5_init 138 = .ok (.invokespecial 28, 3) := by decide +kernel
theorem dX5_init_141 : decode cX5_init 141 = .ok (.aastore, 1) := by decide +kernel
theorem dX5_init_142 : decode cX5_init 142 = .ok (.iinc 1 1, 3) := by decide +kernel
theorem dX5_init_145 : decode cX5_init 145 = .ok (.goto (-21), 3) := by decide +kernel
theorem dX5_init_148 : decode cX5_init 148 = .ok (.return_, 1) := by decide +kernel
theorem dX5_type_0 : decode cX5_type 0 = .ok (.iload_n 1, 1) := by decide +kernel
theorem dX5_type_1 : decode cX5_type 1 = .ok (.ifCond .lt 10, 3) := by decide +kernel
theorem dX5_type_4 : decode cX5_type 4 = .ok (.iload_n 1, 1) := by decide +kernel
theorem dX5_type_5 : decode cX5_type 5 = .ok (.sipush 255, 3) := by decide +kernel
theorem dX5_type_8 : decode cX5_type 8 = .ok (.if_icmp .le 5, 3) := by decide +kernel
theorem dX5_type_11 : decode cX5_type 11 = .ok (.iconst (-1), 1) := by decide +kernel
theorem dX5_type_12 : decode cX5_type 12 = .ok (.ireturn, 1) := by decide +kernel
theorem dX5_type_13 : decode cX5_type 13 = .ok (.aload_n 0, 1) := by decide +kernel
theorem dX5_type_14 : decode cX5_type 14 = .ok (.getfield 10, 3) := by decide +kernel
theorem dX5_type_17 : decode cX5_type 17 = .ok (.iload_n 1, 1) := by decide +kernel
theorem dX5_type_18 : decode cX5_type 18 = .ok (.invokevirtual 75, 3) := by decide +kernel
theorem dX5_type_21 : decode cX5_type 21 = .ok (.ifCond .eq 13, 3) := by decide +kernel
theorem dX5_type_24 : decode cX5_type 24 = .ok (.aload_n 0, 1) := by decide +kernel
theorem dX5_type_25 : decode cX5_type 25 = .ok (.getfield 10, 3) := by decide +kernel
theorem dX5_type_28 : decode cX5_type 28 = .ok (.getfield 79, 3) := by decide +kernel
theorem dX5_type_31 : decode cX5_type 31 = .ok (.goto 5, 3) := by decide +kernel
theorem dX5_type_34 : decode cX5_type 34 = .ok (.bipush (-3), 2) := by decide +kernel
theorem dX5_type_36 : decode cX5_type 36 = .ok (.ireturn, 1) := by decide +kernel
theorem dX5_clear_0 : decode cX5_clear 0 = .ok (.aload_n 0, 1) := by decide +kernel
theorem dX5_clear_1 : decode cX5_clear 1 = .ok (.getfield 10, 3) := by decide +kernel
theorem dX5_clear_4 : decode cX5_clear 4 = .ok (.getfield 79, 3) := by decide +kernel
theorem dX5_clear_7 : decode cX5_clear 7 = .ok (.istore_n 1, 1) := by decide +kernel
theorem dX5_clear_8 : decode cX5_clear 8 = .ok (.aload_n 0, 1) := by decide +kernel
theorem dX5_clear_9 : decode cX5_clear 9 = .ok (.getfield 10, 3) := by decide +kernel
theorem dX5_clear_12 : decode cX5_clear 12 = .ok (.iconst 0, 1) := by decide +kernel
theorem dX5_clear_13 : decode cX5_clear 13 = .ok (.putfield 79, 3) := by decide +kernel
theorem dX5_clear_16 : decode cX5_clear 16 = .ok (.iload_n 1, 1) := by decide +kernel
theorem dX5_clear_17 : decode cX5_clear 17 = .ok (.ireturn, 1) := by decide +kernel
theorem dX5_island_0 : decode cX5_island 0 = .ok (.aload_n 0, 1) := by decide +kernel
theorem dX5_island_1 : decode cX5_island 1 = .ok (.getfield 10, 3) := by decide +kernel
theorem dX5_island_4 : decode cX5_island 4 = .ok (.aload_n 0, 1) := by decide +kernel
theorem dX5_island_5 : decode cX5_island 5 = .ok (.getfield 23, 3) := by decide +kernel
theorem dX5_island_8 : decode cX5_island 8 = .ok (.invokevirtual 82, 3) := by decide +kernel
theorem dX5_island_11 : decode cX5_island 11 = .ok (.istore_n 1, 1) := by decide +kernel
theorem dX5_island_12 : decode cX5_island 12 = .ok (.iload_n 1, 1) := by decide +kernel
theorem dX5_island_13 : decode cX5_island 13 = .ok (.ifCond .ge 5, 3) := by decide +kernel
theorem dX5_island_16 : decode cX5_island 16 = .ok (.iload_n 1, 1) := by decide +kernel
theorem dX5_island_17 : decode cX5_island 17 = .ok (.ireturn, 1) := by decide +kernel
theorem dX5_island_18 : decode cX5_island 18 = .ok (.aload_n 0, 1) := by decide +kernel
theorem dX5_island_19 : decode cX5_island 19 = .ok (.getfield 19, 3) := by decide +kernel
theorem dX5_island_22 : decode cX5_island 22 = .ok (.astore_n 2, 1) := by decide +kernel
theorem dX5_island_23 : decode cX5_island 23 = .ok (.aload_n 0, 1) := by decide +kernel
theorem dX5_island_24 : decode cX5_island 24 = .ok (.aload_n 0, 1) := by decide +kernel
theorem dX5_island_25 : decode cX5_island 25 = .ok (.getfield 23, 3) := by decide +kernel
theorem dX5_island_28 : decode cX5_island 28 = .ok (.putfield 19, 3) := by decide +kernel
theorem dX5_island_31 : decode cX5_island 31 = .ok (.aload_n 0, 1) := by decide +kernel
theorem dX5_island_32 : decode cX5_island 32 = .ok (.aload_n 2, 1) := by decide +kernel
theorem dX5_island_33 : decode cX5_island 33 = .ok (.putfield 23, 3) := by decide +kernel
theorem dX5_island_36 : decode cX5_island 36 = .ok (.aload_n 0, 1) := by decide +kernel
theorem dX5_island_37 : decode cX5_island 37 = .ok (.getfield 10, 3) := by decide +kernel
theorem dX5_island_40 : decode cX5_island 40 = .ok (.iconst 0, 1) := by decide +kernel
theorem dX5_island_41 : decode cX5_island 41 = .ok (.putfield 79, 3) := by decide +kernel
theorem dX5_island_44 : decode cX5_island 44 = .ok (.aload_n 0, 1) := by decide +kernel
theorem dX5_island_45 : decode cX5_island 45 = .ok (.getfield 29, 3) := by decide +kernel
theorem dX5_island_48 : decode cX5_island 48 = .ok (.invokevirtual 86, 3) := by decide +kernel
theorem dX5_island_51 : decode cX5_island 51 = .ok (.aload_n 0, 1) := by decide +kernel
theorem dX5_island_52 : decode cX5_island 52 = .ok (.getfield 36, 3) := by decide +kernel
theorem dX5_island_55 : decode cX5_island 55 = .ok (.iconst 0, 1) := by decide +kernel
theorem dX5_island_56 : decode cX5_island 56 = .ok (.putfield 89, 3) := by decide +kernel
theorem dX5_island_59 : decode cX5_island 59 = .ok (.aload_n 0, 1) := by decide +kernel
theorem dX5_island_60 : decode cX5_island 60 = .ok (.iconst 0, 1) := by decide +kernel
theorem dX5_island_61 : decode cX5_island 61 = .ok (.putfield 44, 3) := by decide +kernel
theorem dX5_island_64 : decode cX5_island 64 = .ok (.aload_n 0, 1) := by decide +kernel
theorem dX5_island_65 : decode cX5_island 65 = .ok (.iconst 0, 1) := by decide +kernel
theorem dX5_island_66 : decode cX5_island 66 = .ok (.putfield 62, 3) := by decide +kernel
theorem dX5_island_69 : decode cX5_island 69 = .ok (.iload_n 1, 1) := by decide +kernel
theorem dX5_island_70 : decode cX5_island 70 = .ok (.ireturn, 1) := by decide +kernel
theorem dX5_traveller_0 : decode cX5_traveller 0 = .ok (.aload_n 0, 1) := by decide +kernel
theorem dX5_traveller_1 : decode cX5_traveller 1 = .ok (.getfield 19, 3) := by decide +kernel
theorem dX5_traveller_4 : decode cX5_traveller 4 = .ok (.iload_n 1, 1) := by decide +kernel
theorem dX5_traveller_5 : decode cX5_traveller 5 = .ok (.invokevirtual 92, 3) := by decide +kernel
theorem dX5_traveller_8 : decode cX5_traveller 8 = .ok (.ifCond .ne 5, 3) := by decide +kernel
theorem dX5_traveller_11 : decode cX5_traveller 11 = .ok (.iconst (-1), 1) := by decide +kernel
theorem dX5_traveller_12 : decode cX5_traveller 12 = .ok (.ireturn, 1) := by decide +kernel
theorem dX5_traveller_13 : decode cX5_traveller 13 = .ok (.iload_n 2, 1) := by decide +kernel
theorem dX5_traveller_14 : decode cX5_traveller 14 = .ok (.tableswitch 89 0 4 #[34, 44, 54, 63, 72], 34) := by decide +kernel
theorem dX5_traveller_48 : decode cX5_traveller 48 = .ok (.aload_n 0, 1) := by decide +kernel
theorem dX5_traveller_49 : decode cX5_traveller 49 = .ok (.getfield 19, 3) := by decide +kernel
theorem dX5_traveller_52 : decode cX5_traveller 52 = .ok (.getfield 95, 3) := by decide +kernel
theorem dX5_traveller_55 : decode cX5_traveller 55 = .ok (.iload_n 1, 1) := by decide +kernel
theorem dX5_traveller_56 : decode cX5_traveller 56 = .ok (.iaload, 1) := by decide +kernel
theorem dX5_traveller_57 : decode cX5_traveller 57 = .ok (.ireturn, 1) := by decide +kernel
theorem dX5_traveller_58 : decode cX5_traveller 58 = .ok (.aload_n 0, 1) := by decide +kernel
theorem dX5_traveller_59 : decode cX5_traveller 59 = .ok (.getfield 19, 3) := by decide +kernel
theorem dX5_traveller_62 : decode cX5_traveller 62 = .ok (.getfield 98, 3) := by decide +kernel
theorem dX5_traveller_65 : decode cX5_traveller 65 = .ok (.iload_n 1, 1) := by decide +kernel
theorem dX5_traveller_66 : decode cX5_traveller 66 = .ok (.iaload, 1) := by decide +kernel
theorem dX5_traveller_67 : decode cX5_traveller 67 = .ok (.ireturn, 1) := by decide +kernel
theorem dX5_traveller_68 : decode cX5_traveller 68 = .ok (.aload_n 0, 1) := by decide +kernel
theorem dX5_traveller_69 : decode cX5_traveller 69 = .ok (.getfield 29, 3) := by decide +kernel
theorem dX5_traveller_72 : decode cX5_traveller 72 = .ok (.iload_n 1, 1) := by decide +kernel
theorem dX5_traveller_73 : decode cX5_traveller 73 = .ok (.invokevirtual 101, 3) := by decide +kernel
theorem dX5_traveller_76 : decode cX5_traveller 76 = .ok (.ireturn, 1) := by decide +kernel
theorem dX5_traveller_77 : decode cX5_traveller 77 = .ok (.aload_n 0, 1) := by decide +kernel
theorem dX5_traveller_78 : decode cX5_traveller 78 = .ok (.getfield 29, 3) := by decide +kernel
theorem dX5_traveller_81 : decode cX5_traveller 81 = .ok (.iload_n 1, 1) := by decide +kernel
theorem dX5_traveller_82 : decode cX5_traveller 82 = .ok (.invokevirtual 105, 3) := by decide +kernel
theorem dX5_traveller_85 : decode cX5_traveller 85 = .ok (.ireturn, 1) := by decide +kernel
theorem dX5_traveller_86 : decode cX5_traveller 86 = .ok (.aload_n 0, 1) := by decide +kernel
theorem dX5_traveller_87 : decode cX5_traveller 87 = .ok (.getfield 29, 3) := by decide +kernel
theorem dX5_traveller_90 : decode cX5_traveller 90 = .ok (.iload_n 1, 1) := by decide +kernel
theorem dX5_traveller_91 : decode cX5_traveller 91 = .ok (.invokevirtual 108, 3) := by decide +kernel
theorem dX5_traveller_94 : decode cX5_traveller 94 = .ok (.ifCond .eq 7, 3) := by decide +kernel
theorem dX5_traveller_97 : decode cX5_traveller 97 = .ok (.iconst 1, 1) := by decide +kernel
theorem dX5_traveller_98 : decode cX5_traveller 98 = .ok (.goto 4, 3) := by decide +kernel
theorem dX5_traveller_101 : decode cX5_traveller 101 = .ok (.iconst 0, 1) := by decide +kernel
theorem dX5_traveller_102 : decode cX5_traveller 102 = .ok (.ireturn, 1) := by decide +kernel
theorem dX5_traveller_103 : decode cX5_traveller 103 = .ok (.iconst (-1), 1) := by decide +kernel
theorem dX5_traveller_104 : decode cX5_traveller 104 = .ok (.ireturn, 1) := by decide +kernel
theorem dX5_clerk_0 : decode cX5_clerk 0 = .ok (.aload_n 0, 1) := by decide +kernel
theorem dX5_clerk_1 : decode cX5_clerk 1 = .ok (.getfield 19, 3) := by decide +kernel
theorem dX5_clerk_4 : decode cX5_clerk 4 = .ok (.iload_n 1, 1) := by decide +kernel
theorem dX5_clerk_5 : decode cX5_clerk 5 = .ok (.invokevirtual 111, 3) := by decide +kernel
theorem dX5_clerk_8 : decode cX5_clerk 8 = .ok (.ifCond .ne 5, 3) := by decide +kernel
theorem dX5_clerk_11 : decode cX5_clerk 11 = .ok (.iconst (-1), 1) := by decide +kernel
theorem dX5_clerk_12 : decode cX5_clerk 12 = .ok (.ireturn, 1) := by decide +kernel
theorem dX5_clerk_13 : decode cX5_clerk 13 = .ok (.iload_n 2, 1) := by decide +kernel
theorem dX5_clerk_14 : decode cX5_clerk 14 = .ok (.tableswitch 56 0 2 #[26, 36, 46], 26) := by decide +kernel
theorem dX5_clerk_40 : decode cX5_clerk 40 = .ok (.aload_n 0, 1) := by decide +kernel
theorem dX5_clerk_41 : decode cX5_clerk 41 = .ok (.getfield 19, 3) := by decide +kernel
theorem dX5_clerk_44 : decode cX5_clerk 44 = .ok (.getfield 114, 3) := by decide +kernel
theorem dX5_clerk_47 : decode cX5_clerk 47 = .ok (.iload_n 1, 1) := by decide +kernel
theorem dX5_clerk_48 : decode cX5_clerk 48 = .ok (.iaload, 1) := by decide +kernel
theorem dX5_clerk_49 : decode cX5_clerk 49 = .ok (.ireturn, 1) := by decide +kernel
theorem dX5_clerk_50 : decode cX5_clerk 50 = .ok (.aload_n 0, 1) := by decide +kernel
theorem dX5_clerk_51 : decode cX5_clerk 51 = .ok (.getfield 19, 3) := by decide +kernel
theorem dX5_clerk_54 : decode cX5_clerk 54 = .ok (.getfield 117, 3) := by decide +kernel
theorem dX5_clerk_57 : decode cX5_clerk 57 = .ok (.iload_n 1, 1) := by decide +kernel
theorem dX5_clerk_58 : decode cX5_clerk 58 = .ok (.iaload, 1) := by decide +kernel
theorem dX5_clerk_59 : decode cX5_clerk 59 = .ok (.ireturn, 1) := by decide +kernel
theorem dX5_clerk_60 : decode cX5_clerk 60 = .ok (.aload_n 0, 1) := by decide +kernel
theorem dX5_clerk_61 : decode cX5_clerk 61 = .ok (.getfield 19, 3) := by decide +kernel
theorem dX5_clerk_64 : decode cX5_clerk 64 = .ok (.getfield 120, 3) := by decide +kernel
theorem dX5_clerk_67 : decode cX5_clerk 67 = .ok (.iload_n 1, 1) := by decide +kernel
theorem dX5_clerk_68 : decode cX5_clerk 68 = .ok (.iaload, 1) := by decide +kernel
theorem dX5_clerk_69 : decode cX5_clerk 69 = .ok (.ireturn, 1) := by decide +kernel
theorem dX5_clerk_70 : decode cX5_clerk 70 = .ok (.iconst (-1), 1) := by decide +kernel
theorem dX5_clerk_71 : decode cX5_clerk 71 = .ok (.ireturn, 1) := by decide +kernel
theorem dX5_now_0 : decode cX5_now 0 = .ok (.iload_n 1, 1) := by decide +kernel
theorem dX5_now_1 : decode cX5_now 1 = .ok (.tableswitch 110 0 5 #[39, 47, 55, 71, 79, 102], 39) := by decide +kernel
theorem dX5_now_40 : decode cX5_now 40 = .ok (.aload_n 0, 1) := by decide +kernel
theorem dX5_now_41 : decode cX5_now 41 = .ok (.getfield 29, 3) := by decide +kernel
theorem dX5_now_44 : decode cX5_now 44 = .ok (.getfield 123, 3) := by decide +kernel
theorem dX5_now_47 : decode cX5_now 47 = .ok (.ireturn, 1) := by decide +kernel
theorem dX5_now_48 : decode cX5_now 48 = .ok (.aload_n 0, 1) := by decide +kernel
theorem dX5_now_49 : decode cX5_now 49 = .ok (.getfield 29, 3) := by decide +kernel
theorem dX5_now_52 : decode cX5_now 52 = .ok (.getfield 126, 3) := by decide +kernel
theorem dX5_now_55 : decode cX5_now 55 = .ok (.ireturn, 1) := by decide +kernel
theorem dX5_now_56 : decode cX5_now 56 = .ok (.aload_n 0, 1) := by decide +kernel
theorem dX5_now_57 : decode cX5_now 57 = .ok (.getfield 29, 3) := by decide +kernel
theorem dX5_now_60 : decode cX5_now 60 = .ok (.aload_n 0, 1) := by decide +kernel
theorem dX5_now_61 : decode cX5_now 61 = .ok (.getfield 19, 3) := by decide +kernel
theorem dX5_now_64 : decode cX5_now 64 = .ok (.getfield 129, 3) := by decide +kernel
theorem dX5_now_67 : decode cX5_now 67 = .ok (.iconst 0, 1) := by decide +kernel
theorem dX5_now_68 : decode cX5_now 68 = .ok (.invokevirtual 132, 3) := by decide +kernel
theorem dX5_now_71 : decode cX5_now 71 = .ok (.ireturn, 1) := by decide +kernel
theorem dX5_now_72 : decode cX5_now 72 = .ok (.aload_n 0, 1) := by decide +kernel
theorem dX5_now_73 : decode cX5_now 73 = .ok (.getfield 29, 3) := by decide +kernel
theorem dX5_now_76 : decode cX5_now 76 = .ok (.getfield 136, 3) := by decide +kernel
theorem dX5_now_79 : decode cX5_now 79 = .ok (.ireturn, 1) := by decide +kernel
theorem dX5_now_80 : decode cX5_now 80 = .ok (.aload_n 0, 1) := by decide +kernel
theorem dX5_now_81 : decode cX5_now 81 = .ok (.getfield 19, 3) := by decide +kernel
theorem dX5_now_84 : decode cX5_now 84 = .ok (.aload_n 0, 1) := by decide +kernel
theorem dX5_now_85 : decode cX5_now 85 = .ok (.getfield 29, 3) := by decide +kernel
theorem dX5_now_88 : decode cX5_now 88 = .ok (.getfield 123, 3) := by decide +kernel
theorem dX5_now_91 : decode cX5_now 91 = .ok (.invokevirtual 139, 3) := by decide +kernel
theorem dX5_now_94 : decode cX5_now 94 = .ok (.ifCond .eq 7, 3) := by decide +kernel
theorem dX5_now_97 : decode cX5_now 97 = .ok (.iconst 1, 1) := by decide +kernel
theorem dX5_now_98 : decode cX5_now 98 = .ok (.goto 4, 3) := by decide +kernel
theorem dX5_now_101 : decode cX5_now 101 = .ok (.iconst 0, 1) := by decide +kernel
theorem dX5_now_102 : decode cX5_now 102 = .ok (.ireturn, 1) := by decide +kernel
theorem dX5_now_103 : decode cX5_now 103 = .ok (.aload_n 0, 1) := by decide +kernel
theorem dX5_now_104 : decode cX5_now 104 = .ok (.getfield 36, 3) := by decide +kernel
theorem dX5_now_107 : decode cX5_now 107 = .ok (.getfield 89, 3) := by decide +kernel
theorem dX5_now_110 : decode cX5_now 110 = .ok (.ireturn, 1) := by decide +kernel
theorem dX5_now_111 : decode cX5_now 111 = .ok (.iconst (-1), 1) := by decide +kernel
theorem dX5_now_112 : decode cX5_now 112 = .ok (.ireturn, 1) := by decide +kernel
theorem dX5_puts_0 : decode cX5_puts 0 = .ok (.aload_n 0, 1) := by decide +kernel
theorem dX5_puts_1 : decode cX5_puts 1 = .ok (.getfield 19, 3) := by decide +kernel
theorem dX5_puts_4 : decode cX5_puts 4 = .ok (.iload_n 1, 1) := by decide +kernel
theorem dX5_puts_5 : decode cX5_puts 5 = .ok (.invokevirtual 92, 3) := by decide +kernel
theorem dX5_puts_8 : decode cX5_puts 8 = .ok (.ifCond .eq 14, 3) := by decide +kernel
theorem dX5_puts_11 : decode cX5_puts 11 = .ok (.aload_n 0, 1) := by decide +kernel
theorem dX5_puts_12 : decode cX5_puts 12 = .ok (.getfield 19, 3) := by decide +kernel
theorem dX5_puts_15 : decode cX5_puts 15 = .ok (.iload_n 2, 1) := by decide +kernel
theorem dX5_puts_16 : decode cX5_puts 16 = .ok (.invokevirtual 142, 3) := by decide +kernel
theorem dX5_puts_19 : decode cX5_puts 19 = .ok (.ifCond .ne 5, 3) := by decide +kernel
theorem dX5_puts_22 : decode cX5_puts 22 = .ok (.iconst (-1), 1) := by decide +kernel
theorem dX5_puts_23 : decode cX5_puts 23 = .ok (.ireturn, 1) := by decide +kernel
theorem dX5_puts_24 : decode cX5_puts 24 = .ok (.aload_n 0, 1) := by decide +kernel
theorem dX5_puts_25 : decode cX5_puts 25 = .ok (.getfield 29, 3) := by decide +kernel
theorem dX5_puts_28 : decode cX5_puts 28 = .ok (.getfield 123, 3) := by decide +kernel
theorem dX5_puts_31 : decode cX5_puts 31 = .ok (.aload_n 0, 1) := by decide +kernel
theorem dX5_puts_32 : decode cX5_puts 32 = .ok (.getfield 19, 3) := by decide +kernel
theorem dX5_puts_35 : decode cX5_puts 35 = .ok (.getfield 95, 3) := by decide +kernel
theorem dX5_puts_38 : decode cX5_puts 38 = .ok (.iload_n 1, 1) := by decide +kernel
theorem dX5_puts_39 : decode cX5_puts 39 = .ok (.iaload, 1) := by decide +kernel
theorem dX5_puts_40 : decode cX5_puts 40 = .ok (.if_icmp .lt 27, 3) := by decide +kernel
theorem dX5_puts_43 : decode cX5_puts 43 = .ok (.aload_n 0, 1) := by decide +kernel
theorem dX5_puts_44 : decode cX5_puts 44 = .ok (.getfield 29, 3) := by decide +kernel
theorem dX5_puts_47 : decode cX5_puts 47 = .ok (.iload_n 1, 1) := by decide +kernel
theorem dX5_puts_48 : decode cX5_puts 48 = .ok (.invokevirtual 101, 3) := by decide +kernel
theorem dX5_puts_51 : decode cX5_puts 51 = .ok (.bipush (-9), 2) := by decide +kernel
theorem dX5_puts_53 : decode cX5_puts 53 = .ok (.if_icmp .ne 14, 3) := by decide +kernel
theorem dX5_puts_56 : decode cX5_puts 56 = .ok (.aload_n 0, 1) := by decide +kernel
theorem dX5_puts_57 : decode cX5_puts 57 = .ok (.getfield 29, 3) := by decide +kernel
theorem dX5_puts_60 : decode cX5_puts 60 = .ok (.iload_n 1, 1) := by decide +kernel
theorem dX5_puts_61 : decode cX5_puts 61 = .ok (.invokevirtual 108, 3) := by decide +kernel
theorem dX5_puts_64 : decode cX5_puts 64 = .ok (.ifCond .eq 6, 3) := by decide +kernel
theorem dX5_puts_67 : decode cX5_puts 67 = .ok (.bipush (-2), 2) := by decide +kernel
theorem dX5_puts_69 : decode cX5_puts 69 = .ok (.ireturn, 1) := by decide +kernel
theorem dX5_puts_70 : decode cX5_puts 70 = .ok (.aload_n 0, 1) := by decide +kernel
theorem dX5_puts_71 : decode cX5_puts 71 = .ok (.getfield 36, 3) := by decide +kernel
theorem dX5_puts_74 : decode cX5_puts 74 = .ok (.aload_n 0, 1) := by decide +kernel
theorem dX5_puts_75 : decode cX5_puts 75 = .ok (.getfield 29, 3) := by decide +kernel
theorem dX5_puts_78 : decode cX5_puts 78 = .ok (.invokevirtual 145, 3) := by decide +kernel
theorem dX5_puts_81 : decode cX5_puts 81 = .ok (.aload_n 0, 1) := by decide +kernel
theorem dX5_puts_82 : decode cX5_puts 82 = .ok (.getfield 29, 3) := by decide +kernel
theorem dX5_puts_85 : decode cX5_puts 85 = .ok (.getfield 149, 3) := by decide +kernel
theorem dX5_puts_88 : decode cX5_puts 88 = .ok (.iload_n 2, 1) := by decide +kernel
theorem dX5_puts_89 : decode cX5_puts 89 = .ok (.dup2, 1) := by decide +kernel
theorem dX5_puts_90 : decode cX5_puts 90 = .ok (.iaload, 1) := by decide +kernel
theorem dX5_puts_91 : decode cX5_puts 91 = .ok (.iconst 1, 1) := by decide +kernel
theorem dX5_puts_92 : decode cX5_puts 92 = .ok (.iload_n 1, 1) := by decide +kernel
theorem dX5_puts_93 : decode cX5_puts 93 = .ok (.ishl, 1) := by decide +kernel
theorem dX5_puts_94 : decode cX5_puts 94 = .ok (.ior, 1) := by decide +kernel
theorem dX5_puts_95 : decode cX5_puts 95 = .ok (.iastore, 1) := by decide +kernel
theorem dX5_puts_96 : decode cX5_puts 96 = .ok (.aload_n 0, 1) := by decide +kernel
theorem dX5_puts_97 : decode cX5_puts 97 = .ok (.getfield 29, 3) := by decide +kernel
theorem dX5_puts_100 : decode cX5_puts 100 = .ok (.getfield 152, 3) := by decide +kernel
theorem dX5_puts_103 : decode cX5_puts 103 = .ok (.iload_n 2, 1) := by decide +kernel
theorem dX5_puts_104 : decode cX5_puts 104 = .ok (.iconst 0, 1) := by decide +kernel
theorem dX5_puts_105 : decode cX5_puts 105 = .ok (.iastore, 1) := by decide +kernel
theorem dX5_puts_106 : decode cX5_puts 106 = .ok (.aload_n 0, 1) := by decide +kernel
theorem dX5_puts_107 : decode cX5_puts 107 = .ok (.getfield 29, 3) := by decide +kernel
theorem dX5_puts_110 : decode cX5_puts 110 = .ok (.getfield 149, 3) := by decide +kernel
theorem dX5_puts_113 : decode cX5_puts 113 = .ok (.iload_n 2, 1) := by decide +kernel
theorem dX5_puts_114 : decode cX5_puts 114 = .ok (.iaload, 1) := by decide +kernel
theorem dX5_puts_115 : decode cX5_puts 115 = .ok (.invokestatic 155, 3) := by decide +kernel
theorem dX5_puts_118 : decode cX5_puts 118 = .ok (.ireturn, 1) := by decide +kernel
theorem dX5_day_0 : decode cX5_day 0 = .ok (.aload_n 0, 1) := by decide +kernel
theorem dX5_day_1 : decode cX5_day 1 = .ok (.getfield 29, 3) := by decide +kernel
theorem dX5_day_4 : decode cX5_day 4 = .ok (.getfield 123, 3) := by decide +kernel
theorem dX5_day_7 : decode cX5_day 7 = .ok (.sipush 200, 3) := by decide +kernel
theorem dX5_day_10 : decode cX5_day 10 = .ok (.if_icmp .lt 6, 3) := by decide +kernel
theorem dX5_day_13 : decode cX5_day 13 = .ok (.bipush (-2), 2) := by decide +kernel
theorem dX5_day_15 : decode cX5_day 15 = .ok (.ireturn, 1) := by decide +kernel
theorem dX5_day_16 : decode cX5_day 16 = .ok (.aload_n 0, 1) := by decide +kernel
theorem dX5_day_17 : decode cX5_day 17 = .ok (.getfield 36, 3) := by decide +kernel
theorem dX5_day_20 : decode cX5_day 20 = .ok (.aload_n 0, 1) := by decide +kernel
theorem dX5_day_21 : decode cX5_day 21 = .ok (.getfield 29, 3) := by decide +kernel
theorem dX5_day_24 : decode cX5_day 24 = .ok (.invokevirtual 145, 3) := by decide +kernel
theorem dX5_day_27 : decode cX5_day 27 = .ok (.aload_n 0, 1) := by decide +kernel
theorem dX5_day_28 : decode cX5_day 28 = .ok (.getfield 29, 3) := by decide +kernel
theorem dX5_day_31 : decode cX5_day 31 = .ok (.invokevirtual 160, 3) := by decide +kernel
theorem dX5_day_34 : decode cX5_day 34 = .ok (.aload_n 0, 1) := by decide +kernel
theorem dX5_day_35 : decode cX5_day 35 = .ok (.getfield 29, 3) := by decide +kernel
theorem dX5_day_38 : decode cX5_day 38 = .ok (.aload_n 0, 1) := by decide +kernel
theorem dX5_day_39 : decode cX5_day 39 = .ok (.getfield 19, 3) := by decide +kernel
theorem dX5_day_42 : decode cX5_day 42 = .ok (.getfield 129, 3) := by decide +kernel
theorem dX5_day_45 : decode cX5_day 45 = .ok (.iconst 0, 1) := by decide +kernel
theorem dX5_day_46 : decode cX5_day 46 = .ok (.invokevirtual 132, 3) := by decide +kernel
theorem dX5_day_49 : decode cX5_day 49 = .ok (.ireturn, 1) := by decide +kernel
theorem dX5_sails_0 : decode cX5_sails 0 = .ok (.aload_n 0, 1) := by decide +kernel
theorem dX5_sails_1 : decode cX5_sails 1 = .ok (.getfield 19, 3) := by decide +kernel
theorem dX5_sails_4 : decode cX5_sails 4 = .ok (.iload_n 1, 1) := by decide +kernel
theorem dX5_sails_5 : decode cX5_sails 5 = .ok (.invokevirtual 92, 3) := by decide +kernel
theorem dX5_sails_8 : decode cX5_sails 8 = .ok (.ifCond .ne 5, 3) := by decide +kernel
theorem dX5_sails_11 : decode cX5_sails 11 = .ok (.iconst (-1), 1) := by decide +kernel
theorem dX5_sails_12 : decode cX5_sails 12 = .ok (.ireturn, 1) := by decide +kernel
theorem dX5_sails_13 : decode cX5_sails 13 = .ok (.aload_n 0, 1) := by decide +kernel
theorem dX5_sails_14 : decode cX5_sails 14 = .ok (.getfield 29, 3) := by decide +kernel
theorem dX5_sails_17 : decode cX5_sails 17 = .ok (.aload_n 0, 1) := by decide +kernel
theorem dX5_sails_18 : decode cX5_sails 18 = .ok (.getfield 19, 3) := by decide +kernel
theorem dX5_sails_21 : decode cX5_sails 21 = .ok (.getfield 129, 3) := by decide +kernel
theorem dX5_sails_24 : decode cX5_sails 24 = .ok (.iconst 0, 1) := by decide +kernel
theorem dX5_sails_25 : decode cX5_sails 25 = .ok (.invokevirtual 132, 3) := by decide +kernel
theorem dX5_sails_28 : decode cX5_sails 28 = .ok (.iload_n 1, 1) := by decide +kernel
theorem dX5_sails_29 : decode cX5_sails 29 = .ok (.ishr, 1) := by decide +kernel
theorem dX5_sails_30 : decode cX5_sails 30 = .ok (.iconst 1, 1) := by decide +kernel
theorem dX5_sails_31 : decode cX5_sails 31 = .ok (.iand, 1) := by decide +kernel
theorem dX5_sails_32 : decode cX5_sails 32 = .ok (.ifCond .eq 7, 3) := by decide +kernel
theorem dX5_sails_35 : decode cX5_sails 35 = .ok (.iconst 1, 1) := by decide +kernel
theorem dX5_sails_36 : decode cX5_sails 36 = .ok (.goto 4, 3) := by decide +kernel
theorem dX5_sails_39 : decode cX5_sails 39 = .ok (.iconst 0, 1) := by decide +kernel
theorem dX5_sails_40 : decode cX5_sails 40 = .ok (.istore_n 2, 1) := by decide +kernel
theorem dX5_sails_41 : decode cX5_sails 41 = .ok (.iload_n 2, 1) := by decide +kernel
theorem dX5_sails_42 : decode cX5_sails 42 = .ok (.ifCond .eq 20, 3) := by decide +kernel
theorem dX5_sails_45 : decode cX5_sails 45 = .ok (.aload_n 0, 1) := by decide +kernel
theorem dX5_sails_46 : decode cX5_sails 46 = .ok (.getfield 19, 3) := by decide +kernel
theorem dX5_sails_49 : decode cX5_sails 49 = .ok (.aload_n 0, 1) := by decide +kernel
theorem dX5_sails_50 : decode cX5_sails 50 = .ok (.getfield 29, 3) := by decide +kernel
theorem dX5_sails_53 : decode cX5_sails 53 = .ok (.getfield 123, 3) := by decide +kernel
theorem dX5_sails_56 : decode cX5_sails 56 = .ok (.invokevirtual 139, 3) := by decide +kernel
theorem dX5_sails_59 : decode cX5_sails 59 = .ok (.ifCond .ne 6, 3) := by decide +kernel
theorem dX5_sails_62 : decode cX5_sails 62 = .ok (.bipush (-2), 2) := by decide +kernel
theorem dX5_sails_64 : decode cX5_sails 64 = .ok (.ireturn, 1) := by decide +kernel
theorem dX5_sails_65 : decode cX5_sails 65 = .ok (.aload_n 0, 1) := by decide +kernel
theorem dX5_sails_66 : decode cX5_sails 66 = .ok (.getfield 36, 3) := by decide +kernel
theorem dX5_sails_69 : decode cX5_sails 69 = .ok (.aload_n 0, 1) := by decide +kernel
theorem dX5_sails_70 : decode cX5_sails 70 = .ok (.getfield 29, 3) := by decide +kernel
theorem dX5_sails_73 : decode cX5_sails 73 = .ok (.invokevirtual 145, 3) := by decide +kernel
theorem dX5_sails_76 : decode cX5_sails 76 = .ok (.aload_n 0, 1) := by decide +kernel
theorem dX5_sails_77 : decode cX5_sails 77 = .ok (.getfield 29, 3) := by decide +kernel
theorem dX5_sails_80 : decode cX5_sails 80 = .ok (.iload_n 1, 1) := by decide +kernel
theorem dX5_sails_81 : decode cX5_sails 81 = .ok (.invokevirtual 163, 3) := by decide +kernel
theorem dX5_sails_84 : decode cX5_sails 84 = .ok (.aload_n 0, 1) := by decide +kernel
theorem dX5_sails_85 : decode cX5_sails 85 = .ok (.getfield 29, 3) := by decide +kernel
theorem dX5_sails_88 : decode cX5_sails 88 = .ok (.getfield 136, 3) := by decide +kernel
theorem dX5_sails_91 : decode cX5_sails 91 = .ok (.invokestatic 155, 3) := by decide +kernel
theorem dX5_sails_94 : decode cX5_sails 94 = .ok (.ireturn, 1) := by decide +kernel
theorem dX5_undo_0 : decode cX5_undo 0 = .ok (.aload_n 0, 1) := by decide +kernel
theorem dX5_undo_1 : decode cX5_undo 1 = .ok (.getfield 36, 3) := by decide +kernel
theorem dX5_undo_4 : decode cX5_undo 4 = .ok (.getfield 89, 3) := by decide +kernel
theorem dX5_undo_7 : decode cX5_undo 7 = .ok (.ifCond .ne 6, 3) := by decide +kernel
theorem dX5_undo_10 : decode cX5_undo 10 = .ok (.bipush (-2), 2) := by decide +kernel
theorem dX5_undo_12 : decode cX5_undo 12 = .ok (.ireturn, 1) := by decide +kernel
theorem dX5_undo_13 : decode cX5_undo 13 = .ok (.aload_n 0, 1) := by decide +kernel
theorem dX5_undo_14 : decode cX5_undo 14 = .ok (.getfield 36, 3) := by decide +kernel
theorem dX5_undo_17 : decode cX5_undo 17 = .ok (.aload_n 0, 1) := by decide +kernel
theorem dX5_undo_18 : decode cX5_undo 18 = .ok (.getfield 29, 3) := by decide +kernel
theorem dX5_undo_21 : decode cX5_undo 21 = .ok (.invokevirtual 167, 3) := by decide +kernel
theorem dX5_undo_24 : decode cX5_undo 24 = .ok (.aload_n 0, 1) := by decide +kernel
theorem dX5_undo_25 : decode cX5_undo 25 = .ok (.getfield 36, 3) := by decide +kernel
theorem dX5_undo_28 : decode cX5_undo 28 = .ok (.getfield 89, 3) := by decide +kernel
theorem dX5_undo_31 : decode cX5_undo 31 = .ok (.ireturn, 1) := by decide +kernel
theorem dX5_most_0 : decode cX5_most 0 = .ok (.iload_n 1, 1) := by decide +kernel
theorem dX5_most_1 : decode cX5_most 1 = .ok (.ifCond .lt 18, 3) := by decide +kernel
theorem dX5_most_4 : decode cX5_most 4 = .ok (.iload_n 1, 1) := by decide +kernel
theorem dX5_most_5 : decode cX5_most 5 = .ok (.sipush 200, 3) := by decide +kernel
theorem dX5_most_8 : decode cX5_most 8 = .ok (.if_icmp .gt 11, 3) := by decide +kernel
theorem dX5_most_11 : decode cX5_most 11 = .ok (.aload_n 0, 1) := by decide +kernel
theorem dX5_most_12 : decode cX5_most 12 = .ok (.iload_n 2, 1) := by decide +kernel
theorem dX5_most_13 : decode cX5_most 13 = .ok (.invokevirtual 170, 3) := by decide +kernel
theorem dX5_most_16 : decode cX5_most 16 = .ok (.ifCond .ne 5, 3) := by decide +kernel
theorem dX5_most_19 : decode cX5_most 19 = .ok (.iconst (-1), 1) := by decide +kernel
theorem dX5_most_20 : decode cX5_most 20 = .ok (.ireturn, 1) := by decide +kernel
theorem dX5_most_21 : decode cX5_most 21 = .ok (.aload_n 0, 1) := by decide +kernel
theorem dX5_most_22 : decode cX5_most 22 = .ok (.getfield 51, 3) := by decide +kernel
theorem dX5_most_25 : decode cX5_most 25 = .ok (.aload_n 0, 1) := by decide +kernel
theorem dX5_most_26 : decode cX5_most 26 = .ok (.getfield 19, 3) := by decide +kernel
theorem dX5_most_29 : decode cX5_most 29 = .ok (.iload_n 1, 1) := by decide +kernel
theorem dX5_most_30 : decode cX5_most 30 = .ok (.invokevirtual 173, 3) := by decide +kernel
theorem dX5_most_33 : decode cX5_most 33 = .ok (.aload_n 0, 1) := by decide +kernel
theorem dX5_most_34 : decode cX5_most 34 = .ok (.getfield 51, 3) := by decide +kernel
theorem dX5_most_37 : decode cX5_most 37 = .ok (.aload_n 0, 1) := by decide +kernel
theorem dX5_most_38 : decode cX5_most 38 = .ok (.getfield 19, 3) := by decide +kernel
theorem dX5_most_41 : decode cX5_most 41 = .ok (.invokevirtual 177, 3) := by decide +kernel
theorem dX5_most_44 : decode cX5_most 44 = .ok (.ineg, 1) := by decide +kernel
theorem dX5_most_45 : decode cX5_most 45 = .ok (.istore_n 3, 1) := by decide +kernel
theorem dX5_most_46 : decode cX5_most 46 = .ok (.iload_n 2, 1) := by decide +kernel
theorem dX5_most_47 : decode cX5_most 47 = .ok (.bipush (-9), 2) := by decide +kernel
theorem dX5_most_49 : decode cX5_most 49 = .ok (.if_icmp .ne 7, 3) := by decide +kernel
theorem dX5_most_52 : decode cX5_most 52 = .ok (.iload_n 3, 1) := by decide +kernel
theorem dX5_most_53 : decode cX5_most 53 = .ok (.goto 15, 3) := by decide +kernel
theorem dX5_most_56 : decode cX5_most 56 = .ok (.aload_n 0, 1) := by decide +kernel
theorem dX5_most_57 : decode cX5_most 57 = .ok (.getfield 51, 3) := by decide +kernel
theorem dX5_most_60 : decode cX5_most 60 = .ok (.aload_n 0, 1) := by decide +kernel
theorem dX5_most_61 : decode cX5_most 61 = .ok (.getfield 19, 3) := by decide +kernel
theorem dX5_most_64 : decode cX5_most 64 = .ok (.iload_n 2, 1) := by decide +kernel
theorem dX5_most_65 : decode cX5_most 65 = .ok (.invokevirtual 180, 3) := by decide +kernel
theorem dX5_most_68 : decode cX5_most 68 = .ok (.ireturn, 1) := by decide +kernel
theorem dX5_soonest_0 : decode cX5_soonest 0 = .ok (.aload_n 0, 1) := by decide +kernel
theorem dX5_soonest_1 : decode cX5_soonest 1 = .ok (.iload_n 1, 1) := by decide +kernel
theorem dX5_soonest_2 : decode cX5_soonest 2 = .ok (.invokevirtual 170, 3) := by decide +kernel
theorem dX5_soonest_5 : decode cX5_soonest 5 = .ok (.ifCond .ne 5, 3) := by decide +kernel
theorem dX5_soonest_8 : decode cX5_soonest 8 = .ok (.iconst (-1), 1) := by decide +kernel
theorem dX5_soonest_9 : decode cX5_soonest 9 = .ok (.ireturn, 1) := by decide +kernel
theorem dX5_soonest_10 : decode cX5_soonest 10 = .ok (.aload_n 0, 1) := by decide +kernel
theorem dX5_soonest_11 : decode cX5_soonest 11 = .ok (.getfield 51, 3) := by decide +kernel
theorem dX5_soonest_14 : decode cX5_soonest 14 = .ok (.aload_n 0, 1) := by decide +kernel
theorem dX5_soonest_15 : decode cX5_soonest 15 = .ok (.getfield 19, 3) := by decide +kernel
theorem dX5_soonest_18 : decode cX5_soonest 18 = .ok (.bipush (-9), 2) := by decide +kernel
theorem dX5_soonest_20 : decode cX5_soonest 20 = .ok (.invokevirtual 173, 3) := by decide +kernel
theorem dX5_soonest_23 : decode cX5_soonest 23 = .ok (.aload_n 0, 1) := by decide +kernel
theorem dX5_soonest_24 : decode cX5_soonest 24 = .ok (.getfield 51, 3) := by decide +kernel
theorem dX5_soonest_27 : decode cX5_soonest 27 = .ok (.aload_n 0, 1) := by decide +kernel
theorem dX5_soonest_28 : decode cX5_soonest 28 = .ok (.getfield 19, 3) := by decide +kernel
theorem dX5_soonest_31 : decode cX5_soonest 31 = .ok (.invokevirtual 177, 3) := by decide +kernel
theorem dX5_soonest_34 : decode cX5_soonest 34 = .ok (.istore_n 2, 1) := by decide +kernel
theorem dX5_soonest_35 : decode cX5_soonest 35 = .ok (.iload_n 1, 1) := by decide +kernel
theorem dX5_soonest_36 : decode cX5_soonest 36 = .ok (.bipush (-9), 2) := by decide +kernel
theorem dX5_soonest_38 : decode cX5_soonest 38 = .ok (.if_icmp .ne 11, 3) := by decide +kernel
theorem dX5_soonest_41 : decode cX5_soonest 41 = .ok (.iload_n 2, 1) := by decide +kernel
theorem dX5_soonest_42 : decode cX5_soonest 42 = .ok (.sipush 1000, 3) := by decide +kernel
theorem dX5_soonest_45 : decode cX5_soonest 45 = .ok (.idiv, 1) := by decide +kernel
theorem dX5_soonest_46 : decode cX5_soonest 46 = .ok (.goto 15, 3) := by decide +kernel
theorem dX5_soonest_49 : decode cX5_soonest 49 = .ok (.aload_n 0, 1) := by decide +kernel
theorem dX5_soonest_50 : decode cX5_soonest 50 = .ok (.getfield 51, 3) := by decide +kernel
theorem dX5_soonest_53 : decode cX5_soonest 53 = .ok (.aload_n 0, 1) := by decide +kernel
theorem dX5_soonest_54 : decode cX5_soonest 54 = .ok (.getfield 19, 3) := by decide +kernel
theorem dX5_soonest_57 : decode cX5_soonest 57 = .ok (.iload_n 1, 1) := by decide +kernel
theorem dX5_soonest_58 : decode cX5_soonest 58 = .ok (.invokevirtual 180, 3) := by decide +kernel
theorem dX5_soonest_61 : decode cX5_soonest 61 = .ok (.ireturn, 1) := by decide +kernel
theorem dX5_plan_0 : decode cX5_plan 0 = .ok (.aload_n 0, 1) := by decide +kernel
theorem dX5_plan_1 : decode cX5_plan 1 = .ok (.iload_n 2, 1) := by decide +kernel
theorem dX5_plan_2 : decode cX5_plan 2 = .ok (.invokevirtual 170, 3) := by decide +kernel
theorem dX5_plan_5 : decode cX5_plan 5 = .ok (.ifCond .eq 18, 3) := by decide +kernel
theorem dX5_plan_8 : decode cX5_plan 8 = .ok (.aload_n 0, 1) := by decide +kernel
theorem dX5_plan_9 : decode cX5_plan 9 = .ok (.getfield 51, 3) := by decide +kernel
theorem dX5_plan_12 : decode cX5_plan 12 = .ok (.aload_n 0, 1) := by decide +kernel
theorem dX5_plan_13 : decode cX5_plan 13 = .ok (.getfield 19, 3) := by decide +kernel
theorem dX5_plan_16 : decode cX5_plan 16 = .ok (.iload_n 1, 1) := by decide +kernel
theorem dX5_plan_17 : decode cX5_plan 17 = .ok (.invokevirtual 184, 3) := by decide +kernel
theorem dX5_plan_20 : decode cX5_plan 20 = .ok (.ifCond .ne 5, 3) := by decide +kernel
theorem dX5_plan_23 : decode cX5_plan 23 = .ok (.iconst (-1), 1) := by decide +kernel
theorem dX5_plan_24 : decode cX5_plan 24 = .ok (.ireturn, 1) := by decide +kernel
theorem dX5_plan_25 : decode cX5_plan 25 = .ok (.iconst 0, 1) := by decide +kernel
theorem dX5_plan_26 : decode cX5_plan 26 = .ok (.istore_n 3, 1) := by decide +kernel
theorem dX5_plan_27 : decode cX5_plan 27 = .ok (.iconst 0, 1) := by decide +kernel
theorem dX5_plan_28 : decode cX5_plan 28 = .ok (.istore 4, 2) := by decide +kernel
theorem dX5_plan_30 : decode cX5_plan 30 = .ok (.iload 4, 2) := by decide +kernel
theorem dX5_plan_32 : decode cX5_plan 32 = .ok (.iconst 3, 1) := by decide +kernel
theorem dX5_plan_33 : decode cX5_plan 33 = .ok (.if_icmp .ge 33, 3) := by decide +kernel
theorem dX5_plan_36 : decode cX5_plan 36 = .ok (.iload_n 3, 1) := by decide +kernel
theorem dX5_plan_37 : decode cX5_plan 37 = .ok (.aload_n 0, 1) := by decide +kernel
theorem dX5_plan_38 : decode cX5_plan 38 = .ok (.getfield 51, 3) := by decide +kernel
theorem dX5_plan_41 : decode cX5_plan 41 = .ok (.aload_n 0, 1) := by decide +kernel
theorem dX5_plan_42 : decode cX5_plan 42 = .ok (.getfield 19, 3) := by decide +kernel
theorem dX5_plan_45 : decode cX5_plan 45 = .ok (.aload_n 0, 1) := by decide +kernel
theorem dX5_plan_46 : decode cX5_plan 46 = .ok (.getfield 51, 3) := by decide +kernel
theorem dX5_plan_49 : decode cX5_plan 49 = .ok (.getfield 188, 3) := by decide +kernel
theorem dX5_plan_52 : decode cX5_plan 52 = .ok (.iload 4, 2) := by decide +kernel
theorem dX5_plan_54 : decode cX5_plan 54 = .ok (.iaload, 1) := by decide +kernel
theorem dX5_plan_55 : decode cX5_plan 55 = .ok (.invokevirtual 189, 3) := by decide +kernel
theorem dX5_plan_58 : decode cX5_plan 58 = .ok (.iadd, 1) := by decide +kernel
theorem dX5_plan_59 : decode cX5_plan 59 = .ok (.istore_n 3, 1) := by decide +kernel
theorem dX5_plan_60 : decode cX5_plan 60 = .ok (.iinc 4 1, 3) := by decide +kernel
theorem dX5_plan_63 : decode cX5_plan 63 = .ok (.goto (-33), 3) := by decide +kernel
theorem dX5_plan_66 : decode cX5_plan 66 = .ok (.iload_n 2, 1) := by decide +kernel
theorem dX5_plan_67 : decode cX5_plan 67 = .ok (.bipush (-9), 2) := by decide +kernel
theorem dX5_plan_69 : decode cX5_plan 69 = .ok (.if_icmp .ne 7, 3) := by decide +kernel
theorem dX5_plan_72 : decode cX5_plan 72 = .ok (.iload_n 3, 1) := by decide +kernel
theorem dX5_plan_73 : decode cX5_plan 73 = .ok (.goto 12, 3) := by decide +kernel
theorem dX5_plan_76 : decode cX5_plan 76 = .ok (.aload_n 0, 1) := by decide +kernel
theorem dX5_plan_77 : decode cX5_plan 77 = .ok (.getfield 51, 3) := by decide +kernel
theorem dX5_plan_80 : decode cX5_plan 80 = .ok (.getfield 192, 3) := by decide +kernel
theorem dX5_plan_83 : decode cX5_plan 83 = .ok (.iload_n 2, 1) := by decide +kernel
theorem dX5_plan_84 : decode cX5_plan 84 = .ok (.iaload, 1) := by decide +kernel
theorem dX5_plan_85 : decode cX5_plan 85 = .ok (.ireturn, 1) := by decide +kernel
theorem dX5_waits_0 : decode cX5_waits 0 = .ok (.aload_n 0, 1) := by decide +kernel
theorem dX5_waits_1 : decode cX5_waits 1 = .ok (.getfield 19, 3) := by decide +kernel
theorem dX5_waits_4 : decode cX5_waits 4 = .ok (.iload_n 1, 1) := by decide +kernel
theorem dX5_waits_5 : decode cX5_waits 5 = .ok (.invokevirtual 92, 3) := by decide +kernel
theorem dX5_waits_8 : decode cX5_waits 8 = .ok (.ifCond .ne 5, 3) := by decide +kernel
theorem dX5_waits_11 : decode cX5_waits 11 = .ok (.iconst (-1), 1) := by decide +kernel
theorem dX5_waits_12 : decode cX5_waits 12 = .ok (.ireturn, 1) := by decide +kernel
theorem dX5_waits_13 : decode cX5_waits 13 = .ok (.aload_n 0, 1) := by decide +kernel
theorem dX5_waits_14 : decode cX5_waits 14 = .ok (.getfield 29, 3) := by decide +kernel
theorem dX5_waits_17 : decode cX5_waits 17 = .ok (.iload_n 1, 1) := by decide +kernel
theorem dX5_waits_18 : decode cX5_waits 18 = .ok (.invokevirtual 101, 3) := by decide +kernel
theorem dX5_waits_21 : decode cX5_waits 21 = .ok (.bipush (-9), 2) := by decide +kernel
theorem dX5_waits_23 : decode cX5_waits 23 = .ok (.if_icmp .ne 6, 3) := by decide +kernel
theorem dX5_waits_26 : decode cX5_waits 26 = .ok (.bipush (-2), 2) := by decide +kernel
theorem dX5_waits_28 : decode cX5_waits 28 = .ok (.ireturn, 1) := by decide +kernel
theorem dX5_waits_29 : decode cX5_waits 29 = .ok (.iconst 0, 1) := by decide +kernel
theorem dX5_waits_30 : decode cX5_waits 30 = .ok (.aload_n 0, 1) := by decide +kernel
theorem dX5_waits_31 : decode cX5_waits 31 = .ok (.getfield 19, 3) := by decide +kernel
theorem dX5_waits_34 : decode cX5_waits 34 = .ok (.getfield 129, 3) := by decide +kernel
theorem dX5_waits_37 : decode cX5_waits 37 = .ok (.aload_n 0, 1) := by decide +kernel
theorem dX5_waits_38 : decode cX5_waits 38 = .ok (.getfield 29, 3) := by decide +kernel
theorem dX5_waits_41 : decode cX5_waits 41 = .ok (.iload_n 1, 1) := by decide +kernel
theorem dX5_waits_42 : decode cX5_waits 42 = .ok (.invokevirtual 105, 3) := by decide +kernel
theorem dX5_waits_45 : decode cX5_waits 45 = .ok (.isub, 1) := by decide +kernel
theorem dX5_waits_46 : decode cX5_waits 46 = .ok (.invokestatic 195, 3) := by decide +kernel
theorem dX5_waits_49 : decode cX5_waits 49 = .ok (.ireturn, 1) := by decide +kernel
theorem dX5_boat_0 : decode cX5_boat 0 = .ok (.iload_n 1, 1) := by decide +kernel
theorem dX5_boat_1 : decode cX5_boat 1 = .ok (.iconst 1, 1) := by decide +kernel
theorem dX5_boat_2 : decode cX5_boat 2 = .ok (.if_icmp .lt 18, 3) := by decide +kernel
theorem dX5_boat_5 : decode cX5_boat 5 = .ok (.iload_n 1, 1) := by decide +kernel
theorem dX5_boat_6 : decode cX5_boat 6 = .ok (.bipush 60, 2) := by decide +kernel
theorem dX5_boat_8 : decode cX5_boat 8 = .ok (.if_icmp .gt 12, 3) := by decide +kernel
theorem dX5_boat_11 : decode cX5_boat 11 = .ok (.iload_n 2, 1) := by decide +kernel
theorem dX5_boat_12 : decode cX5_boat 12 = .ok (.ifCond .lt 8, 3) := by decide +kernel
theorem dX5_boat_15 : decode cX5_boat 15 = .ok (.iload_n 2, 1) := by decide +kernel
theorem dX5_boat_16 : decode cX5_boat 16 = .ok (.iconst 1, 1) := by decide +kernel
theorem dX5_boat_17 : decode cX5_boat 17 = .ok (.if_icmp .le 5, 3) := by decide +kernel
theorem dX5_boat_20 : decode cX5_boat 20 = .ok (.iconst (-1), 1) := by decide +kernel
theorem dX5_boat_21 : decode cX5_boat 21 = .ok (.ireturn, 1) := by decide +kernel
theorem dX5_boat_22 : decode cX5_boat 22 = .ok (.bipush (-9), 2) := by decide +kernel
theorem dX5_boat_24 : decode cX5_boat 24 = .ok (.istore_n 3, 1) := by decide +kernel
theorem dX5_boat_25 : decode cX5_boat 25 = .ok (.iconst 0, 1) := by decide +kernel
theorem dX5_boat_26 : decode cX5_boat 26 = .ok (.istore 4, 2) := by decide +kernel
theorem dX5_boat_28 : decode cX5_boat 28 = .ok (.iconst 0, 1) := by decide +kernel
theorem dX5_boat_29 : decode cX5_boat 29 = .ok (.istore 5, 2) := by decide +kernel
theorem dX5_boat_31 : decode cX5_boat 31 = .ok (.iload 5, 2) := by decide +kernel
theorem dX5_boat_33 : decode cX5_boat 33 = .ok (.iload_n 1, 1) := by decide +kernel
theorem dX5_boat_34 : decode cX5_boat 34 = .ok (.if_icmp .gt 72, 3) := by decide +kernel
theorem dX5_boat_37 : decode cX5_boat 37 = .ok (.aload_n 0, 1) := by decide +kernel
theorem dX5_boat_38 : decode cX5_boat 38 = .ok (.getfield 29, 3) := by decide +kernel
theorem dX5_boat_41 : decode cX5_boat 41 = .ok (.aload_n 0, 1) := by decide +kernel
theorem dX5_boat_42 : decode cX5_boat 42 = .ok (.getfield 19, 3) := by decide +kernel
theorem dX5_boat_45 : decode cX5_boat 45 = .ok (.getfield 129, 3) := by decide +kernel
theorem dX5_boat_48 : decode cX5_boat 48 = .ok (.iload 5, 2) := by decide +kernel
theorem dX5_boat_50 : decode cX5_boat 50 = .ok (.invokevirtual 132, 3) := by decide +kernel
theorem dX5_boat_53 : decode cX5_boat 53 = .ok (.invokestatic 155, 3) := by decide +kernel
theorem dX5_boat_56 : decode cX5_boat 56 = .ok (.istore 6, 2) := by decide +kernel
theorem dX5_boat_58 : decode cX5_boat 58 = .ok (.iload 6, 2) := by decide +kernel
theorem dX5_boat_60 : decode cX5_boat 60 = .ok (.iload 4, 2) := by decide +kernel
theorem dX5_boat_62 : decode cX5_boat 62 = .ok (.if_icmp .le 38, 3) := by decide +kernel
theorem dX5_boat_65 : decode cX5_boat 65 = .ok (.aload_n 0, 1) := by decide +kernel
theorem dX5_boat_66 : decode cX5_boat 66 = .ok (.getfield 19, 3) := by decide +kernel
theorem dX5_boat_69 : decode cX5_boat 69 = .ok (.aload_n 0, 1) := by decide +kernel
theorem dX5_boat_70 : decode cX5_boat 70 = .ok (.getfield 29, 3) := by decide +kernel
theorem dX5_boat_73 : decode cX5_boat 73 = .ok (.getfield 123, 3) := by decide +kernel
theorem dX5_boat_76 : decode cX5_boat 76 = .ok (.iload 5, 2) := by decide +kernel
theorem dX5_boat_78 : decode cX5_boat 78 = .ok (.iadd, 1) := by decide +kernel
theorem dX5_boat_79 : decode cX5_boat 79 = .ok (.invokevirtual 139, 3) := by decide +kernel
theorem dX5_boat_82 : decode cX5_boat 82 = .ok (.ifCond .eq 18, 3) := by decide +kernel
theorem dX5_boat_85 : decode cX5_boat 85 = .ok (.iload 6, 2) := by decide +kernel
theorem dX5_boat_87 : decode cX5_boat 87 = .ok (.istore 4, 2) := by decide +kernel
theorem dX5_boat_89 : decode cX5_boat 89 = .ok (.aload_n 0, 1) := by decide +kernel
theorem dX5_boat_90 : decode cX5_boat 90 = .ok (.getfield 29, 3) := by decide +kernel
theorem dX5_boat_93 : decode cX5_boat 93 = .ok (.getfield 123, 3) := by decide +kernel
theorem dX5_boat_96 : decode cX5_boat 96 = .ok (.iload 5, 2) := by decide +kernel
theorem dX5_boat_98 : decode cX5_boat 98 = .ok (.iadd, 1) := by decide +kernel
theorem dX5_boat_99 : decode cX5_boat 99 = .ok (.istore_n 3, 1) := by decide +kernel
theorem dX5_boat_100 : decode cX5_boat 100 = .ok (.iinc 5 1, 3) := by decide +kernel
theorem dX5_boat_103 : decode cX5_boat 103 = .ok (.goto (-72), 3) := by decide +kernel
theorem dX5_boat_106 : decode cX5_boat 106 = .ok (.iload_n 3, 1) := by decide +kernel
theorem dX5_boat_107 : decode cX5_boat 107 = .ok (.bipush (-9), 2) := by decide +kernel
theorem dX5_boat_109 : decode cX5_boat 109 = .ok (.if_icmp .ne 6, 3) := by decide +kernel
theorem dX5_boat_112 : decode cX5_boat 112 = .ok (.bipush (-9), 2) := by decide +kernel
theorem dX5_boat_114 : decode cX5_boat 114 = .ok (.ireturn, 1) := by decide +kernel
theorem dX5_boat_115 : decode cX5_boat 115 = .ok (.iload_n 2, 1) := by decide +kernel
theorem dX5_boat_116 : decode cX5_boat 116 = .ok (.ifCond .ne 7, 3) := by decide +kernel
theorem dX5_boat_119 : decode cX5_boat 119 = .ok (.iload_n 3, 1) := by decide +kernel
theorem dX5_boat_120 : decode cX5_boat 120 = .ok (.goto 5, 3) := by decide +kernel
theorem dX5_boat_123 : decode cX5_boat 123 = .ok (.iload 4, 2) := by decide +kernel
theorem dX5_boat_125 : decode cX5_boat 125 = .ok (.ireturn, 1) := by decide +kernel
theorem dX5_clean_0 : decode cX5_clean 0 = .ok (.aload_n 0, 1) := by decide +kernel
theorem dX5_clean_1 : decode cX5_clean 1 = .ok (.getfield 19, 3) := by decide +kernel
theorem dX5_clean_4 : decode cX5_clean 4 = .ok (.iload_n 1, 1) := by decide +kernel
theorem dX5_clean_5 : decode cX5_clean 5 = .ok (.invokevirtual 142, 3) := by decide +kernel
theorem dX5_clean_8 : decode cX5_clean 8 = .ok (.ifCond .eq 12, 3) := by decide +kernel
theorem dX5_clean_11 : decode cX5_clean 11 = .ok (.iload_n 2, 1) := by decide +kernel
theorem dX5_clean_12 : decode cX5_clean 12 = .ok (.ifCond .lt 8, 3) := by decide +kernel
theorem dX5_clean_15 : decode cX5_clean 15 = .ok (.iload_n 2, 1) := by decide +kernel
theorem dX5_clean_16 : decode cX5_clean 16 = .ok (.iconst 1, 1) := by decide +kernel
theorem dX5_clean_17 : decode cX5_clean 17 = .ok (.if_icmp .le 7, 3) := by decide +kernel
theorem dX5_clean_20 : decode cX5_clean 20 = .ok (.ldc2_w 200, 3) := by decide +kernel
theorem dX5_clean_23 : decode cX5_clean 23 = .ok (.lreturn, 1) := by decide +kernel
theorem dX5_clean_24 : decode cX5_clean 24 = .ok (.iconst 1, 1) := by decide +kernel
theorem dX5_clean_25 : decode cX5_clean 25 = .ok (.istore_n 3, 1) := by decide +kernel
theorem dX5_clean_26 : decode cX5_clean 26 = .ok (.iconst 1, 1) := by decide +kernel
theorem dX5_clean_27 : decode cX5_clean 27 = .ok (.istore 4, 2) := by decide +kernel
theorem dX5_clean_29 : decode cX5_clean 29 = .ok (.iconst 0, 1) := by decide +kernel
theorem dX5_clean_30 : decode cX5_clean 30 = .ok (.istore 5, 2) := by decide +kernel
theorem dX5_clean_32 : decode cX5_clean 32 = .ok (.iload 5, 2) := by decide +kernel
theorem dX5_clean_34 : decode cX5_clean 34 = .ok (.aload_n 0, 1) := by decide +kernel
theorem dX5_clean_35 : decode cX5_clean 35 = .ok (.getfield 19, 3) := by decide +kernel
theorem dX5_clean_38 : decode cX5_clean 38 = .ok (.getfield 202, 3) := by decide +kernel
theorem dX5_clean_41 : decode cX5_clean 41 = .ok (.if_icmp .ge 49, 3) := by decide +kernel
theorem dX5_clean_44 : decode cX5_clean 44 = .ok (.aload_n 0, 1) := by decide +kernel
theorem dX5_clean_45 : decode cX5_clean 45 = .ok (.getfield 29, 3) := by decide +kernel
theorem dX5_clean_48 : decode cX5_clean 48 = .ok (.getfield 149, 3) := by decide +kernel
theorem dX5_clean_51 : decode cX5_clean 51 = .ok (.iload_n 1, 1) := by decide +kernel
theorem dX5_clean_52 : decode cX5_clean 52 = .ok (.iaload, 1) := by decide +kernel
theorem dX5_clean_53 : decode cX5_clean 53 = .ok (.iload 5, 2) := by decide +kernel
theorem dX5_clean_55 : decode cX5_clean 55 = .ok (.ishr, 1) := by decide +kernel
theorem dX5_clean_56 : decode cX5_clean 56 = .ok (.iconst 1, 1) := by decide +kernel
theorem dX5_clean_57 : decode cX5_clean 57 = .ok (.iand, 1) := by decide +kernel
theorem dX5_clean_58 : decode cX5_clean 58 = .ok (.ifCond .eq 26, 3) := by decide +kernel
theorem dX5_clean_61 : decode cX5_clean 61 = .ok (.iload_n 3, 1) := by decide +kernel
theorem dX5_clean_62 : decode cX5_clean 62 = .ok (.bipush 10, 2) := by decide +kernel
theorem dX5_clean_64 : decode cX5_clean 64 = .ok (.aload_n 0, 1) := by decide +kernel
theorem dX5_clean_65 : decode cX5_clean 65 = .ok (.getfield 19, 3) := by decide +kernel
theorem dX5_clean_68 : decode cX5_clean 68 = .ok (.getfield 98, 3) := by decide +kernel
theorem dX5_clean_71 : decode cX5_clean 71 = .ok (.iload 5, 2) := by decide +kernel
theorem dX5_clean_73 : decode cX5_clean 73 = .ok (.iaload, 1) := by decide +kernel
theorem dX5_clean_74 : decode cX5_clean 74 = .ok (.isub, 1) := by decide +kernel
theorem dX5_clean_75 : decode cX5_clean 75 = .ok (.imul, 1) := by decide +kernel
theorem dX5_clean_76 : decode cX5_clean 76 = .ok (.istore_n 3, 1) := by decide +kernel
theorem dX5_clean_77 : decode cX5_clean 77 = .ok (.iload 4, 2) := by decide +kernel
theorem dX5_clean_79 : decode cX5_clean 79 = .ok (.bipush 10, 2) := by decide +kernel
theorem dX5_clean_81 : decode cX5_clean 81 = .ok (.imul, 1) := by decide +kernel
theorem dX5_clean_82 : decode cX5_clean 82 = .ok (.istore 4, 2) := by decide +kernel
theorem dX5_clean_84 : decode cX5_clean 84 = .ok (.iinc 5 1, 3) := by decide +kernel
theorem dX5_clean_87 : decode cX5_clean 87 = .ok (.goto (-55), 3) := by decide +kernel
theorem dX5_clean_90 : decode cX5_clean 90 = .ok (.iload_n 3, 1) := by decide +kernel
theorem dX5_clean_91 : decode cX5_clean 91 = .ok (.iload 4, 2) := by decide +kernel
theorem dX5_clean_93 : decode cX5_clean 93 = .ok (.iload_n 2, 1) := by decide +kernel
theorem dX5_clean_94 : decode cX5_clean 94 = .ok (.invokestatic 205, 3) := by decide +kernel
theorem dX5_clean_97 : decode cX5_clean 97 = .ok (.i2l, 1) := by decide +kernel
theorem dX5_clean_98 : decode cX5_clean 98 = .ok (.lreturn, 1) := by decide +kernel
theorem dX5_well_0 : decode cX5_well 0 = .ok (.aload_n 0, 1) := by decide +kernel
theorem dX5_well_1 : decode cX5_well 1 = .ok (.getfield 19, 3) := by decide +kernel
theorem dX5_well_4 : decode cX5_well 4 = .ok (.iload_n 1, 1) := by decide +kernel
theorem dX5_well_5 : decode cX5_well 5 = .ok (.invokevirtual 92, 3) := by decide +kernel
theorem dX5_well_8 : decode cX5_well 8 = .ok (.ifCond .eq 22, 3) := by decide +kernel
theorem dX5_well_11 : decode cX5_well 11 = .ok (.iload_n 2, 1) := by decide +kernel
theorem dX5_well_12 : decode cX5_well 12 = .ok (.ifCond .lt 18, 3) := by decide +kernel
theorem dX5_well_15 : decode cX5_well 15 = .ok (.iload_n 2, 1) := by decide +kernel
theorem dX5_well_16 : decode cX5_well 16 = .ok (.bipush 6, 2) := by decide +kernel
theorem dX5_well_18 : decode cX5_well 18 = .ok (.if_icmp .gt 12, 3) := by decide +kernel
theorem dX5_well_21 : decode cX5_well 21 = .ok (.iload_n 3, 1) := by decide +kernel
theorem dX5_well_22 : decode cX5_well 22 = .ok (.ifCond .lt 8, 3) := by decide +kernel
theorem dX5_well_25 : decode cX5_well 25 = .ok (.iload_n 3, 1) := by decide +kernel
theorem dX5_well_26 : decode cX5_well 26 = .ok (.iconst 1, 1) := by decide +kernel
theorem dX5_well_27 : decode cX5_well 27 = .ok (.if_icmp .le 7, 3) := by decide +kernel
theorem dX5_well_30 : decode cX5_well 30 = .ok (.ldc2_w 200, 3) := by decide +kernel
theorem dX5_well_33 : decode cX5_well 33 = .ok (.lreturn, 1) := by decide +kernel
theorem dX5_well_34 : decode cX5_well 34 = .ok (.aload_n 0, 1) := by decide +kernel
theorem dX5_well_35 : decode cX5_well 35 = .ok (.iload_n 1, 1) := by decide +kernel
theorem dX5_well_36 : decode cX5_well 36 = .ok (.invokevirtual 209, 3) := by decide +kernel
theorem dX5_well_39 : decode cX5_well 39 = .ok (.bipush 10, 2) := by decide +kernel
theorem dX5_well_41 : decode cX5_well 41 = .ok (.aload_n 0, 1) := by decide +kernel
theorem dX5_well_42 : decode cX5_well 42 = .ok (.getfield 19, 3) := by decide +kernel
theorem dX5_well_45 : decode cX5_well 45 = .ok (.getfield 98, 3) := by decide +kernel
theorem dX5_well_48 : decode cX5_well 48 = .ok (.iload_n 1, 1) := by decide +kernel
theorem dX5_well_49 : decode cX5_well 49 = .ok (.iaload, 1) := by decide +kernel
theorem dX5_well_50 : decode cX5_well 50 = .ok (.isub, 1) := by decide +kernel
theorem dX5_well_51 : decode cX5_well 51 = .ok (.aload_n 0, 1) := by decide +kernel
theorem dX5_well_52 : decode cX5_well 52 = .ok (.getfield 68, 3) := by decide +kernel
theorem dX5_well_55 : decode cX5_well 55 = .ok (.iload_n 2, 1) := by decide +kernel
theorem dX5_well_56 : decode cX5_well 56 = .ok (.iaload, 1) := by decide +kernel
theorem dX5_well_57 : decode cX5_well 57 = .ok (.imul, 1) := by decide +kernel
theorem dX5_well_58 : decode cX5_well 58 = .ok (.istore 4, 2) := by decide +kernel
theorem dX5_well_60 : decode cX5_well 60 = .ok (.iload_n 2, 1) := by decide +kernel
theorem dX5_well_61 : decode cX5_well 61 = .ok (.ifCond .ne 7, 3) := by decide +kernel
theorem dX5_well_64 : decode cX5_well 64 = .ok (.iconst 0, 1) := by decide +kernel
theorem dX5_well_65 : decode cX5_well 65 = .ok (.goto 21, 3) := by decide +kernel
theorem dX5_well_68 : decode cX5_well 68 = .ok (.aload_n 0, 1) := by decide +kernel
theorem dX5_well_69 : decode cX5_well 69 = .ok (.getfield 19, 3) := by decide +kernel
theorem dX5_well_72 : decode cX5_well 72 = .ok (.getfield 98, 3) := by decide +kernel
theorem dX5_well_75 : decode cX5_well 75 = .ok (.iload_n 1, 1) := by decide +kernel
theorem dX5_well_76 : decode cX5_well 76 = .ok (.iaload, 1) := by decide +kernel
theorem dX5_well_77 : decode cX5_well 77 = .ok (.aload_n 0, 1) := by decide +kernel
theorem dX5_well_78 : decode cX5_well 78 = .ok (.getfield 68, 3) := by decide +kernel
theorem dX5_well_81 : decode cX5_well 81 = .ok (.iload_n 2, 1) := by decide +kernel
theorem dX5_well_82 : decode cX5_well 82 = .ok (.iconst 1, 1) := by decide +kernel
theorem dX5_well_83 : decode cX5_well 83 = .ok (.isub, 1) := by decide +kernel
theorem dX5_well_84 : decode cX5_well 84 = .ok (.iaload, 1) := by decide +kernel
theorem dX5_well_85 : decode cX5_well 85 = .ok (.imul, 1) := by decide +kernel
theorem dX5_well_86 : decode cX5_well 86 = .ok (.istore 5, 2) := by decide +kernel
theorem dX5_well_88 : decode cX5_well 88 = .ok (.iload 4, 2) := by decide +kernel
theorem dX5_well_90 : decode cX5_well 90 = .ok (.iload 5, 2) := by decide +kernel
theorem dX5_well_92 : decode cX5_well 92 = .ok (.iadd, 1) := by decide +kernel
theorem dX5_well_93 : decode cX5_well 93 = .ok (.ifCond .ne 7, 3) := by decide +kernel
theorem dX5_well_96 : decode cX5_well 96 = .ok (.ldc2_w 212, 3) := by decide +kernel
theorem dX5_well_99 : decode cX5_well 99 = .ok (.lreturn, 1) := by decide +kernel
theorem dX5_well_100 : decode cX5_well 100 = .ok (.iload 4, 2) := by decide +kernel
theorem dX5_well_102 : decode cX5_well 102 = .ok (.iload 4, 2) := by decide +kernel
theorem dX5_well_104 : decode cX5_well 104 = .ok (.iload 5, 2) := by decide +kernel
theorem dX5_well_106 : decode cX5_well 106 = .ok (.iadd, 1) := by decide +kernel
theorem dX5_well_107 : decode cX5_well 107 = .ok (.iload_n 3, 1) := by decide +kernel
theorem dX5_well_108 : decode cX5_well 108 = .ok (.invokestatic 205, 3) := by decide +kernel
theorem dX5_well_111 : decode cX5_well 111 = .ok (.i2l, 1) := by decide +kernel
theorem dX5_well_112 : decode cX5_well 112 = .ok (.lreturn, 1) := by decide +kernel
theorem dX5_writes_0 : decode cX5_writes 0 = .ok (.iload_n 1, 1) := by decide +kernel
theorem dX5_writes_1 : decode cX5_writes 1 = .ok (.ifCond .lt 9, 3) := by decide +kernel
theorem dX5_writes_4 : decode cX5_writes 4 = .ok (.iload_n 1, 1) := by decide +kernel
theorem dX5_writes_5 : decode cX5_writes 5 = .ok (.bipush 10, 2) := by decide +kernel
theorem dX5_writes_7 : decode cX5_writes 7 = .ok (.if_icmp .lt 5, 3) := by decide +kernel
theorem dX5_writes_10 : decode cX5_writes 10 = .ok (.iconst (-1), 1) := by decide +kernel
theorem dX5_writes_11 : decode cX5_writes 11 = .ok (.ireturn, 1) := by decide +kernel
theorem dX5_writes_12 : decode cX5_writes 12 = .ok (.aload_n 0, 1) := by decide +kernel
theorem dX5_writes_13 : decode cX5_writes 13 = .ok (.getfield 29, 3) := by decide +kernel
theorem dX5_writes_16 : decode cX5_writes 16 = .ok (.getfield 214, 3) := by decide +kernel
theorem dX5_writes_19 : decode cX5_writes 19 = .ok (.invokestatic 217, 3) := by decide +kernel
theorem dX5_writes_22 : decode cX5_writes 22 = .ok (.istore_n 2, 1) := by decide +kernel
theorem dX5_writes_23 : decode cX5_writes 23 = .ok (.iload_n 2, 1) := by decide +kernel
theorem dX5_writes_24 : decode cX5_writes 24 = .ok (.iconst 5, 1) := by decide +kernel
theorem dX5_writes_25 : decode cX5_writes 25 = .ok (.if_icmp .lt 6, 3) := by decide +kernel
theorem dX5_writes_28 : decode cX5_writes 28 = .ok (.bipush (-3), 2) := by decide +kernel
theorem dX5_writes_30 : decode cX5_writes 30 = .ok (.ireturn, 1) := by decide +kernel
theorem dX5_writes_31 : decode cX5_writes 31 = .ok (.aload_n 0, 1) := by decide +kernel
theorem dX5_writes_32 : decode cX5_writes 32 = .ok (.getfield 36, 3) := by decide +kernel
theorem dX5_writes_35 : decode cX5_writes 35 = .ok (.aload_n 0, 1) := by decide +kernel
theorem dX5_writes_36 : decode cX5_writes 36 = .ok (.getfield 29, 3) := by decide +kernel
theorem dX5_writes_39 : decode cX5_writes 39 = .ok (.invokevirtual 145, 3) := by decide +kernel
theorem dX5_writes_42 : decode cX5_writes 42 = .ok (.aload_n 0, 1) := by decide +kernel
theorem dX5_writes_43 : decode cX5_writes 43 = .ok (.getfield 29, 3) := by decide +kernel
theorem dX5_writes_46 : decode cX5_writes 46 = .ok (.aload_n 0, 1) := by decide +kernel
theorem dX5_writes_47 : decode cX5_writes 47 = .ok (.getfield 29, 3) := by decide +kernel
theorem dX5_writes_50 : decode cX5_writes 50 = .ok (.getfield 214, 3) := by decide +kernel
theorem dX5_writes_53 : decode cX5_writes 53 = .ok (.bipush 11, 2) := by decide +kernel
theorem dX5_writes_55 : decode cX5_writes 55 = .ok (.imul, 1) := by decide +kernel
theorem dX5_writes_56 : decode cX5_writes 56 = .ok (.iload_n 1, 1) := by decide +kernel
theorem dX5_writes_57 : decode cX5_writes 57 = .ok (.iadd, 1) := by decide +kernel
theorem dX5_writes_58 : decode cX5_writes 58 = .ok (.putfield 214, 3) := by decide +kernel
theorem dX5_writes_61 : decode cX5_writes 61 = .ok (.iload_n 2, 1) := by decide +kernel
theorem dX5_writes_62 : decode cX5_writes 62 = .ok (.iconst 1, 1) := by decide +kernel
theorem dX5_writes_63 : decode cX5_writes 63 = .ok (.iadd, 1) := by decide +kernel
theorem dX5_writes_64 : decode cX5_writes 64 = .ok (.ireturn, 1) := by decide +kernel
theorem dX5_tears_0 : decode cX5_tears 0 = .ok (.aload_n 0, 1) := by decide +kernel
theorem dX5_tears_1 : decode cX5_tears 1 = .ok (.getfield 36, 3) := by decide +kernel
theorem dX5_tears_4 : decode cX5_tears 4 = .ok (.aload_n 0, 1) := by decide +kernel
theorem dX5_tears_5 : decode cX5_tears 5 = .ok (.getfield 29, 3) := by decide +kernel
theorem dX5_tears_8 : decode cX5_tears 8 = .ok (.invokevirtual 145, 3) := by decide +kernel
theorem dX5_tears_11 : decode cX5_tears 11 = .ok (.aload_n 0, 1) := by decide +kernel
theorem dX5_tears_12 : decode cX5_tears 12 = .ok (.getfield 29, 3) := by decide +kernel
theorem dX5_tears_15 : decode cX5_tears 15 = .ok (.getfield 214, 3) := by decide +kernel
theorem dX5_tears_18 : decode cX5_tears 18 = .ok (.invokestatic 217, 3) := by decide +kernel
theorem dX5_tears_21 : decode cX5_tears 21 = .ok (.istore_n 1, 1) := by decide +kernel
theorem dX5_tears_22 : decode cX5_tears 22 = .ok (.aload_n 0, 1) := by decide +kernel
theorem dX5_tears_23 : decode cX5_tears 23 = .ok (.getfield 29, 3) := by decide +kernel
theorem dX5_tears_26 : decode cX5_tears 26 = .ok (.iconst 1, 1) := by decide +kernel
theorem dX5_tears_27 : decode cX5_tears 27 = .ok (.putfield 214, 3) := by decide +kernel
theorem dX5_tears_30 : decode cX5_tears 30 = .ok (.iload_n 1, 1) := by decide +kernel
theorem dX5_tears_31 : decode cX5_tears 31 = .ok (.ireturn, 1) := by decide +kernel
theorem dX5_smokes_0 : decode cX5_smokes 0 = .ok (.aload_n 0, 1) := by decide +kernel
theorem dX5_smokes_1 : decode cX5_smokes 1 = .ok (.getfield 19, 3) := by decide +kernel
theorem dX5_smokes_4 : decode cX5_smokes 4 = .ok (.iload_n 1, 1) := by decide +kernel
theorem dX5_smokes_5 : decode cX5_smokes 5 = .ok (.invokevirtual 111, 3) := by decide +kernel
theorem dX5_smokes_8 : decode cX5_smokes 8 = .ok (.ifCond .ne 5, 3) := by decide +kernel
theorem dX5_smokes_11 : decode cX5_smokes 11 = .ok (.iconst (-1), 1) := by decide +kernel
theorem dX5_smokes_12 : decode cX5_smokes 12 = .ok (.ireturn, 1) := by decide +kernel
theorem dX5_smokes_13 : decode cX5_smokes 13 = .ok (.aload_n 0, 1) := by decide +kernel
theorem dX5_smokes_14 : decode cX5_smokes 14 = .ok (.getfield 36, 3) := by decide +kernel
theorem dX5_smokes_17 : decode cX5_smokes 17 = .ok (.aload_n 0, 1) := by decide +kernel
theorem dX5_smokes_18 : decode cX5_smokes 18 = .ok (.getfield 29, 3) := by decide +kernel
theorem dX5_smokes_21 : decode cX5_smokes 21 = .ok (.invokevirtual 145, 3) := by decide +kernel
theorem dX5_smokes_24 : decode cX5_smokes 24 = .ok (.aload_n 0, 1) := by decide +kernel
theorem dX5_smokes_25 : decode cX5_smokes 25 = .ok (.getfield 29, 3) := by decide +kernel
theorem dX5_smokes_28 : decode cX5_smokes 28 = .ok (.aload_n 0, 1) := by decide +kernel
theorem dX5_smokes_29 : decode cX5_smokes 29 = .ok (.getfield 19, 3) := by decide +kernel
theorem dX5_smokes_32 : decode cX5_smokes 32 = .ok (.aload_n 0, 1) := by decide +kernel
theorem dX5_smokes_33 : decode cX5_smokes 33 = .ok (.getfield 29, 3) := by decide +kernel
theorem dX5_smokes_36 : decode cX5_smokes 36 = .ok (.getfield 214, 3) := by decide +kernel
theorem dX5_smokes_39 : decode cX5_smokes 39 = .ok (.iload_n 1, 1) := by decide +kernel
theorem dX5_smokes_40 : decode cX5_smokes 40 = .ok (.invokevirtual 220, 3) := by decide +kernel
theorem dX5_smokes_43 : decode cX5_smokes 43 = .ok (.putfield 214, 3) := by decide +kernel
theorem dX5_smokes_46 : decode cX5_smokes 46 = .ok (.aload_n 0, 1) := by decide +kernel
theorem dX5_smokes_47 : decode cX5_smokes 47 = .ok (.getfield 29, 3) := by decide +kernel
theorem dX5_smokes_50 : decode cX5_smokes 50 = .ok (.getfield 214, 3) := by decide +kernel
theorem dX5_smokes_53 : decode cX5_smokes 53 = .ok (.invokestatic 223, 3) := by decide +kernel
theorem dX5_smokes_56 : decode cX5_smokes 56 = .ok (.ireturn, 1) := by decide +kernel
theorem dX5_word_0 : decode cX5_word 0 = .ok (.iload_n 1, 1) := by decide +kernel
theorem dX5_word_1 : decode cX5_word 1 = .ok (.ifCond .lt 17, 3) := by decide +kernel
theorem dX5_word_4 : decode cX5_word 4 = .ok (.iload_n 1, 1) := by decide +kernel
theorem dX5_word_5 : decode cX5_word 5 = .ok (.aload_n 0, 1) := by decide +kernel
theorem dX5_word_6 : decode cX5_word 6 = .ok (.getfield 29, 3) := by decide +kernel
theorem dX5_word_9 : decode cX5_word 9 = .ok (.getfield 214, 3) := by decide +kernel
theorem dX5_word_12 : decode cX5_word 12 = .ok (.invokestatic 217, 3) := by decide +kernel
theorem dX5_word_15 : decode cX5_word 15 = .ok (.if_icmp .lt 5, 3) := by decide +kernel
theorem dX5_word_18 : decode cX5_word 18 = .ok (.iconst (-1), 1) := by decide +kernel
theorem dX5_word_19 : decode cX5_word 19 = .ok (.ireturn, 1) := by decide +kernel
theorem dX5_word_20 : decode cX5_word 20 = .ok (.aload_n 0, 1) := by decide +kernel
theorem dX5_word_21 : decode cX5_word 21 = .ok (.getfield 29, 3) := by decide +kernel
theorem dX5_word_24 : decode cX5_word 24 = .ok (.getfield 214, 3) := by decide +kernel
theorem dX5_word_27 : decode cX5_word 27 = .ok (.iload_n 1, 1) := by decide +kernel
theorem dX5_word_28 : decode cX5_word 28 = .ok (.invokestatic 226, 3) := by decide +kernel
theorem dX5_word_31 : decode cX5_word 31 = .ok (.ireturn, 1) := by decide +kernel
theorem dX5_brown_0 : decode cX5_brown 0 = .ok (.aload_n 0, 1) := by decide +kernel
theorem dX5_brown_1 : decode cX5_brown 1 = .ok (.getfield 19, 3) := by decide +kernel
theorem dX5_brown_4 : decode cX5_brown 4 = .ok (.iload_n 1, 1) := by decide +kernel
theorem dX5_brown_5 : decode cX5_brown 5 = .ok (.invokevirtual 111, 3) := by decide +kernel
theorem dX5_brown_8 : decode cX5_brown 8 = .ok (.ifCond .ne 5, 3) := by decide +kernel
theorem dX5_brown_11 : decode cX5_brown 11 = .ok (.iconst (-1), 1) := by decide +kernel
theorem dX5_brown_12 : decode cX5_brown 12 = .ok (.ireturn, 1) := by decide +kernel
theorem dX5_brown_13 : decode cX5_brown 13 = .ok (.aload_n 0, 1) := by decide +kernel
theorem dX5_brown_14 : decode cX5_brown 14 = .ok (.getfield 29, 3) := by decide +kernel
theorem dX5_brown_17 : decode cX5_brown 17 = .ok (.getfield 214, 3) := by decide +kernel
theorem dX5_brown_20 : decode cX5_brown 20 = .ok (.invokestatic 217, 3) := by decide +kernel
theorem dX5_brown_23 : decode cX5_brown 23 = .ok (.istore_n 2, 1) := by decide +kernel
theorem dX5_brown_24 : decode cX5_brown 24 = .ok (.iload_n 2, 1) := by decide +kernel
theorem dX5_brown_25 : decode cX5_brown 25 = .ok (.ifCond .eq 18, 3) := by decide +kernel
theorem dX5_brown_28 : decode cX5_brown 28 = .ok (.aload_n 0, 1) := by decide +kernel
theorem dX5_brown_29 : decode cX5_brown 29 = .ok (.getfield 62, 3) := by decide +kernel
theorem dX5_brown_32 : decode cX5_brown 32 = .ok (.ifCond .le 14, 3) := by decide +kernel
theorem dX5_brown_35 : decode cX5_brown 35 = .ok (.iload_n 2, 1) := by decide +kernel
theorem dX5_brown_36 : decode cX5_brown 36 = .ok (.aload_n 0, 1) := by decide +kernel
theorem dX5_brown_37 : decode cX5_brown 37 = .ok (.invokevirtual 229, 3) := by decide +kernel
theorem dX5_brown_40 : decode cX5_brown 40 = .ok (.if_icmp .eq 6, 3) := by decide +kernel
theorem dX5_brown_43 : decode cX5_brown 43 = .ok (.bipush (-2), 2) := by decide +kernel
theorem dX5_brown_45 : decode cX5_brown 45 = .ok (.ireturn, 1) := by decide +kernel
theorem dX5_brown_46 : decode cX5_brown 46 = .ok (.aload_n 0, 1) := by decide +kernel
theorem dX5_brown_47 : decode cX5_brown 47 = .ok (.getfield 62, 3) := by decide +kernel
theorem dX5_brown_50 : decode cX5_brown 50 = .ok (.iconst 4, 1) := by decide +kernel
theorem dX5_brown_51 : decode cX5_brown 51 = .ok (.if_icmp .lt 6, 3) := by decide +kernel
theorem dX5_brown_54 : decode cX5_brown 54 = .ok (.bipush (-3), 2) := by decide +kernel
theorem dX5_brown_56 : decode cX5_brown 56 = .ok (.ireturn, 1) := by decide +kernel
theorem dX5_brown_57 : decode cX5_brown 57 = .ok (.aload_n 0, 1) := by decide +kernel
theorem dX5_brown_58 : decode cX5_brown 58 = .ok (.getfield 55, 3) := by decide +kernel
theorem dX5_brown_61 : decode cX5_brown 61 = .ok (.aload_n 0, 1) := by decide +kernel
theorem dX5_brown_62 : decode cX5_brown 62 = .ok (.getfield 62, 3) := by decide +kernel
theorem dX5_brown_65 : decode cX5_brown 65 = .ok (.aload_n 0, 1) := by decide +kernel
theorem dX5_brown_66 : decode cX5_brown 66 = .ok (.getfield 29, 3) := by decide +kernel
theorem dX5_brown_69 : decode cX5_brown 69 = .ok (.getfield 214, 3) := by decide +kernel
theorem dX5_brown_72 : decode cX5_brown 72 = .ok (.iastore, 1) := by decide +kernel
theorem dX5_brown_73 : decode cX5_brown 73 = .ok (.aload_n 0, 1) := by decide +kernel
theorem dX5_brown_74 : decode cX5_brown 74 = .ok (.getfield 59, 3) := by decide +kernel
theorem dX5_brown_77 : decode cX5_brown 77 = .ok (.aload_n 0, 1) := by decide +kernel
theorem dX5_brown_78 : decode cX5_brown 78 = .ok (.getfield 62, 3) := by decide +kernel
theorem dX5_brown_81 : decode cX5_brown 81 = .ok (.iload_n 1, 1) := by decide +kernel
theorem dX5_brown_82 : decode cX5_brown 82 = .ok (.iastore, 1) := by decide +kernel
theorem dX5_brown_83 : decode cX5_brown 83 = .ok (.aload_n 0, 1) := by decide +kernel
theorem dX5_brown_84 : decode cX5_brown 84 = .ok (.dup, 1) := by decide +kernel
theorem dX5_brown_85 : decode cX5_brown 85 = .ok (.getfield 62, 3) := by decide +kernel
theorem dX5_brown_88 : decode cX5_brown 88 = .ok (.iconst 1, 1) := by decide +kernel
theorem dX5_brown_89 : decode cX5_brown 89 = .ok (.iadd, 1) := by decide +kernel
theorem dX5_brown_90 : decode cX5_brown 90 = .ok (.putfield 62, 3) := by decide +kernel
theorem dX5_brown_93 : decode cX5_brown 93 = .ok (.aload_n 0, 1) := by decide +kernel
theorem dX5_brown_94 : decode cX5_brown 94 = .ok (.getfield 62, 3) := by decide +kernel
theorem dX5_brown_97 : decode cX5_brown 97 = .ok (.ireturn, 1) := by decide +kernel
theorem dX5_burn_0 : decode cX5_burn 0 = .ok (.aload_n 0, 1) := by decide +kernel
theorem dX5_burn_1 : decode cX5_burn 1 = .ok (.getfield 62, 3) := by decide +kernel
theorem dX5_burn_4 : decode cX5_burn 4 = .ok (.istore_n 1, 1) := by decide +kernel
theorem dX5_burn_5 : decode cX5_burn 5 = .ok (.aload_n 0, 1) := by decide +kernel
theorem dX5_burn_6 : decode cX5_burn 6 = .ok (.iconst 0, 1) := by decide +kernel
theorem dX5_burn_7 : decode cX5_burn 7 = .ok (.putfield 62, 3) := by decide +kernel
theorem dX5_burn_10 : decode cX5_burn 10 = .ok (.iload_n 1, 1) := by decide +kernel
theorem dX5_burn_11 : decode cX5_burn 11 = .ok (.ireturn, 1) := by decide +kernel
theorem dX5_stood_0 : decode cX5_stood 0 = .ok (.iload_n 1, 1) := by decide +kernel
theorem dX5_stood_1 : decode cX5_stood 1 = .ok (.ifCond .lt 11, 3) := by decide +kernel
theorem dX5_stood_4 : decode cX5_stood 4 = .ok (.iload_n 1, 1) := by decide +kernel
theorem dX5_stood_5 : decode cX5_stood 5 = .ok (.aload_n 0, 1) := by decide +kernel
theorem dX5_stood_6 : decode cX5_stood 6 = .ok (.invokevirtual 229, 3) := by decide +kernel
theorem dX5_stood_9 : decode cX5_stood 9 = .ok (.if_icmp .lt 5, 3) := by decide +kernel
theorem dX5_stood_12 : decode cX5_stood 12 = .ok (.iconst (-1), 1) := by decide +kernel
theorem dX5_stood_13 : decode cX5_stood 13 = .ok (.ireturn, 1) := by decide +kernel
theorem dX5_stood_14 : decode cX5_stood 14 = .ok (.aload_n 0, 1) := by decide +kernel
theorem dX5_stood_15 : decode cX5_stood 15 = .ok (.iload_n 1, 1) := by decide +kernel
theorem dX5_stood_16 : decode cX5_stood 16 = .ok (.invokevirtual 233, 3) := by decide +kernel
theorem dX5_stood_19 : decode cX5_stood 19 = .ok (.ireturn, 1) := by decide +kernel
theorem dX5_letters_0 : decode cX5_letters 0 = .ok (.iload_n 1, 1) := by decide +kernel
theorem dX5_letters_1 : decode cX5_letters 1 = .ok (.bipush (-9), 2) := by decide +kernel
theorem dX5_letters_3 : decode cX5_letters 3 = .ok (.if_icmp .ne 8, 3) := by decide +kernel
theorem dX5_letters_6 : decode cX5_letters 6 = .ok (.aload_n 0, 1) := by decide +kernel
theorem dX5_letters_7 : decode cX5_letters 7 = .ok (.invokevirtual 236, 3) := by decide +kernel
theorem dX5_letters_10 : decode cX5_letters 10 = .ok (.ireturn, 1) := by decide +kernel
theorem dX5_letters_11 : decode cX5_letters 11 = .ok (.iload_n 1, 1) := by decide +kernel
theorem dX5_letters_12 : decode cX5_letters 12 = .ok (.ifCond .lt 11, 3) := by decide +kernel
theorem dX5_letters_15 : decode cX5_letters 15 = .ok (.iload_n 1, 1) := by decide +kernel
theorem dX5_letters_16 : decode cX5_letters 16 = .ok (.aload_n 0, 1) := by decide +kernel
theorem dX5_letters_17 : decode cX5_letters 17 = .ok (.invokevirtual 229, 3) := by decide +kernel
theorem dX5_letters_20 : decode cX5_letters 20 = .ok (.if_icmp .lt 5, 3) := by decide +kernel
theorem dX5_letters_23 : decode cX5_letters 23 = .ok (.iconst (-1), 1) := by decide +kernel
theorem dX5_letters_24 : decode cX5_letters 24 = .ok (.ireturn, 1) := by decide +kernel
theorem dX5_letters_25 : decode cX5_letters 25 = .ok (.aload_n 0, 1) := by decide +kernel
theorem dX5_letters_26 : decode cX5_letters 26 = .ok (.invokevirtual 236, 3) := by decide +kernel
theorem dX5_letters_29 : decode cX5_letters 29 = .ok (.ifCond .ne 6, 3) := by decide +kernel
theorem dX5_letters_32 : decode cX5_letters 32 = .ok (.bipush (-9), 2) := by decide +kernel
theorem dX5_letters_34 : decode cX5_letters 34 = .ok (.ireturn, 1) := by decide +kernel
theorem dX5_letters_35 : decode cX5_letters 35 = .ok (.aload_n 0, 1) := by decide +kernel
theorem dX5_letters_36 : decode cX5_letters 36 = .ok (.iload_n 1, 1) := by decide +kernel
theorem dX5_letters_37 : decode cX5_letters 37 = .ok (.invokevirtual 233, 3) := by decide +kernel
theorem dX5_letters_40 : decode cX5_letters 40 = .ok (.istore_n 2, 1) := by decide +kernel
theorem dX5_letters_41 : decode cX5_letters 41 = .ok (.iload_n 2, 1) := by decide +kernel
theorem dX5_letters_42 : decode cX5_letters 42 = .ok (.invokestatic 155, 3) := by decide +kernel
theorem dX5_letters_45 : decode cX5_letters 45 = .ok (.iconst 1, 1) := by decide +kernel
theorem dX5_letters_46 : decode cX5_letters 46 = .ok (.if_icmp .ne 10, 3) := by decide +kernel
theorem dX5_letters_49 : decode cX5_letters 49 = .ok (.iload_n 2, 1) := by decide +kernel
theorem dX5_letters_50 : decode cX5_letters 50 = .ok (.invokestatic 239, 3) := by decide +kernel
theorem dX5_letters_53 : decode cX5_letters 53 = .ok (.goto 5, 3) := by decide +kernel
theorem dX5_letters_56 : decode cX5_letters 56 = .ok (.bipush (-5), 2) := by decide +kernel
theorem dX5_letters_58 : decode cX5_letters 58 = .ok (.ireturn, 1) := by decide +kernel
theorem dX5_whose_0 : decode cX5_whose 0 = .ok (.iload_n 1, 1) := by decide +kernel
theorem dX5_whose_1 : decode cX5_whose 1 = .ok (.invokestatic 242, 3) := by decide +kernel
theorem dX5_whose_4 : decode cX5_whose 4 = .ok (.ifCond .ne 5, 3) := by decide +kernel
theorem dX5_whose_7 : decode cX5_whose 7 = .ok (.iconst (-1), 1) := by decide +kernel
theorem dX5_whose_8 : decode cX5_whose 8 = .ok (.ireturn, 1) := by decide +kernel
theorem dX5_whose_9 : decode cX5_whose 9 = .ok (.iconst 0, 1) := by decide +kernel
theorem dX5_whose_10 : decode cX5_whose 10 = .ok (.istore_n 2, 1) := by decide +kernel
theorem dX5_whose_11 : decode cX5_whose 11 = .ok (.iconst 0, 1) := by decide +kernel
theorem dX5_whose_12 : decode cX5_whose 12 = .ok (.istore_n 3, 1) := by decide +kernel
theorem dX5_whose_13 : decode cX5_whose 13 = .ok (.iload_n 3, 1) := by decide +kernel
theorem dX5_whose_14 : decode cX5_whose 14 = .ok (.aload_n 0, 1) := by decide +kernel
theorem dX5_whose_15 : decode cX5_whose 15 = .ok (.getfield 19, 3) := by decide +kernel
theorem dX5_whose_18 : decode cX5_whose 18 = .ok (.getfield 245, 3) := by decide +kernel
theorem dX5_whose_21 : decode cX5_whose 21 = .ok (.if_icmp .ge 34, 3) := by decide +kernel
theorem dX5_whose_24 : decode cX5_whose 24 = .ok (.aload_n 0, 1) := by decide +kernel
theorem dX5_whose_25 : decode cX5_whose 25 = .ok (.getfield 19, 3) := by decide +kernel
theorem dX5_whose_28 : decode cX5_whose 28 = .ok (.iload_n 1, 1) := by decide +kernel
theorem dX5_whose_29 : decode cX5_whose 29 = .ok (.iload_n 3, 1) := by decide +kernel
theorem dX5_whose_30 : decode cX5_whose 30 = .ok (.invokevirtual 220, 3) := by decide +kernel
theorem dX5_whose_33 : decode cX5_whose 33 = .ok (.aload_n 0, 1) := by decide +kernel
theorem dX5_whose_34 : decode cX5_whose 34 = .ok (.getfield 29, 3) := by decide +kernel
theorem dX5_whose_37 : decode cX5_whose 37 = .ok (.getfield 214, 3) := by decide +kernel
theorem dX5_whose_40 : decode cX5_whose 40 = .ok (.if_icmp .ne 9, 3) := by decide +kernel
theorem dX5_whose_43 : decode cX5_whose 43 = .ok (.iload_n 2, 1) := by decide +kernel
theorem dX5_whose_44 : decode cX5_whose 44 = .ok (.iconst 1, 1) := by decide +kernel
theorem dX5_whose_45 : decode cX5_whose 45 = .ok (.iload_n 3, 1) := by decide +kernel
theorem dX5_whose_46 : decode cX5_whose 46 = .ok (.ishl, 1) := by decide +kernel
theorem dX5_whose_47 : decode cX5_whose 47 = .ok (.ior, 1) := by decide +kernel
theorem dX5_whose_48 : decode cX5_whose 48 = .ok (.istore_n 2, 1) := by decide +kernel
theorem dX5_whose_49 : decode cX5_whose 49 = .ok (.iinc 3 1, 3) := by decide +kernel
theorem dX5_whose_52 : decode cX5_whose 52 = .ok (.goto (-39), 3) := by decide +kernel
theorem dX5_whose_55 : decode cX5_whose 55 = .ok (.iload_n 2, 1) := by decide +kernel
theorem dX5_whose_56 : decode cX5_whose 56 = .ok (.ireturn, 1) := by decide +kernel
theorem dX5_chain_0 : decode cX5_chain 0 = .ok (.iload_n 1, 1) := by decide +kernel
theorem dX5_chain_1 : decode cX5_chain 1 = .ok (.invokestatic 242, 3) := by decide +kernel
theorem dX5_chain_4 : decode cX5_chain 4 = .ok (.ifCond .eq 8, 3) := by decide +kernel
theorem dX5_chain_7 : decode cX5_chain 7 = .ok (.iload_n 2, 1) := by decide +kernel
theorem dX5_chain_8 : decode cX5_chain 8 = .ok (.iconst (-1), 1) := by decide +kernel
theorem dX5_chain_9 : decode cX5_chain 9 = .ok (.if_icmp .ge 5, 3) := by decide +kernel
theorem dX5_chain_12 : decode cX5_chain 12 = .ok (.iconst (-1), 1) := by decide +kernel
theorem dX5_chain_13 : decode cX5_chain 13 = .ok (.ireturn, 1) := by decide +kernel
theorem dX5_chain_14 : decode cX5_chain 14 = .ok (.aload_n 0, 1) := by decide +kernel
theorem dX5_chain_15 : decode cX5_chain 15 = .ok (.iload_n 1, 1) := by decide +kernel
theorem dX5_chain_16 : decode cX5_chain 16 = .ok (.invokevirtual 248, 3) := by decide +kernel
theorem dX5_chain_19 : decode cX5_chain 19 = .ok (.istore_n 3, 1) := by decide +kernel
theorem dX5_chain_20 : decode cX5_chain 20 = .ok (.iload_n 3, 1) := by decide +kernel
theorem dX5_chain_21 : decode cX5_chain 21 = .ok (.bipush (-9), 2) := by decide +kernel
theorem dX5_chain_23 : decode cX5_chain 23 = .ok (.if_icmp .eq 8, 3) := by decide +kernel
theorem dX5_chain_26 : decode cX5_chain 26 = .ok (.iload_n 2, 1) := by decide +kernel
theorem dX5_chain_27 : decode cX5_chain 27 = .ok (.iconst (-1), 1) := by decide +kernel
theorem dX5_chain_28 : decode cX5_chain 28 = .ok (.if_icmp .ne 5, 3) := by decide +kernel
theorem dX5_chain_31 : decode cX5_chain 31 = .ok (.iload_n 3, 1) := by decide +kernel
theorem dX5_chain_32 : decode cX5_chain 32 = .ok (.ireturn, 1) := by decide +kernel
theorem dX5_chain_33 : decode cX5_chain 33 = .ok (.iload_n 2, 1) := by decide +kernel
theorem dX5_chain_34 : decode cX5_chain 34 = .ok (.iload_n 3, 1) := by decide +kernel
theorem dX5_chain_35 : decode cX5_chain 35 = .ok (.if_icmp .ge 17, 3) := by decide +kernel
theorem dX5_chain_38 : decode cX5_chain 38 = .ok (.iload_n 2, 1) := by decide +kernel
theorem dX5_chain_39 : decode cX5_chain 39 = .ok (.iconst 4, 1) := by decide +kernel
theorem dX5_chain_40 : decode cX5_chain 40 = .ok (.if_icmp .ge 12, 3) := by decide +kernel
theorem dX5_chain_43 : decode cX5_chain 43 = .ok (.aload_n 0, 1) := by decide +kernel
theorem dX5_chain_44 : decode cX5_chain 44 = .ok (.getfield 65, 3) := by decide +kernel
theorem dX5_chain_47 : decode cX5_chain 47 = .ok (.iload_n 2, 1) := by decide +kernel
theorem dX5_chain_48 : decode cX5_chain 48 = .ok (.iaload, 1) := by decide +kernel
theorem dX5_chain_49 : decode cX5_chain 49 = .ok (.goto 5, 3) := by decide +kernel
theorem dX5_chain_52 : decode cX5_chain 52 = .ok (.bipush (-5), 2) := by decide +kernel
theorem dX5_chain_54 : decode cX5_chain 54 = .ok (.ireturn, 1) := by decide +kernel
theorem dX5_rate_0 : decode cX5_rate 0 = .ok (.aload_n 0, 1) := by decide +kernel
theorem dX5_rate_1 : decode cX5_rate 1 = .ok (.getfield 19, 3) := by decide +kernel
theorem dX5_rate_4 : decode cX5_rate 4 = .ok (.iload_n 2, 1) := by decide +kernel
theorem dX5_rate_5 : decode cX5_rate 5 = .ok (.invokevirtual 111, 3) := by decide +kernel
theorem dX5_rate_8 : decode cX5_rate 8 = .ok (.ifCond .ne 6, 3) := by decide +kernel
theorem dX5_rate_11 : decode cX5_rate 11 = .ok (.ldc 251, 2) := by decide +kernel
theorem dX5_rate_13 : decode cX5_rate 13 = .ok (.ireturn, 1) := by decide +kernel
theorem dX5_rate_14 : decode cX5_rate 14 = .ok (.iload_n 1, 1) := by decide +kernel
theorem dX5_rate_15 : decode cX5_rate 15 = .ok (.tableswitch 73 0 5 #[37, 43, 49, 55, 61, 67], 37) := by decide +kernel
theorem dX5_rate_52 : decode cX5_rate 52 = .ok (.aload_n 0, 1) := by decide +kernel
theorem dX5_rate_53 : decode cX5_rate 53 = .ok (.iload_n 2, 1) := by decide +kernel
theorem dX5_rate_54 : decode cX5_rate 54 = .ok (.invokevirtual 252, 3) := by decide +kernel
theorem dX5_rate_57 : decode cX5_rate 57 = .ok (.ireturn, 1) := by decide +kernel
theorem dX5_rate_58 : decode cX5_rate 58 = .ok (.aload_n 0, 1) := by decide +kernel
theorem dX5_rate_59 : decode cX5_rate 59 = .ok (.iload_n 2, 1) := by decide +kernel
theorem dX5_rate_60 : decode cX5_rate 60 = .ok (.invokevirtual 255, 3) := by decide +kernel
theorem dX5_rate_63 : decode cX5_rate 63 = .ok (.ireturn, 1) := by decide +kernel
theorem dX5_rate_64 : decode cX5_rate 64 = .ok (.aload_n 0, 1) := by decide +kernel
theorem dX5_rate_65 : decode cX5_rate 65 = .ok (.iload_n 2, 1) := by decide +kernel
theorem dX5_rate_66 : decode cX5_rate 66 = .ok (.invokevirtual 258, 3) := by decide +kernel
theorem dX5_rate_69 : decode cX5_rate 69 = .ok (.ireturn, 1) := by decide +kernel
theorem dX5_rate_70 : decode cX5_rate 70 = .ok (.aload_n 0, 1) := by decide +kernel
theorem dX5_rate_71 : decode cX5_rate 71 = .ok (.iload_n 2, 1) := by decide +kernel
theorem dX5_rate_72 : decode cX5_rate 72 = .ok (.invokevirtual 261, 3) := by decide +kernel
theorem dX5_rate_75 : decode cX5_rate 75 = .ok (.ireturn, 1) := by decide +kernel
theorem dX5_rate_76 : decode cX5_rate 76 = .ok (.aload_n 0, 1) := by decide +kernel
theorem dX5_rate_77 : decode cX5_rate 77 = .ok (.iload_n 2, 1) := by decide +kernel
theorem dX5_rate_78 : decode cX5_rate 78 = .ok (.invokevirtual 264, 3) := by decide +kernel
theorem dX5_rate_81 : decode cX5_rate 81 = .ok (.ireturn, 1) := by decide +kernel
theorem dX5_rate_82 : decode cX5_rate 82 = .ok (.aload_n 0, 1) := by decide +kernel
theorem dX5_rate_83 : decode cX5_rate 83 = .ok (.iload_n 2, 1) := by decide +kernel
theorem dX5_rate_84 : decode cX5_rate 84 = .ok (.invokevirtual 267, 3) := by decide +kernel
theorem dX5_rate_87 : decode cX5_rate 87 = .ok (.ireturn, 1) := by decide +kernel
theorem dX5_rate_88 : decode cX5_rate 88 = .ok (.ldc 251, 2) := by decide +kernel
theorem dX5_rate_90 : decode cX5_rate 90 = .ok (.ireturn, 1) := by decide +kernel
theorem dX5_keep_0 : decode cX5_keep 0 = .ok (.iload_n 1, 1) := by decide +kernel
theorem dX5_keep_1 : decode cX5_keep 1 = .ok (.ifCond .lt 8, 3) := by decide +kernel
theorem dX5_keep_4 : decode cX5_keep 4 = .ok (.iload_n 1, 1) := by decide +kernel
theorem dX5_keep_5 : decode cX5_keep 5 = .ok (.iconst 2, 1) := by decide +kernel
theorem dX5_keep_6 : decode cX5_keep 6 = .ok (.if_icmp .lt 5, 3) := by decide +kernel
theorem dX5_keep_9 : decode cX5_keep 9 = .ok (.iconst (-1), 1) := by decide +kernel
theorem dX5_keep_10 : decode cX5_keep 10 = .ok (.ireturn, 1) := by decide +kernel
theorem dX5_keep_11 : decode cX5_keep 11 = .ok (.aload_n 0, 1) := by decide +kernel
theorem dX5_keep_12 : decode cX5_keep 12 = .ok (.getfield 40, 3) := by decide +kernel
theorem dX5_keep_15 : decode cX5_keep 15 = .ok (.iload_n 1, 1) := by decide +kernel
theorem dX5_keep_16 : decode cX5_keep 16 = .ok (.aaload, 1) := by decide +kernel
theorem dX5_keep_17 : decode cX5_keep 17 = .ok (.aload_n 0, 1) := by decide +kernel
theorem dX5_keep_18 : decode cX5_keep 18 = .ok (.getfield 29, 3) := by decide +kernel
theorem dX5_keep_21 : decode cX5_keep 21 = .ok (.invokevirtual 270, 3) := by decide +kernel
theorem dX5_keep_24 : decode cX5_keep 24 = .ok (.aload_n 0, 1) := by decide +kernel
theorem dX5_keep_25 : decode cX5_keep 25 = .ok (.dup, 1) := by decide +kernel
theorem dX5_keep_26 : decode cX5_keep 26 = .ok (.getfield 44, 3) := by decide +kernel
theorem dX5_keep_29 : decode cX5_keep 29 = .ok (.iconst 1, 1) := by decide +kernel
theorem dX5_keep_30 : decode cX5_keep 30 = .ok (.iload_n 1, 1) := by decide +kernel
theorem dX5_keep_31 : decode cX5_keep 31 = .ok (.ishl, 1) := by decide +kernel
theorem dX5_keep_32 : decode cX5_keep 32 = .ok (.ior, 1) := by decide +kernel
theorem dX5_keep_33 : decode cX5_keep 33 = .ok (.putfield 44, 3) := by decide +kernel
theorem dX5_keep_36 : decode cX5_keep 36 = .ok (.aload_n 0, 1) := by decide +kernel
theorem dX5_keep_37 : decode cX5_keep 37 = .ok (.getfield 29, 3) := by decide +kernel
theorem dX5_keep_40 : decode cX5_keep 40 = .ok (.getfield 123, 3) := by decide +kernel
theorem dX5_keep_43 : decode cX5_keep 43 = .ok (.ireturn, 1) := by decide +kernel
theorem dX5_back_0 : decode cX5_back 0 = .ok (.iload_n 1, 1) := by decide +kernel
theorem dX5_back_1 : decode cX5_back 1 = .ok (.ifCond .lt 8, 3) := by decide +kernel
theorem dX5_back_4 : decode cX5_back 4 = .ok (.iload_n 1, 1) := by decide +kernel
theorem dX5_back_5 : decode cX5_back 5 = .ok (.iconst 2, 1) := by decide +kernel
theorem dX5_back_6 : decode cX5_back 6 = .ok (.if_icmp .lt 5, 3) := by decide +kernel
theorem dX5_back_9 : decode cX5_back 9 = .ok (.iconst (-1), 1) := by decide +kernel
theorem dX5_back_10 : decode cX5_back 10 = .ok (.ireturn, 1) := by decide +kernel
theorem dX5_back_11 : decode cX5_back 11 = .ok (.aload_n 0, 1) := by decide +kernel
theorem dX5_back_12 : decode cX5_back 12 = .ok (.getfield 44, 3) := by decide +kernel
theorem dX5_back_15 : decode cX5_back 15 = .ok (.iload_n 1, 1) := by decide +kernel
theorem dX5_back_16 : decode cX5_back 16 = .ok (.ishr, 1) := by decide +kernel
theorem dX5_back_17 : decode cX5_back 17 = .ok (.iconst 1, 1) := by decide +kernel
theorem dX5_back_18 : decode cX5_back 18 = .ok (.iand, 1) := by decide +kernel
theorem dX5_back_19 : decode cX5_back 19 = .ok (.ifCond .ne 6, 3) := by decide +kernel
theorem dX5_back_22 : decode cX5_back 22 = .ok (.bipush (-2), 2) := by decide +kernel
theorem dX5_back_24 : decode cX5_back 24 = .ok (.ireturn, 1) := by decide +kernel
theorem dX5_back_25 : decode cX5_back 25 = .ok (.aload_n 0, 1) := by decide +kernel
theorem dX5_back_26 : decode cX5_back 26 = .ok (.getfield 29, 3) := by decide +kernel
theorem dX5_back_29 : decode cX5_back 29 = .ok (.aload_n 0, 1) := by decide +kernel
theorem dX5_back_30 : decode cX5_back 30 = .ok (.getfield 40, 3) := by decide +kernel
theorem dX5_back_33 : decode cX5_back 33 = .ok (.iload_n 1, 1) := by decide +kernel
theorem dX5_back_34 : decode cX5_back 34 = .ok (.aaload, 1) := by decide +kernel
theorem dX5_back_35 : decode cX5_back 35 = .ok (.invokevirtual 270, 3) := by decide +kernel
theorem dX5_back_38 : decode cX5_back 38 = .ok (.aload_n 0, 1) := by decide +kernel
theorem dX5_back_39 : decode cX5_back 39 = .ok (.getfield 36, 3) := by decide +kernel
theorem dX5_back_42 : decode cX5_back 42 = .ok (.iconst 0, 1) := by decide +kernel
theorem dX5_back_43 : decode cX5_back 43 = .ok (.putfield 89, 3) := by decide +kernel
theorem dX5_back_46 : decode cX5_back 46 = .ok (.aload_n 0, 1) := by decide +kernel
theorem dX5_back_47 : decode cX5_back 47 = .ok (.getfield 29, 3) := by decide +kernel
theorem dX5_back_50 : decode cX5_back 50 = .ok (.getfield 123, 3) := by decide +kernel
theorem dX5_back_53 : decode cX5_back 53 = .ok (.ireturn, 1) := by decide +kernel
theorem dX5_count_0 : decode cX5_count 0 = .ok (.iload_n 1, 1) := by decide +kernel
theorem dX5_count_1 : decode cX5_count 1 = .ok (.tableswitch 111 0 7 #[47, 55, 63, 71, 79, 87, 98, 103], 47) := by decide +kernel
theorem dX5_count_48 : decode cX5_count 48 = .ok (.aload_n 0, 1) := by decide +kernel
theorem dX5_count_49 : decode cX5_count 49 = .ok (.getfield 19, 3) := by decide +kernel
theorem dX5_count_52 : decode cX5_count 52 = .ok (.getfield 129, 3) := by decide +kernel
theorem dX5_count_55 : decode cX5_count 55 = .ok (.ireturn, 1) := by decide +kernel
theorem dX5_count_56 : decode cX5_count 56 = .ok (.aload_n 0, 1) := by decide +kernel
theorem dX5_count_57 : decode cX5_count 57 = .ok (.getfield 19, 3) := by decide +kernel
theorem dX5_count_60 : decode cX5_count 60 = .ok (.getfield 273, 3) := by decide +kernel
theorem dX5_count_63 : decode cX5_count 63 = .ok (.ireturn, 1) := by decide +kernel
theorem dX5_count_64 : decode cX5_count 64 = .ok (.aload_n 0, 1) := by decide +kernel
theorem dX5_count_65 : decode cX5_count 65 = .ok (.getfield 19, 3) := by decide +kernel
theorem dX5_count_68 : decode cX5_count 68 = .ok (.getfield 276, 3) := by decide +kernel
theorem dX5_count_71 : decode cX5_count 71 = .ok (.ireturn, 1) := by decide +kernel
theorem dX5_count_72 : decode cX5_count 72 = .ok (.aload_n 0, 1) := by decide +kernel
theorem dX5_count_73 : decode cX5_count 73 = .ok (.getfield 19, 3) := by decide +kernel
theorem dX5_count_76 : decode cX5_count 76 = .ok (.getfield 202, 3) := by decide +kernel
theorem dX5_count_79 : decode cX5_count 79 = .ok (.ireturn, 1) := by decide +kernel
theorem dX5_count_80 : decode cX5_count 80 = .ok (.aload_n 0, 1) := by decide +kernel
theorem dX5_count_81 : decode cX5_count 81 = .ok (.getfield 19, 3) := by decide +kernel
theorem dX5_count_84 : decode cX5_count 84 = .ok (.getfield 245, 3) := by decide +kernel
theorem dX5_count_87 : decode cX5_count 87 = .ok (.ireturn, 1) := by decide +kernel
theorem dX5_count_88 : decode cX5_count 88 = .ok (.aload_n 0, 1) := by decide +kernel
theorem dX5_count_89 : decode cX5_count 89 = .ok (.getfield 29, 3) := by decide +kernel
theorem dX5_count_92 : decode cX5_count 92 = .ok (.getfield 214, 3) := by decide +kernel
theorem dX5_count_95 : decode cX5_count 95 = .ok (.invokestatic 217, 3) := by decide +kernel
theorem dX5_count_98 : decode cX5_count 98 = .ok (.ireturn, 1) := by decide +kernel
theorem dX5_count_99 : decode cX5_count 99 = .ok (.aload_n 0, 1) := by decide +kernel
theorem dX5_count_100 : decode cX5_count 100 = .ok (.getfield 62, 3) := by decide +kernel
theorem dX5_count_103 : decode cX5_count 103 = .ok (.ireturn, 1) := by decide +kernel
theorem dX5_count_104 : decode cX5_count 104 = .ok (.aload_n 0, 1) := by decide +kernel
theorem dX5_count_105 : decode cX5_count 105 = .ok (.getfield 10, 3) := by decide +kernel
theorem dX5_count_108 : decode cX5_count 108 = .ok (.getfield 79, 3) := by decide +kernel
theorem dX5_count_111 : decode cX5_count 111 = .ok (.ireturn, 1) := by decide +kernel
theorem dX5_count_112 : decode cX5_count 112 = .ok (.iconst (-1), 1) := by decide +kernel
theorem dX5_count_113 : decode cX5_count 113 = .ok (.ireturn, 1) := by decide +kernel
theorem dX5_trace_0 : decode cX5_trace 0 = .ok (.aload_n 0, 1) := by decide +kernel
theorem dX5_trace_1 : decode cX5_trace 1 = .ok (.getfield 71, 3) := by decide +kernel
theorem dX5_trace_4 : decode cX5_trace 4 = .ok (.lreturn, 1) := by decide +kernel
theorem dX5_isNoneOrTraveller_0 : decode cX5_isNoneOrTraveller 0 = .ok (.iload_n 1, 1) := by decide +kernel
theorem dX5_isNoneOrTraveller_1 : decode cX5_isNoneOrTraveller 1 = .ok (.bipush (-9), 2) := by decide +kernel
theorem dX5_isNoneOrTraveller_3 : decode cX5_isNoneOrTraveller 3 = .ok (.if_icmp .eq 14, 3) := by decide +kernel
theorem dX5_isNoneOrTraveller_6 : decode cX5_isNoneOrTraveller 6 = .ok (.aload_n 0, 1) := by decide +kernel
theorem dX5_isNoneOrTraveller_7 : decode cX5_isNoneOrTraveller 7 = .ok (.getfield 19, 3) := by decide +kernel
theorem dX5_isNoneOrTraveller_10 : decode cX5_isNoneOrTraveller 10 = .ok (.iload_n 1, 1) := by decide +kernel
theorem dX5_isNoneOrTraveller_11 : decode cX5_isNoneOrTraveller 11 = .ok (.invokevirtual 92, 3) := by decide +kernel
theorem dX5_isNoneOrTraveller_14 : decode cX5_isNoneOrTraveller 14 = .ok (.ifCond .eq 7, 3) := by decide +kernel
theorem dX5_isNoneOrTraveller_17 : decode cX5_isNoneOrTraveller 17 = .ok (.iconst 1, 1) := by decide +kernel
theorem dX5_isNoneOrTraveller_18 : decode cX5_isNoneOrTraveller 18 = .ok (.goto 4, 3) := by decide +kernel
theorem dX5_isNoneOrTraveller_21 : decode cX5_isNoneOrTraveller 21 = .ok (.iconst 0, 1) := by decide +kernel
theorem dX5_isNoneOrTraveller_22 : decode cX5_isNoneOrTraveller 22 = .ok (.ireturn, 1) := by decide +kernel
theorem dX5_rowWith_0 : decode cX5_rowWith 0 = .ok (.iconst 0, 1) := by decide +kernel
theorem dX5_rowWith_1 : decode cX5_rowWith 1 = .ok (.istore_n 2, 1) := by decide +kernel
theorem dX5_rowWith_2 : decode cX5_rowWith 2 = .ok (.iload_n 2, 1) := by decide +kernel
theorem dX5_rowWith_3 : decode cX5_rowWith 3 = .ok (.aload_n 0, 1) := by decide +kernel
theorem dX5_rowWith_4 : decode cX5_rowWith 4 = .ok (.arraylength, 1) := by decide +kernel
theorem dX5_rowWith_5 : decode cX5_rowWith 5 = .ok (.if_icmp .ge 21, 3) := by decide +kernel
theorem dX5_rowWith_8 : decode cX5_rowWith 8 = .ok (.aload_n 0, 1) := by decide +kernel
theorem dX5_rowWith_9 : decode cX5_rowWith 9 = .ok (.iload_n 2, 1) := by decide +kernel
theorem dX5_rowWith_10 : decode cX5_rowWith 10 = .ok (.iaload, 1) := by decide +kernel
theorem dX5_rowWith_11 : decode cX5_rowWith 11 = .ok (.iload_n 1, 1) := by decide +kernel
theorem dX5_rowWith_12 : decode cX5_rowWith 12 = .ok (.ishr, 1) := by decide +kernel
theorem dX5_rowWith_13 : decode cX5_rowWith 13 = .ok (.iconst 1, 1) := by decide +kernel
theorem dX5_rowWith_14 : decode cX5_rowWith 14 = .ok (.iand, 1) := by decide +kernel
theorem dX5_rowWith_15 : decode cX5_rowWith 15 = .ok (.ifCond .eq 5, 3) := by decide +kernel
theorem dX5_rowWith_18 : decode cX5_rowWith 18 = .ok (.iload_n 2, 1) := by decide +kernel
theorem dX5_rowWith_19 : decode cX5_rowWith 19 = .ok (.ireturn, 1) := by decide +kernel
theorem dX5_rowWith_20 : decode cX5_rowWith 20 = .ok (.iinc 2 1, 3) := by decide +kernel
theorem dX5_rowWith_23 : decode cX5_rowWith 23 = .ok (.goto (-21), 3) := by decide +kernel
theorem dX5_rowWith_26 : decode cX5_rowWith 26 = .ok (.bipush (-9), 2) := by decide +kernel
theorem dX5_rowWith_28 : decode cX5_rowWith 28 = .ok (.ireturn, 1) := by decide +kernel
theorem dX5_countSickWays_0 : decode cX5_countSickWays 0 = .ok (.aload_n 0, 1) := by decide +kernel
theorem dX5_countSickWays_1 : decode cX5_countSickWays 1 = .ok (.getfield 68, 3) := by decide +kernel
theorem dX5_countSickWays_4 : decode cX5_countSickWays 4 = .ok (.iconst 0, 1) := by decide +kernel
theorem dX5_countSickWays_5 : decode cX5_countSickWays 5 = .ok (.invokestatic 279, 3) := by decide +kernel
theorem dX5_countSickWays_8 : decode cX5_countSickWays 8 = .ok (.aload_n 0, 1) := by decide +kernel
theorem dX5_countSickWays_9 : decode cX5_countSickWays 9 = .ok (.getfield 68, 3) := by decide +kernel
theorem dX5_countSickWays_12 : decode cX5_countSickWays 12 = .ok (.iconst 0, 1) := by decide +kernel
theorem dX5_countSickWays_13 : decode cX5_countSickWays 13 = .ok (.iconst 1, 1) := by decide +kernel
theorem dX5_countSickWays_14 : decode cX5_countSickWays 14 = .ok (.iastore, 1) := by decide +kernel
theorem dX5_countSickWays_15 : decode cX5_countSickWays 15 = .ok (.iconst 0, 1) := by decide +kernel
theorem dX5_countSickWays_16 : decode cX5_countSickWays 16 = .ok (.istore_n 2, 1) := by decide +kernel
theorem dX5_countSickWays_17 : decode cX5_countSickWays 17 = .ok (.iload_n 2, 1) := by decide +kernel
theorem dX5_countSickWays_18 : decode cX5_countSickWays 18 = .ok (.aload_n 0, 1) := by decide +kernel
theorem dX5_countSickWays_19 : decode cX5_countSickWays 19 = .ok (.getfield 19, 3) := by decide +kernel
theorem dX5_countSickWays_22 : decode cX5_countSickWays 22 = .ok (.getfield 202, 3) := by decide +kernel
theorem dX5_countSickWays_25 : decode cX5_countSickWays 25 = .ok (.if_icmp .ge 86, 3) := by decide +kernel
theorem dX5_countSickWays_28 : decode cX5_countSickWays 28 = .ok (.iload_n 2, 1) := by decide +kernel
theorem dX5_countSickWays_29 : decode cX5_countSickWays 29 = .ok (.iload_n 1, 1) := by decide +kernel
theorem dX5_countSickWays_30 : decode cX5_countSickWays 30 = .ok (.if_icmp .ne 6, 3) := by decide +kernel
theorem dX5_countSickWays_33 : decode cX5_countSickWays 33 = .ok (.goto 72, 3) := by decide +kernel
theorem dX5_countSickWays_36 : decode cX5_countSickWays 36 = .ok (.aload_n 0, 1) := by decide +kernel
theorem dX5_countSickWays_37 : decode cX5_countSickWays 37 = .ok (.getfield 19, 3) := by decide +kernel
theorem dX5_countSickWays_40 : decode cX5_countSickWays 40 = .ok (.getfield 98, 3) := by decide +kernel
theorem dX5_countSickWays_43 : decode cX5_countSickWays 43 = .ok (.iload_n 2, 1) := by decide +kernel
theorem dX5_countSickWays_44 : decode cX5_countSickWays 44 = .ok (.iaload, 1) := by decide +kernel
theorem dX5_countSickWays_45 : decode cX5_countSickWays 45 = .ok (.istore_n 3, 1) := by decide +kernel
theorem dX5_countSickWays_46 : decode cX5_countSickWays 46 = .ok (.bipush 6, 2) := by decide +kernel
theorem dX5_countSickWays_48 : decode cX5_countSickWays 48 = .ok (.istore 4, 2) := by decide +kernel
theorem dX5_countSickWays_50 : decode cX5_countSickWays 50 = .ok (.iload 4, 2) := by decide +kernel
theorem dX5_countSickWays_52 : decode cX5_countSickWays 52 = .ok (.ifCond .le 40, 3) := by decide +kernel
theorem dX5_countSickWays_55 : decode cX5_countSickWays 55 = .ok (.aload_n 0, 1) := by decide +kernel
theorem dX5_countSickWays_56 : decode cX5_countSickWays 56 = .ok (.getfield 68, 3) := by decide +kernel
theorem dX5_countSickWays_59 : decode cX5_countSickWays 59 = .ok (.iload 4, 2) := by decide +kernel
theorem dX5_countSickWays_61 : decode cX5_countSickWays 61 = .ok (.aload_n 0, 1) := by decide +kernel
theorem dX5_countSickWays_62 : decode cX5_countSickWays 62 = .ok (.getfield 68, 3) := by decide +kernel
theorem dX5_countSickWays_65 : decode cX5_countSickWays 65 = .ok (.iload 4, 2) := by decide +kernel
theorem dX5_countSickWays_67 : decode cX5_countSickWays 67 = .ok (.iaload, 1) := by decide +kernel
theorem dX5_countSickWays_68 : decode cX5_countSickWays 68 = .ok (.bipush 10, 2) := by decide +kernel
theorem dX5_countSickWays_70 : decode cX5_countSickWays 70 = .ok (.iload_n 3, 1) := by decide +kernel
theorem dX5_countSickWays_71 : decode cX5_countSickWays 71 = .ok (.isub, 1) := by decide +kernel
theorem dX5_countSickWays_72 : decode cX5_countSickWays 72 = .ok (.imul, 1) := by decide +kernel
theorem dX5_countSickWays_73 : decode cX5_countSickWays 73 = .ok (.aload_n 0, 1) := by decide +kernel
theorem dX5_countSickWays_74 : decode cX5_countSickWays 74 = .ok (.getfield 68, 3) := by decide +kernel
theorem dX5_countSickWays_77 : decode cX5_countSickWays 77 = .ok (.iload 4, 2) := by decide +kernel
theorem dX5_countSickWays_79 : decode cX5_countSickWays 79 = .ok (.iconst 1, 1) := by decide +kernel
theorem dX5_countSickWays_80 : decode cX5_countSickWays 80 = .ok (.isub, 1) := by decide +kernel
theorem dX5_countSickWays_81 : decode cX5_countSickWays 81 = .ok (.iaload, 1) := by decide +kernel
theorem dX5_countSickWays_82 : decode cX5_countSickWays 82 = .ok (.iload_n 3, 1) := by decide +kernel
theorem dX5_countSickWays_83 : decode cX5_countSickWays 83 = .ok (.imul, 1) := by decide +kernel
theorem dX5_countSickWays_84 : decode cX5_countSickWays 84 = .ok (.iadd, 1) := by decide +kernel
theorem dX5_countSickWays_85 : decode cX5_countSickWays 85 = .ok (.iastore, 1) := by decide +kernel
theorem dX5_countSickWays_86 : decode cX5_countSickWays 86 = .ok (.iinc 4 (-1), 3) := by decide +kernel
theorem dX5_countSickWays_89 : decode cX5_countSickWays 89 = .ok (.goto (-39), 3) := by decide +kernel
theorem dX5_countSickWays_92 : decode cX5_countSickWays 92 = .ok (.aload_n 0, 1) := by decide +kernel
theorem dX5_countSickWays_93 : decode cX5_countSickWays 93 = .ok (.getfield 68, 3) := by decide +kernel
theorem dX5_countSickWays_96 : decode cX5_countSickWays 96 = .ok (.iconst 0, 1) := by decide +kernel
theorem dX5_countSickWays_97 : decode cX5_countSickWays 97 = .ok (.dup2, 1) := by decide +kernel
theorem dX5_countSickWays_98 : decode cX5_countSickWays 98 = .ok (.iaload, 1) := by decide +kernel
theorem dX5_countSickWays_99 : decode cX5_countSickWays 99 = .ok (.bipush 10, 2) := by decide +kernel
theorem dX5_countSickWays_101 : decode cX5_countSickWays 101 = .ok (.iload_n 3, 1) := by decide +kernel
theorem dX5_countSickWays_102 : decode cX5_countSickWays 102 = .ok (.isub, 1) := by decide +kernel
theorem dX5_countSickWays_103 : decode cX5_countSickWays 103 = .ok (.imul, 1) := by decide +kernel
theorem dX5_countSickWays_104 : decode cX5_countSickWays 104 = .ok (.iastore, 1) := by decide +kernel
theorem dX5_countSickWays_105 : decode cX5_countSickWays 105 = .ok (.iinc 2 1, 3) := by decide +kernel
theorem dX5_countSickWays_108 : decode cX5_countSickWays 108 = .ok (.goto (-91), 3) := by decide +kernel
theorem dX5_countSickWays_111 : decode cX5_countSickWays 111 = .ok (.return_, 1) := by decide +kernel
theorem dX5_inLeastTerms_0 : decode cX5_inLeastTerms 0 = .ok (.iload_n 1, 1) := by decide +kernel
theorem dX5_inLeastTerms_1 : decode cX5_inLeastTerms 1 = .ok (.istore_n 3, 1) := by decide +kernel
theorem dX5_inLeastTerms_2 : decode cX5_inLeastTerms 2 = .ok (.iload_n 0, 1) := by decide +kernel
theorem dX5_inLeastTerms_3 : decode cX5_inLeastTerms 3 = .ok (.istore 4, 2) := by decide +kernel
theorem dX5_inLeastTerms_5 : decode cX5_inLeastTerms 5 = .ok (.iconst 0, 1) := by decide +kernel
theorem dX5_inLeastTerms_6 : decode cX5_inLeastTerms 6 = .ok (.istore 5, 2) := by decide +kernel
theorem dX5_inLeastTerms_8 : decode cX5_inLeastTerms 8 = .ok (.iload 5, 2) := by decide +kernel
theorem dX5_inLeastTerms_10 : decode cX5_inLeastTerms 10 = .ok (.bipush 64, 2) := by decide +kernel
theorem dX5_inLeastTerms_12 : decode cX5_inLeastTerms 12 = .ok (.if_icmp .ge 27, 3) := by decide +kernel
theorem dX5_inLeastTerms_15 : decode cX5_inLeastTerms 15 = .ok (.iload 4, 2) := by decide +kernel
theorem dX5_inLeastTerms_17 : decode cX5_inLeastTerms 17 = .ok (.ifCond .eq 22, 3) := by decide +kernel
theorem dX5_inLeastTerms_20 : decode cX5_inLeastTerms 20 = .ok (.iload_n 3, 1) := by decide +kernel
theorem dX5_inLeastTerms_21 : decode cX5_inLeastTerms 21 = .ok (.iload 4, 2) := by decide +kernel
theorem dX5_inLeastTerms_23 : decode cX5_inLeastTerms 23 = .ok (.irem, 1) := by decide +kernel
theorem dX5_inLeastTerms_24 : decode cX5_inLeastTerms 24 = .ok (.istore 6, 2) := by decide +kernel
theorem dX5_inLeastTerms_26 : decode cX5_inLeastTerms 26 = .ok (.iload 4, 2) := by decide +kernel
theorem dX5_inLeastTerms_28 : decode cX5_inLeastTerms 28 = .ok (.istore_n 3, 1) := by decide +kernel
theorem dX5_inLeastTerms_29 : decode cX5_inLeastTerms 29 = .ok (.iload 6, 2) := by decide +kernel
theorem dX5_inLeastTerms_31 : decode cX5_inLeastTerms 31 = .ok (.istore 4, 2) := by decide +kernel
theorem dX5_inLeastTerms_33 : decode cX5_inLeastTerms 33 = .ok (.iinc 5 1, 3) := by decide +kernel
theorem dX5_inLeastTerms_36 : decode cX5_inLeastTerms 36 = .ok (.goto (-28), 3) := by decide +kernel
theorem dX5_inLeastTerms_39 : decode cX5_inLeastTerms 39 = .ok (.iload_n 3, 1) := by decide +kernel
theorem dX5_inLeastTerms_40 : decode cX5_inLeastTerms 40 = .ok (.ifCond .ne 5, 3) := by decide +kernel
theorem dX5_inLeastTerms_43 : decode cX5_inLeastTerms 43 = .ok (.iconst (-1), 1) := by decide +kernel
theorem dX5_inLeastTerms_44 : decode cX5_inLeastTerms 44 = .ok (.ireturn, 1) := by decide +kernel
theorem dX5_inLeastTerms_45 : decode cX5_inLeastTerms 45 = .ok (.iload_n 2, 1) := by decide +kernel
theorem dX5_inLeastTerms_46 : decode cX5_inLeastTerms 46 = .ok (.ifCond .ne 7, 3) := by decide +kernel
theorem dX5_inLeastTerms_49 : decode cX5_inLeastTerms 49 = .ok (.iload_n 0, 1) := by decide +kernel
theorem dX5_inLeastTerms_50 : decode cX5_inLeastTerms 50 = .ok (.goto 4, 3) := by decide +kernel
theorem dX5_inLeastTerms_53 : decode cX5_inLeastTerms 53 = .ok (.iload_n 1, 1) := by decide +kernel
theorem dX5_inLeastTerms_54 : decode cX5_inLeastTerms 54 = .ok (.iload_n 3, 1) := by decide +kernel
theorem dX5_inLeastTerms_55 : decode cX5_inLeastTerms 55 = .ok (.idiv, 1) := by decide +kernel
theorem dX5_inLeastTerms_56 : decode cX5_inLeastTerms 56 = .ok (.ireturn, 1) := by decide +kernel
theorem dX5_brownLength_0 : decode cX5_brownLength 0 = .ok (.aload_n 0, 1) := by decide +kernel
theorem dX5_brownLength_1 : decode cX5_brownLength 1 = .ok (.getfield 62, 3) := by decide +kernel
theorem dX5_brownLength_4 : decode cX5_brownLength 4 = .ok (.ifCond .ne 7, 3) := by decide +kernel
theorem dX5_brownLength_7 : decode cX5_brownLength 7 = .ok (.iconst 0, 1) := by decide +kernel
theorem dX5_brownLength_8 : decode cX5_brownLength 8 = .ok (.goto 12, 3) := by decide +kernel
theorem dX5_brownLength_11 : decode cX5_brownLength 11 = .ok (.aload_n 0, 1) := by decide +kernel
theorem dX5_brownLength_12 : decode cX5_brownLength 12 = .ok (.getfield 55, 3) := by decide +kernel
theorem dX5_brownLength_15 : decode cX5_brownLength 15 = .ok (.iconst 0, 1) := by decide +kernel
theorem dX5_brownLength_16 : decode cX5_brownLength 16 = .ok (.iaload, 1) := by decide +kernel
theorem dX5_brownLength_17 : decode cX5_brownLength 17 = .ok (.invokestatic 217, 3) := by decide +kernel
theorem dX5_brownLength_20 : decode cX5_brownLength 20 = .ok (.ireturn, 1) := by decide +kernel
theorem dX5_mayHaveStood_0 : decode cX5_mayHaveStood 0 = .ok (.sipush 1023, 3) := by decide +kernel
theorem dX5_mayHaveStood_3 : decode cX5_mayHaveStood 3 = .ok (.istore_n 2, 1) := by decide +kernel
theorem dX5_mayHaveStood_4 : decode cX5_mayHaveStood 4 = .ok (.iconst 0, 1) := by decide +kernel
theorem dX5_mayHaveStood_5 : decode cX5_mayHaveStood 5 = .ok (.istore_n 3, 1) := by decide +kernel
theorem dX5_mayHaveStood_6 : decode cX5_mayHaveStood 6 = .ok (.iload_n 3, 1) := by decide +kernel
theorem dX5_mayHaveStood_7 : decode cX5_mayHaveStood 7 = .ok (.aload_n 0, 1) := by decide +kernel
theorem dX5_mayHaveStood_8 : decode cX5_mayHaveStood 8 = .ok (.getfield 62, 3) := by decide +kernel
theorem dX5_mayHaveStood_11 : decode cX5_mayHaveStood 11 = .ok (.if_icmp .ge 35, 3) := by decide +kernel
theorem dX5_mayHaveStood_14 : decode cX5_mayHaveStood 14 = .ok (.iload_n 2, 1) := by decide +kernel
theorem dX5_mayHaveStood_15 : decode cX5_mayHaveStood 15 = .ok (.aload_n 0, 1) := by decide +kernel
theorem dX5_mayHaveStood_16 : decode cX5_mayHaveStood 16 = .ok (.getfield 19, 3) := by decide +kernel
theorem dX5_mayHaveStood_19 : decode cX5_mayHaveStood 19 = .ok (.aload_n 0, 1) := by decide +kernel
theorem dX5_mayHaveStood_20 : decode cX5_mayHaveStood 20 = .ok (.getfield 55, 3) := by decide +kernel
theorem dX5_mayHaveStood_23 : decode cX5_mayHaveStood 23 = .ok (.iload_n 3, 1) := by decide +kernel
theorem dX5_mayHaveStood_24 : decode cX5_mayHaveStood 24 = .ok (.iaload, 1) := by decide +kernel
theorem dX5_mayHaveStood_25 : decode cX5_mayHaveStood 25 = .ok (.iload_n 1, 1) := by decide +kernel
theorem dX5_mayHaveStood_26 : decode cX5_mayHaveStood 26 = .ok (.invokestatic 226, 3) := by decide +kernel
theorem dX5_mayHaveStood_29 : decode cX5_mayHaveStood 29 = .ok (.aload_n 0, 1) := by decide +kernel
theorem dX5_mayHaveStood_30 : decode cX5_mayHaveStood 30 = .ok (.getfield 59, 3) := by decide +kernel
theorem dX5_mayHaveStood_33 : decode cX5_mayHaveStood 33 = .ok (.iload_n 3, 1) := by decide +kernel
theorem dX5_mayHaveStood_34 : decode cX5_mayHaveStood 34 = .ok (.iaload, 1) := by decide +kernel
theorem dX5_mayHaveStood_35 : decode cX5_mayHaveStood 35 = .ok (.invokevirtual 285, 3) := by decide +kernel
theorem dX5_mayHaveStood_38 : decode cX5_mayHaveStood 38 = .ok (.iand, 1) := by decide +kernel
theorem dX5_mayHaveStood_39 : decode cX5_mayHaveStood 39 = .ok (.istore_n 2, 1) := by decide +kernel
theorem dX5_mayHaveStood_40 : decode cX5_mayHaveStood 40 = .ok (.iinc 3 1, 3) := by decide +kernel
theorem dX5_mayHaveStood_43 : decode cX5_mayHaveStood 43 = .ok (.goto (-37), 3) := by decide +kernel
theorem dX5_mayHaveStood_46 : decode cX5_mayHaveStood 46 = .ok (.iload_n 2, 1) := by decide +kernel
theorem dX5_mayHaveStood_47 : decode cX5_mayHaveStood 47 = .ok (.ireturn, 1) := by decide +kernel
theorem dX5_possibleLetters_0 : decode cX5_possibleLetters 0 = .ok (.aload_n 0, 1) := by decide +kernel
theorem dX5_possibleLetters_1 : decode cX5_possibleLetters 1 = .ok (.getfield 62, 3) := by decide +kernel
theorem dX5_possibleLetters_4 : decode cX5_possibleLetters 4 = .ok (.ifCond .ne 7, 3) := by decide +kernel
theorem dX5_possibleLetters_7 : decode cX5_possibleLetters 7 = .ok (.iconst 0, 1) := by decide +kernel
theorem dX5_possibleLetters_8 : decode cX5_possibleLetters 8 = .ok (.goto 4, 3) := by decide +kernel
theorem dX5_possibleLetters_11 : decode cX5_possibleLetters 11 = .ok (.iconst 1, 1) := by decide +kernel
theorem dX5_possibleLetters_12 : decode cX5_possibleLetters 12 = .ok (.istore_n 1, 1) := by decide +kernel
theorem dX5_possibleLetters_13 : decode cX5_possibleLetters 13 = .ok (.iconst 0, 1) := by decide +kernel
theorem dX5_possibleLetters_14 : decode cX5_possibleLetters 14 = .ok (.istore_n 2, 1) := by decide +kernel
theorem dX5_possibleLetters_15 : decode cX5_possibleLetters 15 = .ok (.iload_n 2, 1) := by decide +kernel
theorem dX5_possibleLetters_16 : decode cX5_possibleLetters 16 = .ok (.aload_n 0, 1) := by decide +kernel
theorem dX5_possibleLetters_17 : decode cX5_possibleLetters 17 = .ok (.invokevirtual 229, 3) := by decide +kernel
theorem dX5_possibleLetters_20 : decode cX5_possibleLetters 20 = .ok (.if_icmp .ge 20, 3) := by decide +kernel
theorem dX5_possibleLetters_23 : decode cX5_possibleLetters 23 = .ok (.iload_n 1, 1) := by decide +kernel
theorem dX5_possibleLetters_24 : decode cX5_possibleLetters 24 = .ok (.aload_n 0, 1) := by decide +kernel
theorem dX5_possibleLetters_25 : decode cX5_possibleLetters 25 = .ok (.iload_n 2, 1) := by decide +kernel
theorem dX5_possibleLetters_26 : decode cX5_possibleLetters 26 = .ok (.invokevirtual 233, 3) := by decide +kernel
theorem dX5_possibleLetters_29 : decode cX5_possibleLetters 29 = .ok (.invokestatic 155, 3) := by decide +kernel
theorem dX5_possibleLetters_32 : decode cX5_possibleLetters 32 = .ok (.imul, 1) := by decide +kernel
theorem dX5_possibleLetters_33 : decode cX5_possibleLetters 33 = .ok (.istore_n 1, 1) := by decide +kernel
theorem dX5_possibleLetters_34 : decode cX5_possibleLetters 34 = .ok (.iinc 2 1, 3) := by decide +kernel
theorem dX5_possibleLetters_37 : decode cX5_possibleLetters 37 = .ok (.goto (-22), 3) := by decide +kernel
theorem dX5_possibleLetters_40 : decode cX5_possibleLetters 40 = .ok (.iload_n 1, 1) := by decide +kernel
theorem dX5_possibleLetters_41 : decode cX5_possibleLetters 41 = .ok (.ireturn, 1) := by decide +kernel
theorem dX5_fewestClerks_0 : decode cX5_fewestClerks 0 = .ok (.iconst 0, 1) := by decide +kernel
theorem dX5_fewestClerks_1 : decode cX5_fewestClerks 1 = .ok (.istore_n 2, 1) := by decide +kernel
theorem dX5_fewestClerks_2 : decode cX5_fewestClerks 2 = .ok (.iload_n 2, 1) := by decide +kernel
theorem dX5_fewestClerks_3 : decode cX5_fewestClerks 3 = .ok (.aload_n 0, 1) := by decide +kernel
theorem dX5_fewestClerks_4 : decode cX5_fewestClerks 4 = .ok (.getfield 19, 3) := by decide +kernel
theorem dX5_fewestClerks_7 : decode cX5_fewestClerks 7 = .ok (.getfield 245, 3) := by decide +kernel
theorem dX5_fewestClerks_10 : decode cX5_fewestClerks 10 = .ok (.if_icmp .gt 35, 3) := by decide +kernel
theorem dX5_fewestClerks_13 : decode cX5_fewestClerks 13 = .ok (.aload_n 0, 1) := by decide +kernel
theorem dX5_fewestClerks_14 : decode cX5_fewestClerks 14 = .ok (.getfield 19, 3) := by decide +kernel
theorem dX5_fewestClerks_17 : decode cX5_fewestClerks 17 = .ok (.aload_n 0, 1) := by decide +kernel
theorem dX5_fewestClerks_18 : decode cX5_fewestClerks 18 = .ok (.getfield 65, 3) := by decide +kernel
theorem dX5_fewestClerks_21 : decode cX5_fewestClerks 21 = .ok (.iload_n 1, 1) := by decide +kernel
theorem dX5_fewestClerks_22 : decode cX5_fewestClerks 22 = .ok (.aload_n 0, 1) := by decide +kernel
theorem dX5_fewestClerks_23 : decode cX5_fewestClerks 23 = .ok (.getfield 29, 3) := by decide +kernel
theorem dX5_fewestClerks_26 : decode cX5_fewestClerks 26 = .ok (.getfield 214, 3) := by decide +kernel
theorem dX5_fewestClerks_29 : decode cX5_fewestClerks 29 = .ok (.iconst 0, 1) := by decide +kernel
theorem dX5_fewestClerks_30 : decode cX5_fewestClerks 30 = .ok (.iload_n 2, 1) := by decide +kernel
theorem dX5_fewestClerks_31 : decode cX5_fewestClerks 31 = .ok (.invokestatic 288, 3) := by decide +kernel
theorem dX5_fewestClerks_34 : decode cX5_fewestClerks 34 = .ok (.ifCond .eq 5, 3) := by decide +kernel
theorem dX5_fewestClerks_37 : decode cX5_fewestClerks 37 = .ok (.iload_n 2, 1) := by decide +kernel
theorem dX5_fewestClerks_38 : decode cX5_fewestClerks 38 = .ok (.ireturn, 1) := by decide +kernel
theorem dX5_fewestClerks_39 : decode cX5_fewestClerks 39 = .ok (.iinc 2 1, 3) := by decide +kernel
theorem dX5_fewestClerks_42 : decode cX5_fewestClerks 42 = .ok (.goto (-40), 3) := by decide +kernel
theorem dX5_fewestClerks_45 : decode cX5_fewestClerks 45 = .ok (.bipush (-9), 2) := by decide +kernel
theorem dX5_fewestClerks_47 : decode cX5_fewestClerks 47 = .ok (.ireturn, 1) := by decide +kernel
theorem dX5_canMake_0 : decode cX5_canMake 0 = .ok (.iload 4, 2) := by decide +kernel
theorem dX5_canMake_2 : decode cX5_canMake 2 = .ok (.iload 5, 2) := by decide +kernel
theorem dX5_canMake_4 : decode cX5_canMake 4 = .ok (.if_icmp .ge 10, 3) := by decide +kernel
theorem dX5_canMake_7 : decode cX5_canMake 7 = .ok (.iload 4, 2) := by decide +kernel
theorem dX5_canMake_9 : decode cX5_canMake 9 = .ok (.aload_n 1, 1) := by decide +kernel
theorem dX5_canMake_10 : decode cX5_canMake 10 = .ok (.arraylength, 1) := by decide +kernel
theorem dX5_canMake_11 : decode cX5_canMake 11 = .ok (.if_icmp .lt 14, 3) := by decide +kernel
theorem dX5_canMake_14 : decode cX5_canMake 14 = .ok (.iload_n 2, 1) := by decide +kernel
theorem dX5_canMake_15 : decode cX5_canMake 15 = .ok (.iload_n 3, 1) := by decide +kernel
theorem dX5_canMake_16 : decode cX5_canMake 16 = .ok (.if_icmp .ne 7, 3) := by decide +kernel
theorem dX5_canMake_19 : decode cX5_canMake 19 = .ok (.iconst 1, 1) := by decide +kernel
theorem dX5_canMake_20 : decode cX5_canMake 20 = .ok (.goto 4, 3) := by decide +kernel
theorem dX5_canMake_23 : decode cX5_canMake 23 = .ok (.iconst 0, 1) := by decide +kernel
theorem dX5_canMake_24 : decode cX5_canMake 24 = .ok (.ireturn, 1) := by decide +kernel
theorem dX5_canMake_25 : decode cX5_canMake 25 = .ok (.iconst 0, 1) := by decide +kernel
theorem dX5_canMake_26 : decode cX5_canMake 26 = .ok (.istore 6, 2) := by decide +kernel
theorem dX5_canMake_28 : decode cX5_canMake 28 = .ok (.iload 6, 2) := by decide +kernel
theorem dX5_canMake_30 : decode cX5_canMake 30 = .ok (.aload_n 0, 1) := by decide +kernel
theorem dX5_canMake_31 : decode cX5_canMake 31 = .ok (.getfield 245, 3) := by decide +kernel
theorem dX5_canMake_34 : decode cX5_canMake 34 = .ok (.if_icmp .ge 53, 3) := by decide +kernel
theorem dX5_canMake_37 : decode cX5_canMake 37 = .ok (.aload_n 1, 1) := by decide +kernel
theorem dX5_canMake_38 : decode cX5_canMake 38 = .ok (.iload 4, 2) := by decide +kernel
theorem dX5_canMake_40 : decode cX5_canMake 40 = .ok (.iload 6, 2) := by decide +kernel
theorem dX5_canMake_42 : decode cX5_canMake 42 = .ok (.invokestatic 292, 3) := by decide +kernel
theorem dX5_canMake_45 : decode cX5_canMake 45 = .ok (.ifCond .eq 6, 3) := by decide +kernel
theorem dX5_canMake_48 : decode cX5_canMake 48 = .ok (.goto 33, 3) := by decide +kernel
theorem dX5_canMake_51 : decode cX5_canMake 51 = .ok (.aload_n 1, 1) := by decide +kernel
theorem dX5_canMake_52 : decode cX5_canMake 52 = .ok (.iload 4, 2) := by decide +kernel
theorem dX5_canMake_54 : decode cX5_canMake 54 = .ok (.iload 6, 2) := by decide +kernel
theorem dX5_canMake_56 : decode cX5_canMake 56 = .ok (.iastore, 1) := by decide +kernel
theorem dX5_canMake_57 : decode cX5_canMake 57 = .ok (.aload_n 0, 1) := by decide +kernel
theorem dX5_canMake_58 : decode cX5_canMake 58 = .ok (.aload_n 1, 1) := by decide +kernel
theorem dX5_canMake_59 : decode cX5_canMake 59 = .ok (.aload_n 0, 1) := by decide +kernel
theorem dX5_canMake_60 : decode cX5_canMake 60 = .ok (.iload_n 2, 1) := by decide +kernel
theorem dX5_canMake_61 : decode cX5_canMake 61 = .ok (.iload 6, 2) := by decide +kernel
theorem dX5_canMake_63 : decode cX5_canMake 63 = .ok (.invokevirtual 220, 3) := by decide +kernel
theorem dX5_canMake_66 : decode cX5_canMake 66 = .ok (.iload_n 3, 1) := by decide +kernel
theorem dX5_canMake_67 : decode cX5_canMake 67 = .ok (.iload 4, 2) := by decide +kernel
theorem dX5_canMake_69 : decode cX5_canMake 69 = .ok (.iconst 1, 1) := by decide +kernel
theorem dX5_canMake_70 : decode cX5_canMake 70 = .ok (.iadd, 1) := by decide +kernel
theorem dX5_canMake_71 : decode cX5_canMake 71 = .ok (.iload 5, 2) := by decide +kernel
theorem dX5_canMake_73 : decode cX5_canMake 73 = .ok (.invokestatic 288, 3) := by decide +kernel
theorem dX5_canMake_76 : decode cX5_canMake 76 = .ok (.ifCond .eq 5, 3) := by decide +kernel
theorem dX5_canMake_79 : decode cX5_canMake 79 = .ok (.iconst 1, 1) := by decide +kernel
theorem dX5_canMake_80 : decode cX5_canMake 80 = .ok (.ireturn, 1) := by decide +kernel
theorem dX5_canMake_81 : decode cX5_canMake 81 = .ok (.iinc 6 1, 3) := by decide +kernel
theorem dX5_canMake_84 : decode cX5_canMake 84 = .ok (.goto (-56), 3) := by decide +kernel
theorem dX5_canMake_87 : decode cX5_canMake 87 = .ok (.iconst 0, 1) := by decide +kernel
theorem dX5_canMake_88 : decode cX5_canMake 88 = .ok (.ireturn, 1) := by decide +kernel
theorem dX5_standsAhead_0 : decode cX5_standsAhead 0 = .ok (.iconst 0, 1) := by decide +kernel
theorem dX5_standsAhead_1 : decode cX5_standsAhead 1 = .ok (.istore_n 3, 1) := by decide +kernel
theorem dX5_standsAhead_2 : decode cX5_standsAhead 2 = .ok (.iload_n 3, 1) := by decide +kernel
theorem dX5_standsAhead_3 : decode cX5_standsAhead 3 = .ok (.iload_n 1, 1) := by decide +kernel
theorem dX5_standsAhead_4 : decode cX5_standsAhead 4 = .ok (.if_icmp .ge 24, 3) := by decide +kernel
theorem dX5_standsAhead_7 : decode cX5_standsAhead 7 = .ok (.iload_n 3, 1) := by decide +kernel
theorem dX5_standsAhead_8 : decode cX5_standsAhead 8 = .ok (.aload_n 0, 1) := by decide +kernel
theorem dX5_standsAhead_9 : decode cX5_standsAhead 9 = .ok (.arraylength, 1) := by decide +kernel
theorem dX5_standsAhead_10 : decode cX5_standsAhead 10 = .ok (.if_icmp .ge 18, 3) := by decide +kernel
theorem dX5_standsAhead_13 : decode cX5_standsAhead 13 = .ok (.aload_n 0, 1) := by decide +kernel
theorem dX5_standsAhead_14 : decode cX5_standsAhead 14 = .ok (.iload_n 3, 1) := by decide +kernel
theorem dX5_standsAhead_15 : decode cX5_standsAhead 15 = .ok (.iaload, 1) := by decide +kernel
theorem dX5_standsAhead_16 : decode cX5_standsAhead 16 = .ok (.iload_n 2, 1) := by decide +kernel
theorem dX5_standsAhead_17 : decode cX5_standsAhead 17 = .ok (.if_icmp .ne 5, 3) := by decide +kernel
theorem dX5_standsAhead_20 : decode cX5_standsAhead 20 = .ok (.iconst 1, 1) := by decide +kernel
theorem dX5_standsAhead_21 : decode cX5_standsAhead 21 = .ok (.ireturn, 1) := by decide +kernel
theorem dX5_standsAhead_22 : decode cX5_standsAhead 22 = .ok (.iinc 3 1, 3) := by decide +kernel
theorem dX5_standsAhead_25 : decode cX5_standsAhead 25 = .ok (.goto (-23), 3) := by decide +kernel
theorem dX5_standsAhead_28 : decode cX5_standsAhead 28 = .ok (.iconst 0, 1) := by decide +kernel
theorem dX5_standsAhead_29 : decode cX5_standsAhead 29 = .ok (.ireturn, 1) := by decide +kernel
theorem dX5_asClerk_0 : decode cX5_asClerk 0 = .ok (.aload_n 0, 1) := by decide +kernel
theorem dX5_asClerk_1 : decode cX5_asClerk 1 = .ok (.dup, 1) := by decide +kernel
theorem dX5_asClerk_2 : decode cX5_asClerk 2 = .ok (.getfield 71, 3) := by decide +kernel
theorem dX5_asClerk_5 : decode cX5_asClerk 5 = .ok (.lconst 1, 1) := by decide +kernel
theorem dX5_asClerk_6 : decode cX5_asClerk 6 = .ok (.ladd, 1) := by decide +kernel
theorem dX5_asClerk_7 : decode cX5_asClerk 7 = .ok (.putfield 71, 3) := by decide +kernel
theorem dX5_asClerk_10 : decode cX5_asClerk 10 = .ok (.aload_n 0, 1) := by decide +kernel
theorem dX5_asClerk_11 : decode cX5_asClerk 11 = .ok (.getfield 19, 3) := by decide +kernel
theorem dX5_asClerk_14 : decode cX5_asClerk 14 = .ok (.getfield 114, 3) := by decide +kernel
theorem dX5_asClerk_17 : decode cX5_asClerk 17 = .ok (.iload_n 1, 1) := by decide +kernel
theorem dX5_asClerk_18 : decode cX5_asClerk 18 = .ok (.iaload, 1) := by decide +kernel
theorem dX5_asClerk_19 : decode cX5_asClerk 19 = .ok (.invokestatic 155, 3) := by decide +kernel
theorem dX5_asClerk_22 : decode cX5_asClerk 22 = .ok (.ireturn, 1) := by decide +kernel
theorem dX5_asNun_0 : decode cX5_asNun 0 = .ok (.aload_n 0, 1) := by decide +kernel
theorem dX5_asNun_1 : decode cX5_asNun 1 = .ok (.dup, 1) := by decide +kernel
theorem dX5_asNun_2 : decode cX5_asNun 2 = .ok (.getfield 71, 3) := by decide +kernel
theorem dX5_asNun_5 : decode cX5_asNun 5 = .ok (.ldc2_w 296, 3) := by decide +kernel
theorem dX5_asNun_8 : decode cX5_asNun 8 = .ok (.ladd, 1) := by decide +kernel
theorem dX5_asNun_9 : decode cX5_asNun 9 = .ok (.putfield 71, 3) := by decide +kernel
theorem dX5_asNun_12 : decode cX5_asNun 12 = .ok (.aload_n 0, 1) := by decide +kernel
theorem dX5_asNun_13 : decode cX5_asNun 13 = .ok (.iload_n 1, 1) := by decide +kernel
theorem dX5_asNun_14 : decode cX5_asNun 14 = .ok (.invokevirtual 252, 3) := by decide +kernel
theorem dX5_asNun_17 : decode cX5_asNun 17 = .ok (.aload_n 0, 1) := by decide +kernel
theorem dX5_asNun_18 : decode cX5_asNun 18 = .ok (.getfield 19, 3) := by decide +kernel
theorem dX5_asNun_21 : decode cX5_asNun 21 = .ok (.getfield 117, 3) := by decide +kernel
theorem dX5_asNun_24 : decode cX5_asNun 24 = .ok (.iload_n 1, 1) := by decide +kernel
theorem dX5_asNun_25 : decode cX5_asNun 25 = .ok (.iaload, 1) := by decide +kernel
theorem dX5_asNun_26 : decode cX5_asNun 26 = .ok (.iadd, 1) := by decide +kernel
theorem dX5_asNun_27 : decode cX5_asNun 27 = .ok (.ireturn, 1) := by decide +kernel
theorem dX5_asNephew_0 : decode cX5_asNephew 0 = .ok (.aload_n 0, 1) := by decide +kernel
theorem dX5_asNephew_1 : decode cX5_asNephew 1 = .ok (.dup, 1) := by decide +kernel
theorem dX5_asNephew_2 : decode cX5_asNephew 2 = .ok (.getfield 71, 3) := by decide +kernel
theorem dX5_asNephew_5 : decode cX5_asNephew 5 = .ok (.ldc2_w 298, 3) := by decide +kernel
theorem dX5_asNephew_8 : decode cX5_asNephew 8 = .ok (.ladd, 1) := by decide +kernel
theorem dX5_asNephew_9 : decode cX5_asNephew 9 = .ok (.putfield 71, 3) := by decide +kernel
theorem dX5_asNephew_12 : decode cX5_asNephew 12 = .ok (.aload_n 0, 1) := by decide +kernel
theorem dX5_asNephew_13 : decode cX5_asNephew 13 = .ok (.iload_n 1, 1) := by decide +kernel
theorem dX5_asNephew_14 : decode cX5_asNephew 14 = .ok (.invokevirtual 252, 3) := by decide +kernel
theorem dX5_asNephew_17 : decode cX5_asNephew 17 = .ok (.aload_n 0, 1) := by decide +kernel
theorem dX5_asNephew_18 : decode cX5_asNephew 18 = .ok (.getfield 19, 3) := by decide +kernel
theorem dX5_asNephew_21 : decode cX5_asNephew 21 = .ok (.getfield 120, 3) := by decide +kernel
theorem dX5_asNephew_24 : decode cX5_asNephew 24 = .ok (.iload_n 1, 1) := by decide +kernel
theorem dX5_asNephew_25 : decode cX5_asNephew 25 = .ok (.iaload, 1) := by decide +kernel
theorem dX5_asNephew_26 : decode cX5_asNephew 26 = .ok (.isub, 1) := by decide +kernel
theorem dX5_asNephew_27 : decode cX5_asNephew 27 = .ok (.ireturn, 1) := by decide +kernel
theorem dX5_asAbbess_0 : decode cX5_asAbbess 0 = .ok (.aload_n 0, 1) := by decide +kernel
theorem dX5_asAbbess_1 : decode cX5_asAbbess 1 = .ok (.dup, 1) := by decide +kernel
theorem dX5_asAbbess_2 : decode cX5_asAbbess 2 = .ok (.getfield 71, 3) := by decide +kernel
theorem dX5_asAbbess_5 : decode cX5_asAbbess 5 = .ok (.ldc2_w 300, 3) := by decide +kernel
theorem dX5_asAbbess_8 : decode cX5_asAbbess 8 = .ok (.ladd, 1) := by decide +kernel
theorem dX5_asAbbess_9 : decode cX5_asAbbess 9 = .ok (.putfield 71, 3) := by decide +kernel
theorem dX5_asAbbess_12 : decode cX5_asAbbess 12 = .ok (.iconst 2, 1) := by decide +kernel
theorem dX5_asAbbess_13 : decode cX5_asAbbess 13 = .ok (.aload_n 0, 1) := by decide +kernel
theorem dX5_asAbbess_14 : decode cX5_asAbbess 14 = .ok (.iload_n 1, 1) := by decide +kernel
theorem dX5_asAbbess_15 : decode cX5_asAbbess 15 = .ok (.invokevirtual 255, 3) := by decide +kernel
theorem dX5_asAbbess_18 : decode cX5_asAbbess 18 = .ok (.imul, 1) := by decide +kernel
theorem dX5_asAbbess_19 : decode cX5_asAbbess 19 = .ok (.ireturn, 1) := by decide +kernel
theorem dX5_asForger_0 : decode cX5_asForger 0 = .ok (.aload_n 0, 1) := by decide +kernel
theorem dX5_asForger_1 : decode cX5_asForger 1 = .ok (.dup, 1) := by decide +kernel
theorem dX5_asForger_2 : decode cX5_asForger 2 = .ok (.getfield 71, 3) := by decide +kernel
theorem dX5_asForger_5 : decode cX5_asForger 5 = .ok (.ldc2_w 302, 3) := by decide +kernel
theorem dX5_asForger_8 : decode cX5_asForger 8 = .ok (.ladd, 1) := by decide +kernel
theorem dX5_asForger_9 : decode cX5_asForger 9 = .ok (.putfield 71, 3) := by decide +kernel
theorem dX5_asForger_12 : decode cX5_asForger 12 = .ok (.aload_n 0, 1) := by decide +kernel
theorem dX5_asForger_13 : decode cX5_asForger 13 = .ok (.iload_n 1, 1) := by decide +kernel
theorem dX5_asForger_14 : decode cX5_asForger 14 = .ok (.invokevirtual 258, 3) := by decide +kernel
theorem dX5_asForger_17 : decode cX5_asForger 17 = .ok (.iload_n 1, 1) := by decide +kernel
theorem dX5_asForger_18 : decode cX5_asForger 18 = .ok (.iadd, 1) := by decide +kernel
theorem dX5_asForger_19 : decode cX5_asForger 19 = .ok (.ireturn, 1) := by decide +kernel
theorem dX5_asGull_0 : decode cX5_asGull 0 = .ok (.aload_n 0, 1) := by decide +kernel
theorem dX5_asGull_1 : decode cX5_asGull 1 = .ok (.dup, 1) := by decide +kernel
theorem dX5_asGull_2 : decode cX5_asGull 2 = .ok (.getfield 71, 3) := by decide +kernel
theorem dX5_asGull_5 : decode cX5_asGull 5 = .ok (.ldc2_w 304, 3) := by decide +kernel
theorem dX5_asGull_8 : decode cX5_asGull 8 = .ok (.ladd, 1) := by decide +kernel
theorem dX5_asGull_9 : decode cX5_asGull 9 = .ok (.putfield 71, 3) := by decide +kernel
theorem dX5_asGull_12 : decode cX5_asGull 12 = .ok (.aload_n 0, 1) := by decide +kernel
theorem dX5_asGull_13 : decode cX5_asGull 13 = .ok (.iload_n 1, 1) := by decide +kernel
theorem dX5_asGull_14 : decode cX5_asGull 14 = .ok (.invokevirtual 252, 3) := by decide +kernel
theorem dX5_asGull_17 : decode cX5_asGull 17 = .ok (.aload_n 0, 1) := by decide +kernel
theorem dX5_asGull_18 : decode cX5_asGull 18 = .ok (.getfield 29, 3) := by decide +kernel
theorem dX5_asGull_21 : decode cX5_asGull 21 = .ok (.getfield 136, 3) := by decide +kernel
theorem dX5_asGull_24 : decode cX5_asGull 24 = .ok (.invokestatic 155, 3) := by decide +kernel
theorem dX5_asGull_27 : decode cX5_asGull 27 = .ok (.iadd, 1) := by decide +kernel
theorem dX5_asGull_28 : decode cX5_asGull 28 = .ok (.ireturn, 1) := by decide +kernel
theorem dX5_lengthOf_0 : decode cX5_lengthOf 0 = .ok (.iconst 0, 1) := by decide +kernel
theorem dX5_lengthOf_1 : decode cX5_lengthOf 1 = .ok (.istore_n 1, 1) := by decide +kernel
theorem dX5_lengthOf_2 : decode cX5_lengthOf 2 = .ok (.iload_n 0, 1) := by decide +kernel
theorem dX5_lengthOf_3 : decode cX5_lengthOf 3 = .ok (.istore_n 2, 1) := by decide +kernel
theorem dX5_lengthOf_4 : decode cX5_lengthOf 4 = .ok (.iload_n 2, 1) := by decide +kernel
theorem dX5_lengthOf_5 : decode cX5_lengthOf 5 = .ok (.bipush 11, 2) := by decide +kernel
theorem dX5_lengthOf_7 : decode cX5_lengthOf 7 = .ok (.if_icmp .lt 19, 3) := by decide +kernel
theorem dX5_lengthOf_10 : decode cX5_lengthOf 10 = .ok (.iload_n 1, 1) := by decide +kernel
theorem dX5_lengthOf_11 : decode cX5_lengthOf 11 = .ok (.iconst 5, 1) := by decide +kernel
theorem dX5_lengthOf_12 : decode cX5_lengthOf 12 = .ok (.if_icmp .ge 14, 3) := by decide +kernel
theorem dX5_lengthOf_15 : decode cX5_lengthOf 15 = .ok (.iinc 1 1, 3) := by decide +kernel
theorem dX5_lengthOf_18 : decode cX5_lengthOf 18 = .ok (.iload_n 2, 1) := by decide +kernel
theorem dX5_lengthOf_19 : decode cX5_lengthOf 19 = .ok (.bipush 11, 2) := by decide +kernel
theorem dX5_lengthOf_21 : decode cX5_lengthOf 21 = .ok (.idiv, 1) := by decide +kernel
theorem dX5_lengthOf_22 : decode cX5_lengthOf 22 = .ok (.istore_n 2, 1) := by decide +kernel
theorem dX5_lengthOf_23 : decode cX5_lengthOf 23 = .ok (.goto (-19), 3) := by decide +kernel
theorem dX5_lengthOf_26 : decode cX5_lengthOf 26 = .ok (.iload_n 1, 1) := by decide +kernel
theorem dX5_lengthOf_27 : decode cX5_lengthOf 27 = .ok (.ireturn, 1) := by decide +kernel
theorem dX5_wordAt_0 : decode cX5_wordAt 0 = .ok (.iload_n 0, 1) := by decide +kernel
theorem dX5_wordAt_1 : decode cX5_wordAt 1 = .ok (.istore_n 2, 1) := by decide +kernel
theorem dX5_wordAt_2 : decode cX5_wordAt 2 = .ok (.iload_n 0, 1) := by decide +kernel
theorem dX5_wordAt_3 : decode cX5_wordAt 3 = .ok (.invokestatic 217, 3) := by decide +kernel
theorem dX5_wordAt_6 : decode cX5_wordAt 6 = .ok (.iconst 1, 1) := by decide +kernel
theorem dX5_wordAt_7 : decode cX5_wordAt 7 = .ok (.isub, 1) := by decide +kernel
theorem dX5_wordAt_8 : decode cX5_wordAt 8 = .ok (.istore_n 3, 1) := by decide +kernel
theorem dX5_wordAt_9 : decode cX5_wordAt 9 = .ok (.iload_n 3, 1) := by decide +kernel
theorem dX5_wordAt_10 : decode cX5_wordAt 10 = .ok (.iload_n 1, 1) := by decide +kernel
theorem dX5_wordAt_11 : decode cX5_wordAt 11 = .ok (.if_icmp .le 14, 3) := by decide +kernel
theorem dX5_wordAt_14 : decode cX5_wordAt 14 = .ok (.iload_n 2, 1) := by decide +kernel
theorem dX5_wordAt_15 : decode cX5_wordAt 15 = .ok (.bipush 11, 2) := by decide +kernel
theorem dX5_wordAt_17 : decode cX5_wordAt 17 = .ok (.idiv, 1) := by decide +kernel
theorem dX5_wordAt_18 : decode cX5_wordAt 18 = .ok (.istore_n 2, 1) := by decide +kernel
theorem dX5_wordAt_19 : decode cX5_wordAt 19 = .ok (.iinc 3 (-1), 3) := by decide +kernel
theorem dX5_wordAt_22 : decode cX5_wordAt 22 = .ok (.goto (-13), 3) := by decide +kernel
theorem dX5_wordAt_25 : decode cX5_wordAt 25 = .ok (.iload_n 2, 1) := by decide +kernel
theorem dX5_wordAt_26 : decode cX5_wordAt 26 = .ok (.bipush 11, 2) := by decide +kernel
theorem dX5_wordAt_28 : decode cX5_wordAt 28 = .ok (.irem, 1) := by decide +kernel
theorem dX5_wordAt_29 : decode cX5_wordAt 29 = .ok (.ireturn, 1) := by decide +kernel
theorem dX5_lostIn_0 : decode cX5_lostIn 0 = .ok (.iconst 0, 1) := by decide +kernel
theorem dX5_lostIn_1 : decode cX5_lostIn 1 = .ok (.istore_n 1, 1) := by decide +kernel
theorem dX5_lostIn_2 : decode cX5_lostIn 2 = .ok (.iload_n 0, 1) := by decide +kernel
theorem dX5_lostIn_3 : decode cX5_lostIn 3 = .ok (.istore_n 2, 1) := by decide +kernel
theorem dX5_lostIn_4 : decode cX5_lostIn 4 = .ok (.iload_n 2, 1) := by decide +kernel
theorem dX5_lostIn_5 : decode cX5_lostIn 5 = .ok (.bipush 11, 2) := by decide +kernel
theorem dX5_lostIn_7 : decode cX5_lostIn 7 = .ok (.if_icmp .lt 23, 3) := by decide +kernel
theorem dX5_lostIn_10 : decode cX5_lostIn 10 = .ok (.iload_n 2, 1) := by decide +kernel
theorem dX5_lostIn_11 : decode cX5_lostIn 11 = .ok (.bipush 11, 2) := by decide +kernel
theorem dX5_lostIn_13 : decode cX5_lostIn 13 = .ok (.irem, 1) := by decide +kernel
theorem dX5_lostIn_14 : decode cX5_lostIn 14 = .ok (.bipush 10, 2) := by decide +kernel
theorem dX5_lostIn_16 : decode cX5_lostIn 16 = .ok (.if_icmp .ne 6, 3) := by decide +kernel
theorem dX5_lostIn_19 : decode cX5_lostIn 19 = .ok (.iinc 1 1, 3) := by decide +kernel
theorem dX5_lostIn_22 : decode cX5_lostIn 22 = .ok (.iload_n 2, 1) := by decide +kernel
theorem dX5_lostIn_23 : decode cX5_lostIn 23 = .ok (.bipush 11, 2) := by decide +kernel
theorem dX5_lostIn_25 : decode cX5_lostIn 25 = .ok (.idiv, 1) := by decide +kernel
theorem dX5_lostIn_26 : decode cX5_lostIn 26 = .ok (.istore_n 2, 1) := by decide +kernel
theorem dX5_lostIn_27 : decode cX5_lostIn 27 = .ok (.goto (-23), 3) := by decide +kernel
theorem dX5_lostIn_30 : decode cX5_lostIn 30 = .ok (.iload_n 1, 1) := by decide +kernel
theorem dX5_lostIn_31 : decode cX5_lostIn 31 = .ok (.ireturn, 1) := by decide +kernel
theorem dX5_isWholeLetter_0 : decode cX5_isWholeLetter 0 = .ok (.iload_n 0, 1) := by decide +kernel
theorem dX5_isWholeLetter_1 : decode cX5_isWholeLetter 1 = .ok (.bipush 11, 2) := by decide +kernel
theorem dX5_isWholeLetter_3 : decode cX5_isWholeLetter 3 = .ok (.if_icmp .lt 17, 3) := by decide +kernel
theorem dX5_isWholeLetter_6 : decode cX5_isWholeLetter 6 = .ok (.iload_n 0, 1) := by decide +kernel
theorem dX5_isWholeLetter_7 : decode cX5_isWholeLetter 7 = .ok (.ldc_w 306, 3) := by decide +kernel
theorem dX5_isWholeLetter_10 : decode cX5_isWholeLetter 10 = .ok (.if_icmp .gt 10, 3) := by decide +kernel
theorem dX5_isWholeLetter_13 : decode cX5_isWholeLetter 13 = .ok (.iload_n 0, 1) := by decide +kernel
theorem dX5_isWholeLetter_14 : decode cX5_isWholeLetter 14 = .ok (.invokestatic 223, 3) := by decide +kernel
theorem dX5_isWholeLetter_17 : decode cX5_isWholeLetter 17 = .ok (.ifCond .eq 5, 3) := by decide +kernel
theorem dX5_isWholeLetter_20 : decode cX5_isWholeLetter 20 = .ok (.iconst 0, 1) := by decide +kernel
theorem dX5_isWholeLetter_21 : decode cX5_isWholeLetter 21 = .ok (.ireturn, 1) := by decide +kernel
theorem dX5_isWholeLetter_22 : decode cX5_isWholeLetter 22 = .ok (.iload_n 0, 1) := by decide +kernel
theorem dX5_isWholeLetter_23 : decode cX5_isWholeLetter 23 = .ok (.istore_n 1, 1) := by decide +kernel
theorem dX5_isWholeLetter_24 : decode cX5_isWholeLetter 24 = .ok (.iconst 0, 1) := by decide +kernel
theorem dX5_isWholeLetter_25 : decode cX5_isWholeLetter 25 = .ok (.istore_n 2, 1) := by decide +kernel
theorem dX5_isWholeLetter_26 : decode cX5_isWholeLetter 26 = .ok (.iload_n 2, 1) := by decide +kernel
theorem dX5_isWholeLetter_27 : decode cX5_isWholeLetter 27 = .ok (.iconst 5, 1) := by decide +kernel
theorem dX5_isWholeLetter_28 : decode cX5_isWholeLetter 28 = .ok (.if_icmp .ge 20, 3) := by decide +kernel
theorem dX5_isWholeLetter_31 : decode cX5_isWholeLetter 31 = .ok (.iload_n 1, 1) := by decide +kernel
theorem dX5_isWholeLetter_32 : decode cX5_isWholeLetter 32 = .ok (.bipush 11, 2) := by decide +kernel
theorem dX5_isWholeLetter_34 : decode cX5_isWholeLetter 34 = .ok (.if_icmp .lt 14, 3) := by decide +kernel
theorem dX5_isWholeLetter_37 : decode cX5_isWholeLetter 37 = .ok (.iload_n 1, 1) := by decide +kernel
theorem dX5_isWholeLetter_38 : decode cX5_isWholeLetter 38 = .ok (.bipush 11, 2) := by decide +kernel
theorem dX5_isWholeLetter_40 : decode cX5_isWholeLetter 40 = .ok (.idiv, 1) := by decide +kernel
theorem dX5_isWholeLetter_41 : decode cX5_isWholeLetter 41 = .ok (.istore_n 1, 1) := by decide +kernel
theorem dX5_isWholeLetter_42 : decode cX5_isWholeLetter 42 = .ok (.iinc 2 1, 3) := by decide +kernel
theorem dX5_isWholeLetter_45 : decode cX5_isWholeLetter 45 = .ok (.goto (-19), 3) := by decide +kernel
theorem dX5_isWholeLetter_48 : decode cX5_isWholeLetter 48 = .ok (.iload_n 1, 1) := by decide +kernel
theorem dX5_isWholeLetter_49 : decode cX5_isWholeLetter 49 = .ok (.iconst 1, 1) := by decide +kernel
theorem dX5_isWholeLetter_50 : decode cX5_isWholeLetter 50 = .ok (.if_icmp .ne 7, 3) := by decide +kernel
theorem dX5_isWholeLetter_53 : decode cX5_isWholeLetter 53 = .ok (.iconst 1, 1) := by decide +kernel
theorem dX5_isWholeLetter_54 : decode cX5_isWholeLetter 54 = .ok (.goto 4, 3) := by decide +kernel
theorem dX5_isWholeLetter_57 : decode cX5_isWholeLetter 57 = .ok (.iconst 0, 1) := by decide +kernel
theorem dX5_isWholeLetter_58 : decode cX5_isWholeLetter 58 = .ok (.ireturn, 1) := by decide +kernel
