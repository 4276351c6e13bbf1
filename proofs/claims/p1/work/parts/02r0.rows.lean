theorem dJ7_fill_53178_0 : decode cJ7_fill_53178 0 = .ok (.iconst 0, 1) := by decide +kernel
theorem dJ7_fill_53178_1 : decode cJ7_fill_53178 1 = .ok (.istore_n 2, 1) := by decide +kernel
theorem dJ7_fill_53178_2 : decode cJ7_fill_53178 2 = .ok (.aload_n 0, 1) := by decide +kernel
theorem dJ7_fill_53178_3 : decode cJ7_fill_53178 3 = .ok (.arraylength, 1) := by decide +kernel
theorem dJ7_fill_53178_4 : decode cJ7_fill_53178 4 = .ok (.istore_n 3, 1) := by decide +kernel
theorem dJ7_fill_53178_5 : decode cJ7_fill_53178 5 = .ok (.iload_n 2, 1) := by decide +kernel
theorem dJ7_fill_53178_6 : decode cJ7_fill_53178 6 = .ok (.iload_n 3, 1) := by decide +kernel
theorem dJ7_fill_53178_7 : decode cJ7_fill_53178 7 = .ok (.if_icmp .ge 13, 3) := by decide +kernel
theorem dJ7_fill_53178_10 : decode cJ7_fill_53178 10 = .ok (.aload_n 0, 1) := by decide +kernel
theorem dJ7_fill_53178_11 : decode cJ7_fill_53178 11 = .ok (.iload_n 2, 1) := by decide +kernel
theorem dJ7_fill_53178_12 : decode cJ7_fill_53178 12 = .ok (.iload_n 1, 1) := by decide +kernel
theorem dJ7_fill_53178_13 : decode cJ7_fill_53178 13 = .ok (.iastore, 1) := by decide +kernel
theorem dJ7_fill_53178_14 : decode cJ7_fill_53178 14 = .ok (.iinc 2 1, 3) := by decide +kernel
theorem dJ7_fill_53178_17 : decode cJ7_fill_53178 17 = .ok (.goto (-12), 3) := by decide +kernel
theorem dJ7_fill_53178_20 : decode cJ7_fill_53178 20 = .ok (.return_, 1) := by decide +kernel
theorem dX11_forget_0 : decode cX11_forget 0 = .ok (.aload_n 0, 1) := by decide +kernel
theorem dX11_forget_1 : decode cX11_forget 1 = .ok (.iconst 0, 1) := by decide +kernel
theorem dX11_forget_2 : decode cX11_forget 2 = .ok (.putfield 25, 3) := by decide +kernel
theorem dX11_forget_5 : decode cX11_forget 5 = .ok (.aload_n 0, 1) := by decide +kernel
theorem dX11_forget_6 : decode cX11_forget 6 = .ok (.getfield 22, 3) := by decide +kernel
theorem dX11_forget_9 : decode cX11_forget 9 = .ok (.iconst 0, 1) := by decide +kernel
theorem dX11_forget_10 : decode cX11_forget 10 = .ok (.invokestatic 29, 3) := by decide +kernel
theorem dX11_forget_13 : decode cX11_forget 13 = .ok (.return_, 1) := by decide +kernel
theorem dX11_init_0 : decode cX11_init 0 = .ok (.aload_n 0, 1) := by decide +kernel
theorem dX11_init_1 : decode cX11_init 1 = .ok (.invokespecial 3, 3) := by decide +kernel
theorem dX11_init_4 : decode cX11_init 4 = .ok (.aload_n 0, 1) := by decide +kernel
theorem dX11_init_5 : decode cX11_init 5 = .ok (.sipush 1024, 3) := by decide +kernel
theorem dX11_init_8 : decode cX11_init 8 = .ok (.newarray .byte, 2) := by decide +kernel
theorem dX11_init_10 : decode cX11_init 10 = .ok (.putfield 9, 3) := by decide +kernel
theorem dX11_init_13 : decode cX11_init 13 = .ok (.aload_n 0, 1) := by decide +kernel
theorem dX11_init_14 : decode cX11_init 14 = .ok (.sipush 128, 3) := by decide +kernel
theorem dX11_init_17 : decode cX11_init 17 = .ok (.newarray .int, 2) := by decide +kernel
theorem dX11_init_19 : decode cX11_init 19 = .ok (.putfield 15, 3) := by decide +kernel
theorem dX11_init_22 : decode cX11_init 22 = .ok (.aload_n 0, 1) := by decide +kernel
theorem dX11_init_23 : decode cX11_init 23 = .ok (.sipush 128, 3) := by decide +kernel
theorem dX11_init_26 : decode cX11_init 26 = .ok (.newarray .int, 2) := by decide +kernel
theorem dX11_init_28 : decode cX11_init 28 = .ok (.putfield 19, 3) := by decide +kernel
theorem dX11_init_31 : decode cX11_init 31 = .ok (.aload_n 0, 1) := by decide +kernel
theorem dX11_init_32 : decode cX11_init 32 = .ok (.sipush 1024, 3) := by decide +kernel
theorem dX11_init_35 : decode cX11_init 35 = .ok (.newarray .int, 2) := by decide +kernel
theorem dX11_init_37 : decode cX11_init 37 = .ok (.putfield 22, 3) := by decide +kernel
theorem dX11_init_40 : decode cX11_init 40 = .ok (.return_, 1) := by decide +kernel
theorem dX12_burn_0 : decode cX12_burn 0 = .ok (.aload_n 0, 1) := by decide +kernel
theorem dX12_burn_1 : decode cX12_burn 1 = .ok (.getfield 25, 3) := by decide +kernel
theorem dX12_burn_4 : decode cX12_burn 4 = .ok (.getfield 106, 3) := by decide +kernel
theorem dX12_burn_7 : decode cX12_burn 7 = .ok (.iload_n 1, 1) := by decide +kernel
theorem dX12_burn_8 : decode cX12_burn 8 = .ok (.isub, 1) := by decide +kernel
theorem dX12_burn_9 : decode cX12_burn 9 = .ok (.istore_n 2, 1) := by decide +kernel
theorem dX12_burn_10 : decode cX12_burn 10 = .ok (.aload_n 0, 1) := by decide +kernel
theorem dX12_burn_11 : decode cX12_burn 11 = .ok (.getfield 34, 3) := by decide +kernel
theorem dX12_burn_14 : decode cX12_burn 14 = .ok (.ifCond .ge 4, 3) := by decide +kernel
theorem dX12_burn_17 : decode cX12_burn 17 = .ok (.return_, 1) := by decide +kernel
theorem dX12_connectionOf_0 : decode cX12_connectionOf 0 = .ok (.iload_n 1, 1) := by decide +kernel
theorem dX12_connectionOf_1 : decode cX12_connectionOf 1 = .ok (.ifCond .lt 12, 3) := by decide +kernel
theorem dX12_connectionOf_4 : decode cX12_connectionOf 4 = .ok (.iload_n 1, 1) := by decide +kernel
theorem dX12_connectionOf_5 : decode cX12_connectionOf 5 = .ok (.aload_n 0, 1) := by decide +kernel
theorem dX12_connectionOf_6 : decode cX12_connectionOf 6 = .ok (.getfield 58, 3) := by decide +kernel
theorem dX12_connectionOf_9 : decode cX12_connectionOf 9 = .ok (.arraylength, 1) := by decide +kernel
theorem dX12_connectionOf_10 : decode cX12_connectionOf 10 = .ok (.if_icmp .lt 7, 3) := by decide +kernel
theorem dX12_connectionOf_13 : decode cX12_connectionOf 13 = .ok (.aconst_null, 1) := by decide +kernel
theorem dX12_connectionOf_14 : decode cX12_connectionOf 14 = .ok (.goto 9, 3) := by decide +kernel
theorem dX12_connectionOf_17 : decode cX12_connectionOf 17 = .ok (.aload_n 0, 1) := by decide +kernel
theorem dX12_connectionOf_18 : decode cX12_connectionOf 18 = .ok (.getfield 58, 3) := by decide +kernel
theorem dX12_connectionOf_21 : decode cX12_connectionOf 21 = .ok (.iload_n 1, 1) := by decide +kernel
theorem dX12_connectionOf_22 : decode cX12_connectionOf 22 = .ok (.aaload, 1) := by decide +kernel
theorem dX12_connectionOf_23 : decode cX12_connectionOf 23 = .ok (.areturn, 1) := by decide +kernel
theorem dX12_crash_0 : decode cX12_crash 0 = .ok (.aload_n 0, 1) := by decide +kernel
theorem dX12_crash_1 : decode cX12_crash 1 = .ok (.getfield 38, 3) := by decide +kernel
theorem dX12_crash_4 : decode cX12_crash 4 = .ok (.ifCond .ne 5, 3) := by decide +kernel
theorem dX12_crash_9 : decode cX12_crash 9 = .ok (.aload_n 0, 1) := by decide +kernel
theorem dX12_crash_10 : decode cX12_crash 10 = .ok (.invokevirtual 198, 3) := by decide +kernel
theorem dX12_crash_13 : decode cX12_crash 13 = .ok (.iconst 1, 1) := by decide +kernel
theorem dX12_crash_14 : decode cX12_crash 14 = .ok (.ireturn, 1) := by decide +kernel
theorem dX12_end_0 : decode cX12_end 0 = .ok (.iload_n 1, 1) := by decide +kernel
theorem dX12_end_1 : decode cX12_end 1 = .ok (.ifCond .lt 14, 3) := by decide +kernel
theorem dX12_end_4 : decode cX12_end 4 = .ok (.iload_n 1, 1) := by decide +kernel
theorem dX12_end_5 : decode cX12_end 5 = .ok (.aload_n 0, 1) := by decide +kernel
theorem dX12_end_6 : decode cX12_end 6 = .ok (.getfield 17, 3) := by decide +kernel
theorem dX12_end_9 : decode cX12_end 9 = .ok (.getfield 106, 3) := by decide +kernel
theorem dX12_end_12 : decode cX12_end 12 = .ok (.if_icmp .le 5, 3) := by decide +kernel
theorem dX12_end_15 : decode cX12_end 15 = .ok (.iconst 0, 1) := by decide +kernel
theorem dX12_end_16 : decode cX12_end 16 = .ok (.ireturn, 1) := by decide +kernel
theorem dX12_end_17 : decode cX12_end 17 = .ok (.aload_n 0, 1) := by decide +kernel
theorem dX12_end_18 : decode cX12_end 18 = .ok (.getfield 17, 3) := by decide +kernel
theorem dX12_end_21 : decode cX12_end 21 = .ok (.iload_n 1, 1) := by decide +kernel
theorem dX12_end_22 : decode cX12_end 22 = .ok (.invokevirtual 113, 3) := by decide +kernel
theorem dX12_end_25 : decode cX12_end 25 = .ok (.iconst 1, 1) := by decide +kernel
theorem dX12_end_26 : decode cX12_end 26 = .ok (.ireturn, 1) := by decide +kernel
theorem dX12_expire_0 : decode cX12_expire 0 = .ok (.aload_n 0, 1) := by decide +kernel
theorem dX12_expire_1 : decode cX12_expire 1 = .ok (.getfield 70, 3) := by decide +kernel
theorem dX12_expire_4 : decode cX12_expire 4 = .ok (.getfield 226, 3) := by decide +kernel
theorem dX12_expire_7 : decode cX12_expire 7 = .ok (.ifCond .ne 5, 3) := by decide +kernel
theorem dX12_expire_10 : decode cX12_expire 10 = .ok (.iconst 0, 1) := by decide +kernel
theorem dX12_expire_11 : decode cX12_expire 11 = .ok (.ireturn, 1) := by decide +kernel
theorem dX12_feed_0 : decode cX12_feed 0 = .ok (.aload_n 0, 1) := by decide +kernel
theorem dX12_feed_1 : decode cX12_feed 1 = .ok (.getfield 17, 3) := by decide +kernel
theorem dX12_feed_4 : decode cX12_feed 4 = .ok (.getfield 106, 3) := by decide +kernel
theorem dX12_feed_7 : decode cX12_feed 7 = .ok (.ldc 109, 2) := by decide +kernel
theorem dX12_feed_9 : decode cX12_feed 9 = .ok (.if_icmp .le 5, 3) := by decide +kernel
theorem dX12_feed_14 : decode cX12_feed 14 = .ok (.aload_n 0, 1) := by decide +kernel
theorem dX12_feed_15 : decode cX12_feed 15 = .ok (.getfield 17, 3) := by decide +kernel
theorem dX12_feed_18 : decode cX12_feed 18 = .ok (.iload_n 1, 1) := by decide +kernel
theorem dX12_feed_19 : decode cX12_feed 19 = .ok (.invokevirtual 110, 3) := by decide +kernel
theorem dX12_feed_22 : decode cX12_feed 22 = .ok (.aload_n 0, 1) := by decide +kernel
theorem dX12_feed_23 : decode cX12_feed 23 = .ok (.getfield 17, 3) := by decide +kernel
theorem dX12_feed_26 : decode cX12_feed 26 = .ok (.iload_n 2, 1) := by decide +kernel
theorem dX12_feed_27 : decode cX12_feed 27 = .ok (.invokevirtual 110, 3) := by decide +kernel
theorem dX12_feed_30 : decode cX12_feed 30 = .ok (.aload_n 0, 1) := by decide +kernel
theorem dX12_feed_31 : decode cX12_feed 31 = .ok (.getfield 17, 3) := by decide +kernel
theorem dX12_feed_34 : decode cX12_feed 34 = .ok (.iload_n 3, 1) := by decide +kernel
theorem dX12_feed_35 : decode cX12_feed 35 = .ok (.invokevirtual 110, 3) := by decide +kernel
theorem dX12_feed_38 : decode cX12_feed 38 = .ok (.aload_n 0, 1) := by decide +kernel
theorem dX12_feed_39 : decode cX12_feed 39 = .ok (.getfield 17, 3) := by decide +kernel
theorem dX12_feed_42 : decode cX12_feed 42 = .ok (.iload 4, 2) := by decide +kernel
theorem dX12_feed_44 : decode cX12_feed 44 = .ok (.invokevirtual 110, 3) := by decide +kernel
theorem dX12_feed_47 : decode cX12_feed 47 = .ok (.aload_n 0, 1) := by decide +kernel
theorem dX12_feed_48 : decode cX12_feed 48 = .ok (.getfield 17, 3) := by decide +kernel
theorem dX12_feed_51 : decode cX12_feed 51 = .ok (.iload 5, 2) := by decide +kernel
theorem dX12_feed_53 : decode cX12_feed 53 = .ok (.invokevirtual 110, 3) := by decide +kernel
theorem dX12_feed_56 : decode cX12_feed 56 = .ok (.iconst 1, 1) := by decide +kernel
theorem dX12_feed_57 : decode cX12_feed 57 = .ok (.ireturn, 1) := by decide +kernel
theorem dX12_fuse_0 : decode cX12_fuse 0 = .ok (.aload_n 0, 1) := by decide +kernel
theorem dX12_fuse_1 : decode cX12_fuse 1 = .ok (.iload_n 1, 1) := by decide +kernel
theorem dX12_fuse_2 : decode cX12_fuse 2 = .ok (.ifCond .ge 7, 3) := by decide +kernel
theorem dX12_fuse_5 : decode cX12_fuse 5 = .ok (.iconst (-1), 1) := by decide +kernel
theorem dX12_fuse_6 : decode cX12_fuse 6 = .ok (.goto 4, 3) := by decide +kernel
theorem dX12_fuse_9 : decode cX12_fuse 9 = .ok (.iload_n 1, 1) := by decide +kernel
theorem dX12_fuse_10 : decode cX12_fuse 10 = .ok (.putfield 34, 3) := by decide +kernel
theorem dX12_fuse_13 : decode cX12_fuse 13 = .ok (.return_, 1) := by decide +kernel
theorem dX12_halt_0 : decode cX12_halt 0 = .ok (.aload_n 0, 1) := by decide +kernel
theorem dX12_halt_1 : decode cX12_halt 1 = .ok (.iconst 0, 1) := by decide +kernel
theorem dX12_halt_2 : decode cX12_halt 2 = .ok (.putfield 38, 3) := by decide +kernel
theorem dX12_halt_5 : decode cX12_halt 5 = .ok (.aload_n 0, 1) := by decide +kernel
theorem dX12_halt_6 : decode cX12_halt 6 = .ok (.iconst 0, 1) := by decide +kernel
theorem dX12_halt_7 : decode cX12_halt 7 = .ok (.putfield 230, 3) := by decide +kernel
theorem dX12_halt_10 : decode cX12_halt 10 = .ok (.aload_n 0, 1) := by decide +kernel
theorem dX12_halt_11 : decode cX12_halt 11 = .ok (.getfield 58, 3) := by decide +kernel
theorem dX12_halt_14 : decode cX12_halt 14 = .ok (.astore_n 1, 1) := by decide +kernel
theorem dX12_halt_15 : decode cX12_halt 15 = .ok (.aload_n 1, 1) := by decide +kernel
theorem dX12_halt_16 : decode cX12_halt 16 = .ok (.arraylength, 1) := by decide +kernel
theorem dX12_halt_17 : decode cX12_halt 17 = .ok (.istore_n 2, 1) := by decide +kernel
theorem dX12_halt_18 : decode cX12_halt 18 = .ok (.iconst 0, 1) := by decide +kernel
theorem dX12_halt_19 : decode cX12_halt 19 = .ok (.istore_n 3, 1) := by decide +kernel
theorem dX12_halt_20 : decode cX12_halt 20 = .ok (.iload_n 3, 1) := by decide +kernel
theorem dX12_halt_21 : decode cX12_halt 21 = .ok (.iload_n 2, 1) := by decide +kernel
theorem dX12_halt_22 : decode cX12_halt 22 = .ok (.if_icmp .ge 27, 3) := by decide +kernel
theorem dX12_halt_25 : decode cX12_halt 25 = .ok (.aload_n 1, 1) := by decide +kernel
theorem dX12_halt_26 : decode cX12_halt 26 = .ok (.iload_n 3, 1) := by decide +kernel
theorem dX12_halt_27 : decode cX12_halt 27 = .ok (.aaload, 1) := by decide +kernel
theorem dX12_halt_28 : decode cX12_halt 28 = .ok (.astore 4, 2) := by decide +kernel
theorem dX12_halt_30 : decode cX12_halt 30 = .ok (.aload 4, 2) := by decide +kernel
theorem dX12_halt_32 : decode cX12_halt 32 = .ok (.invokevirtual 169, 3) := by decide +kernel
theorem dX12_halt_35 : decode cX12_halt 35 = .ok (.aload 4, 2) := by decide +kernel
theorem dX12_halt_37 : decode cX12_halt 37 = .ok (.getfield 172, 3) := by decide +kernel
theorem dX12_halt_40 : decode cX12_halt 40 = .ok (.invokevirtual 123, 3) := by decide +kernel
theorem dX12_halt_43 : decode cX12_halt 43 = .ok (.iinc 3 1, 3) := by decide +kernel
theorem dX12_halt_46 : decode cX12_halt 46 = .ok (.goto (-26), 3) := by decide +kernel
theorem dX12_halt_49 : decode cX12_halt 49 = .ok (.aload_n 0, 1) := by decide +kernel
theorem dX12_halt_50 : decode cX12_halt 50 = .ok (.getfield 70, 3) := by decide +kernel
theorem dX12_halt_53 : decode cX12_halt 53 = .ok (.invokevirtual 233, 3) := by decide +kernel
theorem dX12_halt_56 : decode cX12_halt 56 = .ok (.aload_n 0, 1) := by decide +kernel
theorem dX12_halt_57 : decode cX12_halt 57 = .ok (.getfield 62, 3) := by decide +kernel
theorem dX12_halt_60 : decode cX12_halt 60 = .ok (.invokevirtual 236, 3) := by decide +kernel
theorem dX12_halt_63 : decode cX12_halt 63 = .ok (.return_, 1) := by decide +kernel
theorem dX12_init_0 : decode cX12_init 0 = .ok (.aload_n 0, 1) := by decide +kernel
theorem dX12_init_1 : decode cX12_init 1 = .ok (.invokespecial 3, 3) := by decide +kernel
theorem dX12_init_4 : decode cX12_init 4 = .ok (.aload_n 0, 1) := by decide +kernel
theorem dX12_init_5 : decode cX12_init 5 = .ok (.new 9, 3) := by decide +kernel
theorem dX12_init_8 : decode cX12_init 8 = .ok (.dup, 1) := by decide +kernel
theorem dX12_init_9 : decode cX12_init 9 = .ok (.ldc 13, 2) := by decide +kernel
theorem dX12_init_11 : decode cX12_init 11 = .ok (.invokespecial 14, 3) := by decide +kernel
theorem dX12_init_14 : decode cX12_init 14 = .ok (.putfield 17, 3) := by decide +kernel
theorem dX12_init_17 : decode cX12_init 17 = .ok (.aload_n 0, 1) := by decide +kernel
theorem dX12_init_18 : decode cX12_init 18 = .ok (.new 9, 3) := by decide +kernel
theorem dX12_init_21 : decode cX12_init 21 = .ok (.dup, 1) := by decide +kernel
theorem dX12_init_22 : decode cX12_init 22 = .ok (.iconst 0, 1) := by decide +kernel
theorem dX12_init_23 : decode cX12_init 23 = .ok (.invokespecial 14, 3) := by decide +kernel
theorem dX12_init_26 : decode cX12_init 26 = .ok (.putfield 21, 3) := by decide +kernel
theorem dX12_init_29 : decode cX12_init 29 = .ok (.aload_n 0, 1) := by decide +kernel
theorem dX12_init_30 : decode cX12_init 30 = .ok (.new 9, 3) := by decide +kernel
theorem dX12_init_33 : decode cX12_init 33 = .ok (.dup, 1) := by decide +kernel
theorem dX12_init_34 : decode cX12_init 34 = .ok (.ldc 24, 2) := by decide +kernel
theorem dX12_init_36 : decode cX12_init 36 = .ok (.invokespecial 14, 3) := by decide +kernel
theorem dX12_init_39 : decode cX12_init 39 = .ok (.putfield 25, 3) := by decide +kernel
theorem dX12_init_42 : decode cX12_init 42 = .ok (.aload_n 0, 1) := by decide +kernel
theorem dX12_init_43 : decode cX12_init 43 = .ok (.new 9, 3) := by decide +kernel
theorem dX12_init_46 : decode cX12_init 46 = .ok (.dup, 1) := by decide +kernel
theorem dX12_init_47 : decode cX12_init 47 = .ok (.ldc 24, 2) := by decide +kernel
theorem dX12_init_49 : decode cX12_init 49 = .ok (.invokespecial 14, 3) := by decide +kernel
theorem dX12_init_52 : decode cX12_init 52 = .ok (.putfield 28, 3) := by decide +kernel
theorem dX12_init_55 : decode cX12_init 55 = .ok (.aload_n 0, 1) := by decide +kernel
theorem dX12_init_56 : decode cX12_init 56 = .ok (.new 9, 3) := by decide +kernel
theorem dX12_init_59 : decode cX12_init 59 = .ok (.dup, 1) := by decide +kernel
theorem dX12_init_60 : decode cX12_init 60 = .ok (.ldc 24, 2) := by decide +kernel
theorem dX12_init_62 : decode cX12_init 62 = .ok (.invokespecial 14, 3) := by decide +kernel
theorem dX12_init_65 : decode cX12_init 65 = .ok (.putfield 31, 3) := by decide +kernel
theorem dX12_init_68 : decode cX12_init 68 = .ok (.aload_n 0, 1) := by decide +kernel
theorem dX12_init_69 : decode cX12_init 69 = .ok (.iconst (-1), 1) := by decide +kernel
theorem dX12_init_70 : decode cX12_init 70 = .ok (.putfield 34, 3) := by decide +kernel
theorem dX12_init_73 : decode cX12_init 73 = .ok (.aload_n 0, 1) := by decide +kernel
theorem dX12_init_74 : decode cX12_init 74 = .ok (.iconst 1, 1) := by decide +kernel
theorem dX12_init_75 : decode cX12_init 75 = .ok (.putfield 38, 3) := by decide +kernel
theorem dX12_init_78 : decode cX12_init 78 = .ok (.iconst 4, 1) := by decide +kernel
theorem dX12_init_79 : decode cX12_init 79 = .ok (.anewarray 42, 3) := by decide +kernel
theorem dX12_init_82 : decode cX12_init 82 = .ok (.astore_n 1, 1) := by decide +kernel
theorem dX12_init_83 : decode cX12_init 83 = .ok (.iconst 0, 1) := by decide +kernel
theorem dX12_init_84 : decode cX12_init 84 = .ok (.istore_n 2, 1) := by decide +kernel
theorem dX12_init_85 : decode cX12_init 85 = .ok (.iload_n 2, 1) := by decide +kernel
theorem dX12_init_86 : decode cX12_init 86 = .ok (.aload_n 1, 1) := by decide +kernel
theorem dX12_init_87 : decode cX12_init 87 = .ok (.arraylength, 1) := by decide +kernel
theorem dX12_init_88 : decode cX12_init 88 = .ok (.if_icmp .ge 19, 3) := by decide +kernel
theorem dX12_init_91 : decode cX12_init 91 = .ok (.aload_n 1, 1) := by decide +kernel
theorem dX12_init_92 : decode cX12_init 92 = .ok (.iload_n 2, 1) := by decide +kernel
theorem dX12_init_93 : decode cX12_init 93 = .ok (.new 42, 3) := by decide +kernel
theorem dX12_init_96 : decode cX12_init 96 = .ok (.dup, 1) := by decide +kernel
theorem dX12_init_97 : decode cX12_init 97 = .ok (.invokespecial 44, 3) := by decide +kernel
theorem dX12_init_100 : decode cX12_init 100 = .ok (.aastore, 1) := by decide +kernel
theorem dX12_init_101 : decode cX12_init 101 = .ok (.iinc 2 1, 3) := by decide +kernel
theorem dX12_init_104 : decode cX12_init 104 = .ok (.goto (-19), 3) := by decide +kernel
theorem dX12_init_107 : decode cX12_init 107 = .ok (.new 45, 3) := by decide +kernel
theorem dX12_init_110 : decode cX12_init 110 = .ok (.dup, 1) := by decide +kernel
theorem dX12_init_111 : decode cX12_init 111 = .ok (.invokespecial 47, 3) := by decide +kernel
theorem dX12_init_114 : decode cX12_init 114 = .ok (.astore_n 2, 1) := by decide +kernel
theorem dX12_init_115 : decode cX12_init 115 = .ok (.new 48, 3) := by decide +kernel
theorem dX12_init_118 : decode cX12_init 118 = .ok (.dup, 1) := by decide +kernel
theorem dX12_init_119 : decode cX12_init 119 = .ok (.aload_n 2, 1) := by decide +kernel
theorem dX12_init_120 : decode cX12_init 120 = .ok (.invokespecial 50, 3) := by decide +kernel
theorem dX12_init_123 : decode cX12_init 123 = .ok (.astore_n 3, 1) := by decide +kernel
theorem dX12_init_124 : decode cX12_init 124 = .ok (.new 53, 3) := by decide +kernel
theorem dX12_init_127 : decode cX12_init 127 = .ok (.dup, 1) := by decide +kernel
theorem dX12_init_128 : decode cX12_init 128 = .ok (.aload_n 2, 1) := by decide +kernel
theorem dX12_init_129 : decode cX12_init 129 = .ok (.aload_n 3, 1) := by decide +kernel
theorem dX12_init_130 : decode cX12_init 130 = .ok (.aload_n 1, 1) := by decide +kernel
theorem dX12_init_131 : decode cX12_init 131 = .ok (.invokespecial 55, 3) := by decide +kernel
theorem dX12_init_134 : decode cX12_init 134 = .ok (.astore 4, 2) := by decide +kernel
theorem dX12_init_136 : decode cX12_init 136 = .ok (.aload_n 0, 1) := by decide +kernel
theorem dX12_init_137 : decode cX12_init 137 = .ok (.aload_n 1, 1) := by decide +kernel
theorem dX12_init_138 : decode cX12_init 138 = .ok (.putfield 58, 3) := by decide +kernel
theorem dX12_init_141 : decode cX12_init 141 = .ok (.aload_n 0, 1) := by decide +kernel
theorem dX12_init_142 : decode cX12_init 142 = .ok (.aload_n 2, 1) := by decide +kernel
theorem dX12_init_143 : decode cX12_init 143 = .ok (.putfield 62, 3) := by decide +kernel
theorem dX12_init_146 : decode cX12_init 146 = .ok (.aload_n 0, 1) := by decide +kernel
theorem dX12_init_147 : decode cX12_init 147 = .ok (.aload_n 3, 1) := by decide +kernel
theorem dX12_init_148 : decode cX12_init 148 = .ok (.putfield 66, 3) := by decide +kernel
theorem dX12_init_151 : decode cX12_init 151 = .ok (.aload_n 0, 1) := by decide +kernel
theorem dX12_init_152 : decode cX12_init 152 = .ok (.aload 4, 2) := by decide +kernel
theorem dX12_init_154 : decode cX12_init 154 = .ok (.putfield 70, 3) := by decide +kernel
theorem dX12_init_157 : decode cX12_init 157 = .ok (.aload_n 0, 1) := by decide +kernel
theorem dX12_init_158 : decode cX12_init 158 = .ok (.new 74, 3) := by decide +kernel
theorem dX12_init_161 : decode cX12_init 161 = .ok (.dup, 1) := by decide +kernel
theorem dX12_init_162 : decode cX12_init 162 = .ok (.aload_n 3, 1) := by decide +kernel
theorem dX12_init_163 : decode cX12_init 163 = .ok (.aload 4, 2) := by decide +kernel
theorem dX12_init_165 : decode cX12_init 165 = .ok (.invokespecial 76, 3) := by decide +kernel
theorem dX12_init_168 : decode cX12_init 168 = .ok (.putfield 79, 3) := by decide +kernel
theorem dX12_init_171 : decode cX12_init 171 = .ok (.aload_n 0, 1) := by decide +kernel
theorem dX12_init_172 : decode cX12_init 172 = .ok (.new 83, 3) := by decide +kernel
theorem dX12_init_175 : decode cX12_init 175 = .ok (.dup, 1) := by decide +kernel
theorem dX12_init_176 : decode cX12_init 176 = .ok (.aload_n 2, 1) := by decide +kernel
theorem dX12_init_177 : decode cX12_init 177 = .ok (.aload_n 3, 1) := by decide +kernel
theorem dX12_init_178 : decode cX12_init 178 = .ok (.aload 4, 2) := by decide +kernel
theorem dX12_init_180 : decode cX12_init 180 = .ok (.invokespecial 85, 3) := by decide +kernel
theorem dX12_init_183 : decode cX12_init 183 = .ok (.putfield 88, 3) := by decide +kernel
theorem dX12_init_186 : decode cX12_init 186 = .ok (.aload_n 0, 1) := by decide +kernel
theorem dX12_init_187 : decode cX12_init 187 = .ok (.new 92, 3) := by decide +kernel
theorem dX12_init_190 : decode cX12_init 190 = .ok (.dup, 1) := by decide +kernel
theorem dX12_init_191 : decode cX12_init 191 = .ok (.aload_n 2, 1) := by decide +kernel
theorem dX12_init_192 : decode cX12_init 192 = .ok (.aload_n 3, 1) := by decide +kernel
theorem dX12_init_193 : decode cX12_init 193 = .ok (.aload 4, 2) := by decide +kernel
theorem dX12_init_195 : decode cX12_init 195 = .ok (.invokespecial 94, 3) := by decide +kernel
theorem dX12_init_198 : decode cX12_init 198 = .ok (.putfield 95, 3) := by decide +kernel
theorem dX12_init_201 : decode cX12_init 201 = .ok (.aload_n 0, 1) := by decide +kernel
theorem dX12_init_202 : decode cX12_init 202 = .ok (.new 99, 3) := by decide +kernel
theorem dX12_init_205 : decode cX12_init 205 = .ok (.dup, 1) := by decide +kernel
theorem dX12_init_206 : decode cX12_init 206 = .ok (.aload_n 2, 1) := by decide +kernel
theorem dX12_init_207 : decode cX12_init 207 = .ok (.aload_n 3, 1) := by decide +kernel
theorem dX12_init_208 : decode cX12_init 208 = .ok (.aload 4, 2) := by decide +kernel
theorem dX12_init_210 : decode cX12_init 210 = .ok (.invokespecial 101, 3) := by decide +kernel
theorem dX12_init_213 : decode cX12_init 213 = .ok (.putfield 102, 3) := by decide +kernel
theorem dX12_init_216 : decode cX12_init 216 = .ok (.return_, 1) := by decide +kernel
theorem dX12_isOpen_0 : decode cX12_isOpen 0 = .ok (.aload_n 0, 1) := by decide +kernel
theorem dX12_isOpen_1 : decode cX12_isOpen 1 = .ok (.iload_n 1, 1) := by decide +kernel
theorem dX12_isOpen_2 : decode cX12_isOpen 2 = .ok (.invokevirtual 116, 3) := by decide +kernel
theorem dX12_isOpen_5 : decode cX12_isOpen 5 = .ok (.astore_n 2, 1) := by decide +kernel
theorem dX12_isOpen_6 : decode cX12_isOpen 6 = .ok (.aload_n 2, 1) := by decide +kernel
theorem dX12_isOpen_7 : decode cX12_isOpen 7 = .ok (.ifnull 14, 3) := by decide +kernel
theorem dX12_isOpen_10 : decode cX12_isOpen 10 = .ok (.aload_n 2, 1) := by decide +kernel
theorem dX12_isOpen_11 : decode cX12_isOpen 11 = .ok (.getfield 120, 3) := by decide +kernel
theorem dX12_isOpen_14 : decode cX12_isOpen 14 = .ok (.ifCond .eq 7, 3) := by decide +kernel
theorem dX12_isOpen_17 : decode cX12_isOpen 17 = .ok (.iconst 1, 1) := by decide +kernel
theorem dX12_isOpen_18 : decode cX12_isOpen 18 = .ok (.goto 4, 3) := by decide +kernel
theorem dX12_isOpen_21 : decode cX12_isOpen 21 = .ok (.iconst 0, 1) := by decide +kernel
theorem dX12_isOpen_22 : decode cX12_isOpen 22 = .ok (.ireturn, 1) := by decide +kernel
theorem dX12_isUp_0 : decode cX12_isUp 0 = .ok (.aload_n 0, 1) := by decide +kernel
theorem dX12_isUp_1 : decode cX12_isUp 1 = .ok (.getfield 38, 3) := by decide +kernel
theorem dX12_isUp_4 : decode cX12_isUp 4 = .ok (.ireturn, 1) := by decide +kernel
theorem dX12_keepRest_0 : decode cX12_keepRest 0 = .ok (.aload_n 1, 1) := by decide +kernel
theorem dX12_keepRest_1 : decode cX12_keepRest 1 = .ok (.getfield 120, 3) := by decide +kernel
theorem dX12_keepRest_4 : decode cX12_keepRest 4 = .ok (.ifCond .ne 4, 3) := by decide +kernel
theorem dX12_keepRest_8 : decode cX12_keepRest 8 = .ok (.aload_n 1, 1) := by decide +kernel
theorem dX12_keepRest_9 : decode cX12_keepRest 9 = .ok (.getfield 126, 3) := by decide +kernel
theorem dX12_keepRest_12 : decode cX12_keepRest 12 = .ok (.iload_n 2, 1) := by decide +kernel
theorem dX12_keepRest_13 : decode cX12_keepRest 13 = .ok (.invokevirtual 182, 3) := by decide +kernel
theorem dX12_keepRest_16 : decode cX12_keepRest 16 = .ok (.aload_n 1, 1) := by decide +kernel
theorem dX12_keepRest_17 : decode cX12_keepRest 17 = .ok (.getfield 126, 3) := by decide +kernel
theorem dX12_keepRest_20 : decode cX12_keepRest 20 = .ok (.getfield 106, 3) := by decide +kernel
theorem dX12_keepRest_23 : decode cX12_keepRest 23 = .ok (.ldc 229, 2) := by decide +kernel
theorem dX12_keepRest_25 : decode cX12_keepRest 25 = .ok (.if_icmp .le 7, 3) := by decide +kernel
theorem dX12_keepRest_32 : decode cX12_keepRest 32 = .ok (.return_, 1) := by decide +kernel
theorem dX12_log_0 : decode cX12_log 0 = .ok (.aload_n 0, 1) := by decide +kernel
theorem dX12_log_1 : decode cX12_log 1 = .ok (.getfield 25, 3) := by decide +kernel
theorem dX12_log_4 : decode cX12_log 4 = .ok (.getfield 106, 3) := by decide +kernel
theorem dX12_log_7 : decode cX12_log 7 = .ok (.ireturn, 1) := by decide +kernel
theorem dX12_now_0 : decode cX12_now 0 = .ok (.aload_n 0, 1) := by decide +kernel
theorem dX12_now_1 : decode cX12_now 1 = .ok (.getfield 70, 3) := by decide +kernel
theorem dX12_now_4 : decode cX12_now 4 = .ok (.getfield 187, 3) := by decide +kernel
theorem dX12_now_7 : decode cX12_now 7 = .ok (.lreturn, 1) := by decide +kernel
theorem dX12_open_0 : decode cX12_open 0 = .ok (.aload_n 0, 1) := by decide +kernel
theorem dX12_open_1 : decode cX12_open 1 = .ok (.iload_n 1, 1) := by decide +kernel
theorem dX12_open_2 : decode cX12_open 2 = .ok (.invokevirtual 116, 3) := by decide +kernel
theorem dX12_open_5 : decode cX12_open 5 = .ok (.astore_n 2, 1) := by decide +kernel
theorem dX12_open_6 : decode cX12_open 6 = .ok (.aload_n 2, 1) := by decide +kernel
theorem dX12_open_7 : decode cX12_open 7 = .ok (.ifnull 10, 3) := by decide +kernel
theorem dX12_open_10 : decode cX12_open 10 = .ok (.aload_n 0, 1) := by decide +kernel
theorem dX12_open_11 : decode cX12_open 11 = .ok (.getfield 38, 3) := by decide +kernel
theorem dX12_open_14 : decode cX12_open 14 = .ok (.ifCond .ne 5, 3) := by decide +kernel
theorem dX12_open_17 : decode cX12_open 17 = .ok (.iconst 0, 1) := by decide +kernel
theorem dX12_open_18 : decode cX12_open 18 = .ok (.ireturn, 1) := by decide +kernel
theorem dX12_open_19 : decode cX12_open 19 = .ok (.aload_n 2, 1) := by decide +kernel
theorem dX12_open_20 : decode cX12_open 20 = .ok (.invokevirtual 169, 3) := by decide +kernel
theorem dX12_open_23 : decode cX12_open 23 = .ok (.aload_n 2, 1) := by decide +kernel
theorem dX12_open_24 : decode cX12_open 24 = .ok (.getfield 172, 3) := by decide +kernel
theorem dX12_open_27 : decode cX12_open 27 = .ok (.invokevirtual 123, 3) := by decide +kernel
theorem dX12_open_30 : decode cX12_open 30 = .ok (.aload_n 2, 1) := by decide +kernel
theorem dX12_open_31 : decode cX12_open 31 = .ok (.iconst 1, 1) := by decide +kernel
theorem dX12_open_32 : decode cX12_open 32 = .ok (.putfield 120, 3) := by decide +kernel
theorem dX12_open_35 : decode cX12_open 35 = .ok (.iconst 1, 1) := by decide +kernel
theorem dX12_open_36 : decode cX12_open 36 = .ok (.ireturn, 1) := by decide +kernel
theorem dX12_out_0 : decode cX12_out 0 = .ok (.aload_n 0, 1) := by decide +kernel
theorem dX12_out_1 : decode cX12_out 1 = .ok (.iload_n 1, 1) := by decide +kernel
theorem dX12_out_2 : decode cX12_out 2 = .ok (.invokevirtual 116, 3) := by decide +kernel
theorem dX12_out_5 : decode cX12_out 5 = .ok (.astore_n 2, 1) := by decide +kernel
theorem dX12_out_6 : decode cX12_out 6 = .ok (.aload_n 2, 1) := by decide +kernel
theorem dX12_out_7 : decode cX12_out 7 = .ok (.ifnonnull 7, 3) := by decide +kernel
theorem dX12_out_10 : decode cX12_out 10 = .ok (.iconst (-1), 1) := by decide +kernel
theorem dX12_out_11 : decode cX12_out 11 = .ok (.goto 10, 3) := by decide +kernel
theorem dX12_out_14 : decode cX12_out 14 = .ok (.aload_n 2, 1) := by decide +kernel
theorem dX12_out_15 : decode cX12_out 15 = .ok (.getfield 172, 3) := by decide +kernel
theorem dX12_out_18 : decode cX12_out 18 = .ok (.getfield 106, 3) := by decide +kernel
theorem dX12_out_21 : decode cX12_out 21 = .ok (.ireturn, 1) := by decide +kernel
theorem dX12_pass_0 : decode cX12_pass 0 = .ok (.lload_n 1, 1) := by decide +kernel
theorem dX12_pass_1 : decode cX12_pass 1 = .ok (.lconst 0, 1) := by decide +kernel
theorem dX12_pass_2 : decode cX12_pass 2 = .ok (.lcmp, 1) := by decide +kernel
theorem dX12_pass_3 : decode cX12_pass 3 = .ok (.ifCond .lt 26, 3) := by decide +kernel
theorem dX12_pass_6 : decode cX12_pass 6 = .ok (.aload_n 0, 1) := by decide +kernel
theorem dX12_pass_7 : decode cX12_pass 7 = .ok (.getfield 38, 3) := by decide +kernel
theorem dX12_pass_10 : decode cX12_pass 10 = .ok (.ifCond .eq 19, 3) := by decide +kernel
theorem dX12_pass_13 : decode cX12_pass 13 = .ok (.lload_n 1, 1) := by decide +kernel
theorem dX12_pass_14 : decode cX12_pass 14 = .ok (.ldc2_w 185, 3) := by decide +kernel
theorem dX12_pass_17 : decode cX12_pass 17 = .ok (.aload_n 0, 1) := by decide +kernel
theorem dX12_pass_18 : decode cX12_pass 18 = .ok (.getfield 70, 3) := by decide +kernel
theorem dX12_pass_21 : decode cX12_pass 21 = .ok (.getfield 187, 3) := by decide +kernel
theorem dX12_pass_24 : decode cX12_pass 24 = .ok (.lsub, 1) := by decide +kernel
theorem dX12_pass_25 : decode cX12_pass 25 = .ok (.lcmp, 1) := by decide +kernel
theorem dX12_pass_26 : decode cX12_pass 26 = .ok (.ifCond .le 5, 3) := by decide +kernel
theorem dX12_pass_29 : decode cX12_pass 29 = .ok (.iconst (-1), 1) := by decide +kernel
theorem dX12_pass_30 : decode cX12_pass 30 = .ok (.ireturn, 1) := by decide +kernel
theorem dX12_pass_31 : decode cX12_pass 31 = .ok (.aload_n 0, 1) := by decide +kernel
theorem dX12_pass_32 : decode cX12_pass 32 = .ok (.getfield 70, 3) := by decide +kernel
theorem dX12_pass_35 : decode cX12_pass 35 = .ok (.dup, 1) := by decide +kernel
theorem dX12_pass_36 : decode cX12_pass 36 = .ok (.getfield 187, 3) := by decide +kernel
theorem dX12_pass_39 : decode cX12_pass 39 = .ok (.lload_n 1, 1) := by decide +kernel
theorem dX12_pass_40 : decode cX12_pass 40 = .ok (.ladd, 1) := by decide +kernel
theorem dX12_pass_41 : decode cX12_pass 41 = .ok (.putfield 187, 3) := by decide +kernel
theorem dX12_pass_44 : decode cX12_pass 44 = .ok (.aload_n 0, 1) := by decide +kernel
theorem dX12_pass_45 : decode cX12_pass 45 = .ok (.getfield 25, 3) := by decide +kernel
theorem dX12_pass_48 : decode cX12_pass 48 = .ok (.getfield 106, 3) := by decide +kernel
theorem dX12_pass_51 : decode cX12_pass 51 = .ok (.istore_n 3, 1) := by decide +kernel
theorem dX12_pass_52 : decode cX12_pass 52 = .ok (.aload_n 0, 1) := by decide +kernel
theorem dX12_pass_53 : decode cX12_pass 53 = .ok (.invokevirtual 191, 3) := by decide +kernel
theorem dX12_pass_56 : decode cX12_pass 56 = .ok (.istore 4, 2) := by decide +kernel
theorem dX12_pass_58 : decode cX12_pass 58 = .ok (.aload_n 0, 1) := by decide +kernel
theorem dX12_pass_59 : decode cX12_pass 59 = .ok (.iload_n 3, 1) := by decide +kernel
theorem dX12_pass_60 : decode cX12_pass 60 = .ok (.invokevirtual 195, 3) := by decide +kernel
theorem dX12_pass_63 : decode cX12_pass 63 = .ok (.aload_n 0, 1) := by decide +kernel
theorem dX12_pass_64 : decode cX12_pass 64 = .ok (.getfield 38, 3) := by decide +kernel
theorem dX12_pass_67 : decode cX12_pass 67 = .ok (.ifCond .eq 8, 3) := by decide +kernel
theorem dX12_pass_70 : decode cX12_pass 70 = .ok (.iload 4, 2) := by decide +kernel
theorem dX12_pass_72 : decode cX12_pass 72 = .ok (.goto 4, 3) := by decide +kernel
theorem dX12_pass_76 : decode cX12_pass 76 = .ok (.ireturn, 1) := by decide +kernel
theorem dX12_restart_0 : decode cX12_restart 0 = .ok (.aload_n 0, 1) := by decide +kernel
theorem dX12_restart_1 : decode cX12_restart 1 = .ok (.getfield 38, 3) := by decide +kernel
theorem dX12_restart_4 : decode cX12_restart 4 = .ok (.ifCond .eq 5, 3) := by decide +kernel
theorem dX12_restart_7 : decode cX12_restart 7 = .ok (.iconst (-1), 1) := by decide +kernel
theorem dX12_restart_8 : decode cX12_restart 8 = .ok (.ireturn, 1) := by decide +kernel
theorem dX12_rewrite_0 : decode cX12_rewrite 0 = .ok (.aload_n 0, 1) := by decide +kernel
theorem dX12_rewrite_1 : decode cX12_rewrite 1 = .ok (.getfield 38, 3) := by decide +kernel
theorem dX12_rewrite_4 : decode cX12_rewrite 4 = .ok (.ifCond .ne 5, 3) := by decide +kernel
theorem dX12_rewrite_9 : decode cX12_rewrite 9 = .ok (.aload_n 0, 1) := by decide +kernel
theorem dX12_rewrite_10 : decode cX12_rewrite 10 = .ok (.getfield 28, 3) := by decide +kernel
theorem dX12_rewrite_13 : decode cX12_rewrite 13 = .ok (.invokevirtual 123, 3) := by decide +kernel
theorem dX12_rewrite_16 : decode cX12_rewrite 16 = .ok (.iconst 0, 1) := by decide +kernel
theorem dX12_rewrite_17 : decode cX12_rewrite 17 = .ok (.istore_n 1, 1) := by decide +kernel
theorem dX12_rewrite_18 : decode cX12_rewrite 18 = .ok (.iload_n 1, 1) := by decide +kernel
theorem dX12_rewrite_19 : decode cX12_rewrite 19 = .ok (.aload_n 0, 1) := by decide +kernel
theorem dX12_rewrite_20 : decode cX12_rewrite 20 = .ok (.getfield 70, 3) := by decide +kernel
theorem dX12_rewrite_23 : decode cX12_rewrite 23 = .ok (.getfield 211, 3) := by decide +kernel
theorem dX12_rewrite_26 : decode cX12_rewrite 26 = .ok (.if_icmp .ge 29, 3) := by decide +kernel
theorem dX12_rewrite_55 : decode cX12_rewrite 55 = .ok (.aload_n 0, 1) := by decide +kernel
theorem dX12_rewrite_56 : decode cX12_rewrite 56 = .ok (.getfield 34, 3) := by decide +kernel
theorem dX12_rewrite_59 : decode cX12_rewrite 59 = .ok (.ifCond .lt 28, 3) := by decide +kernel
theorem dX12_rewrite_87 : decode cX12_rewrite 87 = .ok (.aload_n 0, 1) := by decide +kernel
theorem dX12_rewrite_88 : decode cX12_rewrite 88 = .ok (.getfield 34, 3) := by decide +kernel
theorem dX12_rewrite_91 : decode cX12_rewrite 91 = .ok (.ifCond .lt 19, 3) := by decide +kernel
theorem dX12_rewrite_110 : decode cX12_rewrite 110 = .ok (.aload_n 0, 1) := by decide +kernel
theorem dX12_rewrite_111 : decode cX12_rewrite 111 = .ok (.getfield 25, 3) := by decide +kernel
theorem dX12_rewrite_114 : decode cX12_rewrite 114 = .ok (.astore_n 1, 1) := by decide +kernel
theorem dX12_rewrite_115 : decode cX12_rewrite 115 = .ok (.aload_n 0, 1) := by decide +kernel
theorem dX12_rewrite_116 : decode cX12_rewrite 116 = .ok (.aload_n 0, 1) := by decide +kernel
theorem dX12_rewrite_117 : decode cX12_rewrite 117 = .ok (.getfield 28, 3) := by decide +kernel
theorem dX12_rewrite_120 : decode cX12_rewrite 120 = .ok (.putfield 25, 3) := by decide +kernel
theorem dX12_rewrite_123 : decode cX12_rewrite 123 = .ok (.aload_n 0, 1) := by decide +kernel
theorem dX12_rewrite_124 : decode cX12_rewrite 124 = .ok (.aload_n 1, 1) := by decide +kernel
theorem dX12_rewrite_125 : decode cX12_rewrite 125 = .ok (.putfield 28, 3) := by decide +kernel
theorem dX12_rewrite_128 : decode cX12_rewrite 128 = .ok (.aload_n 0, 1) := by decide +kernel
theorem dX12_rewrite_129 : decode cX12_rewrite 129 = .ok (.getfield 25, 3) := by decide +kernel
theorem dX12_rewrite_132 : decode cX12_rewrite 132 = .ok (.getfield 106, 3) := by decide +kernel
theorem dX12_rewrite_135 : decode cX12_rewrite 135 = .ok (.ireturn, 1) := by decide +kernel
theorem dX12_send_0 : decode cX12_send 0 = .ok (.aload_n 0, 1) := by decide +kernel
theorem dX12_send_1 : decode cX12_send 1 = .ok (.iload_n 1, 1) := by decide +kernel
theorem dX12_send_2 : decode cX12_send 2 = .ok (.invokevirtual 116, 3) := by decide +kernel
theorem dX12_send_5 : decode cX12_send 5 = .ok (.astore_n 2, 1) := by decide +kernel
theorem dX12_send_6 : decode cX12_send 6 = .ok (.aload_n 2, 1) := by decide +kernel
theorem dX12_send_7 : decode cX12_send 7 = .ok (.ifnull 17, 3) := by decide +kernel
theorem dX12_send_10 : decode cX12_send 10 = .ok (.aload_n 2, 1) := by decide +kernel
theorem dX12_send_11 : decode cX12_send 11 = .ok (.getfield 120, 3) := by decide +kernel
theorem dX12_send_14 : decode cX12_send 14 = .ok (.ifCond .eq 10, 3) := by decide +kernel
theorem dX12_send_17 : decode cX12_send 17 = .ok (.aload_n 0, 1) := by decide +kernel
theorem dX12_send_18 : decode cX12_send 18 = .ok (.getfield 38, 3) := by decide +kernel
theorem dX12_send_21 : decode cX12_send 21 = .ok (.ifCond .ne 12, 3) := by decide +kernel
theorem dX12_send_24 : decode cX12_send 24 = .ok (.aload_n 0, 1) := by decide +kernel
theorem dX12_send_25 : decode cX12_send 25 = .ok (.getfield 17, 3) := by decide +kernel
theorem dX12_send_28 : decode cX12_send 28 = .ok (.invokevirtual 123, 3) := by decide +kernel
theorem dX12_send_31 : decode cX12_send 31 = .ok (.iconst (-1), 1) := by decide +kernel
theorem dX12_send_32 : decode cX12_send 32 = .ok (.ireturn, 1) := by decide +kernel
theorem dX12_send_33 : decode cX12_send 33 = .ok (.aload_n 2, 1) := by decide +kernel
theorem dX12_send_34 : decode cX12_send 34 = .ok (.getfield 126, 3) := by decide +kernel
theorem dX12_send_37 : decode cX12_send 37 = .ok (.aload_n 0, 1) := by decide +kernel
theorem dX12_send_38 : decode cX12_send 38 = .ok (.getfield 17, 3) := by decide +kernel
theorem dX12_send_41 : decode cX12_send 41 = .ok (.getfield 129, 3) := by decide +kernel
theorem dX12_send_44 : decode cX12_send 44 = .ok (.iconst 0, 1) := by decide +kernel
theorem dX12_send_45 : decode cX12_send 45 = .ok (.aload_n 0, 1) := by decide +kernel
theorem dX12_send_46 : decode cX12_send 46 = .ok (.getfield 17, 3) := by decide +kernel
theorem dX12_send_49 : decode cX12_send 49 = .ok (.getfield 106, 3) := by decide +kernel
theorem dX12_send_52 : decode cX12_send 52 = .ok (.invokevirtual 133, 3) := by decide +kernel
theorem dX12_send_55 : decode cX12_send 55 = .ok (.aload_n 0, 1) := by decide +kernel
theorem dX12_send_56 : decode cX12_send 56 = .ok (.getfield 17, 3) := by decide +kernel
theorem dX12_send_59 : decode cX12_send 59 = .ok (.invokevirtual 123, 3) := by decide +kernel
theorem dX12_send_62 : decode cX12_send 62 = .ok (.iconst 0, 1) := by decide +kernel
theorem dX12_send_63 : decode cX12_send 63 = .ok (.istore_n 3, 1) := by decide +kernel
theorem dX12_send_64 : decode cX12_send 64 = .ok (.iconst 0, 1) := by decide +kernel
theorem dX12_send_65 : decode cX12_send 65 = .ok (.istore 4, 2) := by decide +kernel
theorem dX12_send_67 : decode cX12_send 67 = .ok (.iconst 0, 1) := by decide +kernel
theorem dX12_send_68 : decode cX12_send 68 = .ok (.istore 5, 2) := by decide +kernel
theorem dX12_send_70 : decode cX12_send 70 = .ok (.iload 5, 2) := by decide +kernel
theorem dX12_send_72 : decode cX12_send 72 = .ok (.ldc 137, 2) := by decide +kernel
theorem dX12_send_74 : decode cX12_send 74 = .ok (.if_icmp .ge 141, 3) := by decide +kernel
theorem dX12_send_77 : decode cX12_send 77 = .ok (.aload_n 0, 1) := by decide +kernel
theorem dX12_send_78 : decode cX12_send 78 = .ok (.getfield 38, 3) := by decide +kernel
theorem dX12_send_81 : decode cX12_send 81 = .ok (.ifCond .eq 134, 3) := by decide +kernel
theorem dX12_send_84 : decode cX12_send 84 = .ok (.aload_n 2, 1) := by decide +kernel
theorem dX12_send_85 : decode cX12_send 85 = .ok (.getfield 120, 3) := by decide +kernel
theorem dX12_send_88 : decode cX12_send 88 = .ok (.ifCond .eq 127, 3) := by decide +kernel
theorem dX12_send_91 : decode cX12_send 91 = .ok (.aload_n 0, 1) := by decide +kernel
theorem dX12_send_92 : decode cX12_send 92 = .ok (.getfield 66, 3) := by decide +kernel
theorem dX12_send_95 : decode cX12_send 95 = .ok (.aload_n 2, 1) := by decide +kernel
theorem dX12_send_96 : decode cX12_send 96 = .ok (.getfield 126, 3) := by decide +kernel
theorem dX12_send_99 : decode cX12_send 99 = .ok (.getfield 129, 3) := by decide +kernel
theorem dX12_send_102 : decode cX12_send 102 = .ok (.iload 4, 2) := by decide +kernel
theorem dX12_send_104 : decode cX12_send 104 = .ok (.aload_n 2, 1) := by decide +kernel
theorem dX12_send_105 : decode cX12_send 105 = .ok (.getfield 126, 3) := by decide +kernel
theorem dX12_send_108 : decode cX12_send 108 = .ok (.getfield 106, 3) := by decide +kernel
theorem dX12_send_111 : decode cX12_send 111 = .ok (.invokevirtual 138, 3) := by decide +kernel
theorem dX12_send_114 : decode cX12_send 114 = .ok (.istore 6, 2) := by decide +kernel
theorem dX12_send_116 : decode cX12_send 116 = .ok (.iload 6, 2) := by decide +kernel
theorem dX12_send_118 : decode cX12_send 118 = .ok (.iconst 1, 1) := by decide +kernel
theorem dX12_send_119 : decode cX12_send 119 = .ok (.if_icmp .ne 6, 3) := by decide +kernel
theorem dX12_send_122 : decode cX12_send 122 = .ok (.goto 93, 3) := by decide +kernel
theorem dX12_send_215 : decode cX12_send 215 = .ok (.aload_n 0, 1) := by decide +kernel
theorem dX12_send_216 : decode cX12_send 216 = .ok (.aload_n 2, 1) := by decide +kernel
theorem dX12_send_217 : decode cX12_send 217 = .ok (.iload 4, 2) := by decide +kernel
theorem dX12_send_219 : decode cX12_send 219 = .ok (.invokevirtual 166, 3) := by decide +kernel
theorem dX12_send_222 : decode cX12_send 222 = .ok (.aload_n 0, 1) := by decide +kernel
theorem dX12_send_223 : decode cX12_send 223 = .ok (.getfield 38, 3) := by decide +kernel
theorem dX12_send_226 : decode cX12_send 226 = .ok (.ifCond .eq 7, 3) := by decide +kernel
theorem dX12_send_229 : decode cX12_send 229 = .ok (.iload_n 3, 1) := by decide +kernel
theorem dX12_send_230 : decode cX12_send 230 = .ok (.goto 4, 3) := by decide +kernel
theorem dX12_send_234 : decode cX12_send 234 = .ok (.ireturn, 1) := by decide +kernel
theorem dX12_take_0 : decode cX12_take 0 = .ok (.aload_n 0, 1) := by decide +kernel
theorem dX12_take_1 : decode cX12_take 1 = .ok (.iload_n 1, 1) := by decide +kernel
theorem dX12_take_2 : decode cX12_take 2 = .ok (.invokevirtual 116, 3) := by decide +kernel
theorem dX12_take_5 : decode cX12_take 5 = .ok (.astore_n 3, 1) := by decide +kernel
theorem dX12_take_6 : decode cX12_take 6 = .ok (.aload_n 3, 1) := by decide +kernel
theorem dX12_take_7 : decode cX12_take 7 = .ok (.ifnull 18, 3) := by decide +kernel
theorem dX12_take_10 : decode cX12_take 10 = .ok (.iload_n 2, 1) := by decide +kernel
theorem dX12_take_11 : decode cX12_take 11 = .ok (.ifCond .lt 14, 3) := by decide +kernel
theorem dX12_take_14 : decode cX12_take 14 = .ok (.iload_n 2, 1) := by decide +kernel
theorem dX12_take_15 : decode cX12_take 15 = .ok (.aload_n 3, 1) := by decide +kernel
theorem dX12_take_16 : decode cX12_take 16 = .ok (.getfield 172, 3) := by decide +kernel
theorem dX12_take_19 : decode cX12_take 19 = .ok (.getfield 106, 3) := by decide +kernel
theorem dX12_take_22 : decode cX12_take 22 = .ok (.if_icmp .le 5, 3) := by decide +kernel
theorem dX12_take_25 : decode cX12_take 25 = .ok (.iconst 0, 1) := by decide +kernel
theorem dX12_take_26 : decode cX12_take 26 = .ok (.ireturn, 1) := by decide +kernel
theorem dX12_take_27 : decode cX12_take 27 = .ok (.aload_n 3, 1) := by decide +kernel
theorem dX12_take_28 : decode cX12_take 28 = .ok (.getfield 172, 3) := by decide +kernel
theorem dX12_take_31 : decode cX12_take 31 = .ok (.iload_n 2, 1) := by decide +kernel
theorem dX12_take_32 : decode cX12_take 32 = .ok (.invokevirtual 182, 3) := by decide +kernel
theorem dX12_take_35 : decode cX12_take 35 = .ok (.iconst 1, 1) := by decide +kernel
theorem dX12_take_36 : decode cX12_take 36 = .ok (.ireturn, 1) := by decide +kernel
theorem dX12_tear_0 : decode cX12_tear 0 = .ok (.aload_n 0, 1) := by decide +kernel
theorem dX12_tear_1 : decode cX12_tear 1 = .ok (.getfield 38, 3) := by decide +kernel
theorem dX12_tear_4 : decode cX12_tear 4 = .ok (.ifCond .ne 18, 3) := by decide +kernel
theorem dX12_tear_22 : decode cX12_tear 22 = .ok (.iconst 0, 1) := by decide +kernel
theorem dX12_tear_23 : decode cX12_tear 23 = .ok (.ireturn, 1) := by decide +kernel
theorem dX12_total_0 : decode cX12_total 0 = .ok (.iload_n 1, 1) := by decide +kernel
theorem dX12_total_1 : decode cX12_total 1 = .ok (.ifCond .lt 8, 3) := by decide +kernel
theorem dX12_total_4 : decode cX12_total 4 = .ok (.iload_n 1, 1) := by decide +kernel
theorem dX12_total_5 : decode cX12_total 5 = .ok (.iconst 2, 1) := by decide +kernel
theorem dX12_total_6 : decode cX12_total 6 = .ok (.if_icmp .le 5, 3) := by decide +kernel
theorem dX12_total_9 : decode cX12_total 9 = .ok (.iconst (-1), 1) := by decide +kernel
theorem dX12_total_10 : decode cX12_total 10 = .ok (.ireturn, 1) := by decide +kernel
theorem dX12_total_11 : decode cX12_total 11 = .ok (.aload_n 0, 1) := by decide +kernel
theorem dX12_total_12 : decode cX12_total 12 = .ok (.getfield 38, 3) := by decide +kernel
theorem dX12_total_15 : decode cX12_total 15 = .ok (.ifCond .ne 5, 3) := by decide +kernel
theorem dX12_total_20 : decode cX12_total 20 = .ok (.iload_n 1, 1) := by decide +kernel
theorem dX12_total_21 : decode cX12_total 21 = .ok (.ifCond .ne 13, 3) := by decide +kernel
theorem dX12_total_24 : decode cX12_total 24 = .ok (.aload_n 0, 1) := by decide +kernel
theorem dX12_total_25 : decode cX12_total 25 = .ok (.getfield 70, 3) := by decide +kernel
theorem dX12_total_28 : decode cX12_total 28 = .ok (.getfield 211, 3) := by decide +kernel
theorem dX12_total_31 : decode cX12_total 31 = .ok (.goto 25, 3) := by decide +kernel
theorem dX12_total_34 : decode cX12_total 34 = .ok (.iload_n 1, 1) := by decide +kernel
theorem dX12_total_35 : decode cX12_total 35 = .ok (.iconst 1, 1) := by decide +kernel
theorem dX12_total_36 : decode cX12_total 36 = .ok (.if_icmp .ne 13, 3) := by decide +kernel
theorem dX12_total_39 : decode cX12_total 39 = .ok (.aload_n 0, 1) := by decide +kernel
theorem dX12_total_40 : decode cX12_total 40 = .ok (.getfield 70, 3) := by decide +kernel
theorem dX12_total_43 : decode cX12_total 43 = .ok (.getfield 223, 3) := by decide +kernel
theorem dX12_total_46 : decode cX12_total 46 = .ok (.goto 10, 3) := by decide +kernel
theorem dX12_total_49 : decode cX12_total 49 = .ok (.aload_n 0, 1) := by decide +kernel
theorem dX12_total_50 : decode cX12_total 50 = .ok (.getfield 70, 3) := by decide +kernel
theorem dX12_total_53 : decode cX12_total 53 = .ok (.getfield 226, 3) := by decide +kernel
theorem dX12_total_56 : decode cX12_total 56 = .ok (.ireturn, 1) := by decide +kernel
theorem dX13_close_0 : decode cX13_close 0 = .ok (.aload_n 0, 1) := by decide +kernel
theorem dX13_close_1 : decode cX13_close 1 = .ok (.getfield 128, 3) := by decide +kernel
theorem dX13_close_4 : decode cX13_close 4 = .ok (.iload_n 1, 1) := by decide +kernel
theorem dX13_close_5 : decode cX13_close 5 = .ok (.iconst 0, 1) := by decide +kernel
theorem dX13_close_6 : decode cX13_close 6 = .ok (.bastore, 1) := by decide +kernel
theorem dX13_close_7 : decode cX13_close 7 = .ok (.aload_n 0, 1) := by decide +kernel
theorem dX13_close_8 : decode cX13_close 8 = .ok (.getfield 135, 3) := by decide +kernel
theorem dX13_close_11 : decode cX13_close 11 = .ok (.iload_n 1, 1) := by decide +kernel
theorem dX13_close_12 : decode cX13_close 12 = .ok (.iconst 0, 1) := by decide +kernel
theorem dX13_close_13 : decode cX13_close 13 = .ok (.iastore, 1) := by decide +kernel
theorem dX13_close_14 : decode cX13_close 14 = .ok (.aload_n 0, 1) := by decide +kernel
theorem dX13_close_15 : decode cX13_close 15 = .ok (.iload_n 1, 1) := by decide +kernel
theorem dX13_close_16 : decode cX13_close 16 = .ok (.invokevirtual 640, 3) := by decide +kernel
theorem dX13_close_19 : decode cX13_close 19 = .ok (.aload_n 0, 1) := by decide +kernel
theorem dX13_close_20 : decode cX13_close 20 = .ok (.getfield 183, 3) := by decide +kernel
theorem dX13_close_23 : decode cX13_close 23 = .ok (.iload_n 1, 1) := by decide +kernel
theorem dX13_close_24 : decode cX13_close 24 = .ok (.iconst 0, 1) := by decide +kernel
theorem dX13_close_25 : decode cX13_close 25 = .ok (.iastore, 1) := by decide +kernel
theorem dX13_close_26 : decode cX13_close 26 = .ok (.return_, 1) := by decide +kernel
theorem dX13_crash_0 : decode cX13_crash 0 = .ok (.aload_n 0, 1) := by decide +kernel
theorem dX13_crash_1 : decode cX13_crash 1 = .ok (.iconst 0, 1) := by decide +kernel
theorem dX13_crash_2 : decode cX13_crash 2 = .ok (.putfield 31, 3) := by decide +kernel
theorem dX13_crash_5 : decode cX13_crash 5 = .ok (.aload_n 0, 1) := by decide +kernel
theorem dX13_crash_6 : decode cX13_crash 6 = .ok (.getfield 232, 3) := by decide +kernel
theorem dX13_crash_9 : decode cX13_crash 9 = .ok (.ifCond .ne 5, 3) := by decide +kernel
theorem dX13_crash_14 : decode cX13_crash 14 = .ok (.aload_n 0, 1) := by decide +kernel
theorem dX13_crash_15 : decode cX13_crash 15 = .ok (.invokevirtual 713, 3) := by decide +kernel
theorem dX13_crash_18 : decode cX13_crash 18 = .ok (.iconst 1, 1) := by decide +kernel
theorem dX13_crash_19 : decode cX13_crash 19 = .ok (.ireturn, 1) := by decide +kernel
theorem dX13_define_0 : decode cX13_define 0 = .ok (.aload_n 0, 1) := by decide +kernel
theorem dX13_define_1 : decode cX13_define 1 = .ok (.dup, 1) := by decide +kernel
theorem dX13_define_2 : decode cX13_define 2 = .ok (.getfield 1, 3) := by decide +kernel
theorem dX13_define_5 : decode cX13_define 5 = .ok (.iconst 1, 1) := by decide +kernel
theorem dX13_define_6 : decode cX13_define 6 = .ok (.iadd, 1) := by decide +kernel
theorem dX13_define_7 : decode cX13_define 7 = .ok (.putfield 1, 3) := by decide +kernel
theorem dX13_define_10 : decode cX13_define 10 = .ok (.aload_n 0, 1) := by decide +kernel
theorem dX13_define_11 : decode cX13_define 11 = .ok (.getfield 7, 3) := by decide +kernel
theorem dX13_define_14 : decode cX13_define 14 = .ok (.aload_n 0, 1) := by decide +kernel
theorem dX13_define_15 : decode cX13_define 15 = .ok (.getfield 1, 3) := by decide +kernel
theorem dX13_define_18 : decode cX13_define 18 = .ok (.lload_n 1, 1) := by decide +kernel
theorem dX13_define_19 : decode cX13_define 19 = .ok (.lastore, 1) := by decide +kernel
theorem dX13_define_20 : decode cX13_define 20 = .ok (.aload_n 0, 1) := by decide +kernel
theorem dX13_define_21 : decode cX13_define 21 = .ok (.getfield 11, 3) := by decide +kernel
theorem dX13_define_24 : decode cX13_define 24 = .ok (.aload_n 0, 1) := by decide +kernel
theorem dX13_define_25 : decode cX13_define 25 = .ok (.getfield 1, 3) := by decide +kernel
theorem dX13_define_28 : decode cX13_define 28 = .ok (.lload_n 3, 1) := by decide +kernel
theorem dX13_define_29 : decode cX13_define 29 = .ok (.lastore, 1) := by decide +kernel
theorem dX13_define_30 : decode cX13_define 30 = .ok (.aload_n 0, 1) := by decide +kernel
theorem dX13_define_31 : decode cX13_define 31 = .ok (.getfield 14, 3) := by decide +kernel
theorem dX13_define_34 : decode cX13_define 34 = .ok (.aload_n 0, 1) := by decide +kernel
theorem dX13_define_35 : decode cX13_define 35 = .ok (.getfield 1, 3) := by decide +kernel
theorem dX13_define_38 : decode cX13_define 38 = .ok (.iload 5, 2) := by decide +kernel
theorem dX13_define_40 : decode cX13_define 40 = .ok (.iastore, 1) := by decide +kernel
theorem dX13_define_41 : decode cX13_define 41 = .ok (.aload_n 0, 1) := by decide +kernel
theorem dX13_define_42 : decode cX13_define 42 = .ok (.getfield 18, 3) := by decide +kernel
theorem dX13_define_45 : decode cX13_define 45 = .ok (.aload_n 0, 1) := by decide +kernel
theorem dX13_define_46 : decode cX13_define 46 = .ok (.getfield 1, 3) := by decide +kernel
theorem dX13_define_49 : decode cX13_define 49 = .ok (.iload 6, 2) := by decide +kernel
theorem dX13_define_51 : decode cX13_define 51 = .ok (.iastore, 1) := by decide +kernel
theorem dX13_define_52 : decode cX13_define 52 = .ok (.aload_n 0, 1) := by decide +kernel
theorem dX13_define_53 : decode cX13_define 53 = .ok (.getfield 21, 3) := by decide +kernel
theorem dX13_define_56 : decode cX13_define 56 = .ok (.aload_n 0, 1) := by decide +kernel
theorem dX13_define_57 : decode cX13_define 57 = .ok (.getfield 1, 3) := by decide +kernel
theorem dX13_define_60 : decode cX13_define 60 = .ok (.iload 7, 2) := by decide +kernel
theorem dX13_define_62 : decode cX13_define 62 = .ok (.bastore, 1) := by decide +kernel
theorem dX13_define_63 : decode cX13_define 63 = .ok (.return_, 1) := by decide +kernel
theorem dX13_end_0 : decode cX13_end 0 = .ok (.aload_n 0, 1) := by decide +kernel
theorem dX13_end_1 : decode cX13_end 1 = .ok (.iconst 0, 1) := by decide +kernel
theorem dX13_end_2 : decode cX13_end 2 = .ok (.putfield 31, 3) := by decide +kernel
theorem dX13_end_5 : decode cX13_end 5 = .ok (.iload_n 1, 1) := by decide +kernel
theorem dX13_end_6 : decode cX13_end 6 = .ok (.ifCond .lt 11, 3) := by decide +kernel
theorem dX13_end_9 : decode cX13_end 9 = .ok (.iload_n 1, 1) := by decide +kernel
theorem dX13_end_10 : decode cX13_end 10 = .ok (.aload_n 0, 1) := by decide +kernel
theorem dX13_end_11 : decode cX13_end 11 = .ok (.getfield 366, 3) := by decide +kernel
theorem dX13_end_14 : decode cX13_end 14 = .ok (.if_icmp .le 5, 3) := by decide +kernel
theorem dX13_end_17 : decode cX13_end 17 = .ok (.iconst 0, 1) := by decide +kernel
theorem dX13_end_18 : decode cX13_end 18 = .ok (.ireturn, 1) := by decide +kernel
theorem dX13_end_19 : decode cX13_end 19 = .ok (.aload_n 0, 1) := by decide +kernel
theorem dX13_end_20 : decode cX13_end 20 = .ok (.iload_n 1, 1) := by decide +kernel
theorem dX13_end_21 : decode cX13_end 21 = .ok (.putfield 366, 3) := by decide +kernel
theorem dX13_end_24 : decode cX13_end 24 = .ok (.iconst 1, 1) := by decide +kernel
theorem dX13_end_25 : decode cX13_end 25 = .ok (.ireturn, 1) := by decide +kernel
theorem dX13_endBlock_0 : decode cX13_endBlock 0 = .ok (.aload_n 0, 1) := by decide +kernel
theorem dX13_endBlock_1 : decode cX13_endBlock 1 = .ok (.getfield 145, 3) := by decide +kernel
theorem dX13_endBlock_4 : decode cX13_endBlock 4 = .ok (.iload_n 1, 1) := by decide +kernel
theorem dX13_endBlock_5 : decode cX13_endBlock 5 = .ok (.iconst 0, 1) := by decide +kernel
theorem dX13_endBlock_6 : decode cX13_endBlock 6 = .ok (.bastore, 1) := by decide +kernel
theorem dX13_endBlock_7 : decode cX13_endBlock 7 = .ok (.aload_n 0, 1) := by decide +kernel
theorem dX13_endBlock_8 : decode cX13_endBlock 8 = .ok (.getfield 148, 3) := by decide +kernel
theorem dX13_endBlock_11 : decode cX13_endBlock 11 = .ok (.iload_n 1, 1) := by decide +kernel
theorem dX13_endBlock_12 : decode cX13_endBlock 12 = .ok (.iconst 0, 1) := by decide +kernel
theorem dX13_endBlock_13 : decode cX13_endBlock 13 = .ok (.bastore, 1) := by decide +kernel
theorem dX13_endBlock_14 : decode cX13_endBlock 14 = .ok (.aload_n 0, 1) := by decide +kernel
theorem dX13_endBlock_15 : decode cX13_endBlock 15 = .ok (.getfield 161, 3) := by decide +kernel
theorem dX13_endBlock_18 : decode cX13_endBlock 18 = .ok (.iload_n 1, 1) := by decide +kernel
theorem dX13_endBlock_19 : decode cX13_endBlock 19 = .ok (.iconst 0, 1) := by decide +kernel
theorem dX13_endBlock_20 : decode cX13_endBlock 20 = .ok (.iastore, 1) := by decide +kernel
theorem dX13_endBlock_21 : decode cX13_endBlock 21 = .ok (.aload_n 0, 1) := by decide +kernel
theorem dX13_endBlock_22 : decode cX13_endBlock 22 = .ok (.getfield 164, 3) := by decide +kernel
theorem dX13_endBlock_25 : decode cX13_endBlock 25 = .ok (.iload_n 1, 1) := by decide +kernel
theorem dX13_endBlock_26 : decode cX13_endBlock 26 = .ok (.iconst 0, 1) := by decide +kernel
theorem dX13_endBlock_27 : decode cX13_endBlock 27 = .ok (.iastore, 1) := by decide +kernel
theorem dX13_endBlock_28 : decode cX13_endBlock 28 = .ok (.aload_n 0, 1) := by decide +kernel
theorem dX13_endBlock_29 : decode cX13_endBlock 29 = .ok (.getfield 180, 3) := by decide +kernel
theorem dX13_endBlock_32 : decode cX13_endBlock 32 = .ok (.iload_n 1, 1) := by decide +kernel
theorem dX13_endBlock_33 : decode cX13_endBlock 33 = .ok (.iconst 0, 1) := by decide +kernel
theorem dX13_endBlock_34 : decode cX13_endBlock 34 = .ok (.bastore, 1) := by decide +kernel
theorem dX13_endBlock_35 : decode cX13_endBlock 35 = .ok (.return_, 1) := by decide +kernel
theorem dX13_expire_0 : decode cX13_expire 0 = .ok (.iconst 0, 1) := by decide +kernel
theorem dX13_expire_1 : decode cX13_expire 1 = .ok (.istore_n 1, 1) := by decide +kernel
theorem dX13_expire_2 : decode cX13_expire 2 = .ok (.iconst 0, 1) := by decide +kernel
theorem dX13_expire_3 : decode cX13_expire 3 = .ok (.istore_n 2, 1) := by decide +kernel
theorem dX13_expire_4 : decode cX13_expire 4 = .ok (.iload_n 2, 1) := by decide +kernel
theorem dX13_expire_5 : decode cX13_expire 5 = .ok (.aload_n 0, 1) := by decide +kernel
theorem dX13_expire_6 : decode cX13_expire 6 = .ok (.getfield 46, 3) := by decide +kernel
theorem dX13_expire_9 : decode cX13_expire 9 = .ok (.if_icmp .ge 99, 3) := by decide +kernel
theorem dX13_expire_108 : decode cX13_expire 108 = .ok (.iload_n 1, 1) := by decide +kernel
theorem dX13_expire_109 : decode cX13_expire 109 = .ok (.ireturn, 1) := by decide +kernel
theorem dX13_feed_0 : decode cX13_feed 0 = .ok (.aload_n 0, 1) := by decide +kernel
theorem dX13_feed_1 : decode cX13_feed 1 = .ok (.iconst 0, 1) := by decide +kernel
theorem dX13_feed_2 : decode cX13_feed 2 = .ok (.putfield 31, 3) := by decide +kernel
theorem dX13_feed_5 : decode cX13_feed 5 = .ok (.aload_n 0, 1) := by decide +kernel
theorem dX13_feed_6 : decode cX13_feed 6 = .ok (.getfield 366, 3) := by decide +kernel
theorem dX13_feed_9 : decode cX13_feed 9 = .ok (.bipush 20, 2) := by decide +kernel
theorem dX13_feed_11 : decode cX13_feed 11 = .ok (.iadd, 1) := by decide +kernel
theorem dX13_feed_12 : decode cX13_feed 12 = .ok (.ldc_w 362, 3) := by decide +kernel
theorem dX13_feed_15 : decode cX13_feed 15 = .ok (.if_icmp .le 5, 3) := by decide +kernel
theorem dX13_feed_20 : decode cX13_feed 20 = .ok (.iconst 0, 1) := by decide +kernel
theorem dX13_feed_21 : decode cX13_feed 21 = .ok (.istore 6, 2) := by decide +kernel
theorem dX13_feed_23 : decode cX13_feed 23 = .ok (.iload 6, 2) := by decide +kernel
theorem dX13_feed_25 : decode cX13_feed 25 = .ok (.bipush 20, 2) := by decide +kernel
theorem dX13_feed_27 : decode cX13_feed 27 = .ok (.if_icmp .ge 86, 3) := by decide +kernel
theorem dX13_feed_30 : decode cX13_feed 30 = .ok (.iload_n 1, 1) := by decide +kernel
theorem dX13_feed_31 : decode cX13_feed 31 = .ok (.istore 7, 2) := by decide +kernel
theorem dX13_feed_33 : decode cX13_feed 33 = .ok (.iload 6, 2) := by decide +kernel
theorem dX13_feed_35 : decode cX13_feed 35 = .ok (.iconst 4, 1) := by decide +kernel
theorem dX13_feed_36 : decode cX13_feed 36 = .ok (.if_icmp .lt 6, 3) := by decide +kernel
theorem dX13_feed_39 : decode cX13_feed 39 = .ok (.iload_n 2, 1) := by decide +kernel
theorem dX13_feed_40 : decode cX13_feed 40 = .ok (.istore 7, 2) := by decide +kernel
theorem dX13_feed_42 : decode cX13_feed 42 = .ok (.iload 6, 2) := by decide +kernel
theorem dX13_feed_44 : decode cX13_feed 44 = .ok (.bipush 8, 2) := by decide +kernel
theorem dX13_feed_46 : decode cX13_feed 46 = .ok (.if_icmp .lt 6, 3) := by decide +kernel
theorem dX13_feed_49 : decode cX13_feed 49 = .ok (.iload_n 3, 1) := by decide +kernel
theorem dX13_feed_50 : decode cX13_feed 50 = .ok (.istore 7, 2) := by decide +kernel
theorem dX13_feed_52 : decode cX13_feed 52 = .ok (.iload 6, 2) := by decide +kernel
theorem dX13_feed_54 : decode cX13_feed 54 = .ok (.bipush 12, 2) := by decide +kernel
theorem dX13_feed_56 : decode cX13_feed 56 = .ok (.if_icmp .lt 7, 3) := by decide +kernel
theorem dX13_feed_59 : decode cX13_feed 59 = .ok (.iload 4, 2) := by decide +kernel
theorem dX13_feed_61 : decode cX13_feed 61 = .ok (.istore 7, 2) := by decide +kernel
theorem dX13_feed_63 : decode cX13_feed 63 = .ok (.iload 6, 2) := by decide +kernel
