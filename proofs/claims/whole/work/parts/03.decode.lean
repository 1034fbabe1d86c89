theorem d_K_init_0 : decode b_K_init 0 = .ok (.aload_n 0, 1) := by decide +kernel
theorem d_K_init_1 : decode b_K_init 1 = .ok (.invokespecial 3, 3) := by decide +kernel
theorem d_K_init_4 : decode b_K_init 4 = .ok (.aload_n 0, 1) := by decide +kernel
theorem d_K_init_5 : decode b_K_init 5 = .ok (.bipush 24, 2) := by decide +kernel
theorem d_K_init_7 : decode b_K_init 7 = .ok (.newarray .int, 2) := by decide +kernel
theorem d_K_init_9 : decode b_K_init 9 = .ok (.putfield 9, 3) := by decide +kernel
theorem d_K_init_12 : decode b_K_init 12 = .ok (.aload_n 0, 1) := by decide +kernel
theorem d_K_init_13 : decode b_K_init 13 = .ok (.bipush 24, 2) := by decide +kernel
theorem d_K_init_15 : decode b_K_init 15 = .ok (.newarray .int, 2) := by decide +kernel
theorem d_K_init_17 : decode b_K_init 17 = .ok (.putfield 15, 3) := by decide +kernel
theorem d_K_init_20 : decode b_K_init 20 = .ok (.aload_n 0, 1) := by decide +kernel
theorem d_K_init_21 : decode b_K_init 21 = .ok (.bipush 24, 2) := by decide +kernel
theorem d_K_init_23 : decode b_K_init 23 = .ok (.newarray .int, 2) := by decide +kernel
theorem d_K_init_25 : decode b_K_init 25 = .ok (.putfield 18, 3) := by decide +kernel
theorem d_K_init_28 : decode b_K_init 28 = .ok (.aload_n 0, 1) := by decide +kernel
theorem d_K_init_29 : decode b_K_init 29 = .ok (.bipush 24, 2) := by decide +kernel
theorem d_K_init_31 : decode b_K_init 31 = .ok (.newarray .int, 2) := by decide +kernel
theorem d_K_init_33 : decode b_K_init 33 = .ok (.putfield 21, 3) := by decide +kernel
theorem d_K_init_36 : decode b_K_init 36 = .ok (.aload_n 0, 1) := by decide +kernel
theorem d_K_init_37 : decode b_K_init 37 = .ok (.bipush 24, 2) := by decide +kernel
theorem d_K_init_39 : decode b_K_init 39 = .ok (.newarray .int, 2) := by decide +kernel
theorem d_K_init_41 : decode b_K_init 41 = .ok (.putfield 24, 3) := by decide +kernel
theorem d_K_init_44 : decode b_K_init 44 = .ok (.return_, 1) := by decide +kernel
theorem d_K_write_0 : decode b_K_write 0 = .ok (.aload_n 0, 1) := by decide +kernel
theorem d_K_write_1 : decode b_K_write 1 = .ok (.getfield 9, 3) := by decide +kernel
theorem d_K_write_4 : decode b_K_write 4 = .ok (.iload_n 1, 1) := by decide +kernel
theorem d_K_write_5 : decode b_K_write 5 = .ok (.iload_n 2, 1) := by decide +kernel
theorem d_K_write_6 : decode b_K_write 6 = .ok (.invokestatic 27, 3) := by decide +kernel
theorem d_K_write_9 : decode b_K_write 9 = .ok (.aload_n 0, 1) := by decide +kernel
theorem d_K_write_10 : decode b_K_write 10 = .ok (.getfield 15, 3) := by decide +kernel
theorem d_K_write_13 : decode b_K_write 13 = .ok (.iload_n 1, 1) := by decide +kernel
theorem d_K_write_14 : decode b_K_write 14 = .ok (.iload_n 3, 1) := by decide +kernel
theorem d_K_write_15 : decode b_K_write 15 = .ok (.invokestatic 27, 3) := by decide +kernel
theorem d_K_write_18 : decode b_K_write 18 = .ok (.aload_n 0, 1) := by decide +kernel
theorem d_K_write_19 : decode b_K_write 19 = .ok (.getfield 18, 3) := by decide +kernel
theorem d_K_write_22 : decode b_K_write 22 = .ok (.iload_n 1, 1) := by decide +kernel
theorem d_K_write_23 : decode b_K_write 23 = .ok (.iload 4, 2) := by decide +kernel
theorem d_K_write_25 : decode b_K_write 25 = .ok (.bipush 10, 2) := by decide +kernel
theorem d_K_write_27 : decode b_K_write 27 = .ok (.idiv, 1) := by decide +kernel
theorem d_K_write_28 : decode b_K_write 28 = .ok (.invokestatic 27, 3) := by decide +kernel
theorem d_K_write_31 : decode b_K_write 31 = .ok (.aload_n 0, 1) := by decide +kernel
theorem d_K_write_32 : decode b_K_write 32 = .ok (.getfield 21, 3) := by decide +kernel
theorem d_K_write_35 : decode b_K_write 35 = .ok (.iload_n 1, 1) := by decide +kernel
theorem d_K_write_36 : decode b_K_write 36 = .ok (.iload 4, 2) := by decide +kernel
theorem d_K_write_38 : decode b_K_write 38 = .ok (.bipush 10, 2) := by decide +kernel
theorem d_K_write_40 : decode b_K_write 40 = .ok (.irem, 1) := by decide +kernel
theorem d_K_write_41 : decode b_K_write 41 = .ok (.invokestatic 27, 3) := by decide +kernel
theorem d_K_write_44 : decode b_K_write 44 = .ok (.aload_n 0, 1) := by decide +kernel
theorem d_K_write_45 : decode b_K_write 45 = .ok (.getfield 24, 3) := by decide +kernel
theorem d_K_write_48 : decode b_K_write 48 = .ok (.iload_n 1, 1) := by decide +kernel
theorem d_K_write_49 : decode b_K_write 49 = .ok (.iload 5, 2) := by decide +kernel
theorem d_K_write_51 : decode b_K_write 51 = .ok (.invokestatic 27, 3) := by decide +kernel
theorem d_K_write_54 : decode b_K_write 54 = .ok (.return_, 1) := by decide +kernel
theorem d_E_init_0 : decode b_E_init 0 = .ok (.aload_n 0, 1) := by decide +kernel
theorem d_E_init_1 : decode b_E_init 1 = .ok (.invokespecial 3, 3) := by decide +kernel
theorem d_E_init_4 : decode b_E_init 4 = .ok (.aload_n 0, 1) := by decide +kernel
theorem d_E_init_5 : decode b_E_init 5 = .ok (.bipush 24, 2) := by decide +kernel
theorem d_E_init_7 : decode b_E_init 7 = .ok (.newarray .int, 2) := by decide +kernel
theorem d_E_init_9 : decode b_E_init 9 = .ok (.putfield 9, 3) := by decide +kernel
theorem d_E_init_12 : decode b_E_init 12 = .ok (.aload_n 0, 1) := by decide +kernel
theorem d_E_init_13 : decode b_E_init 13 = .ok (.aload_n 1, 1) := by decide +kernel
theorem d_E_init_14 : decode b_E_init 14 = .ok (.putfield 15, 3) := by decide +kernel
theorem d_E_init_17 : decode b_E_init 17 = .ok (.return_, 1) := by decide +kernel
theorem d_E_become_0 : decode b_E_become 0 = .ok (.aload_n 0, 1) := by decide +kernel
theorem d_E_become_1 : decode b_E_become 1 = .ok (.iload_n 1, 1) := by decide +kernel
theorem d_E_become_2 : decode b_E_become 2 = .ok (.putfield 19, 3) := by decide +kernel
theorem d_E_become_5 : decode b_E_become 5 = .ok (.aload_n 0, 1) := by decide +kernel
theorem d_E_become_6 : decode b_E_become 6 = .ok (.iload_n 2, 1) := by decide +kernel
theorem d_E_become_7 : decode b_E_become 7 = .ok (.putfield 23, 3) := by decide +kernel
theorem d_E_become_10 : decode b_E_become 10 = .ok (.aload_n 0, 1) := by decide +kernel
theorem d_E_become_11 : decode b_E_become 11 = .ok (.iload_n 3, 1) := by decide +kernel
theorem d_E_become_12 : decode b_E_become 12 = .ok (.iconst 0, 1) := by decide +kernel
theorem d_E_become_13 : decode b_E_become 13 = .ok (.bipush 99, 2) := by decide +kernel
theorem d_E_become_15 : decode b_E_become 15 = .ok (.invokestatic 26, 3) := by decide +kernel
theorem d_E_become_18 : decode b_E_become 18 = .ok (.putfield 30, 3) := by decide +kernel
theorem d_E_become_21 : decode b_E_become 21 = .ok (.aload_n 0, 1) := by decide +kernel
theorem d_E_become_22 : decode b_E_become 22 = .ok (.iconst 0, 1) := by decide +kernel
theorem d_E_become_23 : decode b_E_become 23 = .ok (.putfield 33, 3) := by decide +kernel
theorem d_E_become_26 : decode b_E_become 26 = .ok (.aload_n 0, 1) := by decide +kernel
theorem d_E_become_27 : decode b_E_become 27 = .ok (.iconst 0, 1) := by decide +kernel
theorem d_E_become_28 : decode b_E_become 28 = .ok (.putfield 36, 3) := by decide +kernel
theorem d_E_become_31 : decode b_E_become 31 = .ok (.return_, 1) := by decide +kernel
theorem d_E_becomeTold_0 : decode b_E_becomeTold 0 = .ok (.aload_n 0, 1) := by decide +kernel
theorem d_E_becomeTold_1 : decode b_E_becomeTold 1 = .ok (.iload_n 1, 1) := by decide +kernel
theorem d_E_becomeTold_2 : decode b_E_becomeTold 2 = .ok (.sipush 1000, 3) := by decide +kernel
theorem d_E_becomeTold_5 : decode b_E_becomeTold 5 = .ok (.idiv, 1) := by decide +kernel
theorem d_E_becomeTold_6 : decode b_E_becomeTold 6 = .ok (.iload_n 1, 1) := by decide +kernel
theorem d_E_becomeTold_7 : decode b_E_becomeTold 7 = .ok (.sipush 1000, 3) := by decide +kernel
theorem d_E_becomeTold_10 : decode b_E_becomeTold 10 = .ok (.irem, 1) := by decide +kernel
theorem d_E_becomeTold_11 : decode b_E_becomeTold 11 = .ok (.bipush 100, 2) := by decide +kernel
theorem d_E_becomeTold_13 : decode b_E_becomeTold 13 = .ok (.idiv, 1) := by decide +kernel
theorem d_E_becomeTold_14 : decode b_E_becomeTold 14 = .ok (.iload_n 1, 1) := by decide +kernel
theorem d_E_becomeTold_15 : decode b_E_becomeTold 15 = .ok (.bipush 100, 2) := by decide +kernel
theorem d_E_becomeTold_17 : decode b_E_becomeTold 17 = .ok (.irem, 1) := by decide +kernel
theorem d_E_becomeTold_18 : decode b_E_becomeTold 18 = .ok (.invokevirtual 39, 3) := by decide +kernel
theorem d_E_becomeTold_21 : decode b_E_becomeTold 21 = .ok (.return_, 1) := by decide +kernel
theorem d_E_told_0 : decode b_E_told 0 = .ok (.aload_n 0, 1) := by decide +kernel
theorem d_E_told_1 : decode b_E_told 1 = .ok (.getfield 19, 3) := by decide +kernel
theorem d_E_told_4 : decode b_E_told 4 = .ok (.aload_n 0, 1) := by decide +kernel
theorem d_E_told_5 : decode b_E_told 5 = .ok (.getfield 23, 3) := by decide +kernel
theorem d_E_told_8 : decode b_E_told 8 = .ok (.aload_n 0, 1) := by decide +kernel
theorem d_E_told_9 : decode b_E_told 9 = .ok (.getfield 30, 3) := by decide +kernel
theorem d_E_told_12 : decode b_E_told 12 = .ok (.invokestatic 43, 3) := by decide +kernel
theorem d_E_told_15 : decode b_E_told 15 = .ok (.ireturn, 1) := by decide +kernel
theorem d_E_replaceBy_0 : decode b_E_replaceBy 0 = .ok (.iconst 0, 1) := by decide +kernel
theorem d_E_replaceBy_1 : decode b_E_replaceBy 1 = .ok (.istore_n 2, 1) := by decide +kernel
theorem d_E_replaceBy_2 : decode b_E_replaceBy 2 = .ok (.iconst 0, 1) := by decide +kernel
theorem d_E_replaceBy_3 : decode b_E_replaceBy 3 = .ok (.istore_n 3, 1) := by decide +kernel
theorem d_E_replaceBy_4 : decode b_E_replaceBy 4 = .ok (.iload_n 3, 1) := by decide +kernel
theorem d_E_replaceBy_5 : decode b_E_replaceBy 5 = .ok (.sipush 600, 3) := by decide +kernel
theorem d_E_replaceBy_8 : decode b_E_replaceBy 8 = .ok (.if_icmp .ge 50, 3) := by decide +kernel
theorem d_E_replaceBy_11 : decode b_E_replaceBy 11 = .ok (.iload_n 2, 1) := by decide +kernel
theorem d_E_replaceBy_12 : decode b_E_replaceBy 12 = .ok (.aload_n 1, 1) := by decide +kernel
theorem d_E_replaceBy_13 : decode b_E_replaceBy 13 = .ok (.getfield 46, 3) := by decide +kernel
theorem d_E_replaceBy_16 : decode b_E_replaceBy 16 = .ok (.if_icmp .ge 42, 3) := by decide +kernel
theorem d_E_replaceBy_19 : decode b_E_replaceBy 19 = .ok (.aload_n 1, 1) := by decide +kernel
theorem d_E_replaceBy_20 : decode b_E_replaceBy 20 = .ok (.getfield 51, 3) := by decide +kernel
theorem d_E_replaceBy_23 : decode b_E_replaceBy 23 = .ok (.iload_n 2, 1) := by decide +kernel
theorem d_E_replaceBy_24 : decode b_E_replaceBy 24 = .ok (.invokestatic 54, 3) := by decide +kernel
theorem d_E_replaceBy_27 : decode b_E_replaceBy 27 = .ok (.istore 4, 2) := by decide +kernel
theorem d_E_replaceBy_29 : decode b_E_replaceBy 29 = .ok (.aload_n 0, 1) := by decide +kernel
theorem d_E_replaceBy_30 : decode b_E_replaceBy 30 = .ok (.iload 4, 2) := by decide +kernel
theorem d_E_replaceBy_32 : decode b_E_replaceBy 32 = .ok (.invokevirtual 58, 3) := by decide +kernel
theorem d_E_replaceBy_35 : decode b_E_replaceBy 35 = .ok (.ifCond .eq 14, 3) := by decide +kernel
theorem d_E_replaceBy_38 : decode b_E_replaceBy 38 = .ok (.aload_n 0, 1) := by decide +kernel
theorem d_E_replaceBy_39 : decode b_E_replaceBy 39 = .ok (.iload 4, 2) := by decide +kernel
theorem d_E_replaceBy_41 : decode b_E_replaceBy 41 = .ok (.invokevirtual 62, 3) := by decide +kernel
theorem d_E_replaceBy_44 : decode b_E_replaceBy 44 = .ok (.iconst 0, 1) := by decide +kernel
theorem d_E_replaceBy_45 : decode b_E_replaceBy 45 = .ok (.istore_n 2, 1) := by decide +kernel
theorem d_E_replaceBy_46 : decode b_E_replaceBy 46 = .ok (.goto 6, 3) := by decide +kernel
theorem d_E_replaceBy_49 : decode b_E_replaceBy 49 = .ok (.iinc 2 1, 3) := by decide +kernel
theorem d_E_replaceBy_52 : decode b_E_replaceBy 52 = .ok (.iinc 3 1, 3) := by decide +kernel
theorem d_E_replaceBy_55 : decode b_E_replaceBy 55 = .ok (.goto (-51), 3) := by decide +kernel
theorem d_E_replaceBy_58 : decode b_E_replaceBy 58 = .ok (.return_, 1) := by decide +kernel
theorem d_E_fits_0 : decode b_E_fits 0 = .ok (.aload_n 0, 1) := by decide +kernel
theorem d_E_fits_1 : decode b_E_fits 1 = .ok (.getfield 15, 3) := by decide +kernel
theorem d_E_fits_4 : decode b_E_fits 4 = .ok (.getfield 66, 3) := by decide +kernel
theorem d_E_fits_7 : decode b_E_fits 7 = .ok (.iload_n 1, 1) := by decide +kernel
theorem d_E_fits_8 : decode b_E_fits 8 = .ok (.invokestatic 54, 3) := by decide +kernel
theorem d_E_fits_11 : decode b_E_fits 11 = .ok (.istore_n 2, 1) := by decide +kernel
theorem d_E_fits_12 : decode b_E_fits 12 = .ok (.iload_n 2, 1) := by decide +kernel
theorem d_E_fits_13 : decode b_E_fits 13 = .ok (.invokestatic 71, 3) := by decide +kernel
theorem d_E_fits_16 : decode b_E_fits 16 = .ok (.iconst 2, 1) := by decide +kernel
theorem d_E_fits_17 : decode b_E_fits 17 = .ok (.if_icmp .ne 32, 3) := by decide +kernel
theorem d_E_fits_20 : decode b_E_fits 20 = .ok (.aload_n 0, 1) := by decide +kernel
theorem d_E_fits_21 : decode b_E_fits 21 = .ok (.getfield 36, 3) := by decide +kernel
theorem d_E_fits_24 : decode b_E_fits 24 = .ok (.iload_n 1, 1) := by decide +kernel
theorem d_E_fits_25 : decode b_E_fits 25 = .ok (.ishr, 1) := by decide +kernel
theorem d_E_fits_26 : decode b_E_fits 26 = .ok (.iconst 1, 1) := by decide +kernel
theorem d_E_fits_27 : decode b_E_fits 27 = .ok (.iand, 1) := by decide +kernel
theorem d_E_fits_28 : decode b_E_fits 28 = .ok (.ifCond .ne 21, 3) := by decide +kernel
theorem d_E_fits_31 : decode b_E_fits 31 = .ok (.aload_n 0, 1) := by decide +kernel
theorem d_E_fits_32 : decode b_E_fits 32 = .ok (.getfield 15, 3) := by decide +kernel
theorem d_E_fits_35 : decode b_E_fits 35 = .ok (.getfield 75, 3) := by decide +kernel
theorem d_E_fits_38 : decode b_E_fits 38 = .ok (.iload_n 1, 1) := by decide +kernel
theorem d_E_fits_39 : decode b_E_fits 39 = .ok (.invokestatic 54, 3) := by decide +kernel
theorem d_E_fits_42 : decode b_E_fits 42 = .ok (.aload_n 0, 1) := by decide +kernel
theorem d_E_fits_43 : decode b_E_fits 43 = .ok (.getfield 19, 3) := by decide +kernel
theorem d_E_fits_46 : decode b_E_fits 46 = .ok (.if_icmp .eq 5, 3) := by decide +kernel
theorem d_E_fits_49 : decode b_E_fits 49 = .ok (.iconst 0, 1) := by decide +kernel
theorem d_E_fits_50 : decode b_E_fits 50 = .ok (.ireturn, 1) := by decide +kernel
theorem d_E_fits_51 : decode b_E_fits 51 = .ok (.iload_n 2, 1) := by decide +kernel
theorem d_E_fits_52 : decode b_E_fits 52 = .ok (.iconst 5, 1) := by decide +kernel
theorem d_E_fits_53 : decode b_E_fits 53 = .ok (.if_icmp .eq 27, 3) := by decide +kernel
theorem d_E_fits_56 : decode b_E_fits 56 = .ok (.iload_n 2, 1) := by decide +kernel
theorem d_E_fits_57 : decode b_E_fits 57 = .ok (.bipush 8, 2) := by decide +kernel
theorem d_E_fits_59 : decode b_E_fits 59 = .ok (.if_icmp .eq 21, 3) := by decide +kernel
theorem d_E_fits_62 : decode b_E_fits 62 = .ok (.aload_n 0, 1) := by decide +kernel
theorem d_E_fits_63 : decode b_E_fits 63 = .ok (.getfield 15, 3) := by decide +kernel
theorem d_E_fits_66 : decode b_E_fits 66 = .ok (.getfield 78, 3) := by decide +kernel
theorem d_E_fits_69 : decode b_E_fits 69 = .ok (.iload_n 1, 1) := by decide +kernel
theorem d_E_fits_70 : decode b_E_fits 70 = .ok (.invokestatic 54, 3) := by decide +kernel
theorem d_E_fits_73 : decode b_E_fits 73 = .ok (.aload_n 0, 1) := by decide +kernel
theorem d_E_fits_74 : decode b_E_fits 74 = .ok (.getfield 23, 3) := by decide +kernel
theorem d_E_fits_77 : decode b_E_fits 77 = .ok (.if_icmp .ne 7, 3) := by decide +kernel
theorem d_E_fits_80 : decode b_E_fits 80 = .ok (.iconst 1, 1) := by decide +kernel
theorem d_E_fits_81 : decode b_E_fits 81 = .ok (.goto 4, 3) := by decide +kernel
theorem d_E_fits_84 : decode b_E_fits 84 = .ok (.iconst 0, 1) := by decide +kernel
theorem d_E_fits_85 : decode b_E_fits 85 = .ok (.ireturn, 1) := by decide +kernel
theorem d_E_use_0 : decode b_E_use 0 = .ok (.aload_n 0, 1) := by decide +kernel
theorem d_E_use_1 : decode b_E_use 1 = .ok (.getfield 9, 3) := by decide +kernel
theorem d_E_use_4 : decode b_E_use 4 = .ok (.aload_n 0, 1) := by decide +kernel
theorem d_E_use_5 : decode b_E_use 5 = .ok (.getfield 33, 3) := by decide +kernel
theorem d_E_use_8 : decode b_E_use 8 = .ok (.iload_n 1, 1) := by decide +kernel
theorem d_E_use_9 : decode b_E_use 9 = .ok (.invokestatic 81, 3) := by decide +kernel
theorem d_E_use_12 : decode b_E_use 12 = .ok (.aload_n 0, 1) := by decide +kernel
theorem d_E_use_13 : decode b_E_use 13 = .ok (.dup, 1) := by decide +kernel
theorem d_E_use_14 : decode b_E_use 14 = .ok (.getfield 33, 3) := by decide +kernel
theorem d_E_use_17 : decode b_E_use 17 = .ok (.iconst 1, 1) := by decide +kernel
theorem d_E_use_18 : decode b_E_use 18 = .ok (.iadd, 1) := by decide +kernel
theorem d_E_use_19 : decode b_E_use 19 = .ok (.putfield 33, 3) := by decide +kernel
theorem d_E_use_22 : decode b_E_use 22 = .ok (.aload_n 0, 1) := by decide +kernel
theorem d_E_use_23 : decode b_E_use 23 = .ok (.dup, 1) := by decide +kernel
theorem d_E_use_24 : decode b_E_use 24 = .ok (.getfield 36, 3) := by decide +kernel
theorem d_E_use_27 : decode b_E_use 27 = .ok (.iconst 1, 1) := by decide +kernel
theorem d_E_use_28 : decode b_E_use 28 = .ok (.iload_n 1, 1) := by decide +kernel
theorem d_E_use_29 : decode b_E_use 29 = .ok (.ishl, 1) := by decide +kernel
theorem d_E_use_30 : decode b_E_use 30 = .ok (.ior, 1) := by decide +kernel
theorem d_E_use_31 : decode b_E_use 31 = .ok (.putfield 36, 3) := by decide +kernel
theorem d_E_use_34 : decode b_E_use 34 = .ok (.aload_n 0, 1) := by decide +kernel
theorem d_E_use_35 : decode b_E_use 35 = .ok (.getfield 15, 3) := by decide +kernel
theorem d_E_use_38 : decode b_E_use 38 = .ok (.getfield 66, 3) := by decide +kernel
theorem d_E_use_41 : decode b_E_use 41 = .ok (.iload_n 1, 1) := by decide +kernel
theorem d_E_use_42 : decode b_E_use 42 = .ok (.invokestatic 54, 3) := by decide +kernel
theorem d_E_use_45 : decode b_E_use 45 = .ok (.istore_n 2, 1) := by decide +kernel
theorem d_E_use_46 : decode b_E_use 46 = .ok (.aload_n 0, 1) := by decide +kernel
theorem d_E_use_47 : decode b_E_use 47 = .ok (.iload_n 2, 1) := by decide +kernel
theorem d_E_use_48 : decode b_E_use 48 = .ok (.aload_n 0, 1) := by decide +kernel
theorem d_E_use_49 : decode b_E_use 49 = .ok (.getfield 15, 3) := by decide +kernel
theorem d_E_use_52 : decode b_E_use 52 = .ok (.getfield 85, 3) := by decide +kernel
theorem d_E_use_55 : decode b_E_use 55 = .ok (.iload_n 1, 1) := by decide +kernel
theorem d_E_use_56 : decode b_E_use 56 = .ok (.invokestatic 54, 3) := by decide +kernel
theorem d_E_use_59 : decode b_E_use 59 = .ok (.aload_n 0, 1) := by decide +kernel
theorem d_E_use_60 : decode b_E_use 60 = .ok (.getfield 30, 3) := by decide +kernel
theorem d_E_use_63 : decode b_E_use 63 = .ok (.invokestatic 88, 3) := by decide +kernel
theorem d_E_use_66 : decode b_E_use 66 = .ok (.iconst 0, 1) := by decide +kernel
theorem d_E_use_67 : decode b_E_use 67 = .ok (.bipush 99, 2) := by decide +kernel
theorem d_E_use_69 : decode b_E_use 69 = .ok (.invokestatic 26, 3) := by decide +kernel
theorem d_E_use_72 : decode b_E_use 72 = .ok (.putfield 30, 3) := by decide +kernel
theorem d_E_use_75 : decode b_E_use 75 = .ok (.iload_n 2, 1) := by decide +kernel
theorem d_E_use_76 : decode b_E_use 76 = .ok (.bipush 6, 2) := by decide +kernel
theorem d_E_use_78 : decode b_E_use 78 = .ok (.if_icmp .ne 16, 3) := by decide +kernel
theorem d_E_use_81 : decode b_E_use 81 = .ok (.aload_n 0, 1) := by decide +kernel
theorem d_E_use_82 : decode b_E_use 82 = .ok (.iconst 1, 1) := by decide +kernel
theorem d_E_use_83 : decode b_E_use 83 = .ok (.aload_n 0, 1) := by decide +kernel
theorem d_E_use_84 : decode b_E_use 84 = .ok (.getfield 23, 3) := by decide +kernel
theorem d_E_use_87 : decode b_E_use 87 = .ok (.isub, 1) := by decide +kernel
theorem d_E_use_88 : decode b_E_use 88 = .ok (.putfield 23, 3) := by decide +kernel
theorem d_E_use_91 : decode b_E_use 91 = .ok (.goto 26, 3) := by decide +kernel
theorem d_E_use_94 : decode b_E_use 94 = .ok (.iload_n 2, 1) := by decide +kernel
theorem d_E_use_95 : decode b_E_use 95 = .ok (.bipush 8, 2) := by decide +kernel
theorem d_E_use_97 : decode b_E_use 97 = .ok (.if_icmp .ne 20, 3) := by decide +kernel
theorem d_E_use_100 : decode b_E_use 100 = .ok (.aload_n 0, 1) := by decide +kernel
theorem d_E_use_101 : decode b_E_use 101 = .ok (.aload_n 0, 1) := by decide +kernel
theorem d_E_use_102 : decode b_E_use 102 = .ok (.getfield 15, 3) := by decide +kernel
theorem d_E_use_105 : decode b_E_use 105 = .ok (.getfield 91, 3) := by decide +kernel
theorem d_E_use_108 : decode b_E_use 108 = .ok (.iload_n 1, 1) := by decide +kernel
theorem d_E_use_109 : decode b_E_use 109 = .ok (.invokestatic 54, 3) := by decide +kernel
theorem d_E_use_112 : decode b_E_use 112 = .ok (.iconst 3, 1) := by decide +kernel
theorem d_E_use_113 : decode b_E_use 113 = .ok (.irem, 1) := by decide +kernel
theorem d_E_use_114 : decode b_E_use 114 = .ok (.putfield 19, 3) := by decide +kernel
theorem d_E_use_117 : decode b_E_use 117 = .ok (.return_, 1) := by decide +kernel
theorem d_G_init_0 : decode b_G_init 0 = .ok (.aload_n 0, 1) := by decide +kernel
theorem d_G_init_1 : decode b_G_init 1 = .ok (.invokespecial 3, 3) := by decide +kernel
theorem d_G_init_4 : decode b_G_init 4 = .ok (.aload_n 0, 1) := by decide +kernel
theorem d_G_init_5 : decode b_G_init 5 = .ok (.iconst 2, 1) := by decide +kernel
theorem d_G_init_6 : decode b_G_init 6 = .ok (.newarray .int, 2) := by decide +kernel
theorem d_G_init_8 : decode b_G_init 8 = .ok (.dup, 1) := by decide +kernel
theorem d_G_init_9 : decode b_G_init 9 = .ok (.iconst 0, 1) := by decide +kernel
theorem d_G_init_10 : decode b_G_init 10 = .ok (.bipush 20, 2) := by decide +kernel
theorem d_G_init_12 : decode b_G_init 12 = .ok (.iastore, 1) := by decide +kernel
theorem d_G_init_13 : decode b_G_init 13 = .ok (.dup, 1) := by decide +kernel
theorem d_G_init_14 : decode b_G_init 14 = .ok (.iconst 1, 1) := by decide +kernel
theorem d_G_init_15 : decode b_G_init 15 = .ok (.bipush 20, 2) := by decide +kernel
theorem d_G_init_17 : decode b_G_init 17 = .ok (.iastore, 1) := by decide +kernel
theorem d_G_init_18 : decode b_G_init 18 = .ok (.putfield 9, 3) := by decide +kernel
theorem d_G_init_21 : decode b_G_init 21 = .ok (.aload_n 0, 1) := by decide +kernel
theorem d_G_init_22 : decode b_G_init 22 = .ok (.iconst 4, 1) := by decide +kernel
theorem d_G_init_23 : decode b_G_init 23 = .ok (.newarray .int, 2) := by decide +kernel
theorem d_G_init_25 : decode b_G_init 25 = .ok (.dup, 1) := by decide +kernel
theorem d_G_init_26 : decode b_G_init 26 = .ok (.iconst 0, 1) := by decide +kernel
theorem d_G_init_27 : decode b_G_init 27 = .ok (.iconst 1, 1) := by decide +kernel
theorem d_G_init_28 : decode b_G_init 28 = .ok (.iastore, 1) := by decide +kernel
theorem d_G_init_29 : decode b_G_init 29 = .ok (.dup, 1) := by decide +kernel
theorem d_G_init_30 : decode b_G_init 30 = .ok (.iconst 1, 1) := by decide +kernel
theorem d_G_init_31 : decode b_G_init 31 = .ok (.iconst 2, 1) := by decide +kernel
theorem d_G_init_32 : decode b_G_init 32 = .ok (.iastore, 1) := by decide +kernel
theorem d_G_init_33 : decode b_G_init 33 = .ok (.dup, 1) := by decide +kernel
theorem d_G_init_34 : decode b_G_init 34 = .ok (.iconst 2, 1) := by decide +kernel
theorem d_G_init_35 : decode b_G_init 35 = .ok (.iconst 1, 1) := by decide +kernel
theorem d_G_init_36 : decode b_G_init 36 = .ok (.iastore, 1) := by decide +kernel
theorem d_G_init_37 : decode b_G_init 37 = .ok (.dup, 1) := by decide +kernel
theorem d_G_init_38 : decode b_G_init 38 = .ok (.iconst 3, 1) := by decide +kernel
theorem d_G_init_39 : decode b_G_init 39 = .ok (.bipush 7, 2) := by decide +kernel
theorem d_G_init_41 : decode b_G_init 41 = .ok (.iastore, 1) := by decide +kernel
theorem d_G_init_42 : decode b_G_init 42 = .ok (.putfield 15, 3) := by decide +kernel
theorem d_G_init_45 : decode b_G_init 45 = .ok (.aload_n 0, 1) := by decide +kernel
theorem d_G_init_46 : decode b_G_init 46 = .ok (.bipush 24, 2) := by decide +kernel
theorem d_G_init_48 : decode b_G_init 48 = .ok (.newarray .int, 2) := by decide +kernel
theorem d_G_init_50 : decode b_G_init 50 = .ok (.putfield 18, 3) := by decide +kernel
theorem d_G_init_53 : decode b_G_init 53 = .ok (.aload_n 0, 1) := by decide +kernel
theorem d_G_init_54 : decode b_G_init 54 = .ok (.bipush 24, 2) := by decide +kernel
theorem d_G_init_56 : decode b_G_init 56 = .ok (.newarray .int, 2) := by decide +kernel
theorem d_G_init_58 : decode b_G_init 58 = .ok (.putfield 21, 3) := by decide +kernel
theorem d_G_init_61 : decode b_G_init 61 = .ok (.aload_n 0, 1) := by decide +kernel
theorem d_G_init_62 : decode b_G_init 62 = .ok (.bipush 24, 2) := by decide +kernel
theorem d_G_init_64 : decode b_G_init 64 = .ok (.newarray .int, 2) := by decide +kernel
theorem d_G_init_66 : decode b_G_init 66 = .ok (.putfield 24, 3) := by decide +kernel
theorem d_G_init_69 : decode b_G_init 69 = .ok (.aload_n 0, 1) := by decide +kernel
theorem d_G_init_70 : decode b_G_init 70 = .ok (.bipush 64, 2) := by decide +kernel
theorem d_G_init_72 : decode b_G_init 72 = .ok (.newarray .int, 2) := by decide +kernel
theorem d_G_init_74 : decode b_G_init 74 = .ok (.putfield 27, 3) := by decide +kernel
theorem d_G_init_77 : decode b_G_init 77 = .ok (.aload_n 0, 1) := by decide +kernel
theorem d_G_init_78 : decode b_G_init 78 = .ok (.iconst 1, 1) := by decide +kernel
theorem d_G_init_79 : decode b_G_init 79 = .ok (.putfield 30, 3) := by decide +kernel
theorem d_G_init_82 : decode b_G_init 82 = .ok (.aload_n 0, 1) := by decide +kernel
theorem d_G_init_83 : decode b_G_init 83 = .ok (.aload_n 1, 1) := by decide +kernel
theorem d_G_init_84 : decode b_G_init 84 = .ok (.putfield 34, 3) := by decide +kernel
theorem d_G_init_87 : decode b_G_init 87 = .ok (.return_, 1) := by decide +kernel
theorem d_G_copyFrom_0 : decode b_G_copyFrom 0 = .ok (.aload_n 1, 1) := by decide +kernel
theorem d_G_copyFrom_1 : decode b_G_copyFrom 1 = .ok (.getfield 9, 3) := by decide +kernel
theorem d_G_copyFrom_4 : decode b_G_copyFrom 4 = .ok (.aload_n 0, 1) := by decide +kernel
theorem d_G_copyFrom_5 : decode b_G_copyFrom 5 = .ok (.getfield 9, 3) := by decide +kernel
theorem d_G_copyFrom_8 : decode b_G_copyFrom 8 = .ok (.invokestatic 38, 3) := by decide +kernel
theorem d_G_copyFrom_11 : decode b_G_copyFrom 11 = .ok (.aload_n 1, 1) := by decide +kernel
theorem d_G_copyFrom_12 : decode b_G_copyFrom 12 = .ok (.getfield 15, 3) := by decide +kernel
theorem d_G_copyFrom_15 : decode b_G_copyFrom 15 = .ok (.aload_n 0, 1) := by decide +kernel
theorem d_G_copyFrom_16 : decode b_G_copyFrom 16 = .ok (.getfield 15, 3) := by decide +kernel
theorem d_G_copyFrom_19 : decode b_G_copyFrom 19 = .ok (.invokestatic 38, 3) := by decide +kernel
theorem d_G_copyFrom_22 : decode b_G_copyFrom 22 = .ok (.aload_n 1, 1) := by decide +kernel
theorem d_G_copyFrom_23 : decode b_G_copyFrom 23 = .ok (.getfield 18, 3) := by decide +kernel
theorem d_G_copyFrom_26 : decode b_G_copyFrom 26 = .ok (.aload_n 0, 1) := by decide +kernel
theorem d_G_copyFrom_27 : decode b_G_copyFrom 27 = .ok (.getfield 18, 3) := by decide +kernel
theorem d_G_copyFrom_30 : decode b_G_copyFrom 30 = .ok (.invokestatic 38, 3) := by decide +kernel
theorem d_G_copyFrom_33 : decode b_G_copyFrom 33 = .ok (.aload_n 1, 1) := by decide +kernel
theorem d_G_copyFrom_34 : decode b_G_copyFrom 34 = .ok (.getfield 21, 3) := by decide +kernel
theorem d_G_copyFrom_37 : decode b_G_copyFrom 37 = .ok (.aload_n 0, 1) := by decide +kernel
theorem d_G_copyFrom_38 : decode b_G_copyFrom 38 = .ok (.getfield 21, 3) := by decide +kernel
theorem d_G_copyFrom_41 : decode b_G_copyFrom 41 = .ok (.invokestatic 38, 3) := by decide +kernel
theorem d_G_copyFrom_44 : decode b_G_copyFrom 44 = .ok (.aload_n 1, 1) := by decide +kernel
theorem d_G_copyFrom_45 : decode b_G_copyFrom 45 = .ok (.getfield 24, 3) := by decide +kernel
theorem d_G_copyFrom_48 : decode b_G_copyFrom 48 = .ok (.aload_n 0, 1) := by decide +kernel
theorem d_G_copyFrom_49 : decode b_G_copyFrom 49 = .ok (.getfield 24, 3) := by decide +kernel
theorem d_G_copyFrom_52 : decode b_G_copyFrom 52 = .ok (.invokestatic 38, 3) := by decide +kernel
theorem d_G_copyFrom_55 : decode b_G_copyFrom 55 = .ok (.aload_n 1, 1) := by decide +kernel
theorem d_G_copyFrom_56 : decode b_G_copyFrom 56 = .ok (.getfield 27, 3) := by decide +kernel
theorem d_G_copyFrom_59 : decode b_G_copyFrom 59 = .ok (.aload_n 0, 1) := by decide +kernel
theorem d_G_copyFrom_60 : decode b_G_copyFrom 60 = .ok (.getfield 27, 3) := by decide +kernel
theorem d_G_copyFrom_63 : decode b_G_copyFrom 63 = .ok (.invokestatic 38, 3) := by decide +kernel
theorem d_G_copyFrom_66 : decode b_G_copyFrom 66 = .ok (.aload_n 0, 1) := by decide +kernel
theorem d_G_copyFrom_67 : decode b_G_copyFrom 67 = .ok (.aload_n 1, 1) := by decide +kernel
theorem d_G_copyFrom_68 : decode b_G_copyFrom 68 = .ok (.getfield 42, 3) := by decide +kernel
theorem d_G_copyFrom_71 : decode b_G_copyFrom 71 = .ok (.putfield 42, 3) := by decide +kernel
theorem d_G_copyFrom_74 : decode b_G_copyFrom 74 = .ok (.aload_n 0, 1) := by decide +kernel
theorem d_G_copyFrom_75 : decode b_G_copyFrom 75 = .ok (.aload_n 1, 1) := by decide +kernel
theorem d_G_copyFrom_76 : decode b_G_copyFrom 76 = .ok (.getfield 45, 3) := by decide +kernel
theorem d_G_copyFrom_79 : decode b_G_copyFrom 79 = .ok (.putfield 45, 3) := by decide +kernel
theorem d_G_copyFrom_82 : decode b_G_copyFrom 82 = .ok (.aload_n 0, 1) := by decide +kernel
theorem d_G_copyFrom_83 : decode b_G_copyFrom 83 = .ok (.aload_n 1, 1) := by decide +kernel
theorem d_G_copyFrom_84 : decode b_G_copyFrom 84 = .ok (.getfield 48, 3) := by decide +kernel
theorem d_G_copyFrom_87 : decode b_G_copyFrom 87 = .ok (.putfield 48, 3) := by decide +kernel
theorem d_G_copyFrom_90 : decode b_G_copyFrom 90 = .ok (.aload_n 0, 1) := by decide +kernel
theorem d_G_copyFrom_91 : decode b_G_copyFrom 91 = .ok (.aload_n 1, 1) := by decide +kernel
theorem d_G_copyFrom_92 : decode b_G_copyFrom 92 = .ok (.getfield 51, 3) := by decide +kernel
theorem d_G_copyFrom_95 : decode b_G_copyFrom 95 = .ok (.putfield 51, 3) := by decide +kernel
theorem d_G_copyFrom_98 : decode b_G_copyFrom 98 = .ok (.aload_n 0, 1) := by decide +kernel
theorem d_G_copyFrom_99 : decode b_G_copyFrom 99 = .ok (.aload_n 1, 1) := by decide +kernel
theorem d_G_copyFrom_100 : decode b_G_copyFrom 100 = .ok (.getfield 54, 3) := by decide +kernel
theorem d_G_copyFrom_103 : decode b_G_copyFrom 103 = .ok (.putfield 54, 3) := by decide +kernel
theorem d_G_copyFrom_106 : decode b_G_copyFrom 106 = .ok (.aload_n 0, 1) := by decide +kernel
theorem d_G_copyFrom_107 : decode b_G_copyFrom 107 = .ok (.aload_n 1, 1) := by decide +kernel
theorem d_G_copyFrom_108 : decode b_G_copyFrom 108 = .ok (.getfield 57, 3) := by decide +kernel
theorem d_G_copyFrom_111 : decode b_G_copyFrom 111 = .ok (.putfield 57, 3) := by decide +kernel
theorem d_G_copyFrom_114 : decode b_G_copyFrom 114 = .ok (.aload_n 0, 1) := by decide +kernel
theorem d_G_copyFrom_115 : decode b_G_copyFrom 115 = .ok (.aload_n 1, 1) := by decide +kernel
theorem d_G_copyFrom_116 : decode b_G_copyFrom 116 = .ok (.getfield 30, 3) := by decide +kernel
theorem d_G_copyFrom_119 : decode b_G_copyFrom 119 = .ok (.putfield 30, 3) := by decide +kernel
theorem d_G_copyFrom_122 : decode b_G_copyFrom 122 = .ok (.aload_n 0, 1) := by decide +kernel
theorem d_G_copyFrom_123 : decode b_G_copyFrom 123 = .ok (.aload_n 1, 1) := by decide +kernel
theorem d_G_copyFrom_124 : decode b_G_copyFrom 124 = .ok (.getfield 60, 3) := by decide +kernel
theorem d_G_copyFrom_127 : decode b_G_copyFrom 127 = .ok (.putfield 60, 3) := by decide +kernel
theorem d_G_copyFrom_130 : decode b_G_copyFrom 130 = .ok (.return_, 1) := by decide +kernel
theorem d_G_has_0 : decode b_G_has 0 = .ok (.iload_n 1, 1) := by decide +kernel
theorem d_G_has_1 : decode b_G_has 1 = .ok (.ifCond .lt 15, 3) := by decide +kernel
theorem d_G_has_4 : decode b_G_has 4 = .ok (.iload_n 1, 1) := by decide +kernel
theorem d_G_has_5 : decode b_G_has 5 = .ok (.aload_n 0, 1) := by decide +kernel
theorem d_G_has_6 : decode b_G_has 6 = .ok (.getfield 42, 3) := by decide +kernel
theorem d_G_has_9 : decode b_G_has 9 = .ok (.if_icmp .ge 7, 3) := by decide +kernel
theorem d_G_has_12 : decode b_G_has 12 = .ok (.iconst 1, 1) := by decide +kernel
theorem d_G_has_13 : decode b_G_has 13 = .ok (.goto 4, 3) := by decide +kernel
theorem d_G_has_16 : decode b_G_has 16 = .ok (.iconst 0, 1) := by decide +kernel
theorem d_G_has_17 : decode b_G_has 17 = .ok (.ireturn, 1) := by decide +kernel
theorem d_G_addCard_0 : decode b_G_addCard 0 = .ok (.aload_n 0, 1) := by decide +kernel
theorem d_G_addCard_1 : decode b_G_addCard 1 = .ok (.getfield 42, 3) := by decide +kernel
theorem d_G_addCard_4 : decode b_G_addCard 4 = .ok (.istore 5, 2) := by decide +kernel
theorem d_G_addCard_6 : decode b_G_addCard 6 = .ok (.aload_n 0, 1) := by decide +kernel
theorem d_G_addCard_7 : decode b_G_addCard 7 = .ok (.getfield 34, 3) := by decide +kernel
theorem d_G_addCard_10 : decode b_G_addCard 10 = .ok (.iload 5, 2) := by decide +kernel
theorem d_G_addCard_12 : decode b_G_addCard 12 = .ok (.iload_n 1, 1) := by decide +kernel
theorem d_G_addCard_13 : decode b_G_addCard 13 = .ok (.iload_n 2, 1) := by decide +kernel
theorem d_G_addCard_14 : decode b_G_addCard 14 = .ok (.iload_n 3, 1) := by decide +kernel
theorem d_G_addCard_15 : decode b_G_addCard 15 = .ok (.iload 4, 2) := by decide +kernel
theorem d_G_addCard_17 : decode b_G_addCard 17 = .ok (.invokevirtual 63, 3) := by decide +kernel
theorem d_G_addCard_20 : decode b_G_addCard 20 = .ok (.aload_n 0, 1) := by decide +kernel
theorem d_G_addCard_21 : decode b_G_addCard 21 = .ok (.getfield 18, 3) := by decide +kernel
theorem d_G_addCard_24 : decode b_G_addCard 24 = .ok (.iload 5, 2) := by decide +kernel
theorem d_G_addCard_26 : decode b_G_addCard 26 = .ok (.iconst 0, 1) := by decide +kernel
theorem d_G_addCard_27 : decode b_G_addCard 27 = .ok (.invokestatic 69, 3) := by decide +kernel
theorem d_G_addCard_30 : decode b_G_addCard 30 = .ok (.aload_n 0, 1) := by decide +kernel
theorem d_G_addCard_31 : decode b_G_addCard 31 = .ok (.dup, 1) := by decide +kernel
theorem d_G_addCard_32 : decode b_G_addCard 32 = .ok (.getfield 42, 3) := by decide +kernel
theorem d_G_addCard_35 : decode b_G_addCard 35 = .ok (.iconst 1, 1) := by decide +kernel
theorem d_G_addCard_36 : decode b_G_addCard 36 = .ok (.iadd, 1) := by decide +kernel
theorem d_G_addCard_37 : decode b_G_addCard 37 = .ok (.putfield 42, 3) := by decide +kernel
theorem d_G_addCard_40 : decode b_G_addCard 40 = .ok (.iload 5, 2) := by decide +kernel
theorem d_G_addCard_42 : decode b_G_addCard 42 = .ok (.ireturn, 1) := by decide +kernel
theorem d_G_moveTo_0 : decode b_G_moveTo 0 = .ok (.aload_n 0, 1) := by decide +kernel
theorem d_G_moveTo_1 : decode b_G_moveTo 1 = .ok (.getfield 18, 3) := by decide +kernel
theorem d_G_moveTo_4 : decode b_G_moveTo 4 = .ok (.iload_n 1, 1) := by decide +kernel
theorem d_G_moveTo_5 : decode b_G_moveTo 5 = .ok (.iload_n 2, 1) := by decide +kernel
theorem d_G_moveTo_6 : decode b_G_moveTo 6 = .ok (.invokestatic 69, 3) := by decide +kernel
theorem d_G_moveTo_9 : decode b_G_moveTo 9 = .ok (.aload_n 0, 1) := by decide +kernel
theorem d_G_moveTo_10 : decode b_G_moveTo 10 = .ok (.dup, 1) := by decide +kernel
theorem d_G_moveTo_11 : decode b_G_moveTo 11 = .ok (.getfield 60, 3) := by decide +kernel
theorem d_G_moveTo_14 : decode b_G_moveTo 14 = .ok (.iconst 1, 1) := by decide +kernel
theorem d_G_moveTo_15 : decode b_G_moveTo 15 = .ok (.iadd, 1) := by decide +kernel
theorem d_G_moveTo_16 : decode b_G_moveTo 16 = .ok (.putfield 60, 3) := by decide +kernel
theorem d_G_moveTo_19 : decode b_G_moveTo 19 = .ok (.return_, 1) := by decide +kernel
theorem d_G_playCard_0 : decode b_G_playCard 0 = .ok (.aload_n 0, 1) := by decide +kernel
theorem d_G_playCard_1 : decode b_G_playCard 1 = .ok (.iload_n 1, 1) := by decide +kernel
theorem d_G_playCard_2 : decode b_G_playCard 2 = .ok (.invokevirtual 73, 3) := by decide +kernel
theorem d_G_playCard_5 : decode b_G_playCard 5 = .ok (.ifCond .eq 9, 3) := by decide +kernel
theorem d_G_playCard_8 : decode b_G_playCard 8 = .ok (.aload_n 0, 1) := by decide +kernel
theorem d_G_playCard_9 : decode b_G_playCard 9 = .ok (.iload_n 1, 1) := by decide +kernel
theorem d_G_playCard_10 : decode b_G_playCard 10 = .ok (.iconst 2, 1) := by decide +kernel
theorem d_G_playCard_11 : decode b_G_playCard 11 = .ok (.invokevirtual 77, 3) := by decide +kernel
theorem d_G_playCard_14 : decode b_G_playCard 14 = .ok (.return_, 1) := by decide +kernel
theorem d_G_layDown_0 : decode b_G_layDown 0 = .ok (.aload_n 0, 1) := by decide +kernel
theorem d_G_layDown_1 : decode b_G_layDown 1 = .ok (.getfield 24, 3) := by decide +kernel
theorem d_G_layDown_4 : decode b_G_layDown 4 = .ok (.aload_n 0, 1) := by decide +kernel
theorem d_G_layDown_5 : decode b_G_layDown 5 = .ok (.getfield 45, 3) := by decide +kernel
theorem d_G_layDown_8 : decode b_G_layDown 8 = .ok (.iload_n 1, 1) := by decide +kernel
theorem d_G_layDown_9 : decode b_G_layDown 9 = .ok (.invokestatic 69, 3) := by decide +kernel
theorem d_G_layDown_12 : decode b_G_layDown 12 = .ok (.aload_n 0, 1) := by decide +kernel
theorem d_G_layDown_13 : decode b_G_layDown 13 = .ok (.dup, 1) := by decide +kernel
theorem d_G_layDown_14 : decode b_G_layDown 14 = .ok (.getfield 45, 3) := by decide +kernel
theorem d_G_layDown_17 : decode b_G_layDown 17 = .ok (.iconst 1, 1) := by decide +kernel
theorem d_G_layDown_18 : decode b_G_layDown 18 = .ok (.iadd, 1) := by decide +kernel
theorem d_G_layDown_19 : decode b_G_layDown 19 = .ok (.putfield 45, 3) := by decide +kernel
theorem d_G_layDown_22 : decode b_G_layDown 22 = .ok (.aload_n 0, 1) := by decide +kernel
theorem d_G_layDown_23 : decode b_G_layDown 23 = .ok (.getfield 21, 3) := by decide +kernel
theorem d_G_layDown_26 : decode b_G_layDown 26 = .ok (.iload_n 1, 1) := by decide +kernel
theorem d_G_layDown_27 : decode b_G_layDown 27 = .ok (.aload_n 0, 1) := by decide +kernel
theorem d_G_layDown_28 : decode b_G_layDown 28 = .ok (.getfield 51, 3) := by decide +kernel
theorem d_G_layDown_31 : decode b_G_layDown 31 = .ok (.invokestatic 69, 3) := by decide +kernel
theorem d_G_layDown_34 : decode b_G_layDown 34 = .ok (.aload_n 0, 1) := by decide +kernel
theorem d_G_layDown_35 : decode b_G_layDown 35 = .ok (.dup, 1) := by decide +kernel
theorem d_G_layDown_36 : decode b_G_layDown 36 = .ok (.getfield 51, 3) := by decide +kernel
theorem d_G_layDown_39 : decode b_G_layDown 39 = .ok (.iconst 1, 1) := by decide +kernel
theorem d_G_layDown_40 : decode b_G_layDown 40 = .ok (.iadd, 1) := by decide +kernel
theorem d_G_layDown_41 : decode b_G_layDown 41 = .ok (.putfield 51, 3) := by decide +kernel
theorem d_G_layDown_44 : decode b_G_layDown 44 = .ok (.aload_n 0, 1) := by decide +kernel
theorem d_G_layDown_45 : decode b_G_layDown 45 = .ok (.iload_n 1, 1) := by decide +kernel
theorem d_G_layDown_46 : decode b_G_layDown 46 = .ok (.iconst 3, 1) := by decide +kernel
theorem d_G_layDown_47 : decode b_G_layDown 47 = .ok (.invokevirtual 77, 3) := by decide +kernel
theorem d_G_layDown_50 : decode b_G_layDown 50 = .ok (.return_, 1) := by decide +kernel
theorem d_G_takeOff_0 : decode b_G_takeOff 0 = .ok (.iconst 0, 1) := by decide +kernel
theorem d_G_takeOff_1 : decode b_G_takeOff 1 = .ok (.istore_n 2, 1) := by decide +kernel
theorem d_G_takeOff_2 : decode b_G_takeOff 2 = .ok (.iconst 0, 1) := by decide +kernel
theorem d_G_takeOff_3 : decode b_G_takeOff 3 = .ok (.istore_n 3, 1) := by decide +kernel
theorem d_G_takeOff_4 : decode b_G_takeOff 4 = .ok (.iload_n 3, 1) := by decide +kernel
theorem d_G_takeOff_5 : decode b_G_takeOff 5 = .ok (.aload_n 0, 1) := by decide +kernel
theorem d_G_takeOff_6 : decode b_G_takeOff 6 = .ok (.getfield 45, 3) := by decide +kernel
theorem d_G_takeOff_9 : decode b_G_takeOff 9 = .ok (.if_icmp .ge 38, 3) := by decide +kernel
theorem d_G_takeOff_12 : decode b_G_takeOff 12 = .ok (.aload_n 0, 1) := by decide +kernel
theorem d_G_takeOff_13 : decode b_G_takeOff 13 = .ok (.getfield 24, 3) := by decide +kernel
theorem d_G_takeOff_16 : decode b_G_takeOff 16 = .ok (.iload_n 3, 1) := by decide +kernel
theorem d_G_takeOff_17 : decode b_G_takeOff 17 = .ok (.invokestatic 81, 3) := by decide +kernel
theorem d_G_takeOff_20 : decode b_G_takeOff 20 = .ok (.istore 4, 2) := by decide +kernel
theorem d_G_takeOff_22 : decode b_G_takeOff 22 = .ok (.iload 4, 2) := by decide +kernel
theorem d_G_takeOff_24 : decode b_G_takeOff 24 = .ok (.iload_n 1, 1) := by decide +kernel
theorem d_G_takeOff_25 : decode b_G_takeOff 25 = .ok (.if_icmp .eq 16, 3) := by decide +kernel
theorem d_G_takeOff_28 : decode b_G_takeOff 28 = .ok (.aload_n 0, 1) := by decide +kernel
theorem d_G_takeOff_29 : decode b_G_takeOff 29 = .ok (.getfield 24, 3) := by decide +kernel
theorem d_G_takeOff_32 : decode b_G_takeOff 32 = .ok (.iload_n 2, 1) := by decide +kernel
theorem d_G_takeOff_33 : decode b_G_takeOff 33 = .ok (.iload 4, 2) := by decide +kernel
theorem d_G_takeOff_35 : decode b_G_takeOff 35 = .ok (.invokestatic 69, 3) := by decide +kernel
theorem d_G_takeOff_38 : decode b_G_takeOff 38 = .ok (.iinc 2 1, 3) := by decide +kernel
theorem d_G_takeOff_41 : decode b_G_takeOff 41 = .ok (.iinc 3 1, 3) := by decide +kernel
theorem d_G_takeOff_44 : decode b_G_takeOff 44 = .ok (.goto (-40), 3) := by decide +kernel
theorem d_G_takeOff_47 : decode b_G_takeOff 47 = .ok (.aload_n 0, 1) := by decide +kernel
theorem d_G_takeOff_48 : decode b_G_takeOff 48 = .ok (.iload_n 2, 1) := by decide +kernel
theorem d_G_takeOff_49 : decode b_G_takeOff 49 = .ok (.putfield 45, 3) := by decide +kernel
theorem d_G_takeOff_52 : decode b_G_takeOff 52 = .ok (.aload_n 0, 1) := by decide +kernel
theorem d_G_takeOff_53 : decode b_G_takeOff 53 = .ok (.iload_n 1, 1) := by decide +kernel
theorem d_G_takeOff_54 : decode b_G_takeOff 54 = .ok (.iconst 4, 1) := by decide +kernel
theorem d_G_takeOff_55 : decode b_G_takeOff 55 = .ok (.invokevirtual 77, 3) := by decide +kernel
theorem d_G_takeOff_58 : decode b_G_takeOff 58 = .ok (.return_, 1) := by decide +kernel
theorem d_G_push_0 : decode b_G_push 0 = .ok (.aload_n 0, 1) := by decide +kernel
theorem d_G_push_1 : decode b_G_push 1 = .ok (.getfield 48, 3) := by decide +kernel
theorem d_G_push_4 : decode b_G_push 4 = .ok (.bipush 64, 2) := by decide +kernel
theorem d_G_push_6 : decode b_G_push 6 = .ok (.if_icmp .lt 5, 3) := by decide +kernel
theorem d_G_push_9 : decode b_G_push 9 = .ok (.iconst 0, 1) := by decide +kernel
theorem d_G_push_10 : decode b_G_push 10 = .ok (.ireturn, 1) := by decide +kernel
theorem d_G_push_11 : decode b_G_push 11 = .ok (.aload_n 0, 1) := by decide +kernel
theorem d_G_push_12 : decode b_G_push 12 = .ok (.getfield 27, 3) := by decide +kernel
theorem d_G_push_15 : decode b_G_push 15 = .ok (.aload_n 0, 1) := by decide +kernel
theorem d_G_push_16 : decode b_G_push 16 = .ok (.getfield 48, 3) := by decide +kernel
theorem d_G_push_19 : decode b_G_push 19 = .ok (.iload_n 1, 1) := by decide +kernel
theorem d_G_push_20 : decode b_G_push 20 = .ok (.invokestatic 69, 3) := by decide +kernel
theorem d_G_push_23 : decode b_G_push 23 = .ok (.aload_n 0, 1) := by decide +kernel
theorem d_G_push_24 : decode b_G_push 24 = .ok (.dup, 1) := by decide +kernel
theorem d_G_push_25 : decode b_G_push 25 = .ok (.getfield 48, 3) := by decide +kernel
theorem d_G_push_28 : decode b_G_push 28 = .ok (.iconst 1, 1) := by decide +kernel
theorem d_G_push_29 : decode b_G_push 29 = .ok (.iadd, 1) := by decide +kernel
theorem d_G_push_30 : decode b_G_push 30 = .ok (.putfield 48, 3) := by decide +kernel
theorem d_G_push_33 : decode b_G_push 33 = .ok (.iconst 1, 1) := by decide +kernel
theorem d_G_push_34 : decode b_G_push 34 = .ok (.ireturn, 1) := by decide +kernel
theorem d_G_pop_0 : decode b_G_pop 0 = .ok (.aload_n 0, 1) := by decide +kernel
theorem d_G_pop_1 : decode b_G_pop 1 = .ok (.getfield 48, 3) := by decide +kernel
theorem d_G_pop_4 : decode b_G_pop 4 = .ok (.ifCond .gt 6, 3) := by decide +kernel
theorem d_G_pop_7 : decode b_G_pop 7 = .ok (.bipush (-2), 2) := by decide +kernel
theorem d_G_pop_9 : decode b_G_pop 9 = .ok (.ireturn, 1) := by decide +kernel
theorem d_G_pop_10 : decode b_G_pop 10 = .ok (.aload_n 0, 1) := by decide +kernel
theorem d_G_pop_11 : decode b_G_pop 11 = .ok (.dup, 1) := by decide +kernel
theorem d_G_pop_12 : decode b_G_pop 12 = .ok (.getfield 48, 3) := by decide +kernel
theorem d_G_pop_15 : decode b_G_pop 15 = .ok (.iconst 1, 1) := by decide +kernel
theorem d_G_pop_16 : decode b_G_pop 16 = .ok (.isub, 1) := by decide +kernel
theorem d_G_pop_17 : decode b_G_pop 17 = .ok (.putfield 48, 3) := by decide +kernel
theorem d_G_pop_20 : decode b_G_pop 20 = .ok (.aload_n 0, 1) := by decide +kernel
theorem d_G_pop_21 : decode b_G_pop 21 = .ok (.getfield 27, 3) := by decide +kernel
theorem d_G_pop_24 : decode b_G_pop 24 = .ok (.aload_n 0, 1) := by decide +kernel
theorem d_G_pop_25 : decode b_G_pop 25 = .ok (.getfield 48, 3) := by decide +kernel
theorem d_G_pop_28 : decode b_G_pop 28 = .ok (.invokestatic 81, 3) := by decide +kernel
theorem d_G_pop_31 : decode b_G_pop 31 = .ok (.ireturn, 1) := by decide +kernel
theorem d_G_countIn_0 : decode b_G_countIn 0 = .ok (.iconst 0, 1) := by decide +kernel
theorem d_G_countIn_1 : decode b_G_countIn 1 = .ok (.istore_n 3, 1) := by decide +kernel
theorem d_G_countIn_2 : decode b_G_countIn 2 = .ok (.iconst 0, 1) := by decide +kernel
theorem d_G_countIn_3 : decode b_G_countIn 3 = .ok (.istore 4, 2) := by decide +kernel
theorem d_G_countIn_5 : decode b_G_countIn 5 = .ok (.iload 4, 2) := by decide +kernel
theorem d_G_countIn_7 : decode b_G_countIn 7 = .ok (.aload_n 0, 1) := by decide +kernel
theorem d_G_countIn_8 : decode b_G_countIn 8 = .ok (.getfield 42, 3) := by decide +kernel
theorem d_G_countIn_11 : decode b_G_countIn 11 = .ok (.if_icmp .ge 41, 3) := by decide +kernel
theorem d_G_countIn_14 : decode b_G_countIn 14 = .ok (.aload_n 0, 1) := by decide +kernel
theorem d_G_countIn_15 : decode b_G_countIn 15 = .ok (.getfield 18, 3) := by decide +kernel
theorem d_G_countIn_18 : decode b_G_countIn 18 = .ok (.iload 4, 2) := by decide +kernel
theorem d_G_countIn_20 : decode b_G_countIn 20 = .ok (.invokestatic 81, 3) := by decide +kernel
theorem d_G_countIn_23 : decode b_G_countIn 23 = .ok (.iload_n 2, 1) := by decide +kernel
theorem d_G_countIn_24 : decode b_G_countIn 24 = .ok (.if_icmp .ne 22, 3) := by decide +kernel
theorem d_G_countIn_27 : decode b_G_countIn 27 = .ok (.aload_n 0, 1) := by decide +kernel
theorem d_G_countIn_28 : decode b_G_countIn 28 = .ok (.getfield 34, 3) := by decide +kernel
theorem d_G_countIn_31 : decode b_G_countIn 31 = .ok (.getfield 85, 3) := by decide +kernel
theorem d_G_countIn_34 : decode b_G_countIn 34 = .ok (.iload 4, 2) := by decide +kernel
theorem d_G_countIn_36 : decode b_G_countIn 36 = .ok (.invokestatic 81, 3) := by decide +kernel
theorem d_G_countIn_39 : decode b_G_countIn 39 = .ok (.iload_n 1, 1) := by decide +kernel
theorem d_G_countIn_40 : decode b_G_countIn 40 = .ok (.if_icmp .ne 6, 3) := by decide +kernel
theorem d_G_countIn_43 : decode b_G_countIn 43 = .ok (.iinc 3 1, 3) := by decide +kernel
theorem d_G_countIn_46 : decode b_G_countIn 46 = .ok (.iinc 4 1, 3) := by decide +kernel
theorem d_G_countIn_49 : decode b_G_countIn 49 = .ok (.goto (-44), 3) := by decide +kernel
theorem d_G_countIn_52 : decode b_G_countIn 52 = .ok (.iload_n 3, 1) := by decide +kernel
theorem d_G_countIn_53 : decode b_G_countIn 53 = .ok (.ireturn, 1) := by decide +kernel
theorem d_G_nthIn_0 : decode b_G_nthIn 0 = .ok (.iconst 0, 1) := by decide +kernel
theorem d_G_nthIn_1 : decode b_G_nthIn 1 = .ok (.istore 4, 2) := by decide +kernel
theorem d_G_nthIn_3 : decode b_G_nthIn 3 = .ok (.iconst 0, 1) := by decide +kernel
theorem d_G_nthIn_4 : decode b_G_nthIn 4 = .ok (.istore 5, 2) := by decide +kernel
theorem d_G_nthIn_6 : decode b_G_nthIn 6 = .ok (.iload 5, 2) := by decide +kernel
theorem d_G_nthIn_8 : decode b_G_nthIn 8 = .ok (.aload_n 0, 1) := by decide +kernel
theorem d_G_nthIn_9 : decode b_G_nthIn 9 = .ok (.getfield 42, 3) := by decide +kernel
theorem d_G_nthIn_12 : decode b_G_nthIn 12 = .ok (.if_icmp .ge 50, 3) := by decide +kernel
theorem d_G_nthIn_15 : decode b_G_nthIn 15 = .ok (.aload_n 0, 1) := by decide +kernel
theorem d_G_nthIn_16 : decode b_G_nthIn 16 = .ok (.getfield 18, 3) := by decide +kernel
theorem d_G_nthIn_19 : decode b_G_nthIn 19 = .ok (.iload 5, 2) := by decide +kernel
theorem d_G_nthIn_21 : decode b_G_nthIn 21 = .ok (.invokestatic 81, 3) := by decide +kernel
theorem d_G_nthIn_24 : decode b_G_nthIn 24 = .ok (.iload_n 2, 1) := by decide +kernel
theorem d_G_nthIn_25 : decode b_G_nthIn 25 = .ok (.if_icmp .ne 31, 3) := by decide +kernel
theorem d_G_nthIn_28 : decode b_G_nthIn 28 = .ok (.aload_n 0, 1) := by decide +kernel
theorem d_G_nthIn_29 : decode b_G_nthIn 29 = .ok (.getfield 34, 3) := by decide +kernel
theorem d_G_nthIn_32 : decode b_G_nthIn 32 = .ok (.getfield 85, 3) := by decide +kernel
theorem d_G_nthIn_35 : decode b_G_nthIn 35 = .ok (.iload 5, 2) := by decide +kernel
theorem d_G_nthIn_37 : decode b_G_nthIn 37 = .ok (.invokestatic 81, 3) := by decide +kernel
theorem d_G_nthIn_40 : decode b_G_nthIn 40 = .ok (.iload_n 1, 1) := by decide +kernel
theorem d_G_nthIn_41 : decode b_G_nthIn 41 = .ok (.if_icmp .ne 15, 3) := by decide +kernel
theorem d_G_nthIn_44 : decode b_G_nthIn 44 = .ok (.iload 4, 2) := by decide +kernel
theorem d_G_nthIn_46 : decode b_G_nthIn 46 = .ok (.iload_n 3, 1) := by decide +kernel
theorem d_G_nthIn_47 : decode b_G_nthIn 47 = .ok (.if_icmp .ne 6, 3) := by decide +kernel
theorem d_G_nthIn_50 : decode b_G_nthIn 50 = .ok (.iload 5, 2) := by decide +kernel
theorem d_G_nthIn_52 : decode b_G_nthIn 52 = .ok (.ireturn, 1) := by decide +kernel
theorem d_G_nthIn_53 : decode b_G_nthIn 53 = .ok (.iinc 4 1, 3) := by decide +kernel
theorem d_G_nthIn_56 : decode b_G_nthIn 56 = .ok (.iinc 5 1, 3) := by decide +kernel
theorem d_G_nthIn_59 : decode b_G_nthIn 59 = .ok (.goto (-53), 3) := by decide +kernel
theorem d_G_nthIn_62 : decode b_G_nthIn 62 = .ok (.bipush (-2), 2) := by decide +kernel
theorem d_G_nthIn_64 : decode b_G_nthIn 64 = .ok (.ireturn, 1) := by decide +kernel
theorem d_G_drawOne_0 : decode b_G_drawOne 0 = .ok (.aload_n 0, 1) := by decide +kernel
theorem d_G_drawOne_1 : decode b_G_drawOne 1 = .ok (.iload_n 1, 1) := by decide +kernel
theorem d_G_drawOne_2 : decode b_G_drawOne 2 = .ok (.iconst 0, 1) := by decide +kernel
theorem d_G_drawOne_3 : decode b_G_drawOne 3 = .ok (.invokevirtual 88, 3) := by decide +kernel
theorem d_G_drawOne_6 : decode b_G_drawOne 6 = .ok (.istore_n 2, 1) := by decide +kernel
theorem d_G_drawOne_7 : decode b_G_drawOne 7 = .ok (.iload_n 2, 1) := by decide +kernel
theorem d_G_drawOne_8 : decode b_G_drawOne 8 = .ok (.ifCond .gt 10, 3) := by decide +kernel
theorem d_G_drawOne_11 : decode b_G_drawOne 11 = .ok (.aload_n 0, 1) := by decide +kernel
theorem d_G_drawOne_12 : decode b_G_drawOne 12 = .ok (.iload_n 1, 1) := by decide +kernel
theorem d_G_drawOne_13 : decode b_G_drawOne 13 = .ok (.iconst (-1), 1) := by decide +kernel
theorem d_G_drawOne_14 : decode b_G_drawOne 14 = .ok (.invokevirtual 92, 3) := by decide +kernel
theorem d_G_drawOne_17 : decode b_G_drawOne 17 = .ok (.return_, 1) := by decide +kernel
theorem d_G_drawOne_18 : decode b_G_drawOne 18 = .ok (.aload_n 0, 1) := by decide +kernel
theorem d_G_drawOne_19 : decode b_G_drawOne 19 = .ok (.aload_n 0, 1) := by decide +kernel
theorem d_G_drawOne_20 : decode b_G_drawOne 20 = .ok (.getfield 30, 3) := by decide +kernel
theorem d_G_drawOne_23 : decode b_G_drawOne 23 = .ok (.invokestatic 95, 3) := by decide +kernel
theorem d_G_drawOne_26 : decode b_G_drawOne 26 = .ok (.putfield 30, 3) := by decide +kernel
theorem d_G_drawOne_29 : decode b_G_drawOne 29 = .ok (.aload_n 0, 1) := by decide +kernel
theorem d_G_drawOne_30 : decode b_G_drawOne 30 = .ok (.aload_n 0, 1) := by decide +kernel
theorem d_G_drawOne_31 : decode b_G_drawOne 31 = .ok (.iload_n 1, 1) := by decide +kernel
theorem d_G_drawOne_32 : decode b_G_drawOne 32 = .ok (.iconst 0, 1) := by decide +kernel
theorem d_G_drawOne_33 : decode b_G_drawOne 33 = .ok (.iload_n 2, 1) := by decide +kernel
theorem d_G_drawOne_34 : decode b_G_drawOne 34 = .ok (.aload_n 0, 1) := by decide +kernel
theorem d_G_drawOne_35 : decode b_G_drawOne 35 = .ok (.getfield 30, 3) := by decide +kernel
theorem d_G_drawOne_38 : decode b_G_drawOne 38 = .ok (.invokestatic 99, 3) := by decide +kernel
theorem d_G_drawOne_41 : decode b_G_drawOne 41 = .ok (.invokevirtual 102, 3) := by decide +kernel
theorem d_G_drawOne_44 : decode b_G_drawOne 44 = .ok (.iconst 1, 1) := by decide +kernel
theorem d_G_drawOne_45 : decode b_G_drawOne 45 = .ok (.invokevirtual 77, 3) := by decide +kernel
theorem d_G_drawOne_48 : decode b_G_drawOne 48 = .ok (.return_, 1) := by decide +kernel
theorem d_G_changeLife_0 : decode b_G_changeLife 0 = .ok (.aload_n 0, 1) := by decide +kernel
theorem d_G_changeLife_1 : decode b_G_changeLife 1 = .ok (.getfield 9, 3) := by decide +kernel
theorem d_G_changeLife_4 : decode b_G_changeLife 4 = .ok (.iload_n 1, 1) := by decide +kernel
theorem d_G_changeLife_5 : decode b_G_changeLife 5 = .ok (.aload_n 0, 1) := by decide +kernel
theorem d_G_changeLife_6 : decode b_G_changeLife 6 = .ok (.getfield 9, 3) := by decide +kernel
theorem d_G_changeLife_9 : decode b_G_changeLife 9 = .ok (.iload_n 1, 1) := by decide +kernel
theorem d_G_changeLife_10 : decode b_G_changeLife 10 = .ok (.invokestatic 81, 3) := by decide +kernel
theorem d_G_changeLife_13 : decode b_G_changeLife 13 = .ok (.iload_n 2, 1) := by decide +kernel
theorem d_G_changeLife_14 : decode b_G_changeLife 14 = .ok (.iadd, 1) := by decide +kernel
theorem d_G_changeLife_15 : decode b_G_changeLife 15 = .ok (.bipush (-99), 2) := by decide +kernel
theorem d_G_changeLife_17 : decode b_G_changeLife 17 = .ok (.bipush 99, 2) := by decide +kernel
theorem d_G_changeLife_19 : decode b_G_changeLife 19 = .ok (.invokestatic 106, 3) := by decide +kernel
theorem d_G_changeLife_22 : decode b_G_changeLife 22 = .ok (.invokestatic 69, 3) := by decide +kernel
theorem d_G_changeLife_25 : decode b_G_changeLife 25 = .ok (.return_, 1) := by decide +kernel
theorem d_G_worthTo_0 : decode b_G_worthTo 0 = .ok (.aload_n 0, 1) := by decide +kernel
theorem d_G_worthTo_1 : decode b_G_worthTo 1 = .ok (.getfield 9, 3) := by decide +kernel
theorem d_G_worthTo_4 : decode b_G_worthTo 4 = .ok (.iload_n 1, 1) := by decide +kernel
theorem d_G_worthTo_5 : decode b_G_worthTo 5 = .ok (.invokestatic 81, 3) := by decide +kernel
theorem d_G_worthTo_8 : decode b_G_worthTo 8 = .ok (.aload_n 0, 1) := by decide +kernel
theorem d_G_worthTo_9 : decode b_G_worthTo 9 = .ok (.getfield 9, 3) := by decide +kernel
theorem d_G_worthTo_12 : decode b_G_worthTo 12 = .ok (.iconst 1, 1) := by decide +kernel
theorem d_G_worthTo_13 : decode b_G_worthTo 13 = .ok (.iload_n 1, 1) := by decide +kernel
theorem d_G_worthTo_14 : decode b_G_worthTo 14 = .ok (.isub, 1) := by decide +kernel
theorem d_G_worthTo_15 : decode b_G_worthTo 15 = .ok (.invokestatic 81, 3) := by decide +kernel
theorem d_G_worthTo_18 : decode b_G_worthTo 18 = .ok (.isub, 1) := by decide +kernel
theorem d_G_worthTo_19 : decode b_G_worthTo 19 = .ok (.ireturn, 1) := by decide +kernel
theorem d_G_lostBits_0 : decode b_G_lostBits 0 = .ok (.aload_n 0, 1) := by decide +kernel
theorem d_G_lostBits_1 : decode b_G_lostBits 1 = .ok (.getfield 9, 3) := by decide +kernel
theorem d_G_lostBits_4 : decode b_G_lostBits 4 = .ok (.iconst 0, 1) := by decide +kernel
theorem d_G_lostBits_5 : decode b_G_lostBits 5 = .ok (.invokestatic 81, 3) := by decide +kernel
theorem d_G_lostBits_8 : decode b_G_lostBits 8 = .ok (.ifCond .gt 7, 3) := by decide +kernel
theorem d_G_lostBits_11 : decode b_G_lostBits 11 = .ok (.iconst 1, 1) := by decide +kernel
theorem d_G_lostBits_12 : decode b_G_lostBits 12 = .ok (.goto 4, 3) := by decide +kernel
theorem d_G_lostBits_15 : decode b_G_lostBits 15 = .ok (.iconst 0, 1) := by decide +kernel
theorem d_G_lostBits_16 : decode b_G_lostBits 16 = .ok (.aload_n 0, 1) := by decide +kernel
theorem d_G_lostBits_17 : decode b_G_lostBits 17 = .ok (.getfield 9, 3) := by decide +kernel
theorem d_G_lostBits_20 : decode b_G_lostBits 20 = .ok (.iconst 1, 1) := by decide +kernel
theorem d_G_lostBits_21 : decode b_G_lostBits 21 = .ok (.invokestatic 81, 3) := by decide +kernel
theorem d_G_lostBits_24 : decode b_G_lostBits 24 = .ok (.ifCond .gt 7, 3) := by decide +kernel
theorem d_G_lostBits_27 : decode b_G_lostBits 27 = .ok (.iconst 2, 1) := by decide +kernel
theorem d_G_lostBits_28 : decode b_G_lostBits 28 = .ok (.goto 4, 3) := by decide +kernel
theorem d_G_lostBits_31 : decode b_G_lostBits 31 = .ok (.iconst 0, 1) := by decide +kernel
theorem d_G_lostBits_32 : decode b_G_lostBits 32 = .ok (.ior, 1) := by decide +kernel
theorem d_G_lostBits_33 : decode b_G_lostBits 33 = .ok (.ireturn, 1) := by decide +kernel
theorem d_G_isQuiet_0 : decode b_G_isQuiet 0 = .ok (.aload_n 0, 1) := by decide +kernel
theorem d_G_isQuiet_1 : decode b_G_isQuiet 1 = .ok (.getfield 48, 3) := by decide +kernel
theorem d_G_isQuiet_4 : decode b_G_isQuiet 4 = .ok (.ifCond .ne 14, 3) := by decide +kernel
theorem d_G_isQuiet_7 : decode b_G_isQuiet 7 = .ok (.aload_n 0, 1) := by decide +kernel
theorem d_G_isQuiet_8 : decode b_G_isQuiet 8 = .ok (.invokevirtual 109, 3) := by decide +kernel
theorem d_G_isQuiet_11 : decode b_G_isQuiet 11 = .ok (.ifCond .ne 7, 3) := by decide +kernel
theorem d_G_isQuiet_14 : decode b_G_isQuiet 14 = .ok (.iconst 1, 1) := by decide +kernel
theorem d_G_isQuiet_15 : decode b_G_isQuiet 15 = .ok (.goto 4, 3) := by decide +kernel
theorem d_G_isQuiet_18 : decode b_G_isQuiet 18 = .ok (.iconst 0, 1) := by decide +kernel
theorem d_G_isQuiet_19 : decode b_G_isQuiet 19 = .ok (.ireturn, 1) := by decide +kernel
theorem d_Y_init_0 : decode b_Y_init 0 = .ok (.aload_n 0, 1) := by decide +kernel
theorem d_Y_init_1 : decode b_Y_init 1 = .ok (.invokespecial 3, 3) := by decide +kernel
theorem d_Y_init_4 : decode b_Y_init 4 = .ok (.aload_n 0, 1) := by decide +kernel
theorem d_Y_init_5 : decode b_Y_init 5 = .ok (.iconst 4, 1) := by decide +kernel
theorem d_Y_init_6 : decode b_Y_init 6 = .ok (.newarray .int, 2) := by decide +kernel
theorem d_Y_init_8 : decode b_Y_init 8 = .ok (.putfield 9, 3) := by decide +kernel
theorem d_Y_init_11 : decode b_Y_init 11 = .ok (.aload_n 0, 1) := by decide +kernel
theorem d_Y_init_12 : decode b_Y_init 12 = .ok (.bipush 24, 2) := by decide +kernel
theorem d_Y_init_14 : decode b_Y_init 14 = .ok (.newarray .int, 2) := by decide +kernel
theorem d_Y_init_16 : decode b_Y_init 16 = .ok (.putfield 15, 3) := by decide +kernel
theorem d_Y_init_19 : decode b_Y_init 19 = .ok (.aload_n 0, 1) := by decide +kernel
theorem d_Y_init_20 : decode b_Y_init 20 = .ok (.bipush 24, 2) := by decide +kernel
theorem d_Y_init_22 : decode b_Y_init 22 = .ok (.newarray .int, 2) := by decide +kernel
theorem d_Y_init_24 : decode b_Y_init 24 = .ok (.putfield 18, 3) := by decide +kernel
theorem d_Y_init_27 : decode b_Y_init 27 = .ok (.aload_n 0, 1) := by decide +kernel
theorem d_Y_init_28 : decode b_Y_init 28 = .ok (.iconst 4, 1) := by decide +kernel
theorem d_Y_init_29 : decode b_Y_init 29 = .ok (.newarray .int, 2) := by decide +kernel
theorem d_Y_init_31 : decode b_Y_init 31 = .ok (.putfield 21, 3) := by decide +kernel
theorem d_Y_init_34 : decode b_Y_init 34 = .ok (.aload_n 0, 1) := by decide +kernel
theorem d_Y_init_35 : decode b_Y_init 35 = .ok (.aload_n 1, 1) := by decide +kernel
theorem d_Y_init_36 : decode b_Y_init 36 = .ok (.putfield 24, 3) := by decide +kernel
theorem d_Y_init_39 : decode b_Y_init 39 = .ok (.return_, 1) := by decide +kernel
theorem d_Y_workOut_0 : decode b_Y_workOut 0 = .ok (.aload_n 1, 1) := by decide +kernel
theorem d_Y_workOut_1 : decode b_Y_workOut 1 = .ok (.getfield 28, 3) := by decide +kernel
theorem d_Y_workOut_4 : decode b_Y_workOut 4 = .ok (.aload_n 0, 1) := by decide +kernel
theorem d_Y_workOut_5 : decode b_Y_workOut 5 = .ok (.getfield 9, 3) := by decide +kernel
theorem d_Y_workOut_8 : decode b_Y_workOut 8 = .ok (.invokestatic 33, 3) := by decide +kernel
theorem d_Y_workOut_11 : decode b_Y_workOut 11 = .ok (.aload_n 0, 1) := by decide +kernel
theorem d_Y_workOut_12 : decode b_Y_workOut 12 = .ok (.aload_n 1, 1) := by decide +kernel
theorem d_Y_workOut_13 : decode b_Y_workOut 13 = .ok (.invokevirtual 37, 3) := by decide +kernel
theorem d_Y_workOut_16 : decode b_Y_workOut 16 = .ok (.aload_n 0, 1) := by decide +kernel
theorem d_Y_workOut_17 : decode b_Y_workOut 17 = .ok (.iconst 0, 1) := by decide +kernel
theorem d_Y_workOut_18 : decode b_Y_workOut 18 = .ok (.putfield 41, 3) := by decide +kernel
theorem d_Y_workOut_21 : decode b_Y_workOut 21 = .ok (.aload_n 0, 1) := by decide +kernel
theorem d_Y_workOut_22 : decode b_Y_workOut 22 = .ok (.getfield 45, 3) := by decide +kernel
theorem d_Y_workOut_25 : decode b_Y_workOut 25 = .ok (.istore_n 2, 1) := by decide +kernel
theorem d_Y_workOut_26 : decode b_Y_workOut 26 = .ok (.iload_n 2, 1) := by decide +kernel
theorem d_Y_workOut_27 : decode b_Y_workOut 27 = .ok (.ifCond .le 41, 3) := by decide +kernel
theorem d_Y_workOut_30 : decode b_Y_workOut 30 = .ok (.aload_n 0, 1) := by decide +kernel
theorem d_Y_workOut_31 : decode b_Y_workOut 31 = .ok (.invokevirtual 48, 3) := by decide +kernel
theorem d_Y_workOut_34 : decode b_Y_workOut 34 = .ok (.istore_n 3, 1) := by decide +kernel
theorem d_Y_workOut_35 : decode b_Y_workOut 35 = .ok (.aload_n 0, 1) := by decide +kernel
theorem d_Y_workOut_36 : decode b_Y_workOut 36 = .ok (.getfield 15, 3) := by decide +kernel
theorem d_Y_workOut_39 : decode b_Y_workOut 39 = .ok (.aload_n 0, 1) := by decide +kernel
theorem d_Y_workOut_40 : decode b_Y_workOut 40 = .ok (.getfield 41, 3) := by decide +kernel
theorem d_Y_workOut_43 : decode b_Y_workOut 43 = .ok (.iload_n 3, 1) := by decide +kernel
theorem d_Y_workOut_44 : decode b_Y_workOut 44 = .ok (.invokestatic 52, 3) := by decide +kernel
theorem d_Y_workOut_47 : decode b_Y_workOut 47 = .ok (.aload_n 0, 1) := by decide +kernel
theorem d_Y_workOut_48 : decode b_Y_workOut 48 = .ok (.dup, 1) := by decide +kernel
theorem d_Y_workOut_49 : decode b_Y_workOut 49 = .ok (.getfield 41, 3) := by decide +kernel
theorem d_Y_workOut_52 : decode b_Y_workOut 52 = .ok (.iconst 1, 1) := by decide +kernel
theorem d_Y_workOut_53 : decode b_Y_workOut 53 = .ok (.iadd, 1) := by decide +kernel
theorem d_Y_workOut_54 : decode b_Y_workOut 54 = .ok (.putfield 41, 3) := by decide +kernel
theorem d_Y_workOut_57 : decode b_Y_workOut 57 = .ok (.aload_n 0, 1) := by decide +kernel
theorem d_Y_workOut_58 : decode b_Y_workOut 58 = .ok (.iload_n 3, 1) := by decide +kernel
theorem d_Y_workOut_59 : decode b_Y_workOut 59 = .ok (.invokevirtual 56, 3) := by decide +kernel
theorem d_Y_workOut_62 : decode b_Y_workOut 62 = .ok (.iinc 2 (-1), 3) := by decide +kernel
theorem d_Y_workOut_65 : decode b_Y_workOut 65 = .ok (.goto (-39), 3) := by decide +kernel
theorem d_Y_workOut_68 : decode b_Y_workOut 68 = .ok (.return_, 1) := by decide +kernel
theorem d_Y_gather_0 : decode b_Y_gather 0 = .ok (.aload_n 0, 1) := by decide +kernel
theorem d_Y_gather_1 : decode b_Y_gather 1 = .ok (.iconst 0, 1) := by decide +kernel
theorem d_Y_gather_2 : decode b_Y_gather 2 = .ok (.putfield 45, 3) := by decide +kernel
theorem d_Y_gather_5 : decode b_Y_gather 5 = .ok (.iconst 0, 1) := by decide +kernel
theorem d_Y_gather_6 : decode b_Y_gather 6 = .ok (.istore_n 2, 1) := by decide +kernel
theorem d_Y_gather_7 : decode b_Y_gather 7 = .ok (.iload_n 2, 1) := by decide +kernel
theorem d_Y_gather_8 : decode b_Y_gather 8 = .ok (.aload_n 0, 1) := by decide +kernel
theorem d_Y_gather_9 : decode b_Y_gather 9 = .ok (.getfield 21, 3) := by decide +kernel
theorem d_Y_gather_12 : decode b_Y_gather 12 = .ok (.arraylength, 1) := by decide +kernel
theorem d_Y_gather_13 : decode b_Y_gather 13 = .ok (.if_icmp .ge 16, 3) := by decide +kernel
theorem d_Y_gather_16 : decode b_Y_gather 16 = .ok (.aload_n 0, 1) := by decide +kernel
theorem d_Y_gather_17 : decode b_Y_gather 17 = .ok (.getfield 21, 3) := by decide +kernel
theorem d_Y_gather_20 : decode b_Y_gather 20 = .ok (.iload_n 2, 1) := by decide +kernel
theorem d_Y_gather_21 : decode b_Y_gather 21 = .ok (.iconst 0, 1) := by decide +kernel
theorem d_Y_gather_22 : decode b_Y_gather 22 = .ok (.iastore, 1) := by decide +kernel
theorem d_Y_gather_23 : decode b_Y_gather 23 = .ok (.iinc 2 1, 3) := by decide +kernel
theorem d_Y_gather_26 : decode b_Y_gather 26 = .ok (.goto (-19), 3) := by decide +kernel
theorem d_Y_gather_29 : decode b_Y_gather 29 = .ok (.iconst 0, 1) := by decide +kernel
theorem d_Y_gather_30 : decode b_Y_gather 30 = .ok (.istore_n 2, 1) := by decide +kernel
theorem d_Y_gather_31 : decode b_Y_gather 31 = .ok (.iload_n 2, 1) := by decide +kernel
theorem d_Y_gather_32 : decode b_Y_gather 32 = .ok (.aload_n 1, 1) := by decide +kernel
theorem d_Y_gather_33 : decode b_Y_gather 33 = .ok (.getfield 60, 3) := by decide +kernel
theorem d_Y_gather_36 : decode b_Y_gather 36 = .ok (.if_icmp .ge 64, 3) := by decide +kernel
theorem d_Y_gather_39 : decode b_Y_gather 39 = .ok (.aload_n 1, 1) := by decide +kernel
theorem d_Y_gather_40 : decode b_Y_gather 40 = .ok (.getfield 63, 3) := by decide +kernel
theorem d_Y_gather_43 : decode b_Y_gather 43 = .ok (.iload_n 2, 1) := by decide +kernel
theorem d_Y_gather_44 : decode b_Y_gather 44 = .ok (.invokestatic 66, 3) := by decide +kernel
theorem d_Y_gather_47 : decode b_Y_gather 47 = .ok (.istore_n 3, 1) := by decide +kernel
theorem d_Y_gather_48 : decode b_Y_gather 48 = .ok (.aload_n 0, 1) := by decide +kernel
theorem d_Y_gather_49 : decode b_Y_gather 49 = .ok (.getfield 24, 3) := by decide +kernel
theorem d_Y_gather_52 : decode b_Y_gather 52 = .ok (.getfield 70, 3) := by decide +kernel
theorem d_Y_gather_55 : decode b_Y_gather 55 = .ok (.iload_n 3, 1) := by decide +kernel
theorem d_Y_gather_56 : decode b_Y_gather 56 = .ok (.invokestatic 66, 3) := by decide +kernel
theorem d_Y_gather_59 : decode b_Y_gather 59 = .ok (.invokestatic 75, 3) := by decide +kernel
theorem d_Y_gather_62 : decode b_Y_gather 62 = .ok (.iconst 1, 1) := by decide +kernel
theorem d_Y_gather_63 : decode b_Y_gather 63 = .ok (.if_icmp .ne 31, 3) := by decide +kernel
theorem d_Y_gather_66 : decode b_Y_gather 66 = .ok (.aload_n 0, 1) := by decide +kernel
theorem d_Y_gather_67 : decode b_Y_gather 67 = .ok (.getfield 18, 3) := by decide +kernel
theorem d_Y_gather_70 : decode b_Y_gather 70 = .ok (.aload_n 0, 1) := by decide +kernel
theorem d_Y_gather_71 : decode b_Y_gather 71 = .ok (.getfield 45, 3) := by decide +kernel
theorem d_Y_gather_74 : decode b_Y_gather 74 = .ok (.iload_n 3, 1) := by decide +kernel
theorem d_Y_gather_75 : decode b_Y_gather 75 = .ok (.invokestatic 52, 3) := by decide +kernel
theorem d_Y_gather_78 : decode b_Y_gather 78 = .ok (.aload_n 0, 1) := by decide +kernel
theorem d_Y_gather_79 : decode b_Y_gather 79 = .ok (.dup, 1) := by decide +kernel
theorem d_Y_gather_80 : decode b_Y_gather 80 = .ok (.getfield 45, 3) := by decide +kernel
theorem d_Y_gather_83 : decode b_Y_gather 83 = .ok (.iconst 1, 1) := by decide +kernel
theorem d_Y_gather_84 : decode b_Y_gather 84 = .ok (.iadd, 1) := by decide +kernel
theorem d_Y_gather_85 : decode b_Y_gather 85 = .ok (.putfield 45, 3) := by decide +kernel
theorem d_Y_gather_88 : decode b_Y_gather 88 = .ok (.aload_n 0, 1) := by decide +kernel
theorem d_Y_gather_89 : decode b_Y_gather 89 = .ok (.iload_n 3, 1) := by decide +kernel
theorem d_Y_gather_90 : decode b_Y_gather 90 = .ok (.iconst 1, 1) := by decide +kernel
theorem d_Y_gather_91 : decode b_Y_gather 91 = .ok (.invokevirtual 79, 3) := by decide +kernel
theorem d_Y_gather_94 : decode b_Y_gather 94 = .ok (.iinc 2 1, 3) := by decide +kernel
theorem d_Y_gather_97 : decode b_Y_gather 97 = .ok (.goto (-66), 3) := by decide +kernel
theorem d_Y_gather_100 : decode b_Y_gather 100 = .ok (.return_, 1) := by decide +kernel
theorem d_Y_countOn_0 : decode b_Y_countOn 0 = .ok (.aload_n 0, 1) := by decide +kernel
theorem d_Y_countOn_1 : decode b_Y_countOn 1 = .ok (.getfield 24, 3) := by decide +kernel
theorem d_Y_countOn_4 : decode b_Y_countOn 4 = .ok (.getfield 83, 3) := by decide +kernel
theorem d_Y_countOn_7 : decode b_Y_countOn 7 = .ok (.iload_n 1, 1) := by decide +kernel
theorem d_Y_countOn_8 : decode b_Y_countOn 8 = .ok (.invokestatic 66, 3) := by decide +kernel
theorem d_Y_countOn_11 : decode b_Y_countOn 11 = .ok (.istore_n 3, 1) := by decide +kernel
theorem d_Y_countOn_12 : decode b_Y_countOn 12 = .ok (.aload_n 0, 1) := by decide +kernel
theorem d_Y_countOn_13 : decode b_Y_countOn 13 = .ok (.getfield 21, 3) := by decide +kernel
theorem d_Y_countOn_16 : decode b_Y_countOn 16 = .ok (.iload_n 3, 1) := by decide +kernel
theorem d_Y_countOn_17 : decode b_Y_countOn 17 = .ok (.aload_n 0, 1) := by decide +kernel
theorem d_Y_countOn_18 : decode b_Y_countOn 18 = .ok (.getfield 21, 3) := by decide +kernel
theorem d_Y_countOn_21 : decode b_Y_countOn 21 = .ok (.iload_n 3, 1) := by decide +kernel
theorem d_Y_countOn_22 : decode b_Y_countOn 22 = .ok (.invokestatic 66, 3) := by decide +kernel
theorem d_Y_countOn_25 : decode b_Y_countOn 25 = .ok (.iload_n 2, 1) := by decide +kernel
theorem d_Y_countOn_26 : decode b_Y_countOn 26 = .ok (.iadd, 1) := by decide +kernel
theorem d_Y_countOn_27 : decode b_Y_countOn 27 = .ok (.invokestatic 52, 3) := by decide +kernel
theorem d_Y_countOn_30 : decode b_Y_countOn 30 = .ok (.return_, 1) := by decide +kernel
theorem d_Y_takeNext_0 : decode b_Y_takeNext 0 = .ok (.iconst 0, 1) := by decide +kernel
theorem d_Y_takeNext_1 : decode b_Y_takeNext 1 = .ok (.istore_n 1, 1) := by decide +kernel
theorem d_Y_takeNext_2 : decode b_Y_takeNext 2 = .ok (.iload_n 1, 1) := by decide +kernel
theorem d_Y_takeNext_3 : decode b_Y_takeNext 3 = .ok (.aload_n 0, 1) := by decide +kernel
theorem d_Y_takeNext_4 : decode b_Y_takeNext 4 = .ok (.getfield 45, 3) := by decide +kernel
theorem d_Y_takeNext_7 : decode b_Y_takeNext 7 = .ok (.if_icmp .ge 24, 3) := by decide +kernel
theorem d_Y_takeNext_10 : decode b_Y_takeNext 10 = .ok (.aload_n 0, 1) := by decide +kernel
theorem d_Y_takeNext_11 : decode b_Y_takeNext 11 = .ok (.aload_n 0, 1) := by decide +kernel
theorem d_Y_takeNext_12 : decode b_Y_takeNext 12 = .ok (.getfield 18, 3) := by decide +kernel
theorem d_Y_takeNext_15 : decode b_Y_takeNext 15 = .ok (.iload_n 1, 1) := by decide +kernel
theorem d_Y_takeNext_16 : decode b_Y_takeNext 16 = .ok (.invokestatic 66, 3) := by decide +kernel
theorem d_Y_takeNext_19 : decode b_Y_takeNext 19 = .ok (.invokevirtual 86, 3) := by decide +kernel
theorem d_Y_takeNext_22 : decode b_Y_takeNext 22 = .ok (.ifCond .eq 9, 3) := by decide +kernel
theorem d_Y_takeNext_25 : decode b_Y_takeNext 25 = .ok (.iinc 1 1, 3) := by decide +kernel
theorem d_Y_takeNext_28 : decode b_Y_takeNext 28 = .ok (.goto (-26), 3) := by decide +kernel
theorem d_Y_takeNext_31 : decode b_Y_takeNext 31 = .ok (.iload_n 1, 1) := by decide +kernel
theorem d_Y_takeNext_32 : decode b_Y_takeNext 32 = .ok (.aload_n 0, 1) := by decide +kernel
theorem d_Y_takeNext_33 : decode b_Y_takeNext 33 = .ok (.getfield 45, 3) := by decide +kernel
theorem d_Y_takeNext_36 : decode b_Y_takeNext 36 = .ok (.if_icmp .lt 5, 3) := by decide +kernel
theorem d_Y_takeNext_39 : decode b_Y_takeNext 39 = .ok (.iconst 0, 1) := by decide +kernel
theorem d_Y_takeNext_40 : decode b_Y_takeNext 40 = .ok (.istore_n 1, 1) := by decide +kernel
theorem d_Y_takeNext_41 : decode b_Y_takeNext 41 = .ok (.aload_n 0, 1) := by decide +kernel
theorem d_Y_takeNext_42 : decode b_Y_takeNext 42 = .ok (.getfield 18, 3) := by decide +kernel
theorem d_Y_takeNext_45 : decode b_Y_takeNext 45 = .ok (.iload_n 1, 1) := by decide +kernel
theorem d_Y_takeNext_46 : decode b_Y_takeNext 46 = .ok (.invokestatic 66, 3) := by decide +kernel
theorem d_Y_takeNext_49 : decode b_Y_takeNext 49 = .ok (.istore_n 2, 1) := by decide +kernel
theorem d_Y_takeNext_50 : decode b_Y_takeNext 50 = .ok (.iload_n 1, 1) := by decide +kernel
theorem d_Y_takeNext_51 : decode b_Y_takeNext 51 = .ok (.iconst 1, 1) := by decide +kernel
theorem d_Y_takeNext_52 : decode b_Y_takeNext 52 = .ok (.iadd, 1) := by decide +kernel
theorem d_Y_takeNext_53 : decode b_Y_takeNext 53 = .ok (.istore_n 3, 1) := by decide +kernel
theorem d_Y_takeNext_54 : decode b_Y_takeNext 54 = .ok (.iload_n 3, 1) := by decide +kernel
theorem d_Y_takeNext_55 : decode b_Y_takeNext 55 = .ok (.aload_n 0, 1) := by decide +kernel
theorem d_Y_takeNext_56 : decode b_Y_takeNext 56 = .ok (.getfield 45, 3) := by decide +kernel
theorem d_Y_takeNext_59 : decode b_Y_takeNext 59 = .ok (.if_icmp .ge 27, 3) := by decide +kernel
theorem d_Y_takeNext_62 : decode b_Y_takeNext 62 = .ok (.aload_n 0, 1) := by decide +kernel
theorem d_Y_takeNext_63 : decode b_Y_takeNext 63 = .ok (.getfield 18, 3) := by decide +kernel
theorem d_Y_takeNext_66 : decode b_Y_takeNext 66 = .ok (.iload_n 3, 1) := by decide +kernel
theorem d_Y_takeNext_67 : decode b_Y_takeNext 67 = .ok (.iconst 1, 1) := by decide +kernel
theorem d_Y_takeNext_68 : decode b_Y_takeNext 68 = .ok (.isub, 1) := by decide +kernel
theorem d_Y_takeNext_69 : decode b_Y_takeNext 69 = .ok (.aload_n 0, 1) := by decide +kernel
theorem d_Y_takeNext_70 : decode b_Y_takeNext 70 = .ok (.getfield 18, 3) := by decide +kernel
theorem d_Y_takeNext_73 : decode b_Y_takeNext 73 = .ok (.iload_n 3, 1) := by decide +kernel
theorem d_Y_takeNext_74 : decode b_Y_takeNext 74 = .ok (.invokestatic 66, 3) := by decide +kernel
theorem d_Y_takeNext_77 : decode b_Y_takeNext 77 = .ok (.invokestatic 52, 3) := by decide +kernel
theorem d_Y_takeNext_80 : decode b_Y_takeNext 80 = .ok (.iinc 3 1, 3) := by decide +kernel
theorem d_Y_takeNext_83 : decode b_Y_takeNext 83 = .ok (.goto (-29), 3) := by decide +kernel
theorem d_Y_takeNext_86 : decode b_Y_takeNext 86 = .ok (.aload_n 0, 1) := by decide +kernel
theorem d_Y_takeNext_87 : decode b_Y_takeNext 87 = .ok (.dup, 1) := by decide +kernel
theorem d_Y_takeNext_88 : decode b_Y_takeNext 88 = .ok (.getfield 45, 3) := by decide +kernel
theorem d_Y_takeNext_91 : decode b_Y_takeNext 91 = .ok (.iconst 1, 1) := by decide +kernel
theorem d_Y_takeNext_92 : decode b_Y_takeNext 92 = .ok (.isub, 1) := by decide +kernel
theorem d_Y_takeNext_93 : decode b_Y_takeNext 93 = .ok (.putfield 45, 3) := by decide +kernel
theorem d_Y_takeNext_96 : decode b_Y_takeNext 96 = .ok (.aload_n 0, 1) := by decide +kernel
theorem d_Y_takeNext_97 : decode b_Y_takeNext 97 = .ok (.iload_n 2, 1) := by decide +kernel
theorem d_Y_takeNext_98 : decode b_Y_takeNext 98 = .ok (.iconst (-1), 1) := by decide +kernel
theorem d_Y_takeNext_99 : decode b_Y_takeNext 99 = .ok (.invokevirtual 79, 3) := by decide +kernel
theorem d_Y_takeNext_102 : decode b_Y_takeNext 102 = .ok (.iload_n 2, 1) := by decide +kernel
theorem d_Y_takeNext_103 : decode b_Y_takeNext 103 = .ok (.ireturn, 1) := by decide +kernel
theorem d_Y_waits_0 : decode b_Y_waits 0 = .ok (.aload_n 0, 1) := by decide +kernel
theorem d_Y_waits_1 : decode b_Y_waits 1 = .ok (.getfield 24, 3) := by decide +kernel
theorem d_Y_waits_4 : decode b_Y_waits 4 = .ok (.getfield 70, 3) := by decide +kernel
theorem d_Y_waits_7 : decode b_Y_waits 7 = .ok (.iload_n 1, 1) := by decide +kernel
theorem d_Y_waits_8 : decode b_Y_waits 8 = .ok (.invokestatic 66, 3) := by decide +kernel
theorem d_Y_waits_11 : decode b_Y_waits 11 = .ok (.invokestatic 90, 3) := by decide +kernel
theorem d_Y_waits_14 : decode b_Y_waits 14 = .ok (.ifCond .ne 5, 3) := by decide +kernel
theorem d_Y_waits_17 : decode b_Y_waits 17 = .ok (.iconst 0, 1) := by decide +kernel
theorem d_Y_waits_18 : decode b_Y_waits 18 = .ok (.ireturn, 1) := by decide +kernel
theorem d_Y_waits_19 : decode b_Y_waits 19 = .ok (.aload_n 0, 1) := by decide +kernel
theorem d_Y_waits_20 : decode b_Y_waits 20 = .ok (.getfield 24, 3) := by decide +kernel
theorem d_Y_waits_23 : decode b_Y_waits 23 = .ok (.getfield 93, 3) := by decide +kernel
theorem d_Y_waits_26 : decode b_Y_waits 26 = .ok (.iload_n 1, 1) := by decide +kernel
theorem d_Y_waits_27 : decode b_Y_waits 27 = .ok (.invokestatic 66, 3) := by decide +kernel
theorem d_Y_waits_30 : decode b_Y_waits 30 = .ok (.istore_n 2, 1) := by decide +kernel
theorem d_Y_waits_31 : decode b_Y_waits 31 = .ok (.aload_n 0, 1) := by decide +kernel
theorem d_Y_waits_32 : decode b_Y_waits 32 = .ok (.getfield 24, 3) := by decide +kernel
theorem d_Y_waits_35 : decode b_Y_waits 35 = .ok (.getfield 83, 3) := by decide +kernel
theorem d_Y_waits_38 : decode b_Y_waits 38 = .ok (.iload_n 1, 1) := by decide +kernel
theorem d_Y_waits_39 : decode b_Y_waits 39 = .ok (.invokestatic 66, 3) := by decide +kernel
theorem d_Y_waits_42 : decode b_Y_waits 42 = .ok (.iload_n 2, 1) := by decide +kernel
theorem d_Y_waits_43 : decode b_Y_waits 43 = .ok (.if_icmp .ne 7, 3) := by decide +kernel
theorem d_Y_waits_46 : decode b_Y_waits 46 = .ok (.iconst 1, 1) := by decide +kernel
theorem d_Y_waits_47 : decode b_Y_waits 47 = .ok (.goto 4, 3) := by decide +kernel
theorem d_Y_waits_50 : decode b_Y_waits 50 = .ok (.iconst 0, 1) := by decide +kernel
theorem d_Y_waits_51 : decode b_Y_waits 51 = .ok (.istore_n 3, 1) := by decide +kernel
theorem d_Y_waits_52 : decode b_Y_waits 52 = .ok (.aload_n 0, 1) := by decide +kernel
theorem d_Y_waits_53 : decode b_Y_waits 53 = .ok (.getfield 21, 3) := by decide +kernel
theorem d_Y_waits_56 : decode b_Y_waits 56 = .ok (.iload_n 2, 1) := by decide +kernel
theorem d_Y_waits_57 : decode b_Y_waits 57 = .ok (.invokestatic 66, 3) := by decide +kernel
theorem d_Y_waits_60 : decode b_Y_waits 60 = .ok (.iload_n 3, 1) := by decide +kernel
theorem d_Y_waits_61 : decode b_Y_waits 61 = .ok (.if_icmp .le 7, 3) := by decide +kernel
theorem d_Y_waits_64 : decode b_Y_waits 64 = .ok (.iconst 1, 1) := by decide +kernel
theorem d_Y_waits_65 : decode b_Y_waits 65 = .ok (.goto 4, 3) := by decide +kernel
theorem d_Y_waits_68 : decode b_Y_waits 68 = .ok (.iconst 0, 1) := by decide +kernel
theorem d_Y_waits_69 : decode b_Y_waits 69 = .ok (.ireturn, 1) := by decide +kernel
theorem d_Y_use_0 : decode b_Y_use 0 = .ok (.aload_n 0, 1) := by decide +kernel
theorem d_Y_use_1 : decode b_Y_use 1 = .ok (.getfield 24, 3) := by decide +kernel
theorem d_Y_use_4 : decode b_Y_use 4 = .ok (.getfield 83, 3) := by decide +kernel
theorem d_Y_use_7 : decode b_Y_use 7 = .ok (.iload_n 1, 1) := by decide +kernel
theorem d_Y_use_8 : decode b_Y_use 8 = .ok (.invokestatic 66, 3) := by decide +kernel
theorem d_Y_use_11 : decode b_Y_use 11 = .ok (.istore_n 2, 1) := by decide +kernel
theorem d_Y_use_12 : decode b_Y_use 12 = .ok (.aload_n 0, 1) := by decide +kernel
theorem d_Y_use_13 : decode b_Y_use 13 = .ok (.getfield 9, 3) := by decide +kernel
theorem d_Y_use_16 : decode b_Y_use 16 = .ok (.iload_n 2, 1) := by decide +kernel
theorem d_Y_use_17 : decode b_Y_use 17 = .ok (.invokestatic 66, 3) := by decide +kernel
theorem d_Y_use_20 : decode b_Y_use 20 = .ok (.istore_n 3, 1) := by decide +kernel
theorem d_Y_use_21 : decode b_Y_use 21 = .ok (.aload_n 0, 1) := by decide +kernel
theorem d_Y_use_22 : decode b_Y_use 22 = .ok (.getfield 9, 3) := by decide +kernel
theorem d_Y_use_25 : decode b_Y_use 25 = .ok (.aload_n 0, 1) := by decide +kernel
theorem d_Y_use_26 : decode b_Y_use 26 = .ok (.getfield 24, 3) := by decide +kernel
theorem d_Y_use_29 : decode b_Y_use 29 = .ok (.getfield 93, 3) := by decide +kernel
theorem d_Y_use_32 : decode b_Y_use 32 = .ok (.iload_n 1, 1) := by decide +kernel
theorem d_Y_use_33 : decode b_Y_use 33 = .ok (.invokestatic 66, 3) := by decide +kernel
theorem d_Y_use_36 : decode b_Y_use 36 = .ok (.invokestatic 66, 3) := by decide +kernel
theorem d_Y_use_39 : decode b_Y_use 39 = .ok (.istore 4, 2) := by decide +kernel
theorem d_Y_use_41 : decode b_Y_use 41 = .ok (.aload_n 0, 1) := by decide +kernel
theorem d_Y_use_42 : decode b_Y_use 42 = .ok (.getfield 9, 3) := by decide +kernel
theorem d_Y_use_45 : decode b_Y_use 45 = .ok (.iload_n 2, 1) := by decide +kernel
theorem d_Y_use_46 : decode b_Y_use 46 = .ok (.aload_n 0, 1) := by decide +kernel
theorem d_Y_use_47 : decode b_Y_use 47 = .ok (.getfield 24, 3) := by decide +kernel
theorem d_Y_use_50 : decode b_Y_use 50 = .ok (.getfield 70, 3) := by decide +kernel
theorem d_Y_use_53 : decode b_Y_use 53 = .ok (.iload_n 1, 1) := by decide +kernel
theorem d_Y_use_54 : decode b_Y_use 54 = .ok (.invokestatic 66, 3) := by decide +kernel
theorem d_Y_use_57 : decode b_Y_use 57 = .ok (.aload_n 0, 1) := by decide +kernel
theorem d_Y_use_58 : decode b_Y_use 58 = .ok (.getfield 24, 3) := by decide +kernel
theorem d_Y_use_61 : decode b_Y_use 61 = .ok (.getfield 96, 3) := by decide +kernel
theorem d_Y_use_64 : decode b_Y_use 64 = .ok (.iload_n 1, 1) := by decide +kernel
theorem d_Y_use_65 : decode b_Y_use 65 = .ok (.invokestatic 66, 3) := by decide +kernel
theorem d_Y_use_68 : decode b_Y_use 68 = .ok (.iload_n 3, 1) := by decide +kernel
theorem d_Y_use_69 : decode b_Y_use 69 = .ok (.iload 4, 2) := by decide +kernel
theorem d_Y_use_71 : decode b_Y_use 71 = .ok (.invokestatic 99, 3) := by decide +kernel
theorem d_Y_use_74 : decode b_Y_use 74 = .ok (.invokestatic 52, 3) := by decide +kernel
theorem d_Y_use_77 : decode b_Y_use 77 = .ok (.return_, 1) := by decide +kernel
theorem d_O_init_0 : decode b_O_init 0 = .ok (.aload_n 0, 1) := by decide +kernel
theorem d_O_init_1 : decode b_O_init 1 = .ok (.invokespecial 3, 3) := by decide +kernel
theorem d_O_init_4 : decode b_O_init 4 = .ok (.aload_n 0, 1) := by decide +kernel
theorem d_O_init_5 : decode b_O_init 5 = .ok (.bipush 40, 2) := by decide +kernel
theorem d_O_init_7 : decode b_O_init 7 = .ok (.newarray .int, 2) := by decide +kernel
theorem d_O_init_9 : decode b_O_init 9 = .ok (.putfield 9, 3) := by decide +kernel
theorem d_O_init_12 : decode b_O_init 12 = .ok (.aload_n 0, 1) := by decide +kernel
theorem d_O_init_13 : decode b_O_init 13 = .ok (.bipush 40, 2) := by decide +kernel
theorem d_O_init_15 : decode b_O_init 15 = .ok (.newarray .int, 2) := by decide +kernel
theorem d_O_init_17 : decode b_O_init 17 = .ok (.putfield 15, 3) := by decide +kernel
theorem d_O_init_20 : decode b_O_init 20 = .ok (.return_, 1) := by decide +kernel
theorem d_O_empty_0 : decode b_O_empty 0 = .ok (.aload_n 0, 1) := by decide +kernel
theorem d_O_empty_1 : decode b_O_empty 1 = .ok (.iconst 0, 1) := by decide +kernel
theorem d_O_empty_2 : decode b_O_empty 2 = .ok (.putfield 18, 3) := by decide +kernel
theorem d_O_empty_5 : decode b_O_empty 5 = .ok (.aload_n 0, 1) := by decide +kernel
theorem d_O_empty_6 : decode b_O_empty 6 = .ok (.iconst 0, 1) := by decide +kernel
theorem d_O_empty_7 : decode b_O_empty 7 = .ok (.putfield 22, 3) := by decide +kernel
theorem d_O_empty_10 : decode b_O_empty 10 = .ok (.return_, 1) := by decide +kernel
theorem d_O_addThing_0 : decode b_O_addThing 0 = .ok (.aload_n 0, 1) := by decide +kernel
theorem d_O_addThing_1 : decode b_O_addThing 1 = .ok (.getfield 18, 3) := by decide +kernel
theorem d_O_addThing_4 : decode b_O_addThing 4 = .ok (.bipush 40, 2) := by decide +kernel
theorem d_O_addThing_6 : decode b_O_addThing 6 = .ok (.if_icmp .ge 25, 3) := by decide +kernel
theorem d_O_addThing_9 : decode b_O_addThing 9 = .ok (.aload_n 0, 1) := by decide +kernel
theorem d_O_addThing_10 : decode b_O_addThing 10 = .ok (.getfield 9, 3) := by decide +kernel
theorem d_O_addThing_13 : decode b_O_addThing 13 = .ok (.aload_n 0, 1) := by decide +kernel
theorem d_O_addThing_14 : decode b_O_addThing 14 = .ok (.getfield 18, 3) := by decide +kernel
theorem d_O_addThing_17 : decode b_O_addThing 17 = .ok (.iload_n 1, 1) := by decide +kernel
theorem d_O_addThing_18 : decode b_O_addThing 18 = .ok (.invokestatic 25, 3) := by decide +kernel
theorem d_O_addThing_21 : decode b_O_addThing 21 = .ok (.aload_n 0, 1) := by decide +kernel
theorem d_O_addThing_22 : decode b_O_addThing 22 = .ok (.dup, 1) := by decide +kernel
theorem d_O_addThing_23 : decode b_O_addThing 23 = .ok (.getfield 18, 3) := by decide +kernel
theorem d_O_addThing_26 : decode b_O_addThing 26 = .ok (.iconst 1, 1) := by decide +kernel
theorem d_O_addThing_27 : decode b_O_addThing 27 = .ok (.iadd, 1) := by decide +kernel
theorem d_O_addThing_28 : decode b_O_addThing 28 = .ok (.putfield 18, 3) := by decide +kernel
theorem d_O_addThing_31 : decode b_O_addThing 31 = .ok (.return_, 1) := by decide +kernel
theorem d_O_addEvent_0 : decode b_O_addEvent 0 = .ok (.aload_n 0, 1) := by decide +kernel
theorem d_O_addEvent_1 : decode b_O_addEvent 1 = .ok (.getfield 22, 3) := by decide +kernel
theorem d_O_addEvent_4 : decode b_O_addEvent 4 = .ok (.bipush 40, 2) := by decide +kernel
theorem d_O_addEvent_6 : decode b_O_addEvent 6 = .ok (.if_icmp .ge 25, 3) := by decide +kernel
theorem d_O_addEvent_9 : decode b_O_addEvent 9 = .ok (.aload_n 0, 1) := by decide +kernel
theorem d_O_addEvent_10 : decode b_O_addEvent 10 = .ok (.getfield 15, 3) := by decide +kernel
theorem d_O_addEvent_13 : decode b_O_addEvent 13 = .ok (.aload_n 0, 1) := by decide +kernel
theorem d_O_addEvent_14 : decode b_O_addEvent 14 = .ok (.getfield 22, 3) := by decide +kernel
theorem d_O_addEvent_17 : decode b_O_addEvent 17 = .ok (.iload_n 1, 1) := by decide +kernel
theorem d_O_addEvent_18 : decode b_O_addEvent 18 = .ok (.invokestatic 25, 3) := by decide +kernel
theorem d_O_addEvent_21 : decode b_O_addEvent 21 = .ok (.aload_n 0, 1) := by decide +kernel
theorem d_O_addEvent_22 : decode b_O_addEvent 22 = .ok (.dup, 1) := by decide +kernel
theorem d_O_addEvent_23 : decode b_O_addEvent 23 = .ok (.getfield 22, 3) := by decide +kernel
theorem d_O_addEvent_26 : decode b_O_addEvent 26 = .ok (.iconst 1, 1) := by decide +kernel
theorem d_O_addEvent_27 : decode b_O_addEvent 27 = .ok (.iadd, 1) := by decide +kernel
theorem d_O_addEvent_28 : decode b_O_addEvent 28 = .ok (.putfield 22, 3) := by decide +kernel
theorem d_O_addEvent_31 : decode b_O_addEvent 31 = .ok (.return_, 1) := by decide +kernel
theorem d_P_init_0 : decode b_P_init 0 = .ok (.aload_n 0, 1) := by decide +kernel
theorem d_P_init_1 : decode b_P_init 1 = .ok (.invokespecial 3, 3) := by decide +kernel
theorem d_P_init_4 : decode b_P_init 4 = .ok (.aload_n 0, 1) := by decide +kernel
theorem d_P_init_5 : decode b_P_init 5 = .ok (.sipush 201, 3) := by decide +kernel
theorem d_P_init_8 : decode b_P_init 8 = .ok (.newarray .int, 2) := by decide +kernel
theorem d_P_init_10 : decode b_P_init 10 = .ok (.putfield 9, 3) := by decide +kernel
theorem d_P_init_13 : decode b_P_init 13 = .ok (.aload_n 0, 1) := by decide +kernel
theorem d_P_init_14 : decode b_P_init 14 = .ok (.sipush 201, 3) := by decide +kernel
theorem d_P_init_17 : decode b_P_init 17 = .ok (.newarray .int, 2) := by decide +kernel
theorem d_P_init_19 : decode b_P_init 19 = .ok (.putfield 15, 3) := by decide +kernel
theorem d_P_init_22 : decode b_P_init 22 = .ok (.aload_n 0, 1) := by decide +kernel
theorem d_P_init_23 : decode b_P_init 23 = .ok (.sipush 201, 3) := by decide +kernel
theorem d_P_init_26 : decode b_P_init 26 = .ok (.newarray .int, 2) := by decide +kernel
theorem d_P_init_28 : decode b_P_init 28 = .ok (.putfield 18, 3) := by decide +kernel
theorem d_P_init_31 : decode b_P_init 31 = .ok (.aload_n 0, 1) := by decide +kernel
theorem d_P_init_32 : decode b_P_init 32 = .ok (.sipush 201, 3) := by decide +kernel
theorem d_P_init_35 : decode b_P_init 35 = .ok (.newarray .int, 2) := by decide +kernel
theorem d_P_init_37 : decode b_P_init 37 = .ok (.putfield 21, 3) := by decide +kernel
theorem d_P_init_40 : decode b_P_init 40 = .ok (.aload_n 0, 1) := by decide +kernel
theorem d_P_init_41 : decode b_P_init 41 = .ok (.sipush 3216, 3) := by decide +kernel
theorem d_P_init_44 : decode b_P_init 44 = .ok (.newarray .long, 2) := by decide +kernel
theorem d_P_init_46 : decode b_P_init 46 = .ok (.putfield 24, 3) := by decide +kernel
theorem d_P_init_49 : decode b_P_init 49 = .ok (.return_, 1) := by decide +kernel
theorem d_P_keep_0 : decode b_P_keep 0 = .ok (.aload_n 0, 1) := by decide +kernel
theorem d_P_keep_1 : decode b_P_keep 1 = .ok (.getfield 9, 3) := by decide +kernel
theorem d_P_keep_4 : decode b_P_keep 4 = .ok (.iload_n 1, 1) := by decide +kernel
theorem d_P_keep_5 : decode b_P_keep 5 = .ok (.aload_n 2, 1) := by decide +kernel
theorem d_P_keep_6 : decode b_P_keep 6 = .ok (.getfield 28, 3) := by decide +kernel
theorem d_P_keep_9 : decode b_P_keep 9 = .ok (.invokestatic 33, 3) := by decide +kernel
theorem d_P_keep_12 : decode b_P_keep 12 = .ok (.aload_n 0, 1) := by decide +kernel
theorem d_P_keep_13 : decode b_P_keep 13 = .ok (.getfield 15, 3) := by decide +kernel
theorem d_P_keep_16 : decode b_P_keep 16 = .ok (.iload_n 1, 1) := by decide +kernel
theorem d_P_keep_17 : decode b_P_keep 17 = .ok (.aload_n 2, 1) := by decide +kernel
theorem d_P_keep_18 : decode b_P_keep 18 = .ok (.getfield 37, 3) := by decide +kernel
theorem d_P_keep_21 : decode b_P_keep 21 = .ok (.iconst 0, 1) := by decide +kernel
theorem d_P_keep_22 : decode b_P_keep 22 = .ok (.invokestatic 40, 3) := by decide +kernel
theorem d_P_keep_25 : decode b_P_keep 25 = .ok (.invokestatic 33, 3) := by decide +kernel
theorem d_P_keep_28 : decode b_P_keep 28 = .ok (.aload_n 0, 1) := by decide +kernel
theorem d_P_keep_29 : decode b_P_keep 29 = .ok (.getfield 18, 3) := by decide +kernel
theorem d_P_keep_32 : decode b_P_keep 32 = .ok (.iload_n 1, 1) := by decide +kernel
theorem d_P_keep_33 : decode b_P_keep 33 = .ok (.aload_n 2, 1) := by decide +kernel
theorem d_P_keep_34 : decode b_P_keep 34 = .ok (.getfield 37, 3) := by decide +kernel
theorem d_P_keep_37 : decode b_P_keep 37 = .ok (.iconst 1, 1) := by decide +kernel
theorem d_P_keep_38 : decode b_P_keep 38 = .ok (.invokestatic 40, 3) := by decide +kernel
theorem d_P_keep_41 : decode b_P_keep 41 = .ok (.invokestatic 33, 3) := by decide +kernel
theorem d_P_keep_44 : decode b_P_keep 44 = .ok (.aload_n 0, 1) := by decide +kernel
theorem d_P_keep_45 : decode b_P_keep 45 = .ok (.getfield 21, 3) := by decide +kernel
theorem d_P_keep_48 : decode b_P_keep 48 = .ok (.iload_n 1, 1) := by decide +kernel
theorem d_P_keep_49 : decode b_P_keep 49 = .ok (.aload_n 2, 1) := by decide +kernel
theorem d_P_keep_50 : decode b_P_keep 50 = .ok (.getfield 44, 3) := by decide +kernel
theorem d_P_keep_53 : decode b_P_keep 53 = .ok (.invokestatic 33, 3) := by decide +kernel
theorem d_P_keep_56 : decode b_P_keep 56 = .ok (.iconst 0, 1) := by decide +kernel
theorem d_P_keep_57 : decode b_P_keep 57 = .ok (.istore_n 3, 1) := by decide +kernel
theorem d_P_keep_58 : decode b_P_keep 58 = .ok (.iload_n 3, 1) := by decide +kernel
theorem d_P_keep_59 : decode b_P_keep 59 = .ok (.aload_n 2, 1) := by decide +kernel
theorem d_P_keep_60 : decode b_P_keep 60 = .ok (.getfield 44, 3) := by decide +kernel
theorem d_P_keep_63 : decode b_P_keep 63 = .ok (.if_icmp .ge 75, 3) := by decide +kernel
theorem d_P_keep_66 : decode b_P_keep 66 = .ok (.iload_n 1, 1) := by decide +kernel
theorem d_P_keep_67 : decode b_P_keep 67 = .ok (.bipush 16, 2) := by decide +kernel
theorem d_P_keep_69 : decode b_P_keep 69 = .ok (.imul, 1) := by decide +kernel
theorem d_P_keep_70 : decode b_P_keep 70 = .ok (.iload_n 3, 1) := by decide +kernel
theorem d_P_keep_71 : decode b_P_keep 71 = .ok (.iconst 4, 1) := by decide +kernel
theorem d_P_keep_72 : decode b_P_keep 72 = .ok (.idiv, 1) := by decide +kernel
theorem d_P_keep_73 : decode b_P_keep 73 = .ok (.iadd, 1) := by decide +kernel
theorem d_P_keep_74 : decode b_P_keep 74 = .ok (.istore 4, 2) := by decide +kernel
theorem d_P_keep_76 : decode b_P_keep 76 = .ok (.iload 4, 2) := by decide +kernel
theorem d_P_keep_78 : decode b_P_keep 78 = .ok (.ifCond .lt 54, 3) := by decide +kernel
theorem d_P_keep_81 : decode b_P_keep 81 = .ok (.iload 4, 2) := by decide +kernel
theorem d_P_keep_83 : decode b_P_keep 83 = .ok (.aload_n 0, 1) := by decide +kernel
theorem d_P_keep_84 : decode b_P_keep 84 = .ok (.getfield 24, 3) := by decide +kernel
theorem d_P_keep_87 : decode b_P_keep 87 = .ok (.arraylength, 1) := by decide +kernel
theorem d_P_keep_88 : decode b_P_keep 88 = .ok (.if_icmp .ge 44, 3) := by decide +kernel
theorem d_P_keep_91 : decode b_P_keep 91 = .ok (.iload_n 3, 1) := by decide +kernel
theorem d_P_keep_92 : decode b_P_keep 92 = .ok (.iconst 4, 1) := by decide +kernel
theorem d_P_keep_93 : decode b_P_keep 93 = .ok (.irem, 1) := by decide +kernel
theorem d_P_keep_94 : decode b_P_keep 94 = .ok (.ifCond .ne 7, 3) := by decide +kernel
theorem d_P_keep_97 : decode b_P_keep 97 = .ok (.lconst 0, 1) := by decide +kernel
theorem d_P_keep_98 : decode b_P_keep 98 = .ok (.goto 10, 3) := by decide +kernel
theorem d_P_keep_101 : decode b_P_keep 101 = .ok (.aload_n 0, 1) := by decide +kernel
theorem d_P_keep_102 : decode b_P_keep 102 = .ok (.getfield 24, 3) := by decide +kernel
theorem d_P_keep_105 : decode b_P_keep 105 = .ok (.iload 4, 2) := by decide +kernel
theorem d_P_keep_107 : decode b_P_keep 107 = .ok (.laload, 1) := by decide +kernel
theorem d_P_keep_108 : decode b_P_keep 108 = .ok (.lstore 5, 2) := by decide +kernel
theorem d_P_keep_110 : decode b_P_keep 110 = .ok (.aload_n 0, 1) := by decide +kernel
theorem d_P_keep_111 : decode b_P_keep 111 = .ok (.getfield 24, 3) := by decide +kernel
theorem d_P_keep_114 : decode b_P_keep 114 = .ok (.iload 4, 2) := by decide +kernel
theorem d_P_keep_116 : decode b_P_keep 116 = .ok (.lload 5, 2) := by decide +kernel
theorem d_P_keep_118 : decode b_P_keep 118 = .ok (.bipush 16, 2) := by decide +kernel
theorem d_P_keep_120 : decode b_P_keep 120 = .ok (.lshl, 1) := by decide +kernel
theorem d_P_keep_121 : decode b_P_keep 121 = .ok (.aload_n 2, 1) := by decide +kernel
theorem d_P_keep_122 : decode b_P_keep 122 = .ok (.getfield 47, 3) := by decide +kernel
theorem d_P_keep_125 : decode b_P_keep 125 = .ok (.iload_n 3, 1) := by decide +kernel
theorem d_P_keep_126 : decode b_P_keep 126 = .ok (.invokestatic 40, 3) := by decide +kernel
theorem d_P_keep_129 : decode b_P_keep 129 = .ok (.i2l, 1) := by decide +kernel
theorem d_P_keep_130 : decode b_P_keep 130 = .ok (.lor, 1) := by decide +kernel
theorem d_P_keep_131 : decode b_P_keep 131 = .ok (.lastore, 1) := by decide +kernel
theorem d_P_keep_132 : decode b_P_keep 132 = .ok (.iinc 3 1, 3) := by decide +kernel
theorem d_P_keep_135 : decode b_P_keep 135 = .ok (.goto (-77), 3) := by decide +kernel
theorem d_P_keep_138 : decode b_P_keep 138 = .ok (.return_, 1) := by decide +kernel
theorem d_P_sameAs_0 : decode b_P_sameAs 0 = .ok (.iload_n 1, 1) := by decide +kernel
theorem d_P_sameAs_1 : decode b_P_sameAs 1 = .ok (.iconst 1, 1) := by decide +kernel
theorem d_P_sameAs_2 : decode b_P_sameAs 2 = .ok (.isub, 1) := by decide +kernel
theorem d_P_sameAs_3 : decode b_P_sameAs 3 = .ok (.istore_n 2, 1) := by decide +kernel
theorem d_P_sameAs_4 : decode b_P_sameAs 4 = .ok (.iload_n 2, 1) := by decide +kernel
theorem d_P_sameAs_5 : decode b_P_sameAs 5 = .ok (.ifCond .lt 96, 3) := by decide +kernel
theorem d_P_sameAs_8 : decode b_P_sameAs 8 = .ok (.aload_n 0, 1) := by decide +kernel
theorem d_P_sameAs_9 : decode b_P_sameAs 9 = .ok (.getfield 9, 3) := by decide +kernel
theorem d_P_sameAs_12 : decode b_P_sameAs 12 = .ok (.iload_n 2, 1) := by decide +kernel
theorem d_P_sameAs_13 : decode b_P_sameAs 13 = .ok (.invokestatic 40, 3) := by decide +kernel
theorem d_P_sameAs_16 : decode b_P_sameAs 16 = .ok (.aload_n 0, 1) := by decide +kernel
theorem d_P_sameAs_17 : decode b_P_sameAs 17 = .ok (.getfield 9, 3) := by decide +kernel
theorem d_P_sameAs_20 : decode b_P_sameAs 20 = .ok (.iload_n 1, 1) := by decide +kernel
theorem d_P_sameAs_21 : decode b_P_sameAs 21 = .ok (.invokestatic 40, 3) := by decide +kernel
theorem d_P_sameAs_24 : decode b_P_sameAs 24 = .ok (.if_icmp .ne 77, 3) := by decide +kernel
theorem d_P_sameAs_27 : decode b_P_sameAs 27 = .ok (.aload_n 0, 1) := by decide +kernel
theorem d_P_sameAs_28 : decode b_P_sameAs 28 = .ok (.getfield 15, 3) := by decide +kernel
theorem d_P_sameAs_31 : decode b_P_sameAs 31 = .ok (.iload_n 2, 1) := by decide +kernel
theorem d_P_sameAs_32 : decode b_P_sameAs 32 = .ok (.invokestatic 40, 3) := by decide +kernel
theorem d_P_sameAs_35 : decode b_P_sameAs 35 = .ok (.aload_n 0, 1) := by decide +kernel
theorem d_P_sameAs_36 : decode b_P_sameAs 36 = .ok (.getfield 15, 3) := by decide +kernel
theorem d_P_sameAs_39 : decode b_P_sameAs 39 = .ok (.iload_n 1, 1) := by decide +kernel
theorem d_P_sameAs_40 : decode b_P_sameAs 40 = .ok (.invokestatic 40, 3) := by decide +kernel
theorem d_P_sameAs_43 : decode b_P_sameAs 43 = .ok (.if_icmp .ne 52, 3) := by decide +kernel
theorem d_P_sameAs_46 : decode b_P_sameAs 46 = .ok (.aload_n 0, 1) := by decide +kernel
theorem d_P_sameAs_47 : decode b_P_sameAs 47 = .ok (.getfield 18, 3) := by decide +kernel
theorem d_P_sameAs_50 : decode b_P_sameAs 50 = .ok (.iload_n 2, 1) := by decide +kernel
theorem d_P_sameAs_51 : decode b_P_sameAs 51 = .ok (.invokestatic 40, 3) := by decide +kernel
theorem d_P_sameAs_54 : decode b_P_sameAs 54 = .ok (.aload_n 0, 1) := by decide +kernel
theorem d_P_sameAs_55 : decode b_P_sameAs 55 = .ok (.getfield 18, 3) := by decide +kernel
theorem d_P_sameAs_58 : decode b_P_sameAs 58 = .ok (.iload_n 1, 1) := by decide +kernel
theorem d_P_sameAs_59 : decode b_P_sameAs 59 = .ok (.invokestatic 40, 3) := by decide +kernel
theorem d_P_sameAs_62 : decode b_P_sameAs 62 = .ok (.if_icmp .ne 33, 3) := by decide +kernel
theorem d_P_sameAs_65 : decode b_P_sameAs 65 = .ok (.aload_n 0, 1) := by decide +kernel
theorem d_P_sameAs_66 : decode b_P_sameAs 66 = .ok (.getfield 21, 3) := by decide +kernel
theorem d_P_sameAs_69 : decode b_P_sameAs 69 = .ok (.iload_n 2, 1) := by decide +kernel
theorem d_P_sameAs_70 : decode b_P_sameAs 70 = .ok (.invokestatic 40, 3) := by decide +kernel
theorem d_P_sameAs_73 : decode b_P_sameAs 73 = .ok (.aload_n 0, 1) := by decide +kernel
theorem d_P_sameAs_74 : decode b_P_sameAs 74 = .ok (.getfield 21, 3) := by decide +kernel
theorem d_P_sameAs_77 : decode b_P_sameAs 77 = .ok (.iload_n 1, 1) := by decide +kernel
theorem d_P_sameAs_78 : decode b_P_sameAs 78 = .ok (.invokestatic 40, 3) := by decide +kernel
theorem d_P_sameAs_81 : decode b_P_sameAs 81 = .ok (.if_icmp .ne 14, 3) := by decide +kernel
theorem d_P_sameAs_84 : decode b_P_sameAs 84 = .ok (.aload_n 0, 1) := by decide +kernel
theorem d_P_sameAs_85 : decode b_P_sameAs 85 = .ok (.iload_n 2, 1) := by decide +kernel
theorem d_P_sameAs_86 : decode b_P_sameAs 86 = .ok (.iload_n 1, 1) := by decide +kernel
theorem d_P_sameAs_87 : decode b_P_sameAs 87 = .ok (.invokevirtual 50, 3) := by decide +kernel
theorem d_P_sameAs_90 : decode b_P_sameAs 90 = .ok (.ifCond .eq 5, 3) := by decide +kernel
theorem d_P_sameAs_93 : decode b_P_sameAs 93 = .ok (.iload_n 2, 1) := by decide +kernel
theorem d_P_sameAs_94 : decode b_P_sameAs 94 = .ok (.ireturn, 1) := by decide +kernel
theorem d_P_sameAs_95 : decode b_P_sameAs 95 = .ok (.iinc 2 (-1), 3) := by decide +kernel
theorem d_P_sameAs_98 : decode b_P_sameAs 98 = .ok (.goto (-94), 3) := by decide +kernel
theorem d_P_sameAs_101 : decode b_P_sameAs 101 = .ok (.bipush (-2), 2) := by decide +kernel
theorem d_P_sameAs_103 : decode b_P_sameAs 103 = .ok (.ireturn, 1) := by decide +kernel
theorem d_P_samePiles_0 : decode b_P_samePiles 0 = .ok (.aload_n 0, 1) := by decide +kernel
theorem d_P_samePiles_1 : decode b_P_samePiles 1 = .ok (.getfield 21, 3) := by decide +kernel
theorem d_P_samePiles_4 : decode b_P_samePiles 4 = .ok (.iload_n 1, 1) := by decide +kernel
theorem d_P_samePiles_5 : decode b_P_samePiles 5 = .ok (.invokestatic 40, 3) := by decide +kernel
theorem d_P_samePiles_8 : decode b_P_samePiles 8 = .ok (.iconst 3, 1) := by decide +kernel
theorem d_P_samePiles_9 : decode b_P_samePiles 9 = .ok (.iadd, 1) := by decide +kernel
theorem d_P_samePiles_10 : decode b_P_samePiles 10 = .ok (.iconst 4, 1) := by decide +kernel
theorem d_P_samePiles_11 : decode b_P_samePiles 11 = .ok (.idiv, 1) := by decide +kernel
theorem d_P_samePiles_12 : decode b_P_samePiles 12 = .ok (.istore_n 3, 1) := by decide +kernel
theorem d_P_samePiles_13 : decode b_P_samePiles 13 = .ok (.iload_n 1, 1) := by decide +kernel
theorem d_P_samePiles_14 : decode b_P_samePiles 14 = .ok (.bipush 16, 2) := by decide +kernel
theorem d_P_samePiles_16 : decode b_P_samePiles 16 = .ok (.imul, 1) := by decide +kernel
theorem d_P_samePiles_17 : decode b_P_samePiles 17 = .ok (.istore 4, 2) := by decide +kernel
theorem d_P_samePiles_19 : decode b_P_samePiles 19 = .ok (.iload_n 2, 1) := by decide +kernel
theorem d_P_samePiles_20 : decode b_P_samePiles 20 = .ok (.bipush 16, 2) := by decide +kernel
theorem d_P_samePiles_22 : decode b_P_samePiles 22 = .ok (.imul, 1) := by decide +kernel
theorem d_P_samePiles_23 : decode b_P_samePiles 23 = .ok (.istore 5, 2) := by decide +kernel
theorem d_P_samePiles_25 : decode b_P_samePiles 25 = .ok (.iload 4, 2) := by decide +kernel
theorem d_P_samePiles_27 : decode b_P_samePiles 27 = .ok (.ifCond .lt 32, 3) := by decide +kernel
theorem d_P_samePiles_30 : decode b_P_samePiles 30 = .ok (.iload 5, 2) := by decide +kernel
theorem d_P_samePiles_32 : decode b_P_samePiles 32 = .ok (.ifCond .lt 27, 3) := by decide +kernel
theorem d_P_samePiles_35 : decode b_P_samePiles 35 = .ok (.iload 4, 2) := by decide +kernel
theorem d_P_samePiles_37 : decode b_P_samePiles 37 = .ok (.iload_n 3, 1) := by decide +kernel
theorem d_P_samePiles_38 : decode b_P_samePiles 38 = .ok (.iadd, 1) := by decide +kernel
theorem d_P_samePiles_39 : decode b_P_samePiles 39 = .ok (.aload_n 0, 1) := by decide +kernel
theorem d_P_samePiles_40 : decode b_P_samePiles 40 = .ok (.getfield 24, 3) := by decide +kernel
theorem d_P_samePiles_43 : decode b_P_samePiles 43 = .ok (.arraylength, 1) := by decide +kernel
theorem d_P_samePiles_44 : decode b_P_samePiles 44 = .ok (.if_icmp .gt 15, 3) := by decide +kernel
theorem d_P_samePiles_47 : decode b_P_samePiles 47 = .ok (.iload 5, 2) := by decide +kernel
theorem d_P_samePiles_49 : decode b_P_samePiles 49 = .ok (.iload_n 3, 1) := by decide +kernel
theorem d_P_samePiles_50 : decode b_P_samePiles 50 = .ok (.iadd, 1) := by decide +kernel
theorem d_P_samePiles_51 : decode b_P_samePiles 51 = .ok (.aload_n 0, 1) := by decide +kernel
theorem d_P_samePiles_52 : decode b_P_samePiles 52 = .ok (.getfield 24, 3) := by decide +kernel
theorem d_P_samePiles_55 : decode b_P_samePiles 55 = .ok (.arraylength, 1) := by decide +kernel
theorem d_P_samePiles_56 : decode b_P_samePiles 56 = .ok (.if_icmp .le 5, 3) := by decide +kernel
theorem d_P_samePiles_59 : decode b_P_samePiles 59 = .ok (.iconst 0, 1) := by decide +kernel
theorem d_P_samePiles_60 : decode b_P_samePiles 60 = .ok (.ireturn, 1) := by decide +kernel
theorem d_P_samePiles_61 : decode b_P_samePiles 61 = .ok (.iconst 0, 1) := by decide +kernel
theorem d_P_samePiles_62 : decode b_P_samePiles 62 = .ok (.istore 6, 2) := by decide +kernel
theorem d_P_samePiles_64 : decode b_P_samePiles 64 = .ok (.iload 6, 2) := by decide +kernel
theorem d_P_samePiles_66 : decode b_P_samePiles 66 = .ok (.iload_n 3, 1) := by decide +kernel
theorem d_P_samePiles_67 : decode b_P_samePiles 67 = .ok (.if_icmp .ge 35, 3) := by decide +kernel
theorem d_P_samePiles_70 : decode b_P_samePiles 70 = .ok (.aload_n 0, 1) := by decide +kernel
theorem d_P_samePiles_71 : decode b_P_samePiles 71 = .ok (.getfield 24, 3) := by decide +kernel
theorem d_P_samePiles_74 : decode b_P_samePiles 74 = .ok (.iload 4, 2) := by decide +kernel
theorem d_P_samePiles_76 : decode b_P_samePiles 76 = .ok (.iload 6, 2) := by decide +kernel
theorem d_P_samePiles_78 : decode b_P_samePiles 78 = .ok (.iadd, 1) := by decide +kernel
theorem d_P_samePiles_79 : decode b_P_samePiles 79 = .ok (.laload, 1) := by decide +kernel
theorem d_P_samePiles_80 : decode b_P_samePiles 80 = .ok (.aload_n 0, 1) := by decide +kernel
theorem d_P_samePiles_81 : decode b_P_samePiles 81 = .ok (.getfield 24, 3) := by decide +kernel
theorem d_P_samePiles_84 : decode b_P_samePiles 84 = .ok (.iload 5, 2) := by decide +kernel
theorem d_P_samePiles_86 : decode b_P_samePiles 86 = .ok (.iload 6, 2) := by decide +kernel
theorem d_P_samePiles_88 : decode b_P_samePiles 88 = .ok (.iadd, 1) := by decide +kernel
theorem d_P_samePiles_89 : decode b_P_samePiles 89 = .ok (.laload, 1) := by decide +kernel
theorem d_P_samePiles_90 : decode b_P_samePiles 90 = .ok (.lcmp, 1) := by decide +kernel
theorem d_P_samePiles_91 : decode b_P_samePiles 91 = .ok (.ifCond .eq 5, 3) := by decide +kernel
theorem d_P_samePiles_94 : decode b_P_samePiles 94 = .ok (.iconst 0, 1) := by decide +kernel
theorem d_P_samePiles_95 : decode b_P_samePiles 95 = .ok (.ireturn, 1) := by decide +kernel
theorem d_P_samePiles_96 : decode b_P_samePiles 96 = .ok (.iinc 6 1, 3) := by decide +kernel
theorem d_P_samePiles_99 : decode b_P_samePiles 99 = .ok (.goto (-35), 3) := by decide +kernel
theorem d_P_samePiles_102 : decode b_P_samePiles 102 = .ok (.iconst 1, 1) := by decide +kernel
theorem d_P_samePiles_103 : decode b_P_samePiles 103 = .ok (.ireturn, 1) := by decide +kernel
theorem d_R_init_0 : decode b_R_init 0 = .ok (.aload_n 0, 1) := by decide +kernel
theorem d_R_init_1 : decode b_R_init 1 = .ok (.invokespecial 3, 3) := by decide +kernel
theorem d_R_init_4 : decode b_R_init 4 = .ok (.aload_n 0, 1) := by decide +kernel
theorem d_R_init_5 : decode b_R_init 5 = .ok (.new 9, 3) := by decide +kernel
theorem d_R_init_8 : decode b_R_init 8 = .ok (.dup, 1) := by decide +kernel
theorem d_R_init_9 : decode b_R_init 9 = .ok (.invokespecial 11, 3) := by decide +kernel
theorem d_R_init_12 : decode b_R_init 12 = .ok (.putfield 12, 3) := by decide +kernel
theorem d_R_init_15 : decode b_R_init 15 = .ok (.aload_n 0, 1) := by decide +kernel
theorem d_R_init_16 : decode b_R_init 16 = .ok (.aload_n 1, 1) := by decide +kernel
theorem d_R_init_17 : decode b_R_init 17 = .ok (.putfield 18, 3) := by decide +kernel
theorem d_R_init_20 : decode b_R_init 20 = .ok (.aload_n 0, 1) := by decide +kernel
theorem d_R_init_21 : decode b_R_init 21 = .ok (.new 22, 3) := by decide +kernel
theorem d_R_init_24 : decode b_R_init 24 = .ok (.dup, 1) := by decide +kernel
theorem d_R_init_25 : decode b_R_init 25 = .ok (.aload_n 1, 1) := by decide +kernel
theorem d_R_init_26 : decode b_R_init 26 = .ok (.invokespecial 24, 3) := by decide +kernel
theorem d_R_init_29 : decode b_R_init 29 = .ok (.putfield 27, 3) := by decide +kernel
theorem d_R_init_32 : decode b_R_init 32 = .ok (.aload_n 0, 1) := by decide +kernel
theorem d_R_init_33 : decode b_R_init 33 = .ok (.new 31, 3) := by decide +kernel
theorem d_R_init_36 : decode b_R_init 36 = .ok (.dup, 1) := by decide +kernel
theorem d_R_init_37 : decode b_R_init 37 = .ok (.aload_n 1, 1) := by decide +kernel
theorem d_R_init_38 : decode b_R_init 38 = .ok (.invokespecial 33, 3) := by decide +kernel
theorem d_R_init_41 : decode b_R_init 41 = .ok (.putfield 34, 3) := by decide +kernel
theorem d_R_init_44 : decode b_R_init 44 = .ok (.return_, 1) := by decide +kernel
theorem d_R_runPile_0 : decode b_R_runPile 0 = .ok (.aload_n 0, 1) := by decide +kernel
theorem d_R_runPile_1 : decode b_R_runPile 1 = .ok (.bipush (-2), 2) := by decide +kernel
theorem d_R_runPile_3 : decode b_R_runPile 3 = .ok (.putfield 38, 3) := by decide +kernel
theorem d_R_runPile_6 : decode b_R_runPile 6 = .ok (.aload_n 0, 1) := by decide +kernel
theorem d_R_runPile_7 : decode b_R_runPile 7 = .ok (.bipush (-2), 2) := by decide +kernel
theorem d_R_runPile_9 : decode b_R_runPile 9 = .ok (.putfield 42, 3) := by decide +kernel
theorem d_R_runPile_12 : decode b_R_runPile 12 = .ok (.aload_n 0, 1) := by decide +kernel
theorem d_R_runPile_13 : decode b_R_runPile 13 = .ok (.iconst 3, 1) := by decide +kernel
theorem d_R_runPile_14 : decode b_R_runPile 14 = .ok (.putfield 45, 3) := by decide +kernel
theorem d_R_runPile_17 : decode b_R_runPile 17 = .ok (.iconst 0, 1) := by decide +kernel
theorem d_R_runPile_18 : decode b_R_runPile 18 = .ok (.istore_n 3, 1) := by decide +kernel
theorem d_R_runPile_19 : decode b_R_runPile 19 = .ok (.iload_n 3, 1) := by decide +kernel
theorem d_R_runPile_20 : decode b_R_runPile 20 = .ok (.sipush 200, 3) := by decide +kernel
theorem d_R_runPile_23 : decode b_R_runPile 23 = .ok (.if_icmp .gt 29, 3) := by decide +kernel
theorem d_R_runPile_26 : decode b_R_runPile 26 = .ok (.aload_n 0, 1) := by decide +kernel
theorem d_R_runPile_27 : decode b_R_runPile 27 = .ok (.iload_n 3, 1) := by decide +kernel
theorem d_R_runPile_28 : decode b_R_runPile 28 = .ok (.putfield 48, 3) := by decide +kernel
theorem d_R_runPile_31 : decode b_R_runPile 31 = .ok (.aload_n 0, 1) := by decide +kernel
theorem d_R_runPile_32 : decode b_R_runPile 32 = .ok (.aload_n 1, 1) := by decide +kernel
theorem d_R_runPile_33 : decode b_R_runPile 33 = .ok (.invokevirtual 51, 3) := by decide +kernel
theorem d_R_runPile_36 : decode b_R_runPile 36 = .ok (.ifCond .eq 4, 3) := by decide +kernel
theorem d_R_runPile_39 : decode b_R_runPile 39 = .ok (.return_, 1) := by decide +kernel
theorem d_R_runPile_40 : decode b_R_runPile 40 = .ok (.aload_n 0, 1) := by decide +kernel
theorem d_R_runPile_41 : decode b_R_runPile 41 = .ok (.aload_n 1, 1) := by decide +kernel
theorem d_R_runPile_42 : decode b_R_runPile 42 = .ok (.aload_n 2, 1) := by decide +kernel
theorem d_R_runPile_43 : decode b_R_runPile 43 = .ok (.invokevirtual 55, 3) := by decide +kernel
theorem d_R_runPile_46 : decode b_R_runPile 46 = .ok (.iinc 3 1, 3) := by decide +kernel
theorem d_R_runPile_49 : decode b_R_runPile 49 = .ok (.goto (-30), 3) := by decide +kernel
theorem d_R_runPile_52 : decode b_R_runPile 52 = .ok (.return_, 1) := by decide +kernel
theorem d_R_hasEnded_0 : decode b_R_hasEnded 0 = .ok (.aload_n 1, 1) := by decide +kernel
theorem d_R_hasEnded_1 : decode b_R_hasEnded 1 = .ok (.invokevirtual 59, 3) := by decide +kernel
theorem d_R_hasEnded_4 : decode b_R_hasEnded 4 = .ok (.ifCond .eq 10, 3) := by decide +kernel
theorem d_R_hasEnded_7 : decode b_R_hasEnded 7 = .ok (.aload_n 0, 1) := by decide +kernel
theorem d_R_hasEnded_8 : decode b_R_hasEnded 8 = .ok (.iconst 1, 1) := by decide +kernel
theorem d_R_hasEnded_9 : decode b_R_hasEnded 9 = .ok (.putfield 45, 3) := by decide +kernel
theorem d_R_hasEnded_12 : decode b_R_hasEnded 12 = .ok (.iconst 1, 1) := by decide +kernel
theorem d_R_hasEnded_13 : decode b_R_hasEnded 13 = .ok (.ireturn, 1) := by decide +kernel
theorem d_R_hasEnded_14 : decode b_R_hasEnded 14 = .ok (.aload_n 1, 1) := by decide +kernel
theorem d_R_hasEnded_15 : decode b_R_hasEnded 15 = .ok (.getfield 65, 3) := by decide +kernel
theorem d_R_hasEnded_18 : decode b_R_hasEnded 18 = .ok (.ifCond .ne 10, 3) := by decide +kernel
theorem d_R_hasEnded_21 : decode b_R_hasEnded 21 = .ok (.aload_n 0, 1) := by decide +kernel
theorem d_R_hasEnded_22 : decode b_R_hasEnded 22 = .ok (.iconst 0, 1) := by decide +kernel
theorem d_R_hasEnded_23 : decode b_R_hasEnded 23 = .ok (.putfield 45, 3) := by decide +kernel
theorem d_R_hasEnded_26 : decode b_R_hasEnded 26 = .ok (.iconst 1, 1) := by decide +kernel
theorem d_R_hasEnded_27 : decode b_R_hasEnded 27 = .ok (.ireturn, 1) := by decide +kernel
theorem d_R_hasEnded_28 : decode b_R_hasEnded 28 = .ok (.aload_n 0, 1) := by decide +kernel
theorem d_R_hasEnded_29 : decode b_R_hasEnded 29 = .ok (.getfield 12, 3) := by decide +kernel
theorem d_R_hasEnded_32 : decode b_R_hasEnded 32 = .ok (.aload_n 0, 1) := by decide +kernel
theorem d_R_hasEnded_33 : decode b_R_hasEnded 33 = .ok (.getfield 48, 3) := by decide +kernel
theorem d_R_hasEnded_36 : decode b_R_hasEnded 36 = .ok (.aload_n 1, 1) := by decide +kernel
theorem d_R_hasEnded_37 : decode b_R_hasEnded 37 = .ok (.invokevirtual 68, 3) := by decide +kernel
theorem d_R_hasEnded_40 : decode b_R_hasEnded 40 = .ok (.aload_n 0, 1) := by decide +kernel
theorem d_R_hasEnded_41 : decode b_R_hasEnded 41 = .ok (.aload_n 0, 1) := by decide +kernel
theorem d_R_hasEnded_42 : decode b_R_hasEnded 42 = .ok (.getfield 12, 3) := by decide +kernel
theorem d_R_hasEnded_45 : decode b_R_hasEnded 45 = .ok (.aload_n 0, 1) := by decide +kernel
theorem d_R_hasEnded_46 : decode b_R_hasEnded 46 = .ok (.getfield 48, 3) := by decide +kernel
theorem d_R_hasEnded_49 : decode b_R_hasEnded 49 = .ok (.invokevirtual 72, 3) := by decide +kernel
theorem d_R_hasEnded_52 : decode b_R_hasEnded 52 = .ok (.putfield 38, 3) := by decide +kernel
theorem d_R_hasEnded_55 : decode b_R_hasEnded 55 = .ok (.aload_n 0, 1) := by decide +kernel
theorem d_R_hasEnded_56 : decode b_R_hasEnded 56 = .ok (.getfield 38, 3) := by decide +kernel
theorem d_R_hasEnded_59 : decode b_R_hasEnded 59 = .ok (.ifCond .lt 23, 3) := by decide +kernel
theorem d_R_hasEnded_62 : decode b_R_hasEnded 62 = .ok (.aload_n 0, 1) := by decide +kernel
theorem d_R_hasEnded_63 : decode b_R_hasEnded 63 = .ok (.iconst 2, 1) := by decide +kernel
theorem d_R_hasEnded_64 : decode b_R_hasEnded 64 = .ok (.putfield 45, 3) := by decide +kernel
theorem d_R_hasEnded_67 : decode b_R_hasEnded 67 = .ok (.aload_n 0, 1) := by decide +kernel
theorem d_R_hasEnded_68 : decode b_R_hasEnded 68 = .ok (.aload_n 0, 1) := by decide +kernel
theorem d_R_hasEnded_69 : decode b_R_hasEnded 69 = .ok (.getfield 48, 3) := by decide +kernel
theorem d_R_hasEnded_72 : decode b_R_hasEnded 72 = .ok (.aload_n 0, 1) := by decide +kernel
theorem d_R_hasEnded_73 : decode b_R_hasEnded 73 = .ok (.getfield 38, 3) := by decide +kernel
theorem d_R_hasEnded_76 : decode b_R_hasEnded 76 = .ok (.isub, 1) := by decide +kernel
theorem d_R_hasEnded_77 : decode b_R_hasEnded 77 = .ok (.putfield 42, 3) := by decide +kernel
theorem d_R_hasEnded_80 : decode b_R_hasEnded 80 = .ok (.iconst 1, 1) := by decide +kernel
theorem d_R_hasEnded_81 : decode b_R_hasEnded 81 = .ok (.ireturn, 1) := by decide +kernel
theorem d_R_hasEnded_82 : decode b_R_hasEnded 82 = .ok (.aload_n 0, 1) := by decide +kernel
theorem d_R_hasEnded_83 : decode b_R_hasEnded 83 = .ok (.getfield 48, 3) := by decide +kernel
theorem d_R_hasEnded_86 : decode b_R_hasEnded 86 = .ok (.sipush 200, 3) := by decide +kernel
theorem d_R_hasEnded_89 : decode b_R_hasEnded 89 = .ok (.if_icmp .lt 7, 3) := by decide +kernel
theorem d_R_hasEnded_92 : decode b_R_hasEnded 92 = .ok (.iconst 1, 1) := by decide +kernel
theorem d_R_hasEnded_93 : decode b_R_hasEnded 93 = .ok (.goto 4, 3) := by decide +kernel
theorem d_R_hasEnded_96 : decode b_R_hasEnded 96 = .ok (.iconst 0, 1) := by decide +kernel
theorem d_R_hasEnded_97 : decode b_R_hasEnded 97 = .ok (.ireturn, 1) := by decide +kernel
theorem d_R_resolveTop_0 : decode b_R_resolveTop 0 = .ok (.aload_n 1, 1) := by decide +kernel
theorem d_R_resolveTop_1 : decode b_R_resolveTop 1 = .ok (.invokevirtual 76, 3) := by decide +kernel
theorem d_R_resolveTop_4 : decode b_R_resolveTop 4 = .ok (.istore_n 3, 1) := by decide +kernel
theorem d_R_resolveTop_5 : decode b_R_resolveTop 5 = .ok (.iload_n 3, 1) := by decide +kernel
theorem d_R_resolveTop_6 : decode b_R_resolveTop 6 = .ok (.ifCond .ge 4, 3) := by decide +kernel
theorem d_R_resolveTop_9 : decode b_R_resolveTop 9 = .ok (.return_, 1) := by decide +kernel
theorem d_R_resolveTop_10 : decode b_R_resolveTop 10 = .ok (.aload_n 2, 1) := by decide +kernel
theorem d_R_resolveTop_11 : decode b_R_resolveTop 11 = .ok (.iload_n 3, 1) := by decide +kernel
theorem d_R_resolveTop_12 : decode b_R_resolveTop 12 = .ok (.invokevirtual 79, 3) := by decide +kernel
theorem d_R_resolveTop_15 : decode b_R_resolveTop 15 = .ok (.iload_n 3, 1) := by decide +kernel
theorem d_R_resolveTop_16 : decode b_R_resolveTop 16 = .ok (.sipush 10000, 3) := by decide +kernel
theorem d_R_resolveTop_19 : decode b_R_resolveTop 19 = .ok (.if_icmp .lt 22, 3) := by decide +kernel
theorem d_R_resolveTop_22 : decode b_R_resolveTop 22 = .ok (.aload_n 0, 1) := by decide +kernel
theorem d_R_resolveTop_23 : decode b_R_resolveTop 23 = .ok (.getfield 34, 3) := by decide +kernel
theorem d_R_resolveTop_26 : decode b_R_resolveTop 26 = .ok (.iload_n 3, 1) := by decide +kernel
theorem d_R_resolveTop_27 : decode b_R_resolveTop 27 = .ok (.sipush 10000, 3) := by decide +kernel
theorem d_R_resolveTop_30 : decode b_R_resolveTop 30 = .ok (.isub, 1) := by decide +kernel
theorem d_R_resolveTop_31 : decode b_R_resolveTop 31 = .ok (.invokevirtual 85, 3) := by decide +kernel
theorem d_R_resolveTop_34 : decode b_R_resolveTop 34 = .ok (.aload_n 0, 1) := by decide +kernel
theorem d_R_resolveTop_35 : decode b_R_resolveTop 35 = .ok (.aload_n 1, 1) := by decide +kernel
theorem d_R_resolveTop_36 : decode b_R_resolveTop 36 = .ok (.aload_n 2, 1) := by decide +kernel
theorem d_R_resolveTop_37 : decode b_R_resolveTop 37 = .ok (.invokevirtual 88, 3) := by decide +kernel
theorem d_R_resolveTop_40 : decode b_R_resolveTop 40 = .ok (.return_, 1) := by decide +kernel
theorem d_R_resolveTop_41 : decode b_R_resolveTop 41 = .ok (.aload_n 0, 1) := by decide +kernel
theorem d_R_resolveTop_42 : decode b_R_resolveTop 42 = .ok (.getfield 18, 3) := by decide +kernel
theorem d_R_resolveTop_45 : decode b_R_resolveTop 45 = .ok (.getfield 91, 3) := by decide +kernel
theorem d_R_resolveTop_48 : decode b_R_resolveTop 48 = .ok (.iload_n 3, 1) := by decide +kernel
theorem d_R_resolveTop_49 : decode b_R_resolveTop 49 = .ok (.invokestatic 97, 3) := by decide +kernel
theorem d_R_resolveTop_52 : decode b_R_resolveTop 52 = .ok (.istore 4, 2) := by decide +kernel
theorem d_R_resolveTop_54 : decode b_R_resolveTop 54 = .ok (.iload 4, 2) := by decide +kernel
theorem d_R_resolveTop_56 : decode b_R_resolveTop 56 = .ok (.invokestatic 101, 3) := by decide +kernel
theorem d_R_resolveTop_59 : decode b_R_resolveTop 59 = .ok (.iconst 3, 1) := by decide +kernel
theorem d_R_resolveTop_60 : decode b_R_resolveTop 60 = .ok (.if_icmp .eq 9, 3) := by decide +kernel
theorem d_R_resolveTop_63 : decode b_R_resolveTop 63 = .ok (.aload_n 1, 1) := by decide +kernel
theorem d_R_resolveTop_64 : decode b_R_resolveTop 64 = .ok (.iload_n 3, 1) := by decide +kernel
theorem d_R_resolveTop_65 : decode b_R_resolveTop 65 = .ok (.invokevirtual 104, 3) := by decide +kernel
theorem d_R_resolveTop_68 : decode b_R_resolveTop 68 = .ok (.return_, 1) := by decide +kernel
theorem d_R_resolveTop_69 : decode b_R_resolveTop 69 = .ok (.aload_n 1, 1) := by decide +kernel
theorem d_R_resolveTop_70 : decode b_R_resolveTop 70 = .ok (.iload_n 3, 1) := by decide +kernel
theorem d_R_resolveTop_71 : decode b_R_resolveTop 71 = .ok (.iconst 4, 1) := by decide +kernel
theorem d_R_resolveTop_72 : decode b_R_resolveTop 72 = .ok (.invokevirtual 107, 3) := by decide +kernel
theorem d_R_resolveTop_75 : decode b_R_resolveTop 75 = .ok (.iload 4, 2) := by decide +kernel
theorem d_R_resolveTop_77 : decode b_R_resolveTop 77 = .ok (.bipush 12, 2) := by decide +kernel
theorem d_R_resolveTop_79 : decode b_R_resolveTop 79 = .ok (.if_icmp .ne 11, 3) := by decide +kernel
theorem d_R_resolveTop_82 : decode b_R_resolveTop 82 = .ok (.aload_n 0, 1) := by decide +kernel
theorem d_R_resolveTop_83 : decode b_R_resolveTop 83 = .ok (.aload_n 1, 1) := by decide +kernel
theorem d_R_resolveTop_84 : decode b_R_resolveTop 84 = .ok (.invokevirtual 111, 3) := by decide +kernel
theorem d_R_resolveTop_87 : decode b_R_resolveTop 87 = .ok (.goto 73, 3) := by decide +kernel
theorem d_R_resolveTop_90 : decode b_R_resolveTop 90 = .ok (.iload 4, 2) := by decide +kernel
theorem d_R_resolveTop_92 : decode b_R_resolveTop 92 = .ok (.bipush 13, 2) := by decide +kernel
theorem d_R_resolveTop_94 : decode b_R_resolveTop 94 = .ok (.if_icmp .ne 24, 3) := by decide +kernel
theorem d_R_resolveTop_97 : decode b_R_resolveTop 97 = .ok (.aload_n 0, 1) := by decide +kernel
theorem d_R_resolveTop_98 : decode b_R_resolveTop 98 = .ok (.aload_n 1, 1) := by decide +kernel
theorem d_R_resolveTop_99 : decode b_R_resolveTop 99 = .ok (.iconst 1, 1) := by decide +kernel
theorem d_R_resolveTop_100 : decode b_R_resolveTop 100 = .ok (.aload_n 0, 1) := by decide +kernel
theorem d_R_resolveTop_101 : decode b_R_resolveTop 101 = .ok (.getfield 18, 3) := by decide +kernel
theorem d_R_resolveTop_104 : decode b_R_resolveTop 104 = .ok (.getfield 115, 3) := by decide +kernel
theorem d_R_resolveTop_107 : decode b_R_resolveTop 107 = .ok (.iload_n 3, 1) := by decide +kernel
theorem d_R_resolveTop_108 : decode b_R_resolveTop 108 = .ok (.invokestatic 97, 3) := by decide +kernel
theorem d_R_resolveTop_111 : decode b_R_resolveTop 111 = .ok (.isub, 1) := by decide +kernel
theorem d_R_resolveTop_112 : decode b_R_resolveTop 112 = .ok (.invokevirtual 118, 3) := by decide +kernel
theorem d_R_resolveTop_115 : decode b_R_resolveTop 115 = .ok (.goto 45, 3) := by decide +kernel
theorem d_R_resolveTop_118 : decode b_R_resolveTop 118 = .ok (.aload_n 0, 1) := by decide +kernel
theorem d_R_resolveTop_119 : decode b_R_resolveTop 119 = .ok (.getfield 27, 3) := by decide +kernel
theorem d_R_resolveTop_122 : decode b_R_resolveTop 122 = .ok (.aload_n 1, 1) := by decide +kernel
theorem d_R_resolveTop_123 : decode b_R_resolveTop 123 = .ok (.invokevirtual 122, 3) := by decide +kernel
theorem d_R_resolveTop_126 : decode b_R_resolveTop 126 = .ok (.aload_n 0, 1) := by decide +kernel
theorem d_R_resolveTop_127 : decode b_R_resolveTop 127 = .ok (.iload 4, 2) := by decide +kernel
theorem d_R_resolveTop_129 : decode b_R_resolveTop 129 = .ok (.aload_n 0, 1) := by decide +kernel
theorem d_R_resolveTop_130 : decode b_R_resolveTop 130 = .ok (.getfield 18, 3) := by decide +kernel
theorem d_R_resolveTop_133 : decode b_R_resolveTop 133 = .ok (.getfield 115, 3) := by decide +kernel
theorem d_R_resolveTop_136 : decode b_R_resolveTop 136 = .ok (.iload_n 3, 1) := by decide +kernel
theorem d_R_resolveTop_137 : decode b_R_resolveTop 137 = .ok (.invokestatic 97, 3) := by decide +kernel
theorem d_R_resolveTop_140 : decode b_R_resolveTop 140 = .ok (.aload_n 0, 1) := by decide +kernel
theorem d_R_resolveTop_141 : decode b_R_resolveTop 141 = .ok (.getfield 18, 3) := by decide +kernel
theorem d_R_resolveTop_144 : decode b_R_resolveTop 144 = .ok (.getfield 125, 3) := by decide +kernel
theorem d_R_resolveTop_147 : decode b_R_resolveTop 147 = .ok (.iload_n 3, 1) := by decide +kernel
theorem d_R_resolveTop_148 : decode b_R_resolveTop 148 = .ok (.invokestatic 97, 3) := by decide +kernel
theorem d_R_resolveTop_151 : decode b_R_resolveTop 151 = .ok (.invokevirtual 128, 3) := by decide +kernel
theorem d_R_resolveTop_154 : decode b_R_resolveTop 154 = .ok (.aload_n 0, 1) := by decide +kernel
theorem d_R_resolveTop_155 : decode b_R_resolveTop 155 = .ok (.aload_n 1, 1) := by decide +kernel
theorem d_R_resolveTop_156 : decode b_R_resolveTop 156 = .ok (.aload_n 2, 1) := by decide +kernel
theorem d_R_resolveTop_157 : decode b_R_resolveTop 157 = .ok (.invokevirtual 88, 3) := by decide +kernel
theorem d_R_resolveTop_160 : decode b_R_resolveTop 160 = .ok (.return_, 1) := by decide +kernel
theorem d_R_stopTop_0 : decode b_R_stopTop 0 = .ok (.aload_n 1, 1) := by decide +kernel
theorem d_R_stopTop_1 : decode b_R_stopTop 1 = .ok (.invokevirtual 76, 3) := by decide +kernel
theorem d_R_stopTop_4 : decode b_R_stopTop 4 = .ok (.istore_n 2, 1) := by decide +kernel
theorem d_R_stopTop_5 : decode b_R_stopTop 5 = .ok (.iload_n 2, 1) := by decide +kernel
theorem d_R_stopTop_6 : decode b_R_stopTop 6 = .ok (.ifCond .lt 16, 3) := by decide +kernel
theorem d_R_stopTop_9 : decode b_R_stopTop 9 = .ok (.iload_n 2, 1) := by decide +kernel
theorem d_R_stopTop_10 : decode b_R_stopTop 10 = .ok (.sipush 10000, 3) := by decide +kernel
theorem d_R_stopTop_13 : decode b_R_stopTop 13 = .ok (.if_icmp .ge 9, 3) := by decide +kernel
theorem d_R_stopTop_16 : decode b_R_stopTop 16 = .ok (.aload_n 1, 1) := by decide +kernel
theorem d_R_stopTop_17 : decode b_R_stopTop 17 = .ok (.iload_n 2, 1) := by decide +kernel
theorem d_R_stopTop_18 : decode b_R_stopTop 18 = .ok (.iconst 4, 1) := by decide +kernel
theorem d_R_stopTop_19 : decode b_R_stopTop 19 = .ok (.invokevirtual 107, 3) := by decide +kernel
theorem d_R_stopTop_22 : decode b_R_stopTop 22 = .ok (.return_, 1) := by decide +kernel
theorem d_R_clearYoungest_0 : decode b_R_clearYoungest 0 = .ok (.aload_n 1, 1) := by decide +kernel
theorem d_R_clearYoungest_1 : decode b_R_clearYoungest 1 = .ok (.getfield 132, 3) := by decide +kernel
theorem d_R_clearYoungest_4 : decode b_R_clearYoungest 4 = .ok (.iconst 1, 1) := by decide +kernel
theorem d_R_clearYoungest_5 : decode b_R_clearYoungest 5 = .ok (.isub, 1) := by decide +kernel
theorem d_R_clearYoungest_6 : decode b_R_clearYoungest 6 = .ok (.istore_n 3, 1) := by decide +kernel
theorem d_R_clearYoungest_7 : decode b_R_clearYoungest 7 = .ok (.iload_n 3, 1) := by decide +kernel
theorem d_R_clearYoungest_8 : decode b_R_clearYoungest 8 = .ok (.ifCond .lt 42, 3) := by decide +kernel
theorem d_R_clearYoungest_11 : decode b_R_clearYoungest 11 = .ok (.aload_n 1, 1) := by decide +kernel
theorem d_R_clearYoungest_12 : decode b_R_clearYoungest 12 = .ok (.getfield 135, 3) := by decide +kernel
theorem d_R_clearYoungest_15 : decode b_R_clearYoungest 15 = .ok (.iload_n 3, 1) := by decide +kernel
theorem d_R_clearYoungest_16 : decode b_R_clearYoungest 16 = .ok (.invokestatic 97, 3) := by decide +kernel
theorem d_R_clearYoungest_19 : decode b_R_clearYoungest 19 = .ok (.istore 4, 2) := by decide +kernel
theorem d_R_clearYoungest_21 : decode b_R_clearYoungest 21 = .ok (.aload_n 0, 1) := by decide +kernel
theorem d_R_clearYoungest_22 : decode b_R_clearYoungest 22 = .ok (.getfield 18, 3) := by decide +kernel
theorem d_R_clearYoungest_25 : decode b_R_clearYoungest 25 = .ok (.getfield 115, 3) := by decide +kernel
theorem d_R_clearYoungest_28 : decode b_R_clearYoungest 28 = .ok (.iload 4, 2) := by decide +kernel
theorem d_R_clearYoungest_30 : decode b_R_clearYoungest 30 = .ok (.invokestatic 97, 3) := by decide +kernel
theorem d_R_clearYoungest_33 : decode b_R_clearYoungest 33 = .ok (.iload_n 2, 1) := by decide +kernel
theorem d_R_clearYoungest_34 : decode b_R_clearYoungest 34 = .ok (.if_icmp .ne 10, 3) := by decide +kernel
theorem d_R_clearYoungest_37 : decode b_R_clearYoungest 37 = .ok (.aload_n 1, 1) := by decide +kernel
theorem d_R_clearYoungest_38 : decode b_R_clearYoungest 38 = .ok (.iload 4, 2) := by decide +kernel
theorem d_R_clearYoungest_40 : decode b_R_clearYoungest 40 = .ok (.invokevirtual 138, 3) := by decide +kernel
theorem d_R_clearYoungest_43 : decode b_R_clearYoungest 43 = .ok (.return_, 1) := by decide +kernel
theorem d_R_clearYoungest_44 : decode b_R_clearYoungest 44 = .ok (.iinc 3 (-1), 3) := by decide +kernel
theorem d_R_clearYoungest_47 : decode b_R_clearYoungest 47 = .ok (.goto (-40), 3) := by decide +kernel
theorem d_R_clearYoungest_50 : decode b_R_clearYoungest 50 = .ok (.return_, 1) := by decide +kernel
theorem d_R_begin_0 : decode b_R_begin 0 = .ok (.iload_n 1, 1) := by decide +kernel
theorem d_R_begin_1 : decode b_R_begin 1 = .ok (.bipush 9, 2) := by decide +kernel
theorem d_R_begin_3 : decode b_R_begin 3 = .ok (.if_icmp .ne 30, 3) := by decide +kernel
theorem d_R_begin_6 : decode b_R_begin 6 = .ok (.aload_n 0, 1) := by decide +kernel
theorem d_R_begin_7 : decode b_R_begin 7 = .ok (.getfield 34, 3) := by decide +kernel
theorem d_R_begin_10 : decode b_R_begin 10 = .ok (.iconst 1, 1) := by decide +kernel
theorem d_R_begin_11 : decode b_R_begin 11 = .ok (.iconst 1, 1) := by decide +kernel
theorem d_R_begin_12 : decode b_R_begin 12 = .ok (.iload_n 2, 1) := by decide +kernel
theorem d_R_begin_13 : decode b_R_begin 13 = .ok (.isub, 1) := by decide +kernel
theorem d_R_begin_14 : decode b_R_begin 14 = .ok (.aload_n 0, 1) := by decide +kernel
theorem d_R_begin_15 : decode b_R_begin 15 = .ok (.getfield 27, 3) := by decide +kernel
theorem d_R_begin_18 : decode b_R_begin 18 = .ok (.getfield 141, 3) := by decide +kernel
theorem d_R_begin_21 : decode b_R_begin 21 = .ok (.iconst 1, 1) := by decide +kernel
theorem d_R_begin_22 : decode b_R_begin 22 = .ok (.invokestatic 97, 3) := by decide +kernel
theorem d_R_begin_25 : decode b_R_begin 25 = .ok (.iload_n 3, 1) := by decide +kernel
theorem d_R_begin_26 : decode b_R_begin 26 = .ok (.iadd, 1) := by decide +kernel
theorem d_R_begin_27 : decode b_R_begin 27 = .ok (.invokevirtual 144, 3) := by decide +kernel
theorem d_R_begin_30 : decode b_R_begin 30 = .ok (.goto 62, 3) := by decide +kernel
theorem d_R_begin_33 : decode b_R_begin 33 = .ok (.iload_n 1, 1) := by decide +kernel
theorem d_R_begin_34 : decode b_R_begin 34 = .ok (.bipush 10, 2) := by decide +kernel
theorem d_R_begin_36 : decode b_R_begin 36 = .ok (.if_icmp .ne 28, 3) := by decide +kernel
theorem d_R_begin_39 : decode b_R_begin 39 = .ok (.aload_n 0, 1) := by decide +kernel
theorem d_R_begin_40 : decode b_R_begin 40 = .ok (.getfield 34, 3) := by decide +kernel
theorem d_R_begin_43 : decode b_R_begin 43 = .ok (.iconst 2, 1) := by decide +kernel
theorem d_R_begin_44 : decode b_R_begin 44 = .ok (.iload_n 2, 1) := by decide +kernel
theorem d_R_begin_45 : decode b_R_begin 45 = .ok (.aload_n 0, 1) := by decide +kernel
theorem d_R_begin_46 : decode b_R_begin 46 = .ok (.getfield 27, 3) := by decide +kernel
theorem d_R_begin_49 : decode b_R_begin 49 = .ok (.getfield 141, 3) := by decide +kernel
theorem d_R_begin_52 : decode b_R_begin 52 = .ok (.iconst 2, 1) := by decide +kernel
theorem d_R_begin_53 : decode b_R_begin 53 = .ok (.invokestatic 97, 3) := by decide +kernel
theorem d_R_begin_56 : decode b_R_begin 56 = .ok (.iload_n 3, 1) := by decide +kernel
theorem d_R_begin_57 : decode b_R_begin 57 = .ok (.iadd, 1) := by decide +kernel
theorem d_R_begin_58 : decode b_R_begin 58 = .ok (.invokevirtual 144, 3) := by decide +kernel
theorem d_R_begin_61 : decode b_R_begin 61 = .ok (.goto 31, 3) := by decide +kernel
theorem d_R_begin_64 : decode b_R_begin 64 = .ok (.iload_n 1, 1) := by decide +kernel
theorem d_R_begin_65 : decode b_R_begin 65 = .ok (.bipush 11, 2) := by decide +kernel
theorem d_R_begin_67 : decode b_R_begin 67 = .ok (.if_icmp .ne 25, 3) := by decide +kernel
theorem d_R_begin_70 : decode b_R_begin 70 = .ok (.aload_n 0, 1) := by decide +kernel
theorem d_R_begin_71 : decode b_R_begin 71 = .ok (.getfield 34, 3) := by decide +kernel
theorem d_R_begin_74 : decode b_R_begin 74 = .ok (.iconst 0, 1) := by decide +kernel
theorem d_R_begin_75 : decode b_R_begin 75 = .ok (.iload_n 2, 1) := by decide +kernel
theorem d_R_begin_76 : decode b_R_begin 76 = .ok (.aload_n 0, 1) := by decide +kernel
theorem d_R_begin_77 : decode b_R_begin 77 = .ok (.getfield 27, 3) := by decide +kernel
theorem d_R_begin_80 : decode b_R_begin 80 = .ok (.getfield 141, 3) := by decide +kernel
theorem d_R_begin_83 : decode b_R_begin 83 = .ok (.iconst 0, 1) := by decide +kernel
theorem d_R_begin_84 : decode b_R_begin 84 = .ok (.invokestatic 97, 3) := by decide +kernel
theorem d_R_begin_87 : decode b_R_begin 87 = .ok (.iload_n 3, 1) := by decide +kernel
theorem d_R_begin_88 : decode b_R_begin 88 = .ok (.iadd, 1) := by decide +kernel
theorem d_R_begin_89 : decode b_R_begin 89 = .ok (.invokevirtual 144, 3) := by decide +kernel
theorem d_R_begin_92 : decode b_R_begin 92 = .ok (.return_, 1) := by decide +kernel
theorem d_R_happen_0 : decode b_R_happen 0 = .ok (.aload_n 0, 1) := by decide +kernel
theorem d_R_happen_1 : decode b_R_happen 1 = .ok (.getfield 34, 3) := by decide +kernel
theorem d_R_happen_4 : decode b_R_happen 4 = .ok (.aload_n 1, 1) := by decide +kernel
theorem d_R_happen_5 : decode b_R_happen 5 = .ok (.invokevirtual 147, 3) := by decide +kernel
theorem d_R_happen_8 : decode b_R_happen 8 = .ok (.aload_n 2, 1) := by decide +kernel
theorem d_R_happen_9 : decode b_R_happen 9 = .ok (.aload_n 0, 1) := by decide +kernel
theorem d_R_happen_10 : decode b_R_happen 10 = .ok (.getfield 34, 3) := by decide +kernel
theorem d_R_happen_13 : decode b_R_happen 13 = .ok (.invokevirtual 150, 3) := by decide +kernel
theorem d_R_happen_16 : decode b_R_happen 16 = .ok (.invokevirtual 153, 3) := by decide +kernel
theorem d_R_happen_19 : decode b_R_happen 19 = .ok (.aload_n 0, 1) := by decide +kernel
theorem d_R_happen_20 : decode b_R_happen 20 = .ok (.getfield 34, 3) := by decide +kernel
theorem d_R_happen_23 : decode b_R_happen 23 = .ok (.getfield 156, 3) := by decide +kernel
theorem d_R_happen_26 : decode b_R_happen 26 = .ok (.iconst 1, 1) := by decide +kernel
theorem d_R_happen_27 : decode b_R_happen 27 = .ok (.if_icmp .ne 25, 3) := by decide +kernel
theorem d_R_happen_30 : decode b_R_happen 30 = .ok (.aload_n 1, 1) := by decide +kernel
theorem d_R_happen_31 : decode b_R_happen 31 = .ok (.aload_n 0, 1) := by decide +kernel
theorem d_R_happen_32 : decode b_R_happen 32 = .ok (.getfield 34, 3) := by decide +kernel
theorem d_R_happen_35 : decode b_R_happen 35 = .ok (.getfield 159, 3) := by decide +kernel
theorem d_R_happen_38 : decode b_R_happen 38 = .ok (.aload_n 0, 1) := by decide +kernel
theorem d_R_happen_39 : decode b_R_happen 39 = .ok (.getfield 34, 3) := by decide +kernel
theorem d_R_happen_42 : decode b_R_happen 42 = .ok (.getfield 162, 3) := by decide +kernel
theorem d_R_happen_45 : decode b_R_happen 45 = .ok (.ineg, 1) := by decide +kernel
theorem d_R_happen_46 : decode b_R_happen 46 = .ok (.invokevirtual 165, 3) := by decide +kernel
theorem d_R_happen_49 : decode b_R_happen 49 = .ok (.goto 65, 3) := by decide +kernel
theorem d_R_happen_52 : decode b_R_happen 52 = .ok (.aload_n 0, 1) := by decide +kernel
theorem d_R_happen_53 : decode b_R_happen 53 = .ok (.getfield 34, 3) := by decide +kernel
theorem d_R_happen_56 : decode b_R_happen 56 = .ok (.getfield 156, 3) := by decide +kernel
theorem d_R_happen_59 : decode b_R_happen 59 = .ok (.iconst 2, 1) := by decide +kernel
theorem d_R_happen_60 : decode b_R_happen 60 = .ok (.if_icmp .ne 24, 3) := by decide +kernel
theorem d_R_happen_63 : decode b_R_happen 63 = .ok (.aload_n 1, 1) := by decide +kernel
theorem d_R_happen_64 : decode b_R_happen 64 = .ok (.aload_n 0, 1) := by decide +kernel
theorem d_R_happen_65 : decode b_R_happen 65 = .ok (.getfield 34, 3) := by decide +kernel
theorem d_R_happen_68 : decode b_R_happen 68 = .ok (.getfield 159, 3) := by decide +kernel
theorem d_R_happen_71 : decode b_R_happen 71 = .ok (.aload_n 0, 1) := by decide +kernel
theorem d_R_happen_72 : decode b_R_happen 72 = .ok (.getfield 34, 3) := by decide +kernel
theorem d_R_happen_75 : decode b_R_happen 75 = .ok (.getfield 162, 3) := by decide +kernel
theorem d_R_happen_78 : decode b_R_happen 78 = .ok (.invokevirtual 165, 3) := by decide +kernel
theorem d_R_happen_81 : decode b_R_happen 81 = .ok (.goto 33, 3) := by decide +kernel
theorem d_R_happen_84 : decode b_R_happen 84 = .ok (.iconst 0, 1) := by decide +kernel
theorem d_R_happen_85 : decode b_R_happen 85 = .ok (.istore_n 3, 1) := by decide +kernel
theorem d_R_happen_86 : decode b_R_happen 86 = .ok (.iload_n 3, 1) := by decide +kernel
theorem d_R_happen_87 : decode b_R_happen 87 = .ok (.aload_n 0, 1) := by decide +kernel
theorem d_R_happen_88 : decode b_R_happen 88 = .ok (.getfield 34, 3) := by decide +kernel
theorem d_R_happen_91 : decode b_R_happen 91 = .ok (.getfield 162, 3) := by decide +kernel
theorem d_R_happen_94 : decode b_R_happen 94 = .ok (.if_icmp .ge 20, 3) := by decide +kernel
theorem d_R_happen_97 : decode b_R_happen 97 = .ok (.aload_n 1, 1) := by decide +kernel
theorem d_R_happen_98 : decode b_R_happen 98 = .ok (.aload_n 0, 1) := by decide +kernel
theorem d_R_happen_99 : decode b_R_happen 99 = .ok (.getfield 34, 3) := by decide +kernel
theorem d_R_happen_102 : decode b_R_happen 102 = .ok (.getfield 159, 3) := by decide +kernel
theorem d_R_happen_105 : decode b_R_happen 105 = .ok (.invokevirtual 168, 3) := by decide +kernel
theorem d_R_happen_108 : decode b_R_happen 108 = .ok (.iinc 3 1, 3) := by decide +kernel
theorem d_R_happen_111 : decode b_R_happen 111 = .ok (.goto (-25), 3) := by decide +kernel
theorem d_R_happen_114 : decode b_R_happen 114 = .ok (.aload_n 0, 1) := by decide +kernel
theorem d_R_happen_115 : decode b_R_happen 115 = .ok (.getfield 34, 3) := by decide +kernel
theorem d_R_happen_118 : decode b_R_happen 118 = .ok (.getfield 162, 3) := by decide +kernel
theorem d_R_happen_121 : decode b_R_happen 121 = .ok (.iconst 1, 1) := by decide +kernel
theorem d_R_happen_122 : decode b_R_happen 122 = .ok (.if_icmp .lt 8, 3) := by decide +kernel
theorem d_R_happen_125 : decode b_R_happen 125 = .ok (.aload_n 0, 1) := by decide +kernel
theorem d_R_happen_126 : decode b_R_happen 126 = .ok (.aload_n 1, 1) := by decide +kernel
theorem d_R_happen_127 : decode b_R_happen 127 = .ok (.invokevirtual 171, 3) := by decide +kernel
theorem d_R_happen_130 : decode b_R_happen 130 = .ok (.return_, 1) := by decide +kernel
theorem d_R_castShadows_0 : decode b_R_castShadows 0 = .ok (.iconst 0, 1) := by decide +kernel
theorem d_R_castShadows_1 : decode b_R_castShadows 1 = .ok (.istore_n 2, 1) := by decide +kernel
theorem d_R_castShadows_2 : decode b_R_castShadows 2 = .ok (.iload_n 2, 1) := by decide +kernel
theorem d_R_castShadows_3 : decode b_R_castShadows 3 = .ok (.aload_n 1, 1) := by decide +kernel
theorem d_R_castShadows_4 : decode b_R_castShadows 4 = .ok (.getfield 132, 3) := by decide +kernel
theorem d_R_castShadows_7 : decode b_R_castShadows 7 = .ok (.if_icmp .ge 136, 3) := by decide +kernel
theorem d_R_castShadows_10 : decode b_R_castShadows 10 = .ok (.aload_n 1, 1) := by decide +kernel
theorem d_R_castShadows_11 : decode b_R_castShadows 11 = .ok (.getfield 135, 3) := by decide +kernel
theorem d_R_castShadows_14 : decode b_R_castShadows 14 = .ok (.iload_n 2, 1) := by decide +kernel
theorem d_R_castShadows_15 : decode b_R_castShadows 15 = .ok (.invokestatic 97, 3) := by decide +kernel
theorem d_R_castShadows_18 : decode b_R_castShadows 18 = .ok (.istore_n 3, 1) := by decide +kernel
theorem d_R_castShadows_19 : decode b_R_castShadows 19 = .ok (.aload_n 0, 1) := by decide +kernel
theorem d_R_castShadows_20 : decode b_R_castShadows 20 = .ok (.getfield 18, 3) := by decide +kernel
theorem d_R_castShadows_23 : decode b_R_castShadows 23 = .ok (.getfield 91, 3) := by decide +kernel
theorem d_R_castShadows_26 : decode b_R_castShadows 26 = .ok (.iload_n 3, 1) := by decide +kernel
theorem d_R_castShadows_27 : decode b_R_castShadows 27 = .ok (.invokestatic 97, 3) := by decide +kernel
theorem d_R_castShadows_30 : decode b_R_castShadows 30 = .ok (.bipush 14, 2) := by decide +kernel
theorem d_R_castShadows_32 : decode b_R_castShadows 32 = .ok (.if_icmp .ne 105, 3) := by decide +kernel
theorem d_R_castShadows_35 : decode b_R_castShadows 35 = .ok (.aload_n 0, 1) := by decide +kernel
theorem d_R_castShadows_36 : decode b_R_castShadows 36 = .ok (.getfield 18, 3) := by decide +kernel
theorem d_R_castShadows_39 : decode b_R_castShadows 39 = .ok (.getfield 174, 3) := by decide +kernel
theorem d_R_castShadows_42 : decode b_R_castShadows 42 = .ok (.iload_n 3, 1) := by decide +kernel
theorem d_R_castShadows_43 : decode b_R_castShadows 43 = .ok (.invokestatic 97, 3) := by decide +kernel
theorem d_R_castShadows_46 : decode b_R_castShadows 46 = .ok (.aload_n 0, 1) := by decide +kernel
theorem d_R_castShadows_47 : decode b_R_castShadows 47 = .ok (.getfield 34, 3) := by decide +kernel
theorem d_R_castShadows_50 : decode b_R_castShadows 50 = .ok (.getfield 156, 3) := by decide +kernel
theorem d_R_castShadows_53 : decode b_R_castShadows 53 = .ok (.if_icmp .eq 6, 3) := by decide +kernel
theorem d_R_castShadows_56 : decode b_R_castShadows 56 = .ok (.goto 81, 3) := by decide +kernel
theorem d_R_castShadows_59 : decode b_R_castShadows 59 = .ok (.aload_n 0, 1) := by decide +kernel
theorem d_R_castShadows_60 : decode b_R_castShadows 60 = .ok (.getfield 18, 3) := by decide +kernel
theorem d_R_castShadows_63 : decode b_R_castShadows 63 = .ok (.getfield 125, 3) := by decide +kernel
theorem d_R_castShadows_66 : decode b_R_castShadows 66 = .ok (.iload_n 3, 1) := by decide +kernel
theorem d_R_castShadows_67 : decode b_R_castShadows 67 = .ok (.invokestatic 97, 3) := by decide +kernel
theorem d_R_castShadows_70 : decode b_R_castShadows 70 = .ok (.istore 4, 2) := by decide +kernel
theorem d_R_castShadows_72 : decode b_R_castShadows 72 = .ok (.aload_n 0, 1) := by decide +kernel
theorem d_R_castShadows_73 : decode b_R_castShadows 73 = .ok (.getfield 18, 3) := by decide +kernel
theorem d_R_castShadows_76 : decode b_R_castShadows 76 = .ok (.getfield 115, 3) := by decide +kernel
theorem d_R_castShadows_79 : decode b_R_castShadows 79 = .ok (.iload_n 3, 1) := by decide +kernel
theorem d_R_castShadows_80 : decode b_R_castShadows 80 = .ok (.invokestatic 97, 3) := by decide +kernel
theorem d_R_castShadows_83 : decode b_R_castShadows 83 = .ok (.istore 5, 2) := by decide +kernel
theorem d_R_castShadows_85 : decode b_R_castShadows 85 = .ok (.iload 4, 2) := by decide +kernel
theorem d_R_castShadows_87 : decode b_R_castShadows 87 = .ok (.iconst 1, 1) := by decide +kernel
theorem d_R_castShadows_88 : decode b_R_castShadows 88 = .ok (.iand, 1) := by decide +kernel
theorem d_R_castShadows_89 : decode b_R_castShadows 89 = .ok (.iconst 1, 1) := by decide +kernel
theorem d_R_castShadows_90 : decode b_R_castShadows 90 = .ok (.if_icmp .ne 8, 3) := by decide +kernel
theorem d_R_castShadows_93 : decode b_R_castShadows 93 = .ok (.iload 5, 2) := by decide +kernel
theorem d_R_castShadows_95 : decode b_R_castShadows 95 = .ok (.goto 7, 3) := by decide +kernel
theorem d_R_castShadows_98 : decode b_R_castShadows 98 = .ok (.iconst 1, 1) := by decide +kernel
theorem d_R_castShadows_99 : decode b_R_castShadows 99 = .ok (.iload 5, 2) := by decide +kernel
theorem d_R_castShadows_101 : decode b_R_castShadows 101 = .ok (.isub, 1) := by decide +kernel
theorem d_R_castShadows_102 : decode b_R_castShadows 102 = .ok (.istore 6, 2) := by decide +kernel
theorem d_R_castShadows_104 : decode b_R_castShadows 104 = .ok (.aload_n 1, 1) := by decide +kernel
theorem d_R_castShadows_105 : decode b_R_castShadows 105 = .ok (.sipush 10000, 3) := by decide +kernel
theorem d_R_castShadows_108 : decode b_R_castShadows 108 = .ok (.aload_n 0, 1) := by decide +kernel
theorem d_R_castShadows_109 : decode b_R_castShadows 109 = .ok (.getfield 18, 3) := by decide +kernel
theorem d_R_castShadows_112 : decode b_R_castShadows 112 = .ok (.getfield 177, 3) := by decide +kernel
theorem d_R_castShadows_115 : decode b_R_castShadows 115 = .ok (.iload_n 3, 1) := by decide +kernel
theorem d_R_castShadows_116 : decode b_R_castShadows 116 = .ok (.invokestatic 97, 3) := by decide +kernel
theorem d_R_castShadows_119 : decode b_R_castShadows 119 = .ok (.iconst 3, 1) := by decide +kernel
theorem d_R_castShadows_120 : decode b_R_castShadows 120 = .ok (.irem, 1) := by decide +kernel
theorem d_R_castShadows_121 : decode b_R_castShadows 121 = .ok (.iload 6, 2) := by decide +kernel
theorem d_R_castShadows_123 : decode b_R_castShadows 123 = .ok (.iconst 0, 1) := by decide +kernel
theorem d_R_castShadows_124 : decode b_R_castShadows 124 = .ok (.iload 4, 2) := by decide +kernel
theorem d_R_castShadows_126 : decode b_R_castShadows 126 = .ok (.invokestatic 180, 3) := by decide +kernel
theorem d_R_castShadows_129 : decode b_R_castShadows 129 = .ok (.invokestatic 186, 3) := by decide +kernel
theorem d_R_castShadows_132 : decode b_R_castShadows 132 = .ok (.iadd, 1) := by decide +kernel
theorem d_R_castShadows_133 : decode b_R_castShadows 133 = .ok (.invokevirtual 190, 3) := by decide +kernel
theorem d_R_castShadows_136 : decode b_R_castShadows 136 = .ok (.pop, 1) := by decide +kernel
theorem d_R_castShadows_137 : decode b_R_castShadows 137 = .ok (.iinc 2 1, 3) := by decide +kernel
theorem d_R_castShadows_140 : decode b_R_castShadows 140 = .ok (.goto (-138), 3) := by decide +kernel
theorem d_R_castShadows_143 : decode b_R_castShadows 143 = .ok (.return_, 1) := by decide +kernel
theorem d_R_takeTurn_0 : decode b_R_takeTurn 0 = .ok (.aload_n 1, 1) := by decide +kernel
theorem d_R_takeTurn_1 : decode b_R_takeTurn 1 = .ok (.getfield 194, 3) := by decide +kernel
theorem d_R_takeTurn_4 : decode b_R_takeTurn 4 = .ok (.istore_n 3, 1) := by decide +kernel
theorem d_R_takeTurn_5 : decode b_R_takeTurn 5 = .ok (.aload_n 0, 1) := by decide +kernel
theorem d_R_takeTurn_6 : decode b_R_takeTurn 6 = .ok (.getfield 27, 3) := by decide +kernel
theorem d_R_takeTurn_9 : decode b_R_takeTurn 9 = .ok (.aload_n 1, 1) := by decide +kernel
theorem d_R_takeTurn_10 : decode b_R_takeTurn 10 = .ok (.invokevirtual 122, 3) := by decide +kernel
theorem d_R_takeTurn_13 : decode b_R_takeTurn 13 = .ok (.iconst 0, 1) := by decide +kernel
theorem d_R_takeTurn_14 : decode b_R_takeTurn 14 = .ok (.aload_n 0, 1) := by decide +kernel
theorem d_R_takeTurn_15 : decode b_R_takeTurn 15 = .ok (.getfield 27, 3) := by decide +kernel
theorem d_R_takeTurn_18 : decode b_R_takeTurn 18 = .ok (.getfield 141, 3) := by decide +kernel
theorem d_R_takeTurn_21 : decode b_R_takeTurn 21 = .ok (.iconst 3, 1) := by decide +kernel
theorem d_R_takeTurn_22 : decode b_R_takeTurn 22 = .ok (.invokestatic 97, 3) := by decide +kernel
theorem d_R_takeTurn_25 : decode b_R_takeTurn 25 = .ok (.invokestatic 180, 3) := by decide +kernel
theorem d_R_takeTurn_28 : decode b_R_takeTurn 28 = .ok (.istore 4, 2) := by decide +kernel
theorem d_R_takeTurn_30 : decode b_R_takeTurn 30 = .ok (.aload_n 0, 1) := by decide +kernel
theorem d_R_takeTurn_31 : decode b_R_takeTurn 31 = .ok (.getfield 34, 3) := by decide +kernel
theorem d_R_takeTurn_34 : decode b_R_takeTurn 34 = .ok (.iconst 0, 1) := by decide +kernel
theorem d_R_takeTurn_35 : decode b_R_takeTurn 35 = .ok (.iload_n 3, 1) := by decide +kernel
theorem d_R_takeTurn_36 : decode b_R_takeTurn 36 = .ok (.aload_n 0, 1) := by decide +kernel
theorem d_R_takeTurn_37 : decode b_R_takeTurn 37 = .ok (.getfield 27, 3) := by decide +kernel
theorem d_R_takeTurn_40 : decode b_R_takeTurn 40 = .ok (.getfield 141, 3) := by decide +kernel
theorem d_R_takeTurn_43 : decode b_R_takeTurn 43 = .ok (.iconst 0, 1) := by decide +kernel
theorem d_R_takeTurn_44 : decode b_R_takeTurn 44 = .ok (.invokestatic 97, 3) := by decide +kernel
theorem d_R_takeTurn_47 : decode b_R_takeTurn 47 = .ok (.invokevirtual 144, 3) := by decide +kernel
theorem d_R_takeTurn_50 : decode b_R_takeTurn 50 = .ok (.aload_n 0, 1) := by decide +kernel
theorem d_R_takeTurn_51 : decode b_R_takeTurn 51 = .ok (.aload_n 1, 1) := by decide +kernel
theorem d_R_takeTurn_52 : decode b_R_takeTurn 52 = .ok (.aload_n 2, 1) := by decide +kernel
theorem d_R_takeTurn_53 : decode b_R_takeTurn 53 = .ok (.invokevirtual 88, 3) := by decide +kernel
theorem d_R_takeTurn_56 : decode b_R_takeTurn 56 = .ok (.aload_n 1, 1) := by decide +kernel
theorem d_R_takeTurn_57 : decode b_R_takeTurn 57 = .ok (.iload_n 3, 1) := by decide +kernel
theorem d_R_takeTurn_58 : decode b_R_takeTurn 58 = .ok (.iconst 1, 1) := by decide +kernel
theorem d_R_takeTurn_59 : decode b_R_takeTurn 59 = .ok (.invokevirtual 197, 3) := by decide +kernel
theorem d_R_takeTurn_62 : decode b_R_takeTurn 62 = .ok (.istore 5, 2) := by decide +kernel
theorem d_R_takeTurn_64 : decode b_R_takeTurn 64 = .ok (.iload 5, 2) := by decide +kernel
theorem d_R_takeTurn_66 : decode b_R_takeTurn 66 = .ok (.iload 4, 2) := by decide +kernel
theorem d_R_takeTurn_68 : decode b_R_takeTurn 68 = .ok (.if_icmp .le 24, 3) := by decide +kernel
theorem d_R_takeTurn_71 : decode b_R_takeTurn 71 = .ok (.aload_n 1, 1) := by decide +kernel
theorem d_R_takeTurn_72 : decode b_R_takeTurn 72 = .ok (.aload_n 1, 1) := by decide +kernel
theorem d_R_takeTurn_73 : decode b_R_takeTurn 73 = .ok (.iload_n 3, 1) := by decide +kernel
theorem d_R_takeTurn_74 : decode b_R_takeTurn 74 = .ok (.iconst 1, 1) := by decide +kernel
theorem d_R_takeTurn_75 : decode b_R_takeTurn 75 = .ok (.iload 5, 2) := by decide +kernel
theorem d_R_takeTurn_77 : decode b_R_takeTurn 77 = .ok (.iconst 1, 1) := by decide +kernel
theorem d_R_takeTurn_78 : decode b_R_takeTurn 78 = .ok (.isub, 1) := by decide +kernel
theorem d_R_takeTurn_79 : decode b_R_takeTurn 79 = .ok (.invokevirtual 200, 3) := by decide +kernel
theorem d_R_takeTurn_82 : decode b_R_takeTurn 82 = .ok (.iconst 4, 1) := by decide +kernel
theorem d_R_takeTurn_83 : decode b_R_takeTurn 83 = .ok (.invokevirtual 107, 3) := by decide +kernel
theorem d_R_takeTurn_86 : decode b_R_takeTurn 86 = .ok (.iinc 5 (-1), 3) := by decide +kernel
theorem d_R_takeTurn_89 : decode b_R_takeTurn 89 = .ok (.goto (-25), 3) := by decide +kernel
theorem d_R_takeTurn_92 : decode b_R_takeTurn 92 = .ok (.aload_n 1, 1) := by decide +kernel
theorem d_R_takeTurn_93 : decode b_R_takeTurn 93 = .ok (.iconst 1, 1) := by decide +kernel
theorem d_R_takeTurn_94 : decode b_R_takeTurn 94 = .ok (.iload_n 3, 1) := by decide +kernel
theorem d_R_takeTurn_95 : decode b_R_takeTurn 95 = .ok (.isub, 1) := by decide +kernel
theorem d_R_takeTurn_96 : decode b_R_takeTurn 96 = .ok (.putfield 194, 3) := by decide +kernel
theorem d_R_takeTurn_99 : decode b_R_takeTurn 99 = .ok (.aload_n 1, 1) := by decide +kernel
theorem d_R_takeTurn_100 : decode b_R_takeTurn 100 = .ok (.dup, 1) := by decide +kernel
theorem d_R_takeTurn_101 : decode b_R_takeTurn 101 = .ok (.getfield 203, 3) := by decide +kernel
theorem d_R_takeTurn_104 : decode b_R_takeTurn 104 = .ok (.iconst 1, 1) := by decide +kernel
theorem d_R_takeTurn_105 : decode b_R_takeTurn 105 = .ok (.iadd, 1) := by decide +kernel
theorem d_R_takeTurn_106 : decode b_R_takeTurn 106 = .ok (.putfield 203, 3) := by decide +kernel
theorem d_R_takeTurn_109 : decode b_R_takeTurn 109 = .ok (.return_, 1) := by decide +kernel
theorem d_T_init_0 : decode b_T_init 0 = .ok (.aload_n 0, 1) := by decide +kernel
theorem d_T_init_1 : decode b_T_init 1 = .ok (.invokespecial 3, 3) := by decide +kernel
theorem d_T_init_4 : decode b_T_init 4 = .ok (.aload_n 0, 1) := by decide +kernel
theorem d_T_init_5 : decode b_T_init 5 = .ok (.bipush 120, 2) := by decide +kernel
theorem d_T_init_7 : decode b_T_init 7 = .ok (.newarray .int, 2) := by decide +kernel
theorem d_T_init_9 : decode b_T_init 9 = .ok (.putfield 9, 3) := by decide +kernel
theorem d_T_init_12 : decode b_T_init 12 = .ok (.aload_n 0, 1) := by decide +kernel
theorem d_T_init_13 : decode b_T_init 13 = .ok (.bipush 10, 2) := by decide +kernel
theorem d_T_init_15 : decode b_T_init 15 = .ok (.newarray .int, 2) := by decide +kernel
theorem d_T_init_17 : decode b_T_init 17 = .ok (.putfield 15, 3) := by decide +kernel
theorem d_T_init_20 : decode b_T_init 20 = .ok (.aload_n 0, 1) := by decide +kernel
theorem d_T_init_21 : decode b_T_init 21 = .ok (.bipush 10, 2) := by decide +kernel
theorem d_T_init_23 : decode b_T_init 23 = .ok (.newarray .int, 2) := by decide +kernel
theorem d_T_init_25 : decode b_T_init 25 = .ok (.putfield 18, 3) := by decide +kernel
theorem d_T_init_28 : decode b_T_init 28 = .ok (.aload_n 0, 1) := by decide +kernel
theorem d_T_init_29 : decode b_T_init 29 = .ok (.bipush 10, 2) := by decide +kernel
theorem d_T_init_31 : decode b_T_init 31 = .ok (.newarray .int, 2) := by decide +kernel
theorem d_T_init_33 : decode b_T_init 33 = .ok (.putfield 21, 3) := by decide +kernel
theorem d_T_init_36 : decode b_T_init 36 = .ok (.aload_n 0, 1) := by decide +kernel
theorem d_T_init_37 : decode b_T_init 37 = .ok (.bipush 10, 2) := by decide +kernel
theorem d_T_init_39 : decode b_T_init 39 = .ok (.newarray .int, 2) := by decide +kernel
theorem d_T_init_41 : decode b_T_init 41 = .ok (.putfield 24, 3) := by decide +kernel
theorem d_T_init_44 : decode b_T_init 44 = .ok (.return_, 1) := by decide +kernel
theorem d_T_append_0 : decode b_T_append 0 = .ok (.aload_n 0, 1) := by decide +kernel
theorem d_T_append_1 : decode b_T_append 1 = .ok (.getfield 27, 3) := by decide +kernel
theorem d_T_append_4 : decode b_T_append 4 = .ok (.bipush 120, 2) := by decide +kernel
theorem d_T_append_6 : decode b_T_append 6 = .ok (.if_icmp .lt 5, 3) := by decide +kernel
theorem d_T_append_9 : decode b_T_append 9 = .ok (.iconst 0, 1) := by decide +kernel
theorem d_T_append_10 : decode b_T_append 10 = .ok (.ireturn, 1) := by decide +kernel
theorem d_T_append_11 : decode b_T_append 11 = .ok (.aload_n 0, 1) := by decide +kernel
theorem d_T_append_12 : decode b_T_append 12 = .ok (.getfield 9, 3) := by decide +kernel
theorem d_T_append_15 : decode b_T_append 15 = .ok (.aload_n 0, 1) := by decide +kernel
theorem d_T_append_16 : decode b_T_append 16 = .ok (.getfield 27, 3) := by decide +kernel
theorem d_T_append_19 : decode b_T_append 19 = .ok (.iload_n 1, 1) := by decide +kernel
theorem d_T_append_20 : decode b_T_append 20 = .ok (.invokestatic 31, 3) := by decide +kernel
theorem d_T_append_23 : decode b_T_append 23 = .ok (.aload_n 0, 1) := by decide +kernel
theorem d_T_append_24 : decode b_T_append 24 = .ok (.dup, 1) := by decide +kernel
theorem d_T_append_25 : decode b_T_append 25 = .ok (.getfield 27, 3) := by decide +kernel
theorem d_T_append_28 : decode b_T_append 28 = .ok (.iconst 1, 1) := by decide +kernel
theorem d_T_append_29 : decode b_T_append 29 = .ok (.iadd, 1) := by decide +kernel
theorem d_T_append_30 : decode b_T_append 30 = .ok (.putfield 27, 3) := by decide +kernel
theorem d_T_append_33 : decode b_T_append 33 = .ok (.iconst 1, 1) := by decide +kernel
theorem d_T_append_34 : decode b_T_append 34 = .ok (.ireturn, 1) := by decide +kernel
theorem d_T_readText_0 : decode b_T_readText 0 = .ok (.aload_n 0, 1) := by decide +kernel
theorem d_T_readText_1 : decode b_T_readText 1 = .ok (.iconst 0, 1) := by decide +kernel
theorem d_T_readText_2 : decode b_T_readText 2 = .ok (.putfield 35, 3) := by decide +kernel
theorem d_T_readText_5 : decode b_T_readText 5 = .ok (.aload_n 0, 1) := by decide +kernel
theorem d_T_readText_6 : decode b_T_readText 6 = .ok (.iconst 0, 1) := by decide +kernel
theorem d_T_readText_7 : decode b_T_readText 7 = .ok (.putfield 38, 3) := by decide +kernel
theorem d_T_readText_10 : decode b_T_readText 10 = .ok (.iconst 0, 1) := by decide +kernel
theorem d_T_readText_11 : decode b_T_readText 11 = .ok (.istore_n 1, 1) := by decide +kernel
theorem d_T_readText_12 : decode b_T_readText 12 = .ok (.iload_n 1, 1) := by decide +kernel
theorem d_T_readText_13 : decode b_T_readText 13 = .ok (.bipush 10, 2) := by decide +kernel
theorem d_T_readText_15 : decode b_T_readText 15 = .ok (.if_icmp .ge 49, 3) := by decide +kernel
theorem d_T_readText_18 : decode b_T_readText 18 = .ok (.aload_n 0, 1) := by decide +kernel
theorem d_T_readText_19 : decode b_T_readText 19 = .ok (.invokevirtual 41, 3) := by decide +kernel
theorem d_T_readText_22 : decode b_T_readText 22 = .ok (.ifCond .ne 8, 3) := by decide +kernel
theorem d_T_readText_25 : decode b_T_readText 25 = .ok (.aload_n 0, 1) := by decide +kernel
theorem d_T_readText_26 : decode b_T_readText 26 = .ok (.getfield 35, 3) := by decide +kernel
theorem d_T_readText_29 : decode b_T_readText 29 = .ok (.ireturn, 1) := by decide +kernel
theorem d_T_readText_30 : decode b_T_readText 30 = .ok (.aload_n 0, 1) := by decide +kernel
theorem d_T_readText_31 : decode b_T_readText 31 = .ok (.getfield 35, 3) := by decide +kernel
theorem d_T_readText_34 : decode b_T_readText 34 = .ok (.aload_n 0, 1) := by decide +kernel
theorem d_T_readText_35 : decode b_T_readText 35 = .ok (.getfield 27, 3) := by decide +kernel
theorem d_T_readText_38 : decode b_T_readText 38 = .ok (.if_icmp .lt 6, 3) := by decide +kernel
theorem d_T_readText_41 : decode b_T_readText 41 = .ok (.bipush (-2), 2) := by decide +kernel
theorem d_T_readText_43 : decode b_T_readText 43 = .ok (.ireturn, 1) := by decide +kernel
theorem d_T_readText_44 : decode b_T_readText 44 = .ok (.aload_n 0, 1) := by decide +kernel
theorem d_T_readText_45 : decode b_T_readText 45 = .ok (.bipush 59, 2) := by decide +kernel
theorem d_T_readText_47 : decode b_T_readText 47 = .ok (.invokevirtual 45, 3) := by decide +kernel
theorem d_T_readText_50 : decode b_T_readText 50 = .ok (.ifCond .ne 8, 3) := by decide +kernel
theorem d_T_readText_53 : decode b_T_readText 53 = .ok (.aload_n 0, 1) := by decide +kernel
theorem d_T_readText_54 : decode b_T_readText 54 = .ok (.getfield 35, 3) := by decide +kernel
theorem d_T_readText_57 : decode b_T_readText 57 = .ok (.ireturn, 1) := by decide +kernel
theorem d_T_readText_58 : decode b_T_readText 58 = .ok (.iinc 1 1, 3) := by decide +kernel
theorem d_T_readText_61 : decode b_T_readText 61 = .ok (.goto (-49), 3) := by decide +kernel
theorem d_T_readText_64 : decode b_T_readText 64 = .ok (.aload_n 0, 1) := by decide +kernel
theorem d_T_readText_65 : decode b_T_readText 65 = .ok (.getfield 35, 3) := by decide +kernel
theorem d_T_readText_68 : decode b_T_readText 68 = .ok (.ireturn, 1) := by decide +kernel
theorem d_T_readLine_0 : decode b_T_readLine 0 = .ok (.aload_n 0, 1) := by decide +kernel
theorem d_T_readLine_1 : decode b_T_readLine 1 = .ok (.invokevirtual 49, 3) := by decide +kernel
theorem d_T_readLine_4 : decode b_T_readLine 4 = .ok (.istore_n 1, 1) := by decide +kernel
theorem d_T_readLine_5 : decode b_T_readLine 5 = .ok (.iload_n 1, 1) := by decide +kernel
theorem d_T_readLine_6 : decode b_T_readLine 6 = .ok (.ifCond .ge 5, 3) := by decide +kernel
theorem d_T_readLine_9 : decode b_T_readLine 9 = .ok (.iconst 0, 1) := by decide +kernel
theorem d_T_readLine_10 : decode b_T_readLine 10 = .ok (.ireturn, 1) := by decide +kernel
theorem d_T_readLine_11 : decode b_T_readLine 11 = .ok (.aload_n 0, 1) := by decide +kernel
theorem d_T_readLine_12 : decode b_T_readLine 12 = .ok (.iconst 1, 1) := by decide +kernel
theorem d_T_readLine_13 : decode b_T_readLine 13 = .ok (.invokevirtual 53, 3) := by decide +kernel
theorem d_T_readLine_16 : decode b_T_readLine 16 = .ok (.istore_n 2, 1) := by decide +kernel
theorem d_T_readLine_17 : decode b_T_readLine 17 = .ok (.iload_n 2, 1) := by decide +kernel
theorem d_T_readLine_18 : decode b_T_readLine 18 = .ok (.ifCond .lt 12, 3) := by decide +kernel
theorem d_T_readLine_21 : decode b_T_readLine 21 = .ok (.aload_n 0, 1) := by decide +kernel
theorem d_T_readLine_22 : decode b_T_readLine 22 = .ok (.bipush 32, 2) := by decide +kernel
theorem d_T_readLine_24 : decode b_T_readLine 24 = .ok (.invokevirtual 45, 3) := by decide +kernel
theorem d_T_readLine_27 : decode b_T_readLine 27 = .ok (.ifCond .ne 5, 3) := by decide +kernel
theorem d_T_readLine_30 : decode b_T_readLine 30 = .ok (.iconst 0, 1) := by decide +kernel
theorem d_T_readLine_31 : decode b_T_readLine 31 = .ok (.ireturn, 1) := by decide +kernel
theorem d_T_readLine_32 : decode b_T_readLine 32 = .ok (.aload_n 0, 1) := by decide +kernel
theorem d_T_readLine_33 : decode b_T_readLine 33 = .ok (.iconst 3, 1) := by decide +kernel
theorem d_T_readLine_34 : decode b_T_readLine 34 = .ok (.invokevirtual 53, 3) := by decide +kernel
theorem d_T_readLine_37 : decode b_T_readLine 37 = .ok (.istore_n 3, 1) := by decide +kernel
theorem d_T_readLine_38 : decode b_T_readLine 38 = .ok (.iload_n 3, 1) := by decide +kernel
theorem d_T_readLine_39 : decode b_T_readLine 39 = .ok (.ifCond .lt 12, 3) := by decide +kernel
theorem d_T_readLine_42 : decode b_T_readLine 42 = .ok (.aload_n 0, 1) := by decide +kernel
theorem d_T_readLine_43 : decode b_T_readLine 43 = .ok (.bipush 32, 2) := by decide +kernel
theorem d_T_readLine_45 : decode b_T_readLine 45 = .ok (.invokevirtual 45, 3) := by decide +kernel
theorem d_T_readLine_48 : decode b_T_readLine 48 = .ok (.ifCond .ne 5, 3) := by decide +kernel
theorem d_T_readLine_51 : decode b_T_readLine 51 = .ok (.iconst 0, 1) := by decide +kernel
theorem d_T_readLine_52 : decode b_T_readLine 52 = .ok (.ireturn, 1) := by decide +kernel
theorem d_T_readLine_53 : decode b_T_readLine 53 = .ok (.aload_n 0, 1) := by decide +kernel
theorem d_T_readLine_54 : decode b_T_readLine 54 = .ok (.iconst 3, 1) := by decide +kernel
theorem d_T_readLine_55 : decode b_T_readLine 55 = .ok (.invokevirtual 53, 3) := by decide +kernel
theorem d_T_readLine_58 : decode b_T_readLine 58 = .ok (.istore 4, 2) := by decide +kernel
theorem d_T_readLine_60 : decode b_T_readLine 60 = .ok (.iload 4, 2) := by decide +kernel
theorem d_T_readLine_62 : decode b_T_readLine 62 = .ok (.ifCond .lt 12, 3) := by decide +kernel
theorem d_T_readLine_65 : decode b_T_readLine 65 = .ok (.aload_n 0, 1) := by decide +kernel
theorem d_T_readLine_66 : decode b_T_readLine 66 = .ok (.bipush 32, 2) := by decide +kernel
theorem d_T_readLine_68 : decode b_T_readLine 68 = .ok (.invokevirtual 45, 3) := by decide +kernel
theorem d_T_readLine_71 : decode b_T_readLine 71 = .ok (.ifCond .ne 5, 3) := by decide +kernel
theorem d_T_readLine_74 : decode b_T_readLine 74 = .ok (.iconst 0, 1) := by decide +kernel
theorem d_T_readLine_75 : decode b_T_readLine 75 = .ok (.ireturn, 1) := by decide +kernel
theorem d_T_readLine_76 : decode b_T_readLine 76 = .ok (.aload_n 0, 1) := by decide +kernel
theorem d_T_readLine_77 : decode b_T_readLine 77 = .ok (.bipush 45, 2) := by decide +kernel
theorem d_T_readLine_79 : decode b_T_readLine 79 = .ok (.invokevirtual 45, 3) := by decide +kernel
theorem d_T_readLine_82 : decode b_T_readLine 82 = .ok (.istore 5, 2) := by decide +kernel
theorem d_T_readLine_84 : decode b_T_readLine 84 = .ok (.aload_n 0, 1) := by decide +kernel
theorem d_T_readLine_85 : decode b_T_readLine 85 = .ok (.bipush 9, 2) := by decide +kernel
theorem d_T_readLine_87 : decode b_T_readLine 87 = .ok (.invokevirtual 53, 3) := by decide +kernel
theorem d_T_readLine_90 : decode b_T_readLine 90 = .ok (.istore 6, 2) := by decide +kernel
theorem d_T_readLine_92 : decode b_T_readLine 92 = .ok (.iload 6, 2) := by decide +kernel
theorem d_T_readLine_94 : decode b_T_readLine 94 = .ok (.ifCond .ge 5, 3) := by decide +kernel
theorem d_T_readLine_97 : decode b_T_readLine 97 = .ok (.iconst 0, 1) := by decide +kernel
theorem d_T_readLine_98 : decode b_T_readLine 98 = .ok (.ireturn, 1) := by decide +kernel
theorem d_T_readLine_99 : decode b_T_readLine 99 = .ok (.aload_n 0, 1) := by decide +kernel
theorem d_T_readLine_100 : decode b_T_readLine 100 = .ok (.getfield 15, 3) := by decide +kernel
theorem d_T_readLine_103 : decode b_T_readLine 103 = .ok (.aload_n 0, 1) := by decide +kernel
theorem d_T_readLine_104 : decode b_T_readLine 104 = .ok (.getfield 38, 3) := by decide +kernel
theorem d_T_readLine_107 : decode b_T_readLine 107 = .ok (.iload_n 1, 1) := by decide +kernel
theorem d_T_readLine_108 : decode b_T_readLine 108 = .ok (.invokestatic 31, 3) := by decide +kernel
theorem d_T_readLine_111 : decode b_T_readLine 111 = .ok (.aload_n 0, 1) := by decide +kernel
theorem d_T_readLine_112 : decode b_T_readLine 112 = .ok (.getfield 18, 3) := by decide +kernel
theorem d_T_readLine_115 : decode b_T_readLine 115 = .ok (.aload_n 0, 1) := by decide +kernel
theorem d_T_readLine_116 : decode b_T_readLine 116 = .ok (.getfield 38, 3) := by decide +kernel
theorem d_T_readLine_119 : decode b_T_readLine 119 = .ok (.iload_n 2, 1) := by decide +kernel
theorem d_T_readLine_120 : decode b_T_readLine 120 = .ok (.invokestatic 31, 3) := by decide +kernel
theorem d_T_readLine_123 : decode b_T_readLine 123 = .ok (.aload_n 0, 1) := by decide +kernel
theorem d_T_readLine_124 : decode b_T_readLine 124 = .ok (.getfield 21, 3) := by decide +kernel
theorem d_T_readLine_127 : decode b_T_readLine 127 = .ok (.aload_n 0, 1) := by decide +kernel
theorem d_T_readLine_128 : decode b_T_readLine 128 = .ok (.getfield 38, 3) := by decide +kernel
theorem d_T_readLine_131 : decode b_T_readLine 131 = .ok (.bipush 10, 2) := by decide +kernel
theorem d_T_readLine_133 : decode b_T_readLine 133 = .ok (.iload_n 3, 1) := by decide +kernel
theorem d_T_readLine_134 : decode b_T_readLine 134 = .ok (.imul, 1) := by decide +kernel
theorem d_T_readLine_135 : decode b_T_readLine 135 = .ok (.iload 4, 2) := by decide +kernel
theorem d_T_readLine_137 : decode b_T_readLine 137 = .ok (.iadd, 1) := by decide +kernel
theorem d_T_readLine_138 : decode b_T_readLine 138 = .ok (.invokestatic 31, 3) := by decide +kernel
theorem d_T_readLine_141 : decode b_T_readLine 141 = .ok (.aload_n 0, 1) := by decide +kernel
theorem d_T_readLine_142 : decode b_T_readLine 142 = .ok (.getfield 24, 3) := by decide +kernel
theorem d_T_readLine_145 : decode b_T_readLine 145 = .ok (.aload_n 0, 1) := by decide +kernel
theorem d_T_readLine_146 : decode b_T_readLine 146 = .ok (.getfield 38, 3) := by decide +kernel
theorem d_T_readLine_149 : decode b_T_readLine 149 = .ok (.iload 5, 2) := by decide +kernel
theorem d_T_readLine_151 : decode b_T_readLine 151 = .ok (.ifCond .eq 9, 3) := by decide +kernel
theorem d_T_readLine_154 : decode b_T_readLine 154 = .ok (.iload 6, 2) := by decide +kernel
theorem d_T_readLine_156 : decode b_T_readLine 156 = .ok (.ineg, 1) := by decide +kernel
theorem d_T_readLine_157 : decode b_T_readLine 157 = .ok (.goto 5, 3) := by decide +kernel
theorem d_T_readLine_160 : decode b_T_readLine 160 = .ok (.iload 6, 2) := by decide +kernel
theorem d_T_readLine_162 : decode b_T_readLine 162 = .ok (.invokestatic 31, 3) := by decide +kernel
theorem d_T_readLine_165 : decode b_T_readLine 165 = .ok (.aload_n 0, 1) := by decide +kernel
theorem d_T_readLine_166 : decode b_T_readLine 166 = .ok (.dup, 1) := by decide +kernel
theorem d_T_readLine_167 : decode b_T_readLine 167 = .ok (.getfield 38, 3) := by decide +kernel
theorem d_T_readLine_170 : decode b_T_readLine 170 = .ok (.iconst 1, 1) := by decide +kernel
theorem d_T_readLine_171 : decode b_T_readLine 171 = .ok (.iadd, 1) := by decide +kernel
theorem d_T_readLine_172 : decode b_T_readLine 172 = .ok (.putfield 38, 3) := by decide +kernel
theorem d_T_readLine_175 : decode b_T_readLine 175 = .ok (.iconst 1, 1) := by decide +kernel
theorem d_T_readLine_176 : decode b_T_readLine 176 = .ok (.ireturn, 1) := by decide +kernel
theorem d_T_readWord_0 : decode b_T_readWord 0 = .ok (.iconst 0, 1) := by decide +kernel
theorem d_T_readWord_1 : decode b_T_readWord 1 = .ok (.istore_n 1, 1) := by decide +kernel
theorem d_T_readWord_2 : decode b_T_readWord 2 = .ok (.iconst 0, 1) := by decide +kernel
theorem d_T_readWord_3 : decode b_T_readWord 3 = .ok (.istore_n 2, 1) := by decide +kernel
theorem d_T_readWord_4 : decode b_T_readWord 4 = .ok (.iload_n 2, 1) := by decide +kernel
theorem d_T_readWord_5 : decode b_T_readWord 5 = .ok (.bipush 15, 2) := by decide +kernel
theorem d_T_readWord_7 : decode b_T_readWord 7 = .ok (.if_icmp .ge 57, 3) := by decide +kernel
theorem d_T_readWord_10 : decode b_T_readWord 10 = .ok (.aload_n 0, 1) := by decide +kernel
theorem d_T_readWord_11 : decode b_T_readWord 11 = .ok (.iload_n 2, 1) := by decide +kernel
theorem d_T_readWord_12 : decode b_T_readWord 12 = .ok (.invokevirtual 57, 3) := by decide +kernel
theorem d_T_readWord_15 : decode b_T_readWord 15 = .ok (.istore_n 3, 1) := by decide +kernel
theorem d_T_readWord_16 : decode b_T_readWord 16 = .ok (.iload_n 3, 1) := by decide +kernel
theorem d_T_readWord_17 : decode b_T_readWord 17 = .ok (.ifCond .le 35, 3) := by decide +kernel
theorem d_T_readWord_20 : decode b_T_readWord 20 = .ok (.aload_n 0, 1) := by decide +kernel
theorem d_T_readWord_21 : decode b_T_readWord 21 = .ok (.getfield 9, 3) := by decide +kernel
theorem d_T_readWord_24 : decode b_T_readWord 24 = .ok (.aload_n 0, 1) := by decide +kernel
theorem d_T_readWord_25 : decode b_T_readWord 25 = .ok (.getfield 35, 3) := by decide +kernel
theorem d_T_readWord_28 : decode b_T_readWord 28 = .ok (.iload_n 3, 1) := by decide +kernel
theorem d_T_readWord_29 : decode b_T_readWord 29 = .ok (.iadd, 1) := by decide +kernel
theorem d_T_readWord_30 : decode b_T_readWord 30 = .ok (.iconst 1, 1) := by decide +kernel
theorem d_T_readWord_31 : decode b_T_readWord 31 = .ok (.isub, 1) := by decide +kernel
theorem d_T_readWord_32 : decode b_T_readWord 32 = .ok (.invokestatic 60, 3) := by decide +kernel
theorem d_T_readWord_35 : decode b_T_readWord 35 = .ok (.bipush 32, 2) := by decide +kernel
theorem d_T_readWord_37 : decode b_T_readWord 37 = .ok (.if_icmp .ne 15, 3) := by decide +kernel
theorem d_T_readWord_40 : decode b_T_readWord 40 = .ok (.aload_n 0, 1) := by decide +kernel
theorem d_T_readWord_41 : decode b_T_readWord 41 = .ok (.dup, 1) := by decide +kernel
theorem d_T_readWord_42 : decode b_T_readWord 42 = .ok (.getfield 35, 3) := by decide +kernel
theorem d_T_readWord_45 : decode b_T_readWord 45 = .ok (.iload_n 3, 1) := by decide +kernel
theorem d_T_readWord_46 : decode b_T_readWord 46 = .ok (.iadd, 1) := by decide +kernel
theorem d_T_readWord_47 : decode b_T_readWord 47 = .ok (.putfield 35, 3) := by decide +kernel
theorem d_T_readWord_50 : decode b_T_readWord 50 = .ok (.iload_n 2, 1) := by decide +kernel
theorem d_T_readWord_51 : decode b_T_readWord 51 = .ok (.ireturn, 1) := by decide +kernel
theorem d_T_readWord_52 : decode b_T_readWord 52 = .ok (.iload_n 1, 1) := by decide +kernel
theorem d_T_readWord_53 : decode b_T_readWord 53 = .ok (.iload_n 3, 1) := by decide +kernel
theorem d_T_readWord_54 : decode b_T_readWord 54 = .ok (.invokestatic 64, 3) := by decide +kernel
theorem d_T_readWord_57 : decode b_T_readWord 57 = .ok (.istore_n 1, 1) := by decide +kernel
theorem d_T_readWord_58 : decode b_T_readWord 58 = .ok (.iinc 2 1, 3) := by decide +kernel
theorem d_T_readWord_61 : decode b_T_readWord 61 = .ok (.goto (-57), 3) := by decide +kernel
theorem d_T_readWord_64 : decode b_T_readWord 64 = .ok (.aload_n 0, 1) := by decide +kernel
theorem d_T_readWord_65 : decode b_T_readWord 65 = .ok (.dup, 1) := by decide +kernel
theorem d_T_readWord_66 : decode b_T_readWord 66 = .ok (.getfield 35, 3) := by decide +kernel
theorem d_T_readWord_69 : decode b_T_readWord 69 = .ok (.iload_n 1, 1) := by decide +kernel
theorem d_T_readWord_70 : decode b_T_readWord 70 = .ok (.iadd, 1) := by decide +kernel
theorem d_T_readWord_71 : decode b_T_readWord 71 = .ok (.putfield 35, 3) := by decide +kernel
theorem d_T_readWord_74 : decode b_T_readWord 74 = .ok (.iconst (-1), 1) := by decide +kernel
theorem d_T_readWord_75 : decode b_T_readWord 75 = .ok (.ireturn, 1) := by decide +kernel
theorem d_T_lettersAlike_0 : decode b_T_lettersAlike 0 = .ok (.iconst 0, 1) := by decide +kernel
theorem d_T_lettersAlike_1 : decode b_T_lettersAlike 1 = .ok (.istore_n 2, 1) := by decide +kernel
theorem d_T_lettersAlike_2 : decode b_T_lettersAlike 2 = .ok (.iload_n 2, 1) := by decide +kernel
theorem d_T_lettersAlike_3 : decode b_T_lettersAlike 3 = .ok (.bipush 7, 2) := by decide +kernel
theorem d_T_lettersAlike_5 : decode b_T_lettersAlike 5 = .ok (.if_icmp .ge 79, 3) := by decide +kernel
theorem d_T_lettersAlike_8 : decode b_T_lettersAlike 8 = .ok (.aload_n 0, 1) := by decide +kernel
theorem d_T_lettersAlike_9 : decode b_T_lettersAlike 9 = .ok (.getfield 35, 3) := by decide +kernel
theorem d_T_lettersAlike_12 : decode b_T_lettersAlike 12 = .ok (.iload_n 2, 1) := by decide +kernel
theorem d_T_lettersAlike_13 : decode b_T_lettersAlike 13 = .ok (.iadd, 1) := by decide +kernel
theorem d_T_lettersAlike_14 : decode b_T_lettersAlike 14 = .ok (.aload_n 0, 1) := by decide +kernel
theorem d_T_lettersAlike_15 : decode b_T_lettersAlike 15 = .ok (.getfield 27, 3) := by decide +kernel
theorem d_T_lettersAlike_18 : decode b_T_lettersAlike 18 = .ok (.if_icmp .ge 66, 3) := by decide +kernel
theorem d_T_lettersAlike_21 : decode b_T_lettersAlike 21 = .ok (.iload_n 1, 1) := by decide +kernel
theorem d_T_lettersAlike_22 : decode b_T_lettersAlike 22 = .ok (.bipush 7, 2) := by decide +kernel
theorem d_T_lettersAlike_24 : decode b_T_lettersAlike 24 = .ok (.imul, 1) := by decide +kernel
theorem d_T_lettersAlike_25 : decode b_T_lettersAlike 25 = .ok (.iload_n 2, 1) := by decide +kernel
theorem d_T_lettersAlike_26 : decode b_T_lettersAlike 26 = .ok (.iadd, 1) := by decide +kernel
theorem d_T_lettersAlike_27 : decode b_T_lettersAlike 27 = .ok (.istore_n 3, 1) := by decide +kernel
theorem d_T_lettersAlike_28 : decode b_T_lettersAlike 28 = .ok (.iload_n 3, 1) := by decide +kernel
theorem d_T_lettersAlike_29 : decode b_T_lettersAlike 29 = .ok (.ifCond .lt 34, 3) := by decide +kernel
theorem d_T_lettersAlike_32 : decode b_T_lettersAlike 32 = .ok (.iload_n 3, 1) := by decide +kernel
theorem d_T_lettersAlike_33 : decode b_T_lettersAlike 33 = .ok (.ldc 70, 2) := by decide +kernel
theorem d_T_lettersAlike_35 : decode b_T_lettersAlike 35 = .ok (.invokevirtual 72, 3) := by decide +kernel
theorem d_T_lettersAlike_38 : decode b_T_lettersAlike 38 = .ok (.if_icmp .ge 25, 3) := by decide +kernel
theorem d_T_lettersAlike_41 : decode b_T_lettersAlike 41 = .ok (.ldc 70, 2) := by decide +kernel
theorem d_T_lettersAlike_43 : decode b_T_lettersAlike 43 = .ok (.iload_n 3, 1) := by decide +kernel
theorem d_T_lettersAlike_44 : decode b_T_lettersAlike 44 = .ok (.invokevirtual 76, 3) := by decide +kernel
theorem d_T_lettersAlike_47 : decode b_T_lettersAlike 47 = .ok (.aload_n 0, 1) := by decide +kernel
theorem d_T_lettersAlike_48 : decode b_T_lettersAlike 48 = .ok (.getfield 9, 3) := by decide +kernel
theorem d_T_lettersAlike_51 : decode b_T_lettersAlike 51 = .ok (.aload_n 0, 1) := by decide +kernel
theorem d_T_lettersAlike_52 : decode b_T_lettersAlike 52 = .ok (.getfield 35, 3) := by decide +kernel
theorem d_T_lettersAlike_55 : decode b_T_lettersAlike 55 = .ok (.iload_n 2, 1) := by decide +kernel
theorem d_T_lettersAlike_56 : decode b_T_lettersAlike 56 = .ok (.iadd, 1) := by decide +kernel
theorem d_T_lettersAlike_57 : decode b_T_lettersAlike 57 = .ok (.invokestatic 60, 3) := by decide +kernel
theorem d_T_lettersAlike_60 : decode b_T_lettersAlike 60 = .ok (.if_icmp .eq 5, 3) := by decide +kernel
theorem d_T_lettersAlike_63 : decode b_T_lettersAlike 63 = .ok (.iload_n 2, 1) := by decide +kernel
theorem d_T_lettersAlike_64 : decode b_T_lettersAlike 64 = .ok (.ireturn, 1) := by decide +kernel
theorem d_T_lettersAlike_65 : decode b_T_lettersAlike 65 = .ok (.iinc 2 1, 3) := by decide +kernel
theorem d_T_lettersAlike_68 : decode b_T_lettersAlike 68 = .ok (.ldc 70, 2) := by decide +kernel
theorem d_T_lettersAlike_70 : decode b_T_lettersAlike 70 = .ok (.iload_n 3, 1) := by decide +kernel
theorem d_T_lettersAlike_71 : decode b_T_lettersAlike 71 = .ok (.invokevirtual 76, 3) := by decide +kernel
theorem d_T_lettersAlike_74 : decode b_T_lettersAlike 74 = .ok (.bipush 32, 2) := by decide +kernel
theorem d_T_lettersAlike_76 : decode b_T_lettersAlike 76 = .ok (.if_icmp .ne 5, 3) := by decide +kernel
theorem d_T_lettersAlike_79 : decode b_T_lettersAlike 79 = .ok (.iload_n 2, 1) := by decide +kernel
theorem d_T_lettersAlike_80 : decode b_T_lettersAlike 80 = .ok (.ireturn, 1) := by decide +kernel
theorem d_T_lettersAlike_81 : decode b_T_lettersAlike 81 = .ok (.goto (-79), 3) := by decide +kernel
theorem d_T_lettersAlike_84 : decode b_T_lettersAlike 84 = .ok (.iload_n 2, 1) := by decide +kernel
theorem d_T_lettersAlike_85 : decode b_T_lettersAlike 85 = .ok (.ireturn, 1) := by decide +kernel
theorem d_T_readDigit_0 : decode b_T_readDigit 0 = .ok (.aload_n 0, 1) := by decide +kernel
theorem d_T_readDigit_1 : decode b_T_readDigit 1 = .ok (.getfield 35, 3) := by decide +kernel
theorem d_T_readDigit_4 : decode b_T_readDigit 4 = .ok (.aload_n 0, 1) := by decide +kernel
theorem d_T_readDigit_5 : decode b_T_readDigit 5 = .ok (.getfield 27, 3) := by decide +kernel
theorem d_T_readDigit_8 : decode b_T_readDigit 8 = .ok (.if_icmp .ge 20, 3) := by decide +kernel
theorem d_T_readDigit_11 : decode b_T_readDigit 11 = .ok (.aload_n 0, 1) := by decide +kernel
theorem d_T_readDigit_12 : decode b_T_readDigit 12 = .ok (.getfield 9, 3) := by decide +kernel
theorem d_T_readDigit_15 : decode b_T_readDigit 15 = .ok (.aload_n 0, 1) := by decide +kernel
theorem d_T_readDigit_16 : decode b_T_readDigit 16 = .ok (.getfield 35, 3) := by decide +kernel
theorem d_T_readDigit_19 : decode b_T_readDigit 19 = .ok (.invokestatic 60, 3) := by decide +kernel
theorem d_T_readDigit_22 : decode b_T_readDigit 22 = .ok (.bipush 48, 2) := by decide +kernel
theorem d_T_readDigit_24 : decode b_T_readDigit 24 = .ok (.isub, 1) := by decide +kernel
theorem d_T_readDigit_25 : decode b_T_readDigit 25 = .ok (.goto 4, 3) := by decide +kernel
theorem d_T_readDigit_28 : decode b_T_readDigit 28 = .ok (.iconst (-1), 1) := by decide +kernel
theorem d_T_readDigit_29 : decode b_T_readDigit 29 = .ok (.istore_n 2, 1) := by decide +kernel
theorem d_T_readDigit_30 : decode b_T_readDigit 30 = .ok (.iload_n 2, 1) := by decide +kernel
theorem d_T_readDigit_31 : decode b_T_readDigit 31 = .ok (.ifCond .lt 8, 3) := by decide +kernel
theorem d_T_readDigit_34 : decode b_T_readDigit 34 = .ok (.iload_n 2, 1) := by decide +kernel
theorem d_T_readDigit_35 : decode b_T_readDigit 35 = .ok (.iload_n 1, 1) := by decide +kernel
theorem d_T_readDigit_36 : decode b_T_readDigit 36 = .ok (.if_icmp .le 5, 3) := by decide +kernel
theorem d_T_readDigit_39 : decode b_T_readDigit 39 = .ok (.iconst (-1), 1) := by decide +kernel
theorem d_T_readDigit_40 : decode b_T_readDigit 40 = .ok (.ireturn, 1) := by decide +kernel
theorem d_T_readDigit_41 : decode b_T_readDigit 41 = .ok (.aload_n 0, 1) := by decide +kernel
theorem d_T_readDigit_42 : decode b_T_readDigit 42 = .ok (.dup, 1) := by decide +kernel
theorem d_T_readDigit_43 : decode b_T_readDigit 43 = .ok (.getfield 35, 3) := by decide +kernel
theorem d_T_readDigit_46 : decode b_T_readDigit 46 = .ok (.iconst 1, 1) := by decide +kernel
theorem d_T_readDigit_47 : decode b_T_readDigit 47 = .ok (.iadd, 1) := by decide +kernel
theorem d_T_readDigit_48 : decode b_T_readDigit 48 = .ok (.putfield 35, 3) := by decide +kernel
theorem d_T_readDigit_51 : decode b_T_readDigit 51 = .ok (.iload_n 2, 1) := by decide +kernel
theorem d_T_readDigit_52 : decode b_T_readDigit 52 = .ok (.ireturn, 1) := by decide +kernel
theorem d_T_skip_0 : decode b_T_skip 0 = .ok (.aload_n 0, 1) := by decide +kernel
theorem d_T_skip_1 : decode b_T_skip 1 = .ok (.getfield 35, 3) := by decide +kernel
theorem d_T_skip_4 : decode b_T_skip 4 = .ok (.aload_n 0, 1) := by decide +kernel
theorem d_T_skip_5 : decode b_T_skip 5 = .ok (.getfield 27, 3) := by decide +kernel
theorem d_T_skip_8 : decode b_T_skip 8 = .ok (.if_icmp .ge 18, 3) := by decide +kernel
theorem d_T_skip_11 : decode b_T_skip 11 = .ok (.aload_n 0, 1) := by decide +kernel
theorem d_T_skip_12 : decode b_T_skip 12 = .ok (.getfield 9, 3) := by decide +kernel
theorem d_T_skip_15 : decode b_T_skip 15 = .ok (.aload_n 0, 1) := by decide +kernel
theorem d_T_skip_16 : decode b_T_skip 16 = .ok (.getfield 35, 3) := by decide +kernel
theorem d_T_skip_19 : decode b_T_skip 19 = .ok (.invokestatic 60, 3) := by decide +kernel
theorem d_T_skip_22 : decode b_T_skip 22 = .ok (.iload_n 1, 1) := by decide +kernel
theorem d_T_skip_23 : decode b_T_skip 23 = .ok (.if_icmp .eq 5, 3) := by decide +kernel
theorem d_T_skip_26 : decode b_T_skip 26 = .ok (.iconst 0, 1) := by decide +kernel
theorem d_T_skip_27 : decode b_T_skip 27 = .ok (.ireturn, 1) := by decide +kernel
theorem d_T_skip_28 : decode b_T_skip 28 = .ok (.aload_n 0, 1) := by decide +kernel
theorem d_T_skip_29 : decode b_T_skip 29 = .ok (.dup, 1) := by decide +kernel
theorem d_T_skip_30 : decode b_T_skip 30 = .ok (.getfield 35, 3) := by decide +kernel
theorem d_T_skip_33 : decode b_T_skip 33 = .ok (.iconst 1, 1) := by decide +kernel
theorem d_T_skip_34 : decode b_T_skip 34 = .ok (.iadd, 1) := by decide +kernel
theorem d_T_skip_35 : decode b_T_skip 35 = .ok (.putfield 35, 3) := by decide +kernel
theorem d_T_skip_38 : decode b_T_skip 38 = .ok (.iconst 1, 1) := by decide +kernel
theorem d_T_skip_39 : decode b_T_skip 39 = .ok (.ireturn, 1) := by decide +kernel
theorem d_L_init_0 : decode b_L_init 0 = .ok (.aload_n 0, 1) := by decide +kernel
theorem d_L_init_1 : decode b_L_init 1 = .ok (.invokespecial 1, 3) := by decide +kernel
theorem d_L_init_4 : decode b_L_init 4 = .ok (.aload_n 0, 1) := by decide +kernel
theorem d_L_init_5 : decode b_L_init 5 = .ok (.new 7, 3) := by decide +kernel
theorem d_L_init_8 : decode b_L_init 8 = .ok (.dup, 1) := by decide +kernel
theorem d_L_init_9 : decode b_L_init 9 = .ok (.invokespecial 9, 3) := by decide +kernel
theorem d_L_init_12 : decode b_L_init 12 = .ok (.putfield 10, 3) := by decide +kernel
theorem d_L_init_15 : decode b_L_init 15 = .ok (.aload_n 0, 1) := by decide +kernel
theorem d_L_init_16 : decode b_L_init 16 = .ok (.new 16, 3) := by decide +kernel
theorem d_L_init_19 : decode b_L_init 19 = .ok (.dup, 1) := by decide +kernel
theorem d_L_init_20 : decode b_L_init 20 = .ok (.aload_n 0, 1) := by decide +kernel
theorem d_L_init_21 : decode b_L_init 21 = .ok (.getfield 10, 3) := by decide +kernel
theorem d_L_init_24 : decode b_L_init 24 = .ok (.invokespecial 18, 3) := by decide +kernel
theorem d_L_init_27 : decode b_L_init 27 = .ok (.putfield 21, 3) := by decide +kernel
theorem d_L_init_30 : decode b_L_init 30 = .ok (.aload_n 0, 1) := by decide +kernel
theorem d_L_init_31 : decode b_L_init 31 = .ok (.new 16, 3) := by decide +kernel
theorem d_L_init_34 : decode b_L_init 34 = .ok (.dup, 1) := by decide +kernel
theorem d_L_init_35 : decode b_L_init 35 = .ok (.aload_n 0, 1) := by decide +kernel
theorem d_L_init_36 : decode b_L_init 36 = .ok (.getfield 10, 3) := by decide +kernel
theorem d_L_init_39 : decode b_L_init 39 = .ok (.invokespecial 18, 3) := by decide +kernel
theorem d_L_init_42 : decode b_L_init 42 = .ok (.putfield 25, 3) := by decide +kernel
theorem d_L_init_45 : decode b_L_init 45 = .ok (.aload_n 0, 1) := by decide +kernel
theorem d_L_init_46 : decode b_L_init 46 = .ok (.iconst 0, 1) := by decide +kernel
theorem d_L_init_47 : decode b_L_init 47 = .ok (.putfield 28, 3) := by decide +kernel
theorem d_L_init_50 : decode b_L_init 50 = .ok (.aload_n 0, 1) := by decide +kernel
theorem d_L_init_51 : decode b_L_init 51 = .ok (.new 16, 3) := by decide +kernel
theorem d_L_init_54 : decode b_L_init 54 = .ok (.dup, 1) := by decide +kernel
theorem d_L_init_55 : decode b_L_init 55 = .ok (.aload_n 0, 1) := by decide +kernel
theorem d_L_init_56 : decode b_L_init 56 = .ok (.getfield 10, 3) := by decide +kernel
theorem d_L_init_59 : decode b_L_init 59 = .ok (.invokespecial 18, 3) := by decide +kernel
theorem d_L_init_62 : decode b_L_init 62 = .ok (.putfield 32, 3) := by decide +kernel
theorem d_L_init_65 : decode b_L_init 65 = .ok (.aload_n 0, 1) := by decide +kernel
theorem d_L_init_66 : decode b_L_init 66 = .ok (.iconst 4, 1) := by decide +kernel
theorem d_L_init_67 : decode b_L_init 67 = .ok (.anewarray 16, 3) := by decide +kernel
theorem d_L_init_70 : decode b_L_init 70 = .ok (.putfield 35, 3) := by decide +kernel
theorem d_L_init_73 : decode b_L_init 73 = .ok (.aload_n 0, 1) := by decide +kernel
theorem d_L_init_74 : decode b_L_init 74 = .ok (.new 39, 3) := by decide +kernel
theorem d_L_init_77 : decode b_L_init 77 = .ok (.dup, 1) := by decide +kernel
theorem d_L_init_78 : decode b_L_init 78 = .ok (.aload_n 0, 1) := by decide +kernel
theorem d_L_init_79 : decode b_L_init 79 = .ok (.getfield 10, 3) := by decide +kernel
theorem d_L_init_82 : decode b_L_init 82 = .ok (.invokespecial 41, 3) := by decide +kernel
theorem d_L_init_85 : decode b_L_init 85 = .ok (.putfield 42, 3) := by decide +kernel
theorem d_L_init_88 : decode b_L_init 88 = .ok (.aload_n 0, 1) := by decide +kernel
theorem d_L_init_89 : decode b_L_init 89 = .ok (.new 46, 3) := by decide +kernel
theorem d_L_init_92 : decode b_L_init 92 = .ok (.dup, 1) := by decide +kernel
theorem d_L_init_93 : decode b_L_init 93 = .ok (.aload_n 0, 1) := by decide +kernel
theorem d_L_init_94 : decode b_L_init 94 = .ok (.getfield 10, 3) := by decide +kernel
theorem d_L_init_97 : decode b_L_init 97 = .ok (.invokespecial 48, 3) := by decide +kernel
theorem d_L_init_100 : decode b_L_init 100 = .ok (.putfield 49, 3) := by decide +kernel
theorem d_L_init_103 : decode b_L_init 103 = .ok (.aload_n 0, 1) := by decide +kernel
theorem d_L_init_104 : decode b_L_init 104 = .ok (.new 53, 3) := by decide +kernel
theorem d_L_init_107 : decode b_L_init 107 = .ok (.dup, 1) := by decide +kernel
theorem d_L_init_108 : decode b_L_init 108 = .ok (.aload_n 0, 1) := by decide +kernel
theorem d_L_init_109 : decode b_L_init 109 = .ok (.getfield 10, 3) := by decide +kernel
theorem d_L_init_112 : decode b_L_init 112 = .ok (.invokespecial 55, 3) := by decide +kernel
theorem d_L_init_115 : decode b_L_init 115 = .ok (.putfield 56, 3) := by decide +kernel
theorem d_L_init_118 : decode b_L_init 118 = .ok (.aload_n 0, 1) := by decide +kernel
theorem d_L_init_119 : decode b_L_init 119 = .ok (.new 60, 3) := by decide +kernel
theorem d_L_init_122 : decode b_L_init 122 = .ok (.dup, 1) := by decide +kernel
theorem d_L_init_123 : decode b_L_init 123 = .ok (.invokespecial 62, 3) := by decide +kernel
theorem d_L_init_126 : decode b_L_init 126 = .ok (.putfield 63, 3) := by decide +kernel
theorem d_L_init_129 : decode b_L_init 129 = .ok (.aload_n 0, 1) := by decide +kernel
theorem d_L_init_130 : decode b_L_init 130 = .ok (.new 60, 3) := by decide +kernel
theorem d_L_init_133 : decode b_L_init 133 = .ok (.dup, 1) := by decide +kernel
theorem d_L_init_134 : decode b_L_init 134 = .ok (.invokespecial 62, 3) := by decide +kernel
theorem d_L_init_137 : decode b_L_init 137 = .ok (.putfield 67, 3) := by decide +kernel
theorem d_L_init_140 : decode b_L_init 140 = .ok (.aload_n 0, 1) := by decide +kernel
theorem d_L_init_141 : decode b_L_init 141 = .ok (.new 70, 3) := by decide +kernel
theorem d_L_init_144 : decode b_L_init 144 = .ok (.dup, 1) := by decide +kernel
theorem d_L_init_145 : decode b_L_init 145 = .ok (.invokespecial 72, 3) := by decide +kernel
theorem d_L_init_148 : decode b_L_init 148 = .ok (.putfield 73, 3) := by decide +kernel
theorem d_L_init_151 : decode b_L_init 151 = .ok (.aload_n 0, 1) := by decide +kernel
theorem d_L_init_152 : decode b_L_init 152 = .ok (.bipush 8, 2) := by decide +kernel
theorem d_L_init_154 : decode b_L_init 154 = .ok (.newarray .int, 2) := by decide +kernel
theorem d_L_init_156 : decode b_L_init 156 = .ok (.putfield 77, 3) := by decide +kernel
theorem d_L_init_159 : decode b_L_init 159 = .ok (.aload_n 0, 1) := by decide +kernel
theorem d_L_init_160 : decode b_L_init 160 = .ok (.iconst 0, 1) := by decide +kernel
theorem d_L_init_161 : decode b_L_init 161 = .ok (.putfield 81, 3) := by decide +kernel
theorem d_L_init_164 : decode b_L_init 164 = .ok (.aload_n 0, 1) := by decide +kernel
theorem d_L_init_165 : decode b_L_init 165 = .ok (.bipush (-2), 2) := by decide +kernel
theorem d_L_init_167 : decode b_L_init 167 = .ok (.putfield 85, 3) := by decide +kernel
theorem d_L_init_170 : decode b_L_init 170 = .ok (.aload_n 0, 1) := by decide +kernel
theorem d_L_init_171 : decode b_L_init 171 = .ok (.bipush (-2), 2) := by decide +kernel
theorem d_L_init_173 : decode b_L_init 173 = .ok (.putfield 88, 3) := by decide +kernel
theorem d_L_init_176 : decode b_L_init 176 = .ok (.iconst 0, 1) := by decide +kernel
theorem d_L_init_177 : decode b_L_init 177 = .ok (.istore_n 1, 1) := by decide +kernel
theorem d_L_init_178 : decode b_L_init 178 = .ok (.iload_n 1, 1) := by decide +kernel
theorem d_L_init_179 : decode b_L_init 179 = .ok (.aload_n 0, 1) := by decide +kernel
theorem d_L_init_180 : decode b_L_init 180 = .ok (.getfield 35, 3) := by decide +kernel
theorem d_L_init_183 : decode b_L_init 183 = .ok (.arraylength, 1) := by decide +kernel
theorem d_L_init_184 : decode b_L_init 184 = .ok (.if_icmp .ge 37, 3) := by decide +kernel
theorem d_L_init_187 : decode b_L_init 187 = .ok (.aload_n 0, 1) := by decide +kernel
theorem d_L_init_188 : decode b_L_init 188 = .ok (.getfield 35, 3) := by decide +kernel
theorem d_L_init_191 : decode b_L_init 191 = .ok (.iload_n 1, 1) := by decide +kernel
theorem d_L_init_192 : decode b_L_init 192 = .ok (.iload_n 1, 1) := by decide +kernel
theorem d_L_init_193 : decode b_L_init 193 = .ok (.ifCond .ne 10, 3) := by decide +kernel
theorem d_L_init_196 : decode b_L_init 196 = .ok (.aload_n 0, 1) := by decide +kernel
theorem d_L_init_197 : decode b_L_init 197 = .ok (.getfield 32, 3) := by decide +kernel
theorem d_L_init_200 : decode b_L_init 200 = .ok (.goto 14, 3) := by decide +kernel
theorem d_L_init_203 : decode b_L_init 203 = .ok (.new 16, 3) := by decide +kernel
theorem d_L_init_206 : decode b_L_init 206 = .ok (.dup, 1) := by decide +kernel
theorem d_L_init_207 : decode b_L_init 207 = .ok (.aload_n 0, 1) := by decide +kernel
theorem d_L_init_208 : decode b_L_init 208 = .ok (.getfield 10, 3) := by decide +kernel
theorem d_L_init_211 : decode b_L_init 211 = .ok (.invokespecial 18, 3) := by decide +kernel
theorem d_L_init_214 : decode b_L_init 214 = .ok (.aastore, 1) := by decide +kernel
theorem d_L_init_215 : decode b_L_init 215 = .ok (.iinc 1 1, 3) := by decide +kernel
theorem d_L_init_218 : decode b_L_init 218 = .ok (.goto (-40), 3) := by decide +kernel
theorem d_L_init_221 : decode b_L_init 221 = .ok (.iconst 0, 1) := by decide +kernel
theorem d_L_init_222 : decode b_L_init 222 = .ok (.istore_n 1, 1) := by decide +kernel
theorem d_L_init_223 : decode b_L_init 223 = .ok (.iload_n 1, 1) := by decide +kernel
theorem d_L_init_224 : decode b_L_init 224 = .ok (.aload_n 0, 1) := by decide +kernel
theorem d_L_init_225 : decode b_L_init 225 = .ok (.getfield 77, 3) := by decide +kernel
theorem d_L_init_228 : decode b_L_init 228 = .ok (.arraylength, 1) := by decide +kernel
theorem d_L_init_229 : decode b_L_init 229 = .ok (.if_icmp .ge 17, 3) := by decide +kernel
theorem d_L_init_232 : decode b_L_init 232 = .ok (.aload_n 0, 1) := by decide +kernel
theorem d_L_init_233 : decode b_L_init 233 = .ok (.getfield 77, 3) := by decide +kernel
theorem d_L_init_236 : decode b_L_init 236 = .ok (.iload_n 1, 1) := by decide +kernel
theorem d_L_init_237 : decode b_L_init 237 = .ok (.bipush (-2), 2) := by decide +kernel
theorem d_L_init_239 : decode b_L_init 239 = .ok (.iastore, 1) := by decide +kernel
theorem d_L_init_240 : decode b_L_init 240 = .ok (.iinc 1 1, 3) := by decide +kernel
theorem d_L_init_243 : decode b_L_init 243 = .ok (.goto (-20), 3) := by decide +kernel
theorem d_L_init_246 : decode b_L_init 246 = .ok (.return_, 1) := by decide +kernel
theorem d_L_card_0 : decode b_L_card 0 = .ok (.iload_n 1, 1) := by decide +kernel
theorem d_L_card_1 : decode b_L_card 1 = .ok (.ifCond .lt 37, 3) := by decide +kernel
theorem d_L_card_4 : decode b_L_card 4 = .ok (.iload_n 1, 1) := by decide +kernel
theorem d_L_card_5 : decode b_L_card 5 = .ok (.bipush 15, 2) := by decide +kernel
theorem d_L_card_7 : decode b_L_card 7 = .ok (.if_icmp .ge 31, 3) := by decide +kernel
theorem d_L_card_10 : decode b_L_card 10 = .ok (.iload_n 2, 1) := by decide +kernel
theorem d_L_card_11 : decode b_L_card 11 = .ok (.invokestatic 91, 3) := by decide +kernel
theorem d_L_card_14 : decode b_L_card 14 = .ok (.ifCond .eq 24, 3) := by decide +kernel
theorem d_L_card_17 : decode b_L_card 17 = .ok (.iload_n 3, 1) := by decide +kernel
theorem d_L_card_18 : decode b_L_card 18 = .ok (.invokestatic 95, 3) := by decide +kernel
theorem d_L_card_21 : decode b_L_card 21 = .ok (.ifCond .eq 17, 3) := by decide +kernel
theorem d_L_card_24 : decode b_L_card 24 = .ok (.iload 4, 2) := by decide +kernel
theorem d_L_card_26 : decode b_L_card 26 = .ok (.bipush (-9), 2) := by decide +kernel
theorem d_L_card_28 : decode b_L_card 28 = .ok (.if_icmp .lt 10, 3) := by decide +kernel
theorem d_L_card_31 : decode b_L_card 31 = .ok (.iload 4, 2) := by decide +kernel
theorem d_L_card_33 : decode b_L_card 33 = .ok (.bipush 9, 2) := by decide +kernel
theorem d_L_card_35 : decode b_L_card 35 = .ok (.if_icmp .le 5, 3) := by decide +kernel
theorem d_L_card_38 : decode b_L_card 38 = .ok (.iconst (-1), 1) := by decide +kernel
theorem d_L_card_39 : decode b_L_card 39 = .ok (.ireturn, 1) := by decide +kernel
theorem d_L_card_40 : decode b_L_card 40 = .ok (.aload_n 0, 1) := by decide +kernel
theorem d_L_card_41 : decode b_L_card 41 = .ok (.getfield 21, 3) := by decide +kernel
theorem d_L_card_44 : decode b_L_card 44 = .ok (.getfield 98, 3) := by decide +kernel
theorem d_L_card_47 : decode b_L_card 47 = .ok (.bipush 24, 2) := by decide +kernel
theorem d_L_card_49 : decode b_L_card 49 = .ok (.if_icmp .lt 6, 3) := by decide +kernel
theorem d_L_card_52 : decode b_L_card 52 = .ok (.bipush (-3), 2) := by decide +kernel
theorem d_L_card_54 : decode b_L_card 54 = .ok (.ireturn, 1) := by decide +kernel
theorem d_L_card_55 : decode b_L_card 55 = .ok (.aload_n 0, 1) := by decide +kernel
theorem d_L_card_56 : decode b_L_card 56 = .ok (.getfield 21, 3) := by decide +kernel
theorem d_L_card_59 : decode b_L_card 59 = .ok (.iload_n 1, 1) := by decide +kernel
theorem d_L_card_60 : decode b_L_card 60 = .ok (.iload_n 2, 1) := by decide +kernel
theorem d_L_card_61 : decode b_L_card 61 = .ok (.iload_n 3, 1) := by decide +kernel
theorem d_L_card_62 : decode b_L_card 62 = .ok (.iload 4, 2) := by decide +kernel
theorem d_L_card_64 : decode b_L_card 64 = .ok (.invokevirtual 101, 3) := by decide +kernel
theorem d_L_card_67 : decode b_L_card 67 = .ok (.ireturn, 1) := by decide +kernel
theorem d_L_feed_0 : decode b_L_feed 0 = .ok (.iload_n 1, 1) := by decide +kernel
theorem d_L_feed_1 : decode b_L_feed 1 = .ok (.ifCond .lt 10, 3) := by decide +kernel
theorem d_L_feed_4 : decode b_L_feed 4 = .ok (.iload_n 1, 1) := by decide +kernel
theorem d_L_feed_5 : decode b_L_feed 5 = .ok (.sipush 255, 3) := by decide +kernel
theorem d_L_feed_8 : decode b_L_feed 8 = .ok (.if_icmp .le 5, 3) := by decide +kernel
theorem d_L_feed_11 : decode b_L_feed 11 = .ok (.iconst (-1), 1) := by decide +kernel
theorem d_L_feed_12 : decode b_L_feed 12 = .ok (.ireturn, 1) := by decide +kernel
theorem d_L_feed_13 : decode b_L_feed 13 = .ok (.aload_n 0, 1) := by decide +kernel
theorem d_L_feed_14 : decode b_L_feed 14 = .ok (.getfield 73, 3) := by decide +kernel
theorem d_L_feed_17 : decode b_L_feed 17 = .ok (.iload_n 1, 1) := by decide +kernel
theorem d_L_feed_18 : decode b_L_feed 18 = .ok (.invokevirtual 105, 3) := by decide +kernel
theorem d_L_feed_21 : decode b_L_feed 21 = .ok (.ifCond .eq 13, 3) := by decide +kernel
theorem d_L_feed_24 : decode b_L_feed 24 = .ok (.aload_n 0, 1) := by decide +kernel
theorem d_L_feed_25 : decode b_L_feed 25 = .ok (.getfield 73, 3) := by decide +kernel
theorem d_L_feed_28 : decode b_L_feed 28 = .ok (.getfield 108, 3) := by decide +kernel
theorem d_L_feed_31 : decode b_L_feed 31 = .ok (.goto 5, 3) := by decide +kernel
theorem d_L_feed_34 : decode b_L_feed 34 = .ok (.bipush (-3), 2) := by decide +kernel
theorem d_L_feed_36 : decode b_L_feed 36 = .ok (.ireturn, 1) := by decide +kernel
theorem d_L_deck_0 : decode b_L_deck 0 = .ok (.aload_n 0, 1) := by decide +kernel
theorem d_L_deck_1 : decode b_L_deck 1 = .ok (.invokevirtual 111, 3) := by decide +kernel
theorem d_L_deck_4 : decode b_L_deck 4 = .ok (.istore_n 1, 1) := by decide +kernel
theorem d_L_deck_5 : decode b_L_deck 5 = .ok (.aload_n 0, 1) := by decide +kernel
theorem d_L_deck_6 : decode b_L_deck 6 = .ok (.getfield 73, 3) := by decide +kernel
theorem d_L_deck_9 : decode b_L_deck 9 = .ok (.iconst 0, 1) := by decide +kernel
theorem d_L_deck_10 : decode b_L_deck 10 = .ok (.putfield 108, 3) := by decide +kernel
theorem d_L_deck_13 : decode b_L_deck 13 = .ok (.iload_n 1, 1) := by decide +kernel
theorem d_L_deck_14 : decode b_L_deck 14 = .ok (.ireturn, 1) := by decide +kernel
theorem d_L_deckOnTape_0 : decode b_L_deckOnTape 0 = .ok (.aload_n 0, 1) := by decide +kernel
theorem d_L_deckOnTape_1 : decode b_L_deckOnTape 1 = .ok (.getfield 73, 3) := by decide +kernel
theorem d_L_deckOnTape_4 : decode b_L_deckOnTape 4 = .ok (.invokevirtual 115, 3) := by decide +kernel
theorem d_L_deckOnTape_7 : decode b_L_deckOnTape 7 = .ok (.istore_n 1, 1) := by decide +kernel
theorem d_L_deckOnTape_8 : decode b_L_deckOnTape 8 = .ok (.iload_n 1, 1) := by decide +kernel
theorem d_L_deckOnTape_9 : decode b_L_deckOnTape 9 = .ok (.ifCond .lt 8, 3) := by decide +kernel
theorem d_L_deckOnTape_12 : decode b_L_deckOnTape 12 = .ok (.bipush (-100), 2) := by decide +kernel
theorem d_L_deckOnTape_14 : decode b_L_deckOnTape 14 = .ok (.iload_n 1, 1) := by decide +kernel
theorem d_L_deckOnTape_15 : decode b_L_deckOnTape 15 = .ok (.isub, 1) := by decide +kernel
theorem d_L_deckOnTape_16 : decode b_L_deckOnTape 16 = .ok (.ireturn, 1) := by decide +kernel
theorem d_L_deckOnTape_17 : decode b_L_deckOnTape 17 = .ok (.aload_n 0, 1) := by decide +kernel
theorem d_L_deckOnTape_18 : decode b_L_deckOnTape 18 = .ok (.getfield 21, 3) := by decide +kernel
theorem d_L_deckOnTape_21 : decode b_L_deckOnTape 21 = .ok (.getfield 98, 3) := by decide +kernel
theorem d_L_deckOnTape_24 : decode b_L_deckOnTape 24 = .ok (.aload_n 0, 1) := by decide +kernel
theorem d_L_deckOnTape_25 : decode b_L_deckOnTape 25 = .ok (.getfield 73, 3) := by decide +kernel
theorem d_L_deckOnTape_28 : decode b_L_deckOnTape 28 = .ok (.getfield 118, 3) := by decide +kernel
theorem d_L_deckOnTape_31 : decode b_L_deckOnTape 31 = .ok (.iadd, 1) := by decide +kernel
theorem d_L_deckOnTape_32 : decode b_L_deckOnTape 32 = .ok (.bipush 24, 2) := by decide +kernel
theorem d_L_deckOnTape_34 : decode b_L_deckOnTape 34 = .ok (.if_icmp .le 6, 3) := by decide +kernel
theorem d_L_deckOnTape_37 : decode b_L_deckOnTape 37 = .ok (.bipush (-3), 2) := by decide +kernel
theorem d_L_deckOnTape_39 : decode b_L_deckOnTape 39 = .ok (.ireturn, 1) := by decide +kernel
theorem d_L_deckOnTape_40 : decode b_L_deckOnTape 40 = .ok (.iconst 0, 1) := by decide +kernel
theorem d_L_deckOnTape_41 : decode b_L_deckOnTape 41 = .ok (.istore_n 2, 1) := by decide +kernel
theorem d_L_deckOnTape_42 : decode b_L_deckOnTape 42 = .ok (.iload_n 2, 1) := by decide +kernel
theorem d_L_deckOnTape_43 : decode b_L_deckOnTape 43 = .ok (.aload_n 0, 1) := by decide +kernel
theorem d_L_deckOnTape_44 : decode b_L_deckOnTape 44 = .ok (.getfield 73, 3) := by decide +kernel
theorem d_L_deckOnTape_47 : decode b_L_deckOnTape 47 = .ok (.getfield 118, 3) := by decide +kernel
theorem d_L_deckOnTape_50 : decode b_L_deckOnTape 50 = .ok (.if_icmp .ge 61, 3) := by decide +kernel
theorem d_L_deckOnTape_53 : decode b_L_deckOnTape 53 = .ok (.aload_n 0, 1) := by decide +kernel
theorem d_L_deckOnTape_54 : decode b_L_deckOnTape 54 = .ok (.getfield 21, 3) := by decide +kernel
theorem d_L_deckOnTape_57 : decode b_L_deckOnTape 57 = .ok (.aload_n 0, 1) := by decide +kernel
theorem d_L_deckOnTape_58 : decode b_L_deckOnTape 58 = .ok (.getfield 73, 3) := by decide +kernel
theorem d_L_deckOnTape_61 : decode b_L_deckOnTape 61 = .ok (.getfield 121, 3) := by decide +kernel
theorem d_L_deckOnTape_64 : decode b_L_deckOnTape 64 = .ok (.iload_n 2, 1) := by decide +kernel
theorem d_L_deckOnTape_65 : decode b_L_deckOnTape 65 = .ok (.invokestatic 124, 3) := by decide +kernel
theorem d_L_deckOnTape_68 : decode b_L_deckOnTape 68 = .ok (.aload_n 0, 1) := by decide +kernel
theorem d_L_deckOnTape_69 : decode b_L_deckOnTape 69 = .ok (.getfield 73, 3) := by decide +kernel
theorem d_L_deckOnTape_72 : decode b_L_deckOnTape 72 = .ok (.getfield 128, 3) := by decide +kernel
theorem d_L_deckOnTape_75 : decode b_L_deckOnTape 75 = .ok (.iload_n 2, 1) := by decide +kernel
theorem d_L_deckOnTape_76 : decode b_L_deckOnTape 76 = .ok (.invokestatic 124, 3) := by decide +kernel
theorem d_L_deckOnTape_79 : decode b_L_deckOnTape 79 = .ok (.aload_n 0, 1) := by decide +kernel
theorem d_L_deckOnTape_80 : decode b_L_deckOnTape 80 = .ok (.getfield 73, 3) := by decide +kernel
theorem d_L_deckOnTape_83 : decode b_L_deckOnTape 83 = .ok (.getfield 131, 3) := by decide +kernel
theorem d_L_deckOnTape_86 : decode b_L_deckOnTape 86 = .ok (.iload_n 2, 1) := by decide +kernel
theorem d_L_deckOnTape_87 : decode b_L_deckOnTape 87 = .ok (.invokestatic 124, 3) := by decide +kernel
theorem d_L_deckOnTape_90 : decode b_L_deckOnTape 90 = .ok (.aload_n 0, 1) := by decide +kernel
theorem d_L_deckOnTape_91 : decode b_L_deckOnTape 91 = .ok (.getfield 73, 3) := by decide +kernel
theorem d_L_deckOnTape_94 : decode b_L_deckOnTape 94 = .ok (.getfield 134, 3) := by decide +kernel
theorem d_L_deckOnTape_97 : decode b_L_deckOnTape 97 = .ok (.iload_n 2, 1) := by decide +kernel
theorem d_L_deckOnTape_98 : decode b_L_deckOnTape 98 = .ok (.invokestatic 124, 3) := by decide +kernel
theorem d_L_deckOnTape_101 : decode b_L_deckOnTape 101 = .ok (.invokevirtual 101, 3) := by decide +kernel
theorem d_L_deckOnTape_104 : decode b_L_deckOnTape 104 = .ok (.pop, 1) := by decide +kernel
theorem d_L_deckOnTape_105 : decode b_L_deckOnTape 105 = .ok (.iinc 2 1, 3) := by decide +kernel
theorem d_L_deckOnTape_108 : decode b_L_deckOnTape 108 = .ok (.goto (-66), 3) := by decide +kernel
theorem d_L_deckOnTape_111 : decode b_L_deckOnTape 111 = .ok (.aload_n 0, 1) := by decide +kernel
theorem d_L_deckOnTape_112 : decode b_L_deckOnTape 112 = .ok (.getfield 73, 3) := by decide +kernel
theorem d_L_deckOnTape_115 : decode b_L_deckOnTape 115 = .ok (.getfield 118, 3) := by decide +kernel
theorem d_L_deckOnTape_118 : decode b_L_deckOnTape 118 = .ok (.ireturn, 1) := by decide +kernel
theorem d_L_of_0 : decode b_L_of 0 = .ok (.aload_n 0, 1) := by decide +kernel
theorem d_L_of_1 : decode b_L_of 1 = .ok (.getfield 21, 3) := by decide +kernel
theorem d_L_of_4 : decode b_L_of 4 = .ok (.iload_n 1, 1) := by decide +kernel
theorem d_L_of_5 : decode b_L_of 5 = .ok (.invokevirtual 137, 3) := by decide +kernel
theorem d_L_of_8 : decode b_L_of 8 = .ok (.ifCond .ne 5, 3) := by decide +kernel
theorem d_L_of_11 : decode b_L_of 11 = .ok (.iconst (-1), 1) := by decide +kernel
theorem d_L_of_12 : decode b_L_of 12 = .ok (.ireturn, 1) := by decide +kernel
theorem d_L_of_13 : decode b_L_of 13 = .ok (.iload_n 2, 1) := by decide +kernel
theorem d_L_of_14 : decode b_L_of 14 = .ok (.tableswitch 149 0 6 #[42, 54, 66, 78, 90, 105, 117], 42) := by decide +kernel
theorem d_L_of_56 : decode b_L_of 56 = .ok (.aload_n 0, 1) := by decide +kernel
theorem d_L_of_57 : decode b_L_of 57 = .ok (.getfield 10, 3) := by decide +kernel
theorem d_L_of_60 : decode b_L_of 60 = .ok (.getfield 140, 3) := by decide +kernel
theorem d_L_of_63 : decode b_L_of 63 = .ok (.iload_n 1, 1) := by decide +kernel
theorem d_L_of_64 : decode b_L_of 64 = .ok (.invokestatic 124, 3) := by decide +kernel
theorem d_L_of_67 : decode b_L_of 67 = .ok (.ireturn, 1) := by decide +kernel
theorem d_L_of_68 : decode b_L_of 68 = .ok (.aload_n 0, 1) := by decide +kernel
theorem d_L_of_69 : decode b_L_of 69 = .ok (.getfield 10, 3) := by decide +kernel
theorem d_L_of_72 : decode b_L_of 72 = .ok (.getfield 141, 3) := by decide +kernel
theorem d_L_of_75 : decode b_L_of 75 = .ok (.iload_n 1, 1) := by decide +kernel
theorem d_L_of_76 : decode b_L_of 76 = .ok (.invokestatic 124, 3) := by decide +kernel
theorem d_L_of_79 : decode b_L_of 79 = .ok (.ireturn, 1) := by decide +kernel
theorem d_L_of_80 : decode b_L_of 80 = .ok (.aload_n 0, 1) := by decide +kernel
theorem d_L_of_81 : decode b_L_of 81 = .ok (.getfield 10, 3) := by decide +kernel
theorem d_L_of_84 : decode b_L_of 84 = .ok (.getfield 142, 3) := by decide +kernel
theorem d_L_of_87 : decode b_L_of 87 = .ok (.iload_n 1, 1) := by decide +kernel
theorem d_L_of_88 : decode b_L_of 88 = .ok (.invokestatic 124, 3) := by decide +kernel
theorem d_L_of_91 : decode b_L_of 91 = .ok (.ireturn, 1) := by decide +kernel
theorem d_L_of_92 : decode b_L_of 92 = .ok (.aload_n 0, 1) := by decide +kernel
theorem d_L_of_93 : decode b_L_of 93 = .ok (.getfield 10, 3) := by decide +kernel
theorem d_L_of_96 : decode b_L_of 96 = .ok (.getfield 145, 3) := by decide +kernel
theorem d_L_of_99 : decode b_L_of 99 = .ok (.iload_n 1, 1) := by decide +kernel
theorem d_L_of_100 : decode b_L_of 100 = .ok (.invokestatic 124, 3) := by decide +kernel
theorem d_L_of_103 : decode b_L_of 103 = .ok (.ireturn, 1) := by decide +kernel
theorem d_L_of_104 : decode b_L_of 104 = .ok (.aload_n 0, 1) := by decide +kernel
theorem d_L_of_105 : decode b_L_of 105 = .ok (.getfield 10, 3) := by decide +kernel
theorem d_L_of_108 : decode b_L_of 108 = .ok (.getfield 148, 3) := by decide +kernel
theorem d_L_of_111 : decode b_L_of 111 = .ok (.iload_n 1, 1) := by decide +kernel
theorem d_L_of_112 : decode b_L_of 112 = .ok (.invokestatic 124, 3) := by decide +kernel
theorem d_L_of_115 : decode b_L_of 115 = .ok (.bipush 10, 2) := by decide +kernel
theorem d_L_of_117 : decode b_L_of 117 = .ok (.iadd, 1) := by decide +kernel
theorem d_L_of_118 : decode b_L_of 118 = .ok (.ireturn, 1) := by decide +kernel
theorem d_L_of_119 : decode b_L_of 119 = .ok (.aload_n 0, 1) := by decide +kernel
theorem d_L_of_120 : decode b_L_of 120 = .ok (.getfield 21, 3) := by decide +kernel
theorem d_L_of_123 : decode b_L_of 123 = .ok (.getfield 149, 3) := by decide +kernel
theorem d_L_of_126 : decode b_L_of 126 = .ok (.iload_n 1, 1) := by decide +kernel
theorem d_L_of_127 : decode b_L_of 127 = .ok (.invokestatic 124, 3) := by decide +kernel
theorem d_L_of_130 : decode b_L_of 130 = .ok (.ireturn, 1) := by decide +kernel
theorem d_L_of_131 : decode b_L_of 131 = .ok (.aload_n 0, 1) := by decide +kernel
theorem d_L_of_132 : decode b_L_of 132 = .ok (.getfield 21, 3) := by decide +kernel
theorem d_L_of_135 : decode b_L_of 135 = .ok (.getfield 149, 3) := by decide +kernel
theorem d_L_of_138 : decode b_L_of 138 = .ok (.iload_n 1, 1) := by decide +kernel
theorem d_L_of_139 : decode b_L_of 139 = .ok (.invokestatic 124, 3) := by decide +kernel
theorem d_L_of_142 : decode b_L_of 142 = .ok (.iconst 3, 1) := by decide +kernel
theorem d_L_of_143 : decode b_L_of 143 = .ok (.if_icmp .ne 17, 3) := by decide +kernel
theorem d_L_of_146 : decode b_L_of 146 = .ok (.aload_n 0, 1) := by decide +kernel
theorem d_L_of_147 : decode b_L_of 147 = .ok (.getfield 21, 3) := by decide +kernel
theorem d_L_of_150 : decode b_L_of 150 = .ok (.getfield 152, 3) := by decide +kernel
theorem d_L_of_153 : decode b_L_of 153 = .ok (.iload_n 1, 1) := by decide +kernel
theorem d_L_of_154 : decode b_L_of 154 = .ok (.invokestatic 124, 3) := by decide +kernel
theorem d_L_of_157 : decode b_L_of 157 = .ok (.goto 5, 3) := by decide +kernel
theorem d_L_of_160 : decode b_L_of 160 = .ok (.bipush (-2), 2) := by decide +kernel
theorem d_L_of_162 : decode b_L_of 162 = .ok (.ireturn, 1) := by decide +kernel
theorem d_L_of_163 : decode b_L_of 163 = .ok (.iconst (-1), 1) := by decide +kernel
theorem d_L_of_164 : decode b_L_of 164 = .ok (.ireturn, 1) := by decide +kernel
theorem d_L_deal_0 : decode b_L_deal 0 = .ok (.aload_n 0, 1) := by decide +kernel
theorem d_L_deal_1 : decode b_L_deal 1 = .ok (.getfield 21, 3) := by decide +kernel
theorem d_L_deal_4 : decode b_L_deal 4 = .ok (.iload_n 1, 1) := by decide +kernel
theorem d_L_deal_5 : decode b_L_deal 5 = .ok (.invokevirtual 137, 3) := by decide +kernel
theorem d_L_deal_8 : decode b_L_deal 8 = .ok (.ifCond .ne 5, 3) := by decide +kernel
theorem d_L_deal_11 : decode b_L_deal 11 = .ok (.iconst (-1), 1) := by decide +kernel
theorem d_L_deal_12 : decode b_L_deal 12 = .ok (.ireturn, 1) := by decide +kernel
theorem d_L_deal_13 : decode b_L_deal 13 = .ok (.aload_n 0, 1) := by decide +kernel
theorem d_L_deal_14 : decode b_L_deal 14 = .ok (.getfield 21, 3) := by decide +kernel
theorem d_L_deal_17 : decode b_L_deal 17 = .ok (.getfield 149, 3) := by decide +kernel
theorem d_L_deal_20 : decode b_L_deal 20 = .ok (.iload_n 1, 1) := by decide +kernel
theorem d_L_deal_21 : decode b_L_deal 21 = .ok (.invokestatic 124, 3) := by decide +kernel
theorem d_L_deal_24 : decode b_L_deal 24 = .ok (.ifCond .eq 6, 3) := by decide +kernel
theorem d_L_deal_27 : decode b_L_deal 27 = .ok (.bipush (-5), 2) := by decide +kernel
theorem d_L_deal_29 : decode b_L_deal 29 = .ok (.ireturn, 1) := by decide +kernel
theorem d_L_deal_30 : decode b_L_deal 30 = .ok (.aload_n 0, 1) := by decide +kernel
theorem d_L_deal_31 : decode b_L_deal 31 = .ok (.getfield 21, 3) := by decide +kernel
theorem d_L_deal_34 : decode b_L_deal 34 = .ok (.iload_n 1, 1) := by decide +kernel
theorem d_L_deal_35 : decode b_L_deal 35 = .ok (.iconst 1, 1) := by decide +kernel
theorem d_L_deal_36 : decode b_L_deal 36 = .ok (.invokevirtual 155, 3) := by decide +kernel
theorem d_L_deal_39 : decode b_L_deal 39 = .ok (.iconst 1, 1) := by decide +kernel
theorem d_L_deal_40 : decode b_L_deal 40 = .ok (.ireturn, 1) := by decide +kernel
theorem d_L_base_0 : decode b_L_base 0 = .ok (.iload_n 1, 1) := by decide +kernel
theorem d_L_base_1 : decode b_L_base 1 = .ok (.ifCond .lt 20, 3) := by decide +kernel
theorem d_L_base_4 : decode b_L_base 4 = .ok (.iload_n 1, 1) := by decide +kernel
theorem d_L_base_5 : decode b_L_base 5 = .ok (.iconst 4, 1) := by decide +kernel
theorem d_L_base_6 : decode b_L_base 6 = .ok (.if_icmp .ge 15, 3) := by decide +kernel
theorem d_L_base_9 : decode b_L_base 9 = .ok (.iload_n 2, 1) := by decide +kernel
theorem d_L_base_10 : decode b_L_base 10 = .ok (.bipush (-99), 2) := by decide +kernel
theorem d_L_base_12 : decode b_L_base 12 = .ok (.if_icmp .lt 9, 3) := by decide +kernel
theorem d_L_base_15 : decode b_L_base 15 = .ok (.iload_n 2, 1) := by decide +kernel
theorem d_L_base_16 : decode b_L_base 16 = .ok (.bipush 99, 2) := by decide +kernel
theorem d_L_base_18 : decode b_L_base 18 = .ok (.if_icmp .le 6, 3) := by decide +kernel
theorem d_L_base_21 : decode b_L_base 21 = .ok (.ldc 159, 2) := by decide +kernel
theorem d_L_base_23 : decode b_L_base 23 = .ok (.ireturn, 1) := by decide +kernel
theorem d_L_base_24 : decode b_L_base 24 = .ok (.aload_n 0, 1) := by decide +kernel
theorem d_L_base_25 : decode b_L_base 25 = .ok (.getfield 21, 3) := by decide +kernel
theorem d_L_base_28 : decode b_L_base 28 = .ok (.getfield 160, 3) := by decide +kernel
theorem d_L_base_31 : decode b_L_base 31 = .ok (.iload_n 1, 1) := by decide +kernel
theorem d_L_base_32 : decode b_L_base 32 = .ok (.invokestatic 124, 3) := by decide +kernel
theorem d_L_base_35 : decode b_L_base 35 = .ok (.istore_n 3, 1) := by decide +kernel
theorem d_L_base_36 : decode b_L_base 36 = .ok (.aload_n 0, 1) := by decide +kernel
theorem d_L_base_37 : decode b_L_base 37 = .ok (.getfield 21, 3) := by decide +kernel
theorem d_L_base_40 : decode b_L_base 40 = .ok (.getfield 160, 3) := by decide +kernel
theorem d_L_base_43 : decode b_L_base 43 = .ok (.iload_n 1, 1) := by decide +kernel
theorem d_L_base_44 : decode b_L_base 44 = .ok (.iload_n 2, 1) := by decide +kernel
theorem d_L_base_45 : decode b_L_base 45 = .ok (.invokestatic 163, 3) := by decide +kernel
theorem d_L_base_48 : decode b_L_base 48 = .ok (.iload_n 3, 1) := by decide +kernel
theorem d_L_base_49 : decode b_L_base 49 = .ok (.ireturn, 1) := by decide +kernel
theorem d_L_mend_0 : decode b_L_mend 0 = .ok (.iload_n 1, 1) := by decide +kernel
theorem d_L_mend_1 : decode b_L_mend 1 = .ok (.invokestatic 91, 3) := by decide +kernel
theorem d_L_mend_4 : decode b_L_mend 4 = .ok (.ifCond .eq 15, 3) := by decide +kernel
theorem d_L_mend_7 : decode b_L_mend 7 = .ok (.iload_n 2, 1) := by decide +kernel
theorem d_L_mend_8 : decode b_L_mend 8 = .ok (.bipush (-99), 2) := by decide +kernel
theorem d_L_mend_10 : decode b_L_mend 10 = .ok (.if_icmp .lt 9, 3) := by decide +kernel
theorem d_L_mend_13 : decode b_L_mend 13 = .ok (.iload_n 2, 1) := by decide +kernel
theorem d_L_mend_14 : decode b_L_mend 14 = .ok (.bipush 99, 2) := by decide +kernel
theorem d_L_mend_16 : decode b_L_mend 16 = .ok (.if_icmp .le 6, 3) := by decide +kernel
theorem d_L_mend_19 : decode b_L_mend 19 = .ok (.ldc 159, 2) := by decide +kernel
theorem d_L_mend_21 : decode b_L_mend 21 = .ok (.ireturn, 1) := by decide +kernel
theorem d_L_mend_22 : decode b_L_mend 22 = .ok (.aload_n 0, 1) := by decide +kernel
theorem d_L_mend_23 : decode b_L_mend 23 = .ok (.getfield 21, 3) := by decide +kernel
theorem d_L_mend_26 : decode b_L_mend 26 = .ok (.getfield 167, 3) := by decide +kernel
theorem d_L_mend_29 : decode b_L_mend 29 = .ok (.iload_n 1, 1) := by decide +kernel
theorem d_L_mend_30 : decode b_L_mend 30 = .ok (.invokestatic 124, 3) := by decide +kernel
theorem d_L_mend_33 : decode b_L_mend 33 = .ok (.istore_n 3, 1) := by decide +kernel
theorem d_L_mend_34 : decode b_L_mend 34 = .ok (.aload_n 0, 1) := by decide +kernel
theorem d_L_mend_35 : decode b_L_mend 35 = .ok (.getfield 21, 3) := by decide +kernel
theorem d_L_mend_38 : decode b_L_mend 38 = .ok (.getfield 167, 3) := by decide +kernel
theorem d_L_mend_41 : decode b_L_mend 41 = .ok (.iload_n 1, 1) := by decide +kernel
theorem d_L_mend_42 : decode b_L_mend 42 = .ok (.iload_n 2, 1) := by decide +kernel
theorem d_L_mend_43 : decode b_L_mend 43 = .ok (.invokestatic 163, 3) := by decide +kernel
theorem d_L_mend_46 : decode b_L_mend 46 = .ok (.iload_n 3, 1) := by decide +kernel
theorem d_L_mend_47 : decode b_L_mend 47 = .ok (.ireturn, 1) := by decide +kernel
theorem d_L_player_0 : decode b_L_player 0 = .ok (.iload_n 1, 1) := by decide +kernel
theorem d_L_player_1 : decode b_L_player 1 = .ok (.invokestatic 91, 3) := by decide +kernel
theorem d_L_player_4 : decode b_L_player 4 = .ok (.ifCond .ne 6, 3) := by decide +kernel
theorem d_L_player_7 : decode b_L_player 7 = .ok (.ldc 159, 2) := by decide +kernel
theorem d_L_player_9 : decode b_L_player 9 = .ok (.ireturn, 1) := by decide +kernel
theorem d_L_player_10 : decode b_L_player 10 = .ok (.iload_n 2, 1) := by decide +kernel
theorem d_L_player_11 : decode b_L_player 11 = .ok (.tableswitch 85 0 4 #[33, 45, 55, 65, 75], 33) := by decide +kernel
theorem d_L_player_44 : decode b_L_player 44 = .ok (.aload_n 0, 1) := by decide +kernel
theorem d_L_player_45 : decode b_L_player 45 = .ok (.getfield 21, 3) := by decide +kernel
theorem d_L_player_48 : decode b_L_player 48 = .ok (.getfield 167, 3) := by decide +kernel
theorem d_L_player_51 : decode b_L_player 51 = .ok (.iload_n 1, 1) := by decide +kernel
theorem d_L_player_52 : decode b_L_player 52 = .ok (.invokestatic 124, 3) := by decide +kernel
theorem d_L_player_55 : decode b_L_player 55 = .ok (.ireturn, 1) := by decide +kernel
theorem d_L_player_56 : decode b_L_player 56 = .ok (.aload_n 0, 1) := by decide +kernel
theorem d_L_player_57 : decode b_L_player 57 = .ok (.getfield 21, 3) := by decide +kernel
theorem d_L_player_60 : decode b_L_player 60 = .ok (.iload_n 1, 1) := by decide +kernel
theorem d_L_player_61 : decode b_L_player 61 = .ok (.iconst 0, 1) := by decide +kernel
theorem d_L_player_62 : decode b_L_player 62 = .ok (.invokevirtual 170, 3) := by decide +kernel
theorem d_L_player_65 : decode b_L_player 65 = .ok (.ireturn, 1) := by decide +kernel
theorem d_L_player_66 : decode b_L_player 66 = .ok (.aload_n 0, 1) := by decide +kernel
theorem d_L_player_67 : decode b_L_player 67 = .ok (.getfield 21, 3) := by decide +kernel
theorem d_L_player_70 : decode b_L_player 70 = .ok (.iload_n 1, 1) := by decide +kernel
theorem d_L_player_71 : decode b_L_player 71 = .ok (.iconst 1, 1) := by decide +kernel
theorem d_L_player_72 : decode b_L_player 72 = .ok (.invokevirtual 170, 3) := by decide +kernel
theorem d_L_player_75 : decode b_L_player 75 = .ok (.ireturn, 1) := by decide +kernel
theorem d_L_player_76 : decode b_L_player 76 = .ok (.aload_n 0, 1) := by decide +kernel
theorem d_L_player_77 : decode b_L_player 77 = .ok (.getfield 21, 3) := by decide +kernel
theorem d_L_player_80 : decode b_L_player 80 = .ok (.iload_n 1, 1) := by decide +kernel
theorem d_L_player_81 : decode b_L_player 81 = .ok (.iconst 3, 1) := by decide +kernel
theorem d_L_player_82 : decode b_L_player 82 = .ok (.invokevirtual 170, 3) := by decide +kernel
theorem d_L_player_85 : decode b_L_player 85 = .ok (.ireturn, 1) := by decide +kernel
theorem d_L_player_86 : decode b_L_player 86 = .ok (.aload_n 0, 1) := by decide +kernel
theorem d_L_player_87 : decode b_L_player 87 = .ok (.getfield 21, 3) := by decide +kernel
theorem d_L_player_90 : decode b_L_player 90 = .ok (.iload_n 1, 1) := by decide +kernel
theorem d_L_player_91 : decode b_L_player 91 = .ok (.iconst 4, 1) := by decide +kernel
theorem d_L_player_92 : decode b_L_player 92 = .ok (.invokevirtual 170, 3) := by decide +kernel
theorem d_L_player_95 : decode b_L_player 95 = .ok (.ireturn, 1) := by decide +kernel
theorem d_L_player_96 : decode b_L_player 96 = .ok (.ldc 159, 2) := by decide +kernel
theorem d_L_player_98 : decode b_L_player 98 = .ok (.ireturn, 1) := by decide +kernel
theorem d_L_value_0 : decode b_L_value 0 = .ok (.iload_n 1, 1) := by decide +kernel
theorem d_L_value_1 : decode b_L_value 1 = .ok (.ifCond .lt 8, 3) := by decide +kernel
theorem d_L_value_4 : decode b_L_value 4 = .ok (.iload_n 1, 1) := by decide +kernel
theorem d_L_value_5 : decode b_L_value 5 = .ok (.iconst 4, 1) := by decide +kernel
theorem d_L_value_6 : decode b_L_value 6 = .ok (.if_icmp .lt 6, 3) := by decide +kernel
theorem d_L_value_9 : decode b_L_value 9 = .ok (.ldc 159, 2) := by decide +kernel
theorem d_L_value_11 : decode b_L_value 11 = .ok (.ireturn, 1) := by decide +kernel
theorem d_L_value_12 : decode b_L_value 12 = .ok (.aload_n 0, 1) := by decide +kernel
theorem d_L_value_13 : decode b_L_value 13 = .ok (.getfield 49, 3) := by decide +kernel
theorem d_L_value_16 : decode b_L_value 16 = .ok (.aload_n 0, 1) := by decide +kernel
theorem d_L_value_17 : decode b_L_value 17 = .ok (.getfield 21, 3) := by decide +kernel
theorem d_L_value_20 : decode b_L_value 20 = .ok (.invokevirtual 174, 3) := by decide +kernel
theorem d_L_value_23 : decode b_L_value 23 = .ok (.aload_n 0, 1) := by decide +kernel
theorem d_L_value_24 : decode b_L_value 24 = .ok (.getfield 49, 3) := by decide +kernel
theorem d_L_value_27 : decode b_L_value 27 = .ok (.getfield 178, 3) := by decide +kernel
theorem d_L_value_30 : decode b_L_value 30 = .ok (.iload_n 1, 1) := by decide +kernel
theorem d_L_value_31 : decode b_L_value 31 = .ok (.invokestatic 124, 3) := by decide +kernel
theorem d_L_value_34 : decode b_L_value 34 = .ok (.ireturn, 1) := by decide +kernel
theorem d_L_layer_0 : decode b_L_layer 0 = .ok (.iload_n 1, 1) := by decide +kernel
theorem d_L_layer_1 : decode b_L_layer 1 = .ok (.ifCond .ge 5, 3) := by decide +kernel
theorem d_L_layer_4 : decode b_L_layer 4 = .ok (.iconst (-1), 1) := by decide +kernel
theorem d_L_layer_5 : decode b_L_layer 5 = .ok (.ireturn, 1) := by decide +kernel
theorem d_L_layer_6 : decode b_L_layer 6 = .ok (.aload_n 0, 1) := by decide +kernel
theorem d_L_layer_7 : decode b_L_layer 7 = .ok (.getfield 49, 3) := by decide +kernel
theorem d_L_layer_10 : decode b_L_layer 10 = .ok (.aload_n 0, 1) := by decide +kernel
theorem d_L_layer_11 : decode b_L_layer 11 = .ok (.getfield 21, 3) := by decide +kernel
theorem d_L_layer_14 : decode b_L_layer 14 = .ok (.invokevirtual 174, 3) := by decide +kernel
theorem d_L_layer_17 : decode b_L_layer 17 = .ok (.iload_n 1, 1) := by decide +kernel
theorem d_L_layer_18 : decode b_L_layer 18 = .ok (.aload_n 0, 1) := by decide +kernel
theorem d_L_layer_19 : decode b_L_layer 19 = .ok (.getfield 49, 3) := by decide +kernel
theorem d_L_layer_22 : decode b_L_layer 22 = .ok (.getfield 181, 3) := by decide +kernel
theorem d_L_layer_25 : decode b_L_layer 25 = .ok (.if_icmp .ge 17, 3) := by decide +kernel
theorem d_L_layer_28 : decode b_L_layer 28 = .ok (.aload_n 0, 1) := by decide +kernel
theorem d_L_layer_29 : decode b_L_layer 29 = .ok (.getfield 49, 3) := by decide +kernel
theorem d_L_layer_32 : decode b_L_layer 32 = .ok (.getfield 184, 3) := by decide +kernel
theorem d_L_layer_35 : decode b_L_layer 35 = .ok (.iload_n 1, 1) := by decide +kernel
theorem d_L_layer_36 : decode b_L_layer 36 = .ok (.invokestatic 124, 3) := by decide +kernel
theorem d_L_layer_39 : decode b_L_layer 39 = .ok (.goto 5, 3) := by decide +kernel
theorem d_L_layer_42 : decode b_L_layer 42 = .ok (.bipush (-2), 2) := by decide +kernel
theorem d_L_layer_44 : decode b_L_layer 44 = .ok (.ireturn, 1) := by decide +kernel
theorem d_L_depends_0 : decode b_L_depends 0 = .ok (.iload_n 1, 1) := by decide +kernel
theorem d_L_depends_1 : decode b_L_depends 1 = .ok (.iload_n 2, 1) := by decide +kernel
theorem d_L_depends_2 : decode b_L_depends 2 = .ok (.if_icmp .eq 19, 3) := by decide +kernel
theorem d_L_depends_5 : decode b_L_depends 5 = .ok (.aload_n 0, 1) := by decide +kernel
theorem d_L_depends_6 : decode b_L_depends 6 = .ok (.iload_n 1, 1) := by decide +kernel
theorem d_L_depends_7 : decode b_L_depends 7 = .ok (.invokevirtual 187, 3) := by decide +kernel
theorem d_L_depends_10 : decode b_L_depends 10 = .ok (.ifCond .eq 11, 3) := by decide +kernel
theorem d_L_depends_13 : decode b_L_depends 13 = .ok (.aload_n 0, 1) := by decide +kernel
theorem d_L_depends_14 : decode b_L_depends 14 = .ok (.iload_n 2, 1) := by decide +kernel
theorem d_L_depends_15 : decode b_L_depends 15 = .ok (.invokevirtual 187, 3) := by decide +kernel
theorem d_L_depends_18 : decode b_L_depends 18 = .ok (.ifCond .ne 5, 3) := by decide +kernel
theorem d_L_depends_21 : decode b_L_depends 21 = .ok (.iconst (-1), 1) := by decide +kernel
theorem d_L_depends_22 : decode b_L_depends 22 = .ok (.ireturn, 1) := by decide +kernel
theorem d_L_depends_23 : decode b_L_depends 23 = .ok (.aload_n 0, 1) := by decide +kernel
theorem d_L_depends_24 : decode b_L_depends 24 = .ok (.getfield 10, 3) := by decide +kernel
theorem d_L_depends_27 : decode b_L_depends 27 = .ok (.getfield 140, 3) := by decide +kernel
theorem d_L_depends_30 : decode b_L_depends 30 = .ok (.iload_n 1, 1) := by decide +kernel
theorem d_L_depends_31 : decode b_L_depends 31 = .ok (.invokestatic 124, 3) := by decide +kernel
theorem d_L_depends_34 : decode b_L_depends 34 = .ok (.invokestatic 190, 3) := by decide +kernel
theorem d_L_depends_37 : decode b_L_depends 37 = .ok (.ifCond .eq 32, 3) := by decide +kernel
theorem d_L_depends_40 : decode b_L_depends 40 = .ok (.aload_n 0, 1) := by decide +kernel
theorem d_L_depends_41 : decode b_L_depends 41 = .ok (.getfield 10, 3) := by decide +kernel
theorem d_L_depends_44 : decode b_L_depends 44 = .ok (.getfield 145, 3) := by decide +kernel
theorem d_L_depends_47 : decode b_L_depends 47 = .ok (.iload_n 1, 1) := by decide +kernel
theorem d_L_depends_48 : decode b_L_depends 48 = .ok (.invokestatic 124, 3) := by decide +kernel
theorem d_L_depends_51 : decode b_L_depends 51 = .ok (.aload_n 0, 1) := by decide +kernel
theorem d_L_depends_52 : decode b_L_depends 52 = .ok (.getfield 10, 3) := by decide +kernel
theorem d_L_depends_55 : decode b_L_depends 55 = .ok (.getfield 142, 3) := by decide +kernel
theorem d_L_depends_58 : decode b_L_depends 58 = .ok (.iload_n 2, 1) := by decide +kernel
theorem d_L_depends_59 : decode b_L_depends 59 = .ok (.invokestatic 124, 3) := by decide +kernel
theorem d_L_depends_62 : decode b_L_depends 62 = .ok (.if_icmp .ne 7, 3) := by decide +kernel
theorem d_L_depends_65 : decode b_L_depends 65 = .ok (.iconst 1, 1) := by decide +kernel
theorem d_L_depends_66 : decode b_L_depends 66 = .ok (.goto 4, 3) := by decide +kernel
theorem d_L_depends_69 : decode b_L_depends 69 = .ok (.iconst 0, 1) := by decide +kernel
theorem d_L_depends_70 : decode b_L_depends 70 = .ok (.ireturn, 1) := by decide +kernel
theorem d_L_isLayerOnTable_0 : decode b_L_isLayerOnTable 0 = .ok (.aload_n 0, 1) := by decide +kernel
theorem d_L_isLayerOnTable_1 : decode b_L_isLayerOnTable 1 = .ok (.getfield 21, 3) := by decide +kernel
theorem d_L_isLayerOnTable_4 : decode b_L_isLayerOnTable 4 = .ok (.iload_n 1, 1) := by decide +kernel
theorem d_L_isLayerOnTable_5 : decode b_L_isLayerOnTable 5 = .ok (.invokevirtual 137, 3) := by decide +kernel
theorem d_L_isLayerOnTable_8 : decode b_L_isLayerOnTable 8 = .ok (.ifCond .eq 40, 3) := by decide +kernel
theorem d_L_isLayerOnTable_11 : decode b_L_isLayerOnTable 11 = .ok (.aload_n 0, 1) := by decide +kernel
theorem d_L_isLayerOnTable_12 : decode b_L_isLayerOnTable 12 = .ok (.getfield 21, 3) := by decide +kernel
theorem d_L_isLayerOnTable_15 : decode b_L_isLayerOnTable 15 = .ok (.getfield 149, 3) := by decide +kernel
theorem d_L_isLayerOnTable_18 : decode b_L_isLayerOnTable 18 = .ok (.iload_n 1, 1) := by decide +kernel
theorem d_L_isLayerOnTable_19 : decode b_L_isLayerOnTable 19 = .ok (.invokestatic 124, 3) := by decide +kernel
theorem d_L_isLayerOnTable_22 : decode b_L_isLayerOnTable 22 = .ok (.iconst 3, 1) := by decide +kernel
theorem d_L_isLayerOnTable_23 : decode b_L_isLayerOnTable 23 = .ok (.if_icmp .ne 25, 3) := by decide +kernel
theorem d_L_isLayerOnTable_26 : decode b_L_isLayerOnTable 26 = .ok (.aload_n 0, 1) := by decide +kernel
theorem d_L_isLayerOnTable_27 : decode b_L_isLayerOnTable 27 = .ok (.getfield 10, 3) := by decide +kernel
theorem d_L_isLayerOnTable_30 : decode b_L_isLayerOnTable 30 = .ok (.getfield 140, 3) := by decide +kernel
theorem d_L_isLayerOnTable_33 : decode b_L_isLayerOnTable 33 = .ok (.iload_n 1, 1) := by decide +kernel
theorem d_L_isLayerOnTable_34 : decode b_L_isLayerOnTable 34 = .ok (.invokestatic 124, 3) := by decide +kernel
theorem d_L_isLayerOnTable_37 : decode b_L_isLayerOnTable 37 = .ok (.invokestatic 193, 3) := by decide +kernel
theorem d_L_isLayerOnTable_40 : decode b_L_isLayerOnTable 40 = .ok (.iconst 1, 1) := by decide +kernel
theorem d_L_isLayerOnTable_41 : decode b_L_isLayerOnTable 41 = .ok (.if_icmp .ne 7, 3) := by decide +kernel
theorem d_L_isLayerOnTable_44 : decode b_L_isLayerOnTable 44 = .ok (.iconst 1, 1) := by decide +kernel
theorem d_L_isLayerOnTable_45 : decode b_L_isLayerOnTable 45 = .ok (.goto 4, 3) := by decide +kernel
theorem d_L_isLayerOnTable_48 : decode b_L_isLayerOnTable 48 = .ok (.iconst 0, 1) := by decide +kernel
theorem d_L_isLayerOnTable_49 : decode b_L_isLayerOnTable 49 = .ok (.ireturn, 1) := by decide +kernel
theorem d_L_used_0 : decode b_L_used 0 = .ok (.iload_n 1, 1) := by decide +kernel
theorem d_L_used_1 : decode b_L_used 1 = .ok (.ifCond .lt 29, 3) := by decide +kernel
theorem d_L_used_4 : decode b_L_used 4 = .ok (.iload_n 1, 1) := by decide +kernel
theorem d_L_used_5 : decode b_L_used 5 = .ok (.sipush 1000, 3) := by decide +kernel
theorem d_L_used_8 : decode b_L_used 8 = .ok (.idiv, 1) := by decide +kernel
theorem d_L_used_9 : decode b_L_used 9 = .ok (.iconst 3, 1) := by decide +kernel
theorem d_L_used_10 : decode b_L_used 10 = .ok (.if_icmp .ge 20, 3) := by decide +kernel
theorem d_L_used_13 : decode b_L_used 13 = .ok (.iload_n 1, 1) := by decide +kernel
theorem d_L_used_14 : decode b_L_used 14 = .ok (.sipush 1000, 3) := by decide +kernel
theorem d_L_used_17 : decode b_L_used 17 = .ok (.irem, 1) := by decide +kernel
theorem d_L_used_18 : decode b_L_used 18 = .ok (.sipush 200, 3) := by decide +kernel
theorem d_L_used_21 : decode b_L_used 21 = .ok (.if_icmp .ge 9, 3) := by decide +kernel
theorem d_L_used_24 : decode b_L_used 24 = .ok (.iload_n 2, 1) := by decide +kernel
theorem d_L_used_25 : decode b_L_used 25 = .ok (.bipush (-2), 2) := by decide +kernel
theorem d_L_used_27 : decode b_L_used 27 = .ok (.if_icmp .ge 5, 3) := by decide +kernel
theorem d_L_used_30 : decode b_L_used 30 = .ok (.iconst (-1), 1) := by decide +kernel
theorem d_L_used_31 : decode b_L_used 31 = .ok (.ireturn, 1) := by decide +kernel
theorem d_L_used_32 : decode b_L_used 32 = .ok (.aload_n 0, 1) := by decide +kernel
theorem d_L_used_33 : decode b_L_used 33 = .ok (.getfield 56, 3) := by decide +kernel
theorem d_L_used_36 : decode b_L_used 36 = .ok (.iload_n 1, 1) := by decide +kernel
theorem d_L_used_37 : decode b_L_used 37 = .ok (.invokevirtual 197, 3) := by decide +kernel
theorem d_L_used_40 : decode b_L_used 40 = .ok (.aload_n 0, 1) := by decide +kernel
theorem d_L_used_41 : decode b_L_used 41 = .ok (.getfield 56, 3) := by decide +kernel
theorem d_L_used_44 : decode b_L_used 44 = .ok (.aload_n 0, 1) := by decide +kernel
theorem d_L_used_45 : decode b_L_used 45 = .ok (.getfield 21, 3) := by decide +kernel
theorem d_L_used_48 : decode b_L_used 48 = .ok (.invokevirtual 201, 3) := by decide +kernel
theorem d_L_used_51 : decode b_L_used 51 = .ok (.iload_n 2, 1) := by decide +kernel
theorem d_L_used_52 : decode b_L_used 52 = .ok (.iconst (-1), 1) := by decide +kernel
theorem d_L_used_53 : decode b_L_used 53 = .ok (.if_icmp .ne 11, 3) := by decide +kernel
theorem d_L_used_56 : decode b_L_used 56 = .ok (.aload_n 0, 1) := by decide +kernel
theorem d_L_used_57 : decode b_L_used 57 = .ok (.getfield 56, 3) := by decide +kernel
theorem d_L_used_60 : decode b_L_used 60 = .ok (.invokevirtual 204, 3) := by decide +kernel
theorem d_L_used_63 : decode b_L_used 63 = .ok (.ireturn, 1) := by decide +kernel
theorem d_L_used_64 : decode b_L_used 64 = .ok (.iload_n 2, 1) := by decide +kernel
theorem d_L_used_65 : decode b_L_used 65 = .ok (.bipush (-2), 2) := by decide +kernel
theorem d_L_used_67 : decode b_L_used 67 = .ok (.if_icmp .ne 11, 3) := by decide +kernel
theorem d_L_used_70 : decode b_L_used 70 = .ok (.aload_n 0, 1) := by decide +kernel
theorem d_L_used_71 : decode b_L_used 71 = .ok (.getfield 56, 3) := by decide +kernel
theorem d_L_used_74 : decode b_L_used 74 = .ok (.getfield 207, 3) := by decide +kernel
theorem d_L_used_77 : decode b_L_used 77 = .ok (.ireturn, 1) := by decide +kernel
theorem d_L_used_78 : decode b_L_used 78 = .ok (.iload_n 2, 1) := by decide +kernel
theorem d_L_used_79 : decode b_L_used 79 = .ok (.aload_n 0, 1) := by decide +kernel
theorem d_L_used_80 : decode b_L_used 80 = .ok (.getfield 56, 3) := by decide +kernel
theorem d_L_used_83 : decode b_L_used 83 = .ok (.getfield 207, 3) := by decide +kernel
theorem d_L_used_86 : decode b_L_used 86 = .ok (.if_icmp .ge 17, 3) := by decide +kernel
theorem d_L_used_89 : decode b_L_used 89 = .ok (.aload_n 0, 1) := by decide +kernel
theorem d_L_used_90 : decode b_L_used 90 = .ok (.getfield 56, 3) := by decide +kernel
theorem d_L_used_93 : decode b_L_used 93 = .ok (.getfield 208, 3) := by decide +kernel
theorem d_L_used_96 : decode b_L_used 96 = .ok (.iload_n 2, 1) := by decide +kernel
theorem d_L_used_97 : decode b_L_used 97 = .ok (.invokestatic 124, 3) := by decide +kernel
theorem d_L_used_100 : decode b_L_used 100 = .ok (.goto 5, 3) := by decide +kernel
theorem d_L_used_103 : decode b_L_used 103 = .ok (.bipush (-2), 2) := by decide +kernel
theorem d_L_used_105 : decode b_L_used 105 = .ok (.ireturn, 1) := by decide +kernel
theorem d_L_play_0 : decode b_L_play 0 = .ok (.aload_n 0, 1) := by decide +kernel
theorem d_L_play_1 : decode b_L_play 1 = .ok (.getfield 21, 3) := by decide +kernel
theorem d_L_play_4 : decode b_L_play 4 = .ok (.iload_n 1, 1) := by decide +kernel
theorem d_L_play_5 : decode b_L_play 5 = .ok (.invokevirtual 137, 3) := by decide +kernel
theorem d_L_play_8 : decode b_L_play 8 = .ok (.ifCond .ne 5, 3) := by decide +kernel
theorem d_L_play_11 : decode b_L_play 11 = .ok (.iconst (-1), 1) := by decide +kernel
theorem d_L_play_12 : decode b_L_play 12 = .ok (.ireturn, 1) := by decide +kernel
theorem d_L_play_13 : decode b_L_play 13 = .ok (.aload_n 0, 1) := by decide +kernel
theorem d_L_play_14 : decode b_L_play 14 = .ok (.getfield 21, 3) := by decide +kernel
theorem d_L_play_17 : decode b_L_play 17 = .ok (.getfield 149, 3) := by decide +kernel
theorem d_L_play_20 : decode b_L_play 20 = .ok (.iload_n 1, 1) := by decide +kernel
theorem d_L_play_21 : decode b_L_play 21 = .ok (.invokestatic 124, 3) := by decide +kernel
theorem d_L_play_24 : decode b_L_play 24 = .ok (.iconst 1, 1) := by decide +kernel
theorem d_L_play_25 : decode b_L_play 25 = .ok (.if_icmp .eq 6, 3) := by decide +kernel
theorem d_L_play_28 : decode b_L_play 28 = .ok (.bipush (-5), 2) := by decide +kernel
theorem d_L_play_30 : decode b_L_play 30 = .ok (.ireturn, 1) := by decide +kernel
theorem d_L_play_31 : decode b_L_play 31 = .ok (.aload_n 0, 1) := by decide +kernel
theorem d_L_play_32 : decode b_L_play 32 = .ok (.getfield 21, 3) := by decide +kernel
theorem d_L_play_35 : decode b_L_play 35 = .ok (.getfield 211, 3) := by decide +kernel
theorem d_L_play_38 : decode b_L_play 38 = .ok (.bipush 64, 2) := by decide +kernel
theorem d_L_play_40 : decode b_L_play 40 = .ok (.if_icmp .lt 6, 3) := by decide +kernel
theorem d_L_play_43 : decode b_L_play 43 = .ok (.bipush (-3), 2) := by decide +kernel
theorem d_L_play_45 : decode b_L_play 45 = .ok (.ireturn, 1) := by decide +kernel
theorem d_L_play_46 : decode b_L_play 46 = .ok (.aload_n 0, 1) := by decide +kernel
theorem d_L_play_47 : decode b_L_play 47 = .ok (.getfield 21, 3) := by decide +kernel
theorem d_L_play_50 : decode b_L_play 50 = .ok (.iload_n 1, 1) := by decide +kernel
theorem d_L_play_51 : decode b_L_play 51 = .ok (.invokevirtual 214, 3) := by decide +kernel
theorem d_L_play_54 : decode b_L_play 54 = .ok (.aload_n 0, 1) := by decide +kernel
theorem d_L_play_55 : decode b_L_play 55 = .ok (.getfield 21, 3) := by decide +kernel
theorem d_L_play_58 : decode b_L_play 58 = .ok (.getfield 211, 3) := by decide +kernel
theorem d_L_play_61 : decode b_L_play 61 = .ok (.ireturn, 1) := by decide +kernel
theorem d_L_pile_0 : decode b_L_pile 0 = .ok (.iload_n 1, 1) := by decide +kernel
theorem d_L_pile_1 : decode b_L_pile 1 = .ok (.ifCond .ge 5, 3) := by decide +kernel
theorem d_L_pile_4 : decode b_L_pile 4 = .ok (.iconst (-1), 1) := by decide +kernel
theorem d_L_pile_5 : decode b_L_pile 5 = .ok (.ireturn, 1) := by decide +kernel
theorem d_L_pile_6 : decode b_L_pile 6 = .ok (.iload_n 1, 1) := by decide +kernel
theorem d_L_pile_7 : decode b_L_pile 7 = .ok (.aload_n 0, 1) := by decide +kernel
theorem d_L_pile_8 : decode b_L_pile 8 = .ok (.getfield 21, 3) := by decide +kernel
theorem d_L_pile_11 : decode b_L_pile 11 = .ok (.getfield 211, 3) := by decide +kernel
theorem d_L_pile_14 : decode b_L_pile 14 = .ok (.if_icmp .ge 27, 3) := by decide +kernel
theorem d_L_pile_17 : decode b_L_pile 17 = .ok (.aload_n 0, 1) := by decide +kernel
theorem d_L_pile_18 : decode b_L_pile 18 = .ok (.getfield 21, 3) := by decide +kernel
theorem d_L_pile_21 : decode b_L_pile 21 = .ok (.getfield 217, 3) := by decide +kernel
theorem d_L_pile_24 : decode b_L_pile 24 = .ok (.aload_n 0, 1) := by decide +kernel
theorem d_L_pile_25 : decode b_L_pile 25 = .ok (.getfield 21, 3) := by decide +kernel
theorem d_L_pile_28 : decode b_L_pile 28 = .ok (.getfield 211, 3) := by decide +kernel
theorem d_L_pile_31 : decode b_L_pile 31 = .ok (.iconst 1, 1) := by decide +kernel
theorem d_L_pile_32 : decode b_L_pile 32 = .ok (.isub, 1) := by decide +kernel
theorem d_L_pile_33 : decode b_L_pile 33 = .ok (.iload_n 1, 1) := by decide +kernel
theorem d_L_pile_34 : decode b_L_pile 34 = .ok (.isub, 1) := by decide +kernel
theorem d_L_pile_35 : decode b_L_pile 35 = .ok (.invokestatic 124, 3) := by decide +kernel
theorem d_L_pile_38 : decode b_L_pile 38 = .ok (.goto 5, 3) := by decide +kernel
theorem d_L_pile_41 : decode b_L_pile 41 = .ok (.bipush (-2), 2) := by decide +kernel
theorem d_L_pile_43 : decode b_L_pile 43 = .ok (.ireturn, 1) := by decide +kernel
theorem d_L_resolve_0 : decode b_L_resolve 0 = .ok (.aload_n 0, 1) := by decide +kernel
theorem d_L_resolve_1 : decode b_L_resolve 1 = .ok (.getfield 21, 3) := by decide +kernel
theorem d_L_resolve_4 : decode b_L_resolve 4 = .ok (.getfield 211, 3) := by decide +kernel
theorem d_L_resolve_7 : decode b_L_resolve 7 = .ok (.ifCond .gt 6, 3) := by decide +kernel
theorem d_L_resolve_10 : decode b_L_resolve 10 = .ok (.bipush (-5), 2) := by decide +kernel
theorem d_L_resolve_12 : decode b_L_resolve 12 = .ok (.ireturn, 1) := by decide +kernel
theorem d_L_resolve_13 : decode b_L_resolve 13 = .ok (.aload_n 0, 1) := by decide +kernel
theorem d_L_resolve_14 : decode b_L_resolve 14 = .ok (.getfield 63, 3) := by decide +kernel
theorem d_L_resolve_17 : decode b_L_resolve 17 = .ok (.invokevirtual 220, 3) := by decide +kernel
theorem d_L_resolve_20 : decode b_L_resolve 20 = .ok (.aload_n 0, 1) := by decide +kernel
theorem d_L_resolve_21 : decode b_L_resolve 21 = .ok (.getfield 42, 3) := by decide +kernel
theorem d_L_resolve_24 : decode b_L_resolve 24 = .ok (.aload_n 0, 1) := by decide +kernel
theorem d_L_resolve_25 : decode b_L_resolve 25 = .ok (.getfield 21, 3) := by decide +kernel
theorem d_L_resolve_28 : decode b_L_resolve 28 = .ok (.aload_n 0, 1) := by decide +kernel
theorem d_L_resolve_29 : decode b_L_resolve 29 = .ok (.getfield 63, 3) := by decide +kernel
theorem d_L_resolve_32 : decode b_L_resolve 32 = .ok (.invokevirtual 223, 3) := by decide +kernel
theorem d_L_resolve_35 : decode b_L_resolve 35 = .ok (.aload_n 0, 1) := by decide +kernel
theorem d_L_resolve_36 : decode b_L_resolve 36 = .ok (.getfield 21, 3) := by decide +kernel
theorem d_L_resolve_39 : decode b_L_resolve 39 = .ok (.getfield 211, 3) := by decide +kernel
theorem d_L_resolve_42 : decode b_L_resolve 42 = .ok (.ireturn, 1) := by decide +kernel
theorem d_L_run_0 : decode b_L_run 0 = .ok (.aload_n 0, 1) := by decide +kernel
theorem d_L_run_1 : decode b_L_run 1 = .ok (.getfield 63, 3) := by decide +kernel
theorem d_L_run_4 : decode b_L_run 4 = .ok (.invokevirtual 220, 3) := by decide +kernel
theorem d_L_run_7 : decode b_L_run 7 = .ok (.aload_n 0, 1) := by decide +kernel
theorem d_L_run_8 : decode b_L_run 8 = .ok (.getfield 42, 3) := by decide +kernel
theorem d_L_run_11 : decode b_L_run 11 = .ok (.aload_n 0, 1) := by decide +kernel
theorem d_L_run_12 : decode b_L_run 12 = .ok (.getfield 21, 3) := by decide +kernel
theorem d_L_run_15 : decode b_L_run 15 = .ok (.aload_n 0, 1) := by decide +kernel
theorem d_L_run_16 : decode b_L_run 16 = .ok (.getfield 63, 3) := by decide +kernel
theorem d_L_run_19 : decode b_L_run 19 = .ok (.invokevirtual 227, 3) := by decide +kernel
theorem d_L_run_22 : decode b_L_run 22 = .ok (.aload_n 0, 1) := by decide +kernel
theorem d_L_run_23 : decode b_L_run 23 = .ok (.aload_n 0, 1) := by decide +kernel
theorem d_L_run_24 : decode b_L_run 24 = .ok (.getfield 42, 3) := by decide +kernel
theorem d_L_run_27 : decode b_L_run 27 = .ok (.getfield 230, 3) := by decide +kernel
theorem d_L_run_30 : decode b_L_run 30 = .ok (.putfield 81, 3) := by decide +kernel
theorem d_L_run_33 : decode b_L_run 33 = .ok (.aload_n 0, 1) := by decide +kernel
theorem d_L_run_34 : decode b_L_run 34 = .ok (.aload_n 0, 1) := by decide +kernel
theorem d_L_run_35 : decode b_L_run 35 = .ok (.getfield 42, 3) := by decide +kernel
theorem d_L_run_38 : decode b_L_run 38 = .ok (.getfield 233, 3) := by decide +kernel
theorem d_L_run_41 : decode b_L_run 41 = .ok (.putfield 85, 3) := by decide +kernel
theorem d_L_run_44 : decode b_L_run 44 = .ok (.aload_n 0, 1) := by decide +kernel
theorem d_L_run_45 : decode b_L_run 45 = .ok (.aload_n 0, 1) := by decide +kernel
theorem d_L_run_46 : decode b_L_run 46 = .ok (.getfield 42, 3) := by decide +kernel
theorem d_L_run_49 : decode b_L_run 49 = .ok (.getfield 236, 3) := by decide +kernel
theorem d_L_run_52 : decode b_L_run 52 = .ok (.putfield 88, 3) := by decide +kernel
theorem d_L_run_55 : decode b_L_run 55 = .ok (.aload_n 0, 1) := by decide +kernel
theorem d_L_run_56 : decode b_L_run 56 = .ok (.getfield 42, 3) := by decide +kernel
theorem d_L_run_59 : decode b_L_run 59 = .ok (.getfield 239, 3) := by decide +kernel
theorem d_L_run_62 : decode b_L_run 62 = .ok (.ireturn, 1) := by decide +kernel
theorem d_L_ended_0 : decode b_L_ended 0 = .ok (.iload_n 1, 1) := by decide +kernel
theorem d_L_ended_1 : decode b_L_ended 1 = .ok (.tableswitch 42 0 2 #[27, 32, 37], 27) := by decide +kernel
theorem d_L_ended_28 : decode b_L_ended 28 = .ok (.aload_n 0, 1) := by decide +kernel
theorem d_L_ended_29 : decode b_L_ended 29 = .ok (.getfield 81, 3) := by decide +kernel
theorem d_L_ended_32 : decode b_L_ended 32 = .ok (.ireturn, 1) := by decide +kernel
theorem d_L_ended_33 : decode b_L_ended 33 = .ok (.aload_n 0, 1) := by decide +kernel
theorem d_L_ended_34 : decode b_L_ended 34 = .ok (.getfield 85, 3) := by decide +kernel
theorem d_L_ended_37 : decode b_L_ended 37 = .ok (.ireturn, 1) := by decide +kernel
theorem d_L_ended_38 : decode b_L_ended 38 = .ok (.aload_n 0, 1) := by decide +kernel
theorem d_L_ended_39 : decode b_L_ended 39 = .ok (.getfield 88, 3) := by decide +kernel
theorem d_L_ended_42 : decode b_L_ended 42 = .ok (.ireturn, 1) := by decide +kernel
theorem d_L_ended_43 : decode b_L_ended 43 = .ok (.iconst (-1), 1) := by decide +kernel
theorem d_L_ended_44 : decode b_L_ended 44 = .ok (.ireturn, 1) := by decide +kernel
theorem d_L_turn_0 : decode b_L_turn 0 = .ok (.aload_n 0, 1) := by decide +kernel
theorem d_L_turn_1 : decode b_L_turn 1 = .ok (.getfield 21, 3) := by decide +kernel
theorem d_L_turn_4 : decode b_L_turn 4 = .ok (.invokevirtual 242, 3) := by decide +kernel
theorem d_L_turn_7 : decode b_L_turn 7 = .ok (.ifCond .ne 6, 3) := by decide +kernel
theorem d_L_turn_10 : decode b_L_turn 10 = .ok (.bipush (-5), 2) := by decide +kernel
theorem d_L_turn_12 : decode b_L_turn 12 = .ok (.ireturn, 1) := by decide +kernel
theorem d_L_turn_13 : decode b_L_turn 13 = .ok (.aload_n 0, 1) := by decide +kernel
theorem d_L_turn_14 : decode b_L_turn 14 = .ok (.getfield 42, 3) := by decide +kernel
theorem d_L_turn_17 : decode b_L_turn 17 = .ok (.aload_n 0, 1) := by decide +kernel
theorem d_L_turn_18 : decode b_L_turn 18 = .ok (.getfield 21, 3) := by decide +kernel
theorem d_L_turn_21 : decode b_L_turn 21 = .ok (.aload_n 0, 1) := by decide +kernel
theorem d_L_turn_22 : decode b_L_turn 22 = .ok (.getfield 67, 3) := by decide +kernel
theorem d_L_turn_25 : decode b_L_turn 25 = .ok (.invokevirtual 246, 3) := by decide +kernel
theorem d_L_turn_28 : decode b_L_turn 28 = .ok (.aload_n 0, 1) := by decide +kernel
theorem d_L_turn_29 : decode b_L_turn 29 = .ok (.getfield 21, 3) := by decide +kernel
theorem d_L_turn_32 : decode b_L_turn 32 = .ok (.getfield 249, 3) := by decide +kernel
theorem d_L_turn_35 : decode b_L_turn 35 = .ok (.ireturn, 1) := by decide +kernel
theorem d_L_dry_0 : decode b_L_dry 0 = .ok (.iload_n 1, 1) := by decide +kernel
theorem d_L_dry_1 : decode b_L_dry 1 = .ok (.ifCond .lt 8, 3) := by decide +kernel
theorem d_L_dry_4 : decode b_L_dry 4 = .ok (.iload_n 1, 1) := by decide +kernel
theorem d_L_dry_5 : decode b_L_dry 5 = .ok (.iconst 3, 1) := by decide +kernel
theorem d_L_dry_6 : decode b_L_dry 6 = .ok (.if_icmp .le 6, 3) := by decide +kernel
theorem d_L_dry_9 : decode b_L_dry 9 = .ok (.ldc 159, 2) := by decide +kernel
theorem d_L_dry_11 : decode b_L_dry 11 = .ok (.ireturn, 1) := by decide +kernel
theorem d_L_dry_12 : decode b_L_dry 12 = .ok (.aload_n 0, 1) := by decide +kernel
theorem d_L_dry_13 : decode b_L_dry 13 = .ok (.getfield 32, 3) := by decide +kernel
theorem d_L_dry_16 : decode b_L_dry 16 = .ok (.aload_n 0, 1) := by decide +kernel
theorem d_L_dry_17 : decode b_L_dry 17 = .ok (.getfield 21, 3) := by decide +kernel
theorem d_L_dry_20 : decode b_L_dry 20 = .ok (.invokevirtual 252, 3) := by decide +kernel
theorem d_L_dry_23 : decode b_L_dry 23 = .ok (.aload_n 0, 1) := by decide +kernel
theorem d_L_dry_24 : decode b_L_dry 24 = .ok (.getfield 42, 3) := by decide +kernel
theorem d_L_dry_27 : decode b_L_dry 27 = .ok (.aload_n 0, 1) := by decide +kernel
theorem d_L_dry_28 : decode b_L_dry 28 = .ok (.getfield 32, 3) := by decide +kernel
theorem d_L_dry_31 : decode b_L_dry 31 = .ok (.aload_n 0, 1) := by decide +kernel
theorem d_L_dry_32 : decode b_L_dry 32 = .ok (.getfield 67, 3) := by decide +kernel
theorem d_L_dry_35 : decode b_L_dry 35 = .ok (.invokevirtual 227, 3) := by decide +kernel
theorem d_L_dry_38 : decode b_L_dry 38 = .ok (.iload_n 1, 1) := by decide +kernel
theorem d_L_dry_39 : decode b_L_dry 39 = .ok (.tableswitch 53 0 2 #[25, 33, 41], 25) := by decide +kernel
theorem d_L_dry_64 : decode b_L_dry 64 = .ok (.aload_n 0, 1) := by decide +kernel
theorem d_L_dry_65 : decode b_L_dry 65 = .ok (.getfield 42, 3) := by decide +kernel
theorem d_L_dry_68 : decode b_L_dry 68 = .ok (.getfield 230, 3) := by decide +kernel
theorem d_L_dry_71 : decode b_L_dry 71 = .ok (.ireturn, 1) := by decide +kernel
theorem d_L_dry_72 : decode b_L_dry 72 = .ok (.aload_n 0, 1) := by decide +kernel
theorem d_L_dry_73 : decode b_L_dry 73 = .ok (.getfield 42, 3) := by decide +kernel
theorem d_L_dry_76 : decode b_L_dry 76 = .ok (.getfield 239, 3) := by decide +kernel
theorem d_L_dry_79 : decode b_L_dry 79 = .ok (.ireturn, 1) := by decide +kernel
theorem d_L_dry_80 : decode b_L_dry 80 = .ok (.aload_n 0, 1) := by decide +kernel
theorem d_L_dry_81 : decode b_L_dry 81 = .ok (.getfield 32, 3) := by decide +kernel
theorem d_L_dry_84 : decode b_L_dry 84 = .ok (.getfield 167, 3) := by decide +kernel
theorem d_L_dry_87 : decode b_L_dry 87 = .ok (.iconst 0, 1) := by decide +kernel
theorem d_L_dry_88 : decode b_L_dry 88 = .ok (.invokestatic 124, 3) := by decide +kernel
theorem d_L_dry_91 : decode b_L_dry 91 = .ok (.ireturn, 1) := by decide +kernel
theorem d_L_dry_92 : decode b_L_dry 92 = .ok (.aload_n 0, 1) := by decide +kernel
theorem d_L_dry_93 : decode b_L_dry 93 = .ok (.getfield 32, 3) := by decide +kernel
theorem d_L_dry_96 : decode b_L_dry 96 = .ok (.getfield 167, 3) := by decide +kernel
theorem d_L_dry_99 : decode b_L_dry 99 = .ok (.iconst 1, 1) := by decide +kernel
theorem d_L_dry_100 : decode b_L_dry 100 = .ok (.invokestatic 124, 3) := by decide +kernel
theorem d_L_dry_103 : decode b_L_dry 103 = .ok (.ireturn, 1) := by decide +kernel
theorem d_L_worth_0 : decode b_L_worth 0 = .ok (.aload_n 0, 1) := by decide +kernel
theorem d_L_worth_1 : decode b_L_worth 1 = .ok (.getfield 21, 3) := by decide +kernel
theorem d_L_worth_4 : decode b_L_worth 4 = .ok (.iload_n 1, 1) := by decide +kernel
theorem d_L_worth_5 : decode b_L_worth 5 = .ok (.invokevirtual 137, 3) := by decide +kernel
theorem d_L_worth_8 : decode b_L_worth 8 = .ok (.ifCond .eq 30, 3) := by decide +kernel
theorem d_L_worth_11 : decode b_L_worth 11 = .ok (.aload_n 0, 1) := by decide +kernel
theorem d_L_worth_12 : decode b_L_worth 12 = .ok (.getfield 21, 3) := by decide +kernel
theorem d_L_worth_15 : decode b_L_worth 15 = .ok (.getfield 149, 3) := by decide +kernel
theorem d_L_worth_18 : decode b_L_worth 18 = .ok (.iload_n 1, 1) := by decide +kernel
theorem d_L_worth_19 : decode b_L_worth 19 = .ok (.invokestatic 124, 3) := by decide +kernel
theorem d_L_worth_22 : decode b_L_worth 22 = .ok (.iconst 1, 1) := by decide +kernel
theorem d_L_worth_23 : decode b_L_worth 23 = .ok (.if_icmp .ne 15, 3) := by decide +kernel
theorem d_L_worth_26 : decode b_L_worth 26 = .ok (.aload_n 0, 1) := by decide +kernel
theorem d_L_worth_27 : decode b_L_worth 27 = .ok (.getfield 21, 3) := by decide +kernel
theorem d_L_worth_30 : decode b_L_worth 30 = .ok (.getfield 211, 3) := by decide +kernel
theorem d_L_worth_33 : decode b_L_worth 33 = .ok (.bipush 64, 2) := by decide +kernel
theorem d_L_worth_35 : decode b_L_worth 35 = .ok (.if_icmp .lt 6, 3) := by decide +kernel
theorem d_L_worth_38 : decode b_L_worth 38 = .ok (.ldc 159, 2) := by decide +kernel
theorem d_L_worth_40 : decode b_L_worth 40 = .ok (.ireturn, 1) := by decide +kernel
theorem d_L_worth_41 : decode b_L_worth 41 = .ok (.aload_n 0, 1) := by decide +kernel
theorem d_L_worth_42 : decode b_L_worth 42 = .ok (.iload_n 1, 1) := by decide +kernel
theorem d_L_worth_43 : decode b_L_worth 43 = .ok (.invokevirtual 255, 3) := by decide +kernel
theorem d_L_worth_46 : decode b_L_worth 46 = .ok (.ireturn, 1) := by decide +kernel
theorem d_L_worthPlayed_0 : decode b_L_worthPlayed 0 = .ok (.aload_n 0, 1) := by decide +kernel
theorem d_L_worthPlayed_1 : decode b_L_worthPlayed 1 = .ok (.getfield 32, 3) := by decide +kernel
theorem d_L_worthPlayed_4 : decode b_L_worthPlayed 4 = .ok (.aload_n 0, 1) := by decide +kernel
theorem d_L_worthPlayed_5 : decode b_L_worthPlayed 5 = .ok (.getfield 21, 3) := by decide +kernel
theorem d_L_worthPlayed_8 : decode b_L_worthPlayed 8 = .ok (.invokevirtual 252, 3) := by decide +kernel
theorem d_L_worthPlayed_11 : decode b_L_worthPlayed 11 = .ok (.aload_n 0, 1) := by decide +kernel
theorem d_L_worthPlayed_12 : decode b_L_worthPlayed 12 = .ok (.getfield 32, 3) := by decide +kernel
theorem d_L_worthPlayed_15 : decode b_L_worthPlayed 15 = .ok (.iload_n 1, 1) := by decide +kernel
theorem d_L_worthPlayed_16 : decode b_L_worthPlayed 16 = .ok (.invokevirtual 214, 3) := by decide +kernel
theorem d_L_worthPlayed_19 : decode b_L_worthPlayed 19 = .ok (.aload_n 0, 1) := by decide +kernel
theorem d_L_worthPlayed_20 : decode b_L_worthPlayed 20 = .ok (.getfield 42, 3) := by decide +kernel
theorem d_L_worthPlayed_23 : decode b_L_worthPlayed 23 = .ok (.aload_n 0, 1) := by decide +kernel
theorem d_L_worthPlayed_24 : decode b_L_worthPlayed 24 = .ok (.getfield 32, 3) := by decide +kernel
theorem d_L_worthPlayed_27 : decode b_L_worthPlayed 27 = .ok (.aload_n 0, 1) := by decide +kernel
theorem d_L_worthPlayed_28 : decode b_L_worthPlayed 28 = .ok (.getfield 67, 3) := by decide +kernel
theorem d_L_worthPlayed_31 : decode b_L_worthPlayed 31 = .ok (.invokevirtual 227, 3) := by decide +kernel
theorem d_L_worthPlayed_34 : decode b_L_worthPlayed 34 = .ok (.aload_n 0, 1) := by decide +kernel
theorem d_L_worthPlayed_35 : decode b_L_worthPlayed 35 = .ok (.getfield 32, 3) := by decide +kernel
theorem d_L_worthPlayed_38 : decode b_L_worthPlayed 38 = .ok (.aload_n 0, 1) := by decide +kernel
theorem d_L_worthPlayed_39 : decode b_L_worthPlayed 39 = .ok (.getfield 10, 3) := by decide +kernel
theorem d_L_worthPlayed_42 : decode b_L_worthPlayed 42 = .ok (.getfield 141, 3) := by decide +kernel
theorem d_L_worthPlayed_45 : decode b_L_worthPlayed 45 = .ok (.iload_n 1, 1) := by decide +kernel
theorem d_L_worthPlayed_46 : decode b_L_worthPlayed 46 = .ok (.invokestatic 124, 3) := by decide +kernel
theorem d_L_worthPlayed_49 : decode b_L_worthPlayed 49 = .ok (.invokevirtual 258, 3) := by decide +kernel
theorem d_L_worthPlayed_52 : decode b_L_worthPlayed 52 = .ok (.ireturn, 1) := by decide +kernel
theorem d_L_best_0 : decode b_L_best 0 = .ok (.iload_n 1, 1) := by decide +kernel
theorem d_L_best_1 : decode b_L_best 1 = .ok (.invokestatic 91, 3) := by decide +kernel
theorem d_L_best_4 : decode b_L_best 4 = .ok (.ifCond .eq 12, 3) := by decide +kernel
theorem d_L_best_7 : decode b_L_best 7 = .ok (.iload_n 2, 1) := by decide +kernel
theorem d_L_best_8 : decode b_L_best 8 = .ok (.ifCond .lt 8, 3) := by decide +kernel
theorem d_L_best_11 : decode b_L_best 11 = .ok (.iload_n 2, 1) := by decide +kernel
theorem d_L_best_12 : decode b_L_best 12 = .ok (.iconst 1, 1) := by decide +kernel
theorem d_L_best_13 : decode b_L_best 13 = .ok (.if_icmp .le 6, 3) := by decide +kernel
theorem d_L_best_16 : decode b_L_best 16 = .ok (.ldc 159, 2) := by decide +kernel
theorem d_L_best_18 : decode b_L_best 18 = .ok (.ireturn, 1) := by decide +kernel
theorem d_L_best_19 : decode b_L_best 19 = .ok (.aload_n 0, 1) := by decide +kernel
theorem d_L_best_20 : decode b_L_best 20 = .ok (.getfield 32, 3) := by decide +kernel
theorem d_L_best_23 : decode b_L_best 23 = .ok (.aload_n 0, 1) := by decide +kernel
theorem d_L_best_24 : decode b_L_best 24 = .ok (.getfield 21, 3) := by decide +kernel
theorem d_L_best_27 : decode b_L_best 27 = .ok (.invokevirtual 252, 3) := by decide +kernel
theorem d_L_best_30 : decode b_L_best 30 = .ok (.aload_n 0, 1) := by decide +kernel
theorem d_L_best_31 : decode b_L_best 31 = .ok (.getfield 42, 3) := by decide +kernel
theorem d_L_best_34 : decode b_L_best 34 = .ok (.aload_n 0, 1) := by decide +kernel
theorem d_L_best_35 : decode b_L_best 35 = .ok (.getfield 32, 3) := by decide +kernel
theorem d_L_best_38 : decode b_L_best 38 = .ok (.aload_n 0, 1) := by decide +kernel
theorem d_L_best_39 : decode b_L_best 39 = .ok (.getfield 67, 3) := by decide +kernel
theorem d_L_best_42 : decode b_L_best 42 = .ok (.invokevirtual 227, 3) := by decide +kernel
theorem d_L_best_45 : decode b_L_best 45 = .ok (.aload_n 0, 1) := by decide +kernel
theorem d_L_best_46 : decode b_L_best 46 = .ok (.getfield 32, 3) := by decide +kernel
theorem d_L_best_49 : decode b_L_best 49 = .ok (.iload_n 1, 1) := by decide +kernel
theorem d_L_best_50 : decode b_L_best 50 = .ok (.invokevirtual 258, 3) := by decide +kernel
theorem d_L_best_53 : decode b_L_best 53 = .ok (.istore_n 3, 1) := by decide +kernel
theorem d_L_best_54 : decode b_L_best 54 = .ok (.bipush (-2), 2) := by decide +kernel
theorem d_L_best_56 : decode b_L_best 56 = .ok (.istore 4, 2) := by decide +kernel
theorem d_L_best_58 : decode b_L_best 58 = .ok (.iconst 0, 1) := by decide +kernel
theorem d_L_best_59 : decode b_L_best 59 = .ok (.istore 5, 2) := by decide +kernel
theorem d_L_best_61 : decode b_L_best 61 = .ok (.iload 5, 2) := by decide +kernel
theorem d_L_best_63 : decode b_L_best 63 = .ok (.aload_n 0, 1) := by decide +kernel
theorem d_L_best_64 : decode b_L_best 64 = .ok (.getfield 21, 3) := by decide +kernel
theorem d_L_best_67 : decode b_L_best 67 = .ok (.getfield 98, 3) := by decide +kernel
theorem d_L_best_70 : decode b_L_best 70 = .ok (.if_icmp .ge 77, 3) := by decide +kernel
theorem d_L_best_73 : decode b_L_best 73 = .ok (.aload_n 0, 1) := by decide +kernel
theorem d_L_best_74 : decode b_L_best 74 = .ok (.getfield 21, 3) := by decide +kernel
theorem d_L_best_77 : decode b_L_best 77 = .ok (.getfield 211, 3) := by decide +kernel
theorem d_L_best_80 : decode b_L_best 80 = .ok (.bipush 64, 2) := by decide +kernel
theorem d_L_best_82 : decode b_L_best 82 = .ok (.if_icmp .ge 65, 3) := by decide +kernel
theorem d_L_best_85 : decode b_L_best 85 = .ok (.aload_n 0, 1) := by decide +kernel
theorem d_L_best_86 : decode b_L_best 86 = .ok (.getfield 10, 3) := by decide +kernel
theorem d_L_best_89 : decode b_L_best 89 = .ok (.getfield 141, 3) := by decide +kernel
theorem d_L_best_92 : decode b_L_best 92 = .ok (.iload 5, 2) := by decide +kernel
theorem d_L_best_94 : decode b_L_best 94 = .ok (.invokestatic 124, 3) := by decide +kernel
theorem d_L_best_97 : decode b_L_best 97 = .ok (.iload_n 1, 1) := by decide +kernel
theorem d_L_best_98 : decode b_L_best 98 = .ok (.if_icmp .ne 43, 3) := by decide +kernel
theorem d_L_best_101 : decode b_L_best 101 = .ok (.aload_n 0, 1) := by decide +kernel
theorem d_L_best_102 : decode b_L_best 102 = .ok (.getfield 21, 3) := by decide +kernel
theorem d_L_best_105 : decode b_L_best 105 = .ok (.getfield 149, 3) := by decide +kernel
theorem d_L_best_108 : decode b_L_best 108 = .ok (.iload 5, 2) := by decide +kernel
theorem d_L_best_110 : decode b_L_best 110 = .ok (.invokestatic 124, 3) := by decide +kernel
theorem d_L_best_113 : decode b_L_best 113 = .ok (.iconst 1, 1) := by decide +kernel
theorem d_L_best_114 : decode b_L_best 114 = .ok (.if_icmp .eq 6, 3) := by decide +kernel
theorem d_L_best_117 : decode b_L_best 117 = .ok (.goto 24, 3) := by decide +kernel
theorem d_L_best_120 : decode b_L_best 120 = .ok (.aload_n 0, 1) := by decide +kernel
theorem d_L_best_121 : decode b_L_best 121 = .ok (.iload 5, 2) := by decide +kernel
theorem d_L_best_123 : decode b_L_best 123 = .ok (.invokevirtual 255, 3) := by decide +kernel
theorem d_L_best_126 : decode b_L_best 126 = .ok (.istore 6, 2) := by decide +kernel
theorem d_L_best_128 : decode b_L_best 128 = .ok (.iload 6, 2) := by decide +kernel
theorem d_L_best_130 : decode b_L_best 130 = .ok (.iload_n 3, 1) := by decide +kernel
theorem d_L_best_131 : decode b_L_best 131 = .ok (.if_icmp .le 10, 3) := by decide +kernel
theorem d_L_best_134 : decode b_L_best 134 = .ok (.iload 6, 2) := by decide +kernel
theorem d_L_best_136 : decode b_L_best 136 = .ok (.istore_n 3, 1) := by decide +kernel
theorem d_L_best_137 : decode b_L_best 137 = .ok (.iload 5, 2) := by decide +kernel
theorem d_L_best_139 : decode b_L_best 139 = .ok (.istore 4, 2) := by decide +kernel
theorem d_L_best_141 : decode b_L_best 141 = .ok (.iinc 5 1, 3) := by decide +kernel
theorem d_L_best_144 : decode b_L_best 144 = .ok (.goto (-83), 3) := by decide +kernel
theorem d_L_best_147 : decode b_L_best 147 = .ok (.iload_n 2, 1) := by decide +kernel
theorem d_L_best_148 : decode b_L_best 148 = .ok (.ifCond .ne 8, 3) := by decide +kernel
theorem d_L_best_151 : decode b_L_best 151 = .ok (.iload 4, 2) := by decide +kernel
theorem d_L_best_153 : decode b_L_best 153 = .ok (.goto 4, 3) := by decide +kernel
theorem d_L_best_156 : decode b_L_best 156 = .ok (.iload_n 3, 1) := by decide +kernel
theorem d_L_best_157 : decode b_L_best 157 = .ok (.ireturn, 1) := by decide +kernel
theorem d_L_byTurns_0 : decode b_L_byTurns 0 = .ok (.iload_n 1, 1) := by decide +kernel
theorem d_L_byTurns_1 : decode b_L_byTurns 1 = .ok (.iconst 1, 1) := by decide +kernel
theorem d_L_byTurns_2 : decode b_L_byTurns 2 = .ok (.if_icmp .lt 8, 3) := by decide +kernel
theorem d_L_byTurns_5 : decode b_L_byTurns 5 = .ok (.iload_n 1, 1) := by decide +kernel
theorem d_L_byTurns_6 : decode b_L_byTurns 6 = .ok (.iconst 3, 1) := by decide +kernel
theorem d_L_byTurns_7 : decode b_L_byTurns 7 = .ok (.if_icmp .le 6, 3) := by decide +kernel
theorem d_L_byTurns_10 : decode b_L_byTurns 10 = .ok (.ldc 159, 2) := by decide +kernel
theorem d_L_byTurns_12 : decode b_L_byTurns 12 = .ok (.ireturn, 1) := by decide +kernel
theorem d_L_byTurns_13 : decode b_L_byTurns 13 = .ok (.aload_n 0, 1) := by decide +kernel
theorem d_L_byTurns_14 : decode b_L_byTurns 14 = .ok (.getfield 32, 3) := by decide +kernel
theorem d_L_byTurns_17 : decode b_L_byTurns 17 = .ok (.aload_n 0, 1) := by decide +kernel
theorem d_L_byTurns_18 : decode b_L_byTurns 18 = .ok (.getfield 21, 3) := by decide +kernel
theorem d_L_byTurns_21 : decode b_L_byTurns 21 = .ok (.invokevirtual 252, 3) := by decide +kernel
theorem d_L_byTurns_24 : decode b_L_byTurns 24 = .ok (.aload_n 0, 1) := by decide +kernel
theorem d_L_byTurns_25 : decode b_L_byTurns 25 = .ok (.getfield 35, 3) := by decide +kernel
theorem d_L_byTurns_28 : decode b_L_byTurns 28 = .ok (.aload_n 0, 1) := by decide +kernel
theorem d_L_byTurns_29 : decode b_L_byTurns 29 = .ok (.getfield 42, 3) := by decide +kernel
theorem d_L_byTurns_32 : decode b_L_byTurns 32 = .ok (.aload_n 0, 1) := by decide +kernel
theorem d_L_byTurns_33 : decode b_L_byTurns 33 = .ok (.getfield 67, 3) := by decide +kernel
theorem d_L_byTurns_36 : decode b_L_byTurns 36 = .ok (.iconst 0, 1) := by decide +kernel
theorem d_L_byTurns_37 : decode b_L_byTurns 37 = .ok (.iload_n 1, 1) := by decide +kernel
theorem d_L_byTurns_38 : decode b_L_byTurns 38 = .ok (.invokestatic 261, 3) := by decide +kernel
theorem d_L_byTurns_41 : decode b_L_byTurns 41 = .ok (.ireturn, 1) := by decide +kernel
theorem d_L_outcome_0 : decode b_L_outcome 0 = .ok (.iload_n 3, 1) := by decide +kernel
theorem d_L_outcome_1 : decode b_L_outcome 1 = .ok (.ifCond .lt 15, 3) := by decide +kernel
theorem d_L_outcome_4 : decode b_L_outcome 4 = .ok (.iload_n 3, 1) := by decide +kernel
theorem d_L_outcome_5 : decode b_L_outcome 5 = .ok (.aload_n 0, 1) := by decide +kernel
theorem d_L_outcome_6 : decode b_L_outcome 6 = .ok (.arraylength, 1) := by decide +kernel
theorem d_L_outcome_7 : decode b_L_outcome 7 = .ok (.if_icmp .ge 9, 3) := by decide +kernel
theorem d_L_outcome_10 : decode b_L_outcome 10 = .ok (.aload_n 0, 1) := by decide +kernel
theorem d_L_outcome_11 : decode b_L_outcome 11 = .ok (.iload_n 3, 1) := by decide +kernel
theorem d_L_outcome_12 : decode b_L_outcome 12 = .ok (.aaload, 1) := by decide +kernel
theorem d_L_outcome_13 : decode b_L_outcome 13 = .ok (.goto 4, 3) := by decide +kernel
theorem d_L_outcome_16 : decode b_L_outcome 16 = .ok (.aconst_null, 1) := by decide +kernel
theorem d_L_outcome_17 : decode b_L_outcome 17 = .ok (.astore 5, 2) := by decide +kernel
theorem d_L_outcome_19 : decode b_L_outcome 19 = .ok (.aload 5, 2) := by decide +kernel
theorem d_L_outcome_21 : decode b_L_outcome 21 = .ok (.ifnonnull 6, 3) := by decide +kernel
theorem d_L_outcome_24 : decode b_L_outcome 24 = .ok (.ldc 159, 2) := by decide +kernel
theorem d_L_outcome_26 : decode b_L_outcome 26 = .ok (.ireturn, 1) := by decide +kernel
theorem d_L_outcome_27 : decode b_L_outcome 27 = .ok (.iload 4, 2) := by decide +kernel
theorem d_L_outcome_29 : decode b_L_outcome 29 = .ok (.ifCond .le 19, 3) := by decide +kernel
theorem d_L_outcome_32 : decode b_L_outcome 32 = .ok (.iload_n 3, 1) := by decide +kernel
theorem d_L_outcome_33 : decode b_L_outcome 33 = .ok (.iconst 1, 1) := by decide +kernel
theorem d_L_outcome_34 : decode b_L_outcome 34 = .ok (.iadd, 1) := by decide +kernel
theorem d_L_outcome_35 : decode b_L_outcome 35 = .ok (.aload_n 0, 1) := by decide +kernel
theorem d_L_outcome_36 : decode b_L_outcome 36 = .ok (.arraylength, 1) := by decide +kernel
theorem d_L_outcome_37 : decode b_L_outcome 37 = .ok (.if_icmp .ge 11, 3) := by decide +kernel
theorem d_L_outcome_40 : decode b_L_outcome 40 = .ok (.aload_n 0, 1) := by decide +kernel
theorem d_L_outcome_41 : decode b_L_outcome 41 = .ok (.iload_n 3, 1) := by decide +kernel
theorem d_L_outcome_42 : decode b_L_outcome 42 = .ok (.iconst 1, 1) := by decide +kernel
theorem d_L_outcome_43 : decode b_L_outcome 43 = .ok (.iadd, 1) := by decide +kernel
theorem d_L_outcome_44 : decode b_L_outcome 44 = .ok (.aaload, 1) := by decide +kernel
theorem d_L_outcome_45 : decode b_L_outcome 45 = .ok (.goto 4, 3) := by decide +kernel
theorem d_L_outcome_48 : decode b_L_outcome 48 = .ok (.aconst_null, 1) := by decide +kernel
theorem d_L_outcome_49 : decode b_L_outcome 49 = .ok (.astore 6, 2) := by decide +kernel
theorem d_L_outcome_51 : decode b_L_outcome 51 = .ok (.aload 6, 2) := by decide +kernel
theorem d_L_outcome_53 : decode b_L_outcome 53 = .ok (.ifnonnull 14, 3) := by decide +kernel
theorem d_L_outcome_56 : decode b_L_outcome 56 = .ok (.aload 5, 2) := by decide +kernel
theorem d_L_outcome_58 : decode b_L_outcome 58 = .ok (.aload 5, 2) := by decide +kernel
theorem d_L_outcome_60 : decode b_L_outcome 60 = .ok (.getfield 249, 3) := by decide +kernel
theorem d_L_outcome_63 : decode b_L_outcome 63 = .ok (.invokevirtual 258, 3) := by decide +kernel
theorem d_L_outcome_66 : decode b_L_outcome 66 = .ok (.ireturn, 1) := by decide +kernel
theorem d_L_outcome_67 : decode b_L_outcome 67 = .ok (.iload_n 3, 1) := by decide +kernel
theorem d_L_outcome_68 : decode b_L_outcome 68 = .ok (.iconst 2, 1) := by decide +kernel
theorem d_L_outcome_69 : decode b_L_outcome 69 = .ok (.irem, 1) := by decide +kernel
theorem d_L_outcome_70 : decode b_L_outcome 70 = .ok (.ifCond .ne 7, 3) := by decide +kernel
theorem d_L_outcome_73 : decode b_L_outcome 73 = .ok (.iconst 1, 1) := by decide +kernel
theorem d_L_outcome_74 : decode b_L_outcome 74 = .ok (.goto 4, 3) := by decide +kernel
theorem d_L_outcome_77 : decode b_L_outcome 77 = .ok (.iconst 0, 1) := by decide +kernel
theorem d_L_outcome_78 : decode b_L_outcome 78 = .ok (.istore 7, 2) := by decide +kernel
theorem d_L_outcome_80 : decode b_L_outcome 80 = .ok (.iload 7, 2) := by decide +kernel
theorem d_L_outcome_82 : decode b_L_outcome 82 = .ok (.ifCond .eq 11, 3) := by decide +kernel
theorem d_L_outcome_85 : decode b_L_outcome 85 = .ok (.aload 5, 2) := by decide +kernel
theorem d_L_outcome_87 : decode b_L_outcome 87 = .ok (.getfield 249, 3) := by decide +kernel
theorem d_L_outcome_90 : decode b_L_outcome 90 = .ok (.goto 10, 3) := by decide +kernel
theorem d_L_outcome_93 : decode b_L_outcome 93 = .ok (.iconst 1, 1) := by decide +kernel
theorem d_L_outcome_94 : decode b_L_outcome 94 = .ok (.aload 5, 2) := by decide +kernel
theorem d_L_outcome_96 : decode b_L_outcome 96 = .ok (.getfield 249, 3) := by decide +kernel
theorem d_L_outcome_99 : decode b_L_outcome 99 = .ok (.isub, 1) := by decide +kernel
theorem d_L_outcome_100 : decode b_L_outcome 100 = .ok (.istore 8, 2) := by decide +kernel
theorem d_L_outcome_102 : decode b_L_outcome 102 = .ok (.iconst 0, 1) := by decide +kernel
theorem d_L_outcome_103 : decode b_L_outcome 103 = .ok (.istore 9, 2) := by decide +kernel
theorem d_L_outcome_105 : decode b_L_outcome 105 = .ok (.iconst 0, 1) := by decide +kernel
theorem d_L_outcome_106 : decode b_L_outcome 106 = .ok (.istore 10, 2) := by decide +kernel
theorem d_L_outcome_108 : decode b_L_outcome 108 = .ok (.iload 10, 2) := by decide +kernel
theorem d_L_outcome_110 : decode b_L_outcome 110 = .ok (.iconst 3, 1) := by decide +kernel
theorem d_L_outcome_111 : decode b_L_outcome 111 = .ok (.if_icmp .gt 128, 3) := by decide +kernel
theorem d_L_outcome_114 : decode b_L_outcome 114 = .ok (.iload 10, 2) := by decide +kernel
theorem d_L_outcome_116 : decode b_L_outcome 116 = .ok (.ifCond .ne 8, 3) := by decide +kernel
theorem d_L_outcome_119 : decode b_L_outcome 119 = .ok (.bipush (-2), 2) := by decide +kernel
theorem d_L_outcome_121 : decode b_L_outcome 121 = .ok (.goto 15, 3) := by decide +kernel
theorem d_L_outcome_124 : decode b_L_outcome 124 = .ok (.aload 5, 2) := by decide +kernel
theorem d_L_outcome_126 : decode b_L_outcome 126 = .ok (.iload 8, 2) := by decide +kernel
theorem d_L_outcome_128 : decode b_L_outcome 128 = .ok (.iconst 1, 1) := by decide +kernel
theorem d_L_outcome_129 : decode b_L_outcome 129 = .ok (.iload 10, 2) := by decide +kernel
theorem d_L_outcome_131 : decode b_L_outcome 131 = .ok (.iconst 1, 1) := by decide +kernel
theorem d_L_outcome_132 : decode b_L_outcome 132 = .ok (.isub, 1) := by decide +kernel
theorem d_L_outcome_133 : decode b_L_outcome 133 = .ok (.invokevirtual 265, 3) := by decide +kernel
theorem d_L_outcome_136 : decode b_L_outcome 136 = .ok (.istore 11, 2) := by decide +kernel
theorem d_L_outcome_138 : decode b_L_outcome 138 = .ok (.iload 10, 2) := by decide +kernel
theorem d_L_outcome_140 : decode b_L_outcome 140 = .ok (.ifCond .le 21, 3) := by decide +kernel
theorem d_L_outcome_143 : decode b_L_outcome 143 = .ok (.iload 11, 2) := by decide +kernel
theorem d_L_outcome_145 : decode b_L_outcome 145 = .ok (.ifCond .lt 94, 3) := by decide +kernel
theorem d_L_outcome_148 : decode b_L_outcome 148 = .ok (.aload 5, 2) := by decide +kernel
theorem d_L_outcome_150 : decode b_L_outcome 150 = .ok (.getfield 211, 3) := by decide +kernel
theorem d_L_outcome_153 : decode b_L_outcome 153 = .ok (.bipush 64, 2) := by decide +kernel
theorem d_L_outcome_155 : decode b_L_outcome 155 = .ok (.if_icmp .lt 6, 3) := by decide +kernel
theorem d_L_outcome_158 : decode b_L_outcome 158 = .ok (.goto 81, 3) := by decide +kernel
theorem d_L_outcome_161 : decode b_L_outcome 161 = .ok (.aload 6, 2) := by decide +kernel
theorem d_L_outcome_163 : decode b_L_outcome 163 = .ok (.aload 5, 2) := by decide +kernel
theorem d_L_outcome_165 : decode b_L_outcome 165 = .ok (.invokevirtual 252, 3) := by decide +kernel
theorem d_L_outcome_168 : decode b_L_outcome 168 = .ok (.iload 10, 2) := by decide +kernel
theorem d_L_outcome_170 : decode b_L_outcome 170 = .ok (.ifCond .le 10, 3) := by decide +kernel
theorem d_L_outcome_173 : decode b_L_outcome 173 = .ok (.aload 6, 2) := by decide +kernel
theorem d_L_outcome_175 : decode b_L_outcome 175 = .ok (.iload 11, 2) := by decide +kernel
theorem d_L_outcome_177 : decode b_L_outcome 177 = .ok (.invokevirtual 214, 3) := by decide +kernel
theorem d_L_outcome_180 : decode b_L_outcome 180 = .ok (.aload_n 1, 1) := by decide +kernel
theorem d_L_outcome_181 : decode b_L_outcome 181 = .ok (.aload 6, 2) := by decide +kernel
theorem d_L_outcome_183 : decode b_L_outcome 183 = .ok (.aload_n 2, 1) := by decide +kernel
theorem d_L_outcome_184 : decode b_L_outcome 184 = .ok (.invokevirtual 227, 3) := by decide +kernel
theorem d_L_outcome_187 : decode b_L_outcome 187 = .ok (.aload_n 0, 1) := by decide +kernel
theorem d_L_outcome_188 : decode b_L_outcome 188 = .ok (.aload_n 1, 1) := by decide +kernel
theorem d_L_outcome_189 : decode b_L_outcome 189 = .ok (.aload_n 2, 1) := by decide +kernel
theorem d_L_outcome_190 : decode b_L_outcome 190 = .ok (.iload_n 3, 1) := by decide +kernel
theorem d_L_outcome_191 : decode b_L_outcome 191 = .ok (.iconst 1, 1) := by decide +kernel
theorem d_L_outcome_192 : decode b_L_outcome 192 = .ok (.iadd, 1) := by decide +kernel
theorem d_L_outcome_193 : decode b_L_outcome 193 = .ok (.iload 4, 2) := by decide +kernel
theorem d_L_outcome_195 : decode b_L_outcome 195 = .ok (.iconst 1, 1) := by decide +kernel
theorem d_L_outcome_196 : decode b_L_outcome 196 = .ok (.isub, 1) := by decide +kernel
theorem d_L_outcome_197 : decode b_L_outcome 197 = .ok (.invokestatic 261, 3) := by decide +kernel
theorem d_L_outcome_200 : decode b_L_outcome 200 = .ok (.istore 12, 2) := by decide +kernel
theorem d_L_outcome_202 : decode b_L_outcome 202 = .ok (.iload 10, 2) := by decide +kernel
theorem d_L_outcome_204 : decode b_L_outcome 204 = .ok (.ifCond .eq 25, 3) := by decide +kernel
theorem d_L_outcome_207 : decode b_L_outcome 207 = .ok (.iload 7, 2) := by decide +kernel
theorem d_L_outcome_209 : decode b_L_outcome 209 = .ok (.ifCond .eq 13, 3) := by decide +kernel
theorem d_L_outcome_212 : decode b_L_outcome 212 = .ok (.iload 12, 2) := by decide +kernel
theorem d_L_outcome_214 : decode b_L_outcome 214 = .ok (.iload 9, 2) := by decide +kernel
theorem d_L_outcome_216 : decode b_L_outcome 216 = .ok (.if_icmp .le 17, 3) := by decide +kernel
theorem d_L_outcome_219 : decode b_L_outcome 219 = .ok (.goto 10, 3) := by decide +kernel
theorem d_L_outcome_222 : decode b_L_outcome 222 = .ok (.iload 12, 2) := by decide +kernel
theorem d_L_outcome_224 : decode b_L_outcome 224 = .ok (.iload 9, 2) := by decide +kernel
theorem d_L_outcome_226 : decode b_L_outcome 226 = .ok (.if_icmp .ge 7, 3) := by decide +kernel
theorem d_L_outcome_229 : decode b_L_outcome 229 = .ok (.iload 12, 2) := by decide +kernel
theorem d_L_outcome_231 : decode b_L_outcome 231 = .ok (.istore 9, 2) := by decide +kernel
theorem d_L_outcome_233 : decode b_L_outcome 233 = .ok (.iinc 10 1, 3) := by decide +kernel
theorem d_L_outcome_236 : decode b_L_outcome 236 = .ok (.goto (-128), 3) := by decide +kernel
theorem d_L_outcome_239 : decode b_L_outcome 239 = .ok (.iload 9, 2) := by decide +kernel
theorem d_L_outcome_241 : decode b_L_outcome 241 = .ok (.ireturn, 1) := by decide +kernel
theorem d_L_matter_0 : decode b_L_matter 0 = .ok (.aload_n 0, 1) := by decide +kernel
theorem d_L_matter_1 : decode b_L_matter 1 = .ok (.getfield 32, 3) := by decide +kernel
theorem d_L_matter_4 : decode b_L_matter 4 = .ok (.aload_n 0, 1) := by decide +kernel
theorem d_L_matter_5 : decode b_L_matter 5 = .ok (.getfield 21, 3) := by decide +kernel
theorem d_L_matter_8 : decode b_L_matter 8 = .ok (.invokevirtual 252, 3) := by decide +kernel
theorem d_L_matter_11 : decode b_L_matter 11 = .ok (.aload_n 0, 1) := by decide +kernel
theorem d_L_matter_12 : decode b_L_matter 12 = .ok (.getfield 42, 3) := by decide +kernel
theorem d_L_matter_15 : decode b_L_matter 15 = .ok (.aload_n 0, 1) := by decide +kernel
theorem d_L_matter_16 : decode b_L_matter 16 = .ok (.getfield 32, 3) := by decide +kernel
theorem d_L_matter_19 : decode b_L_matter 19 = .ok (.aload_n 0, 1) := by decide +kernel
theorem d_L_matter_20 : decode b_L_matter 20 = .ok (.getfield 67, 3) := by decide +kernel
theorem d_L_matter_23 : decode b_L_matter 23 = .ok (.invokevirtual 227, 3) := by decide +kernel
theorem d_L_matter_26 : decode b_L_matter 26 = .ok (.aload_n 0, 1) := by decide +kernel
theorem d_L_matter_27 : decode b_L_matter 27 = .ok (.getfield 42, 3) := by decide +kernel
theorem d_L_matter_30 : decode b_L_matter 30 = .ok (.getfield 230, 3) := by decide +kernel
theorem d_L_matter_33 : decode b_L_matter 33 = .ok (.istore_n 1, 1) := by decide +kernel
theorem d_L_matter_34 : decode b_L_matter 34 = .ok (.aload_n 0, 1) := by decide +kernel
theorem d_L_matter_35 : decode b_L_matter 35 = .ok (.getfield 32, 3) := by decide +kernel
theorem d_L_matter_38 : decode b_L_matter 38 = .ok (.getfield 167, 3) := by decide +kernel
theorem d_L_matter_41 : decode b_L_matter 41 = .ok (.iconst 0, 1) := by decide +kernel
theorem d_L_matter_42 : decode b_L_matter 42 = .ok (.invokestatic 124, 3) := by decide +kernel
theorem d_L_matter_45 : decode b_L_matter 45 = .ok (.istore_n 2, 1) := by decide +kernel
theorem d_L_matter_46 : decode b_L_matter 46 = .ok (.aload_n 0, 1) := by decide +kernel
theorem d_L_matter_47 : decode b_L_matter 47 = .ok (.getfield 32, 3) := by decide +kernel
theorem d_L_matter_50 : decode b_L_matter 50 = .ok (.getfield 167, 3) := by decide +kernel
theorem d_L_matter_53 : decode b_L_matter 53 = .ok (.iconst 1, 1) := by decide +kernel
theorem d_L_matter_54 : decode b_L_matter 54 = .ok (.invokestatic 124, 3) := by decide +kernel
theorem d_L_matter_57 : decode b_L_matter 57 = .ok (.istore_n 3, 1) := by decide +kernel
theorem d_L_matter_58 : decode b_L_matter 58 = .ok (.iconst 0, 1) := by decide +kernel
theorem d_L_matter_59 : decode b_L_matter 59 = .ok (.istore 4, 2) := by decide +kernel
theorem d_L_matter_61 : decode b_L_matter 61 = .ok (.iconst 0, 1) := by decide +kernel
theorem d_L_matter_62 : decode b_L_matter 62 = .ok (.istore 5, 2) := by decide +kernel
theorem d_L_matter_64 : decode b_L_matter 64 = .ok (.iload 5, 2) := by decide +kernel
theorem d_L_matter_66 : decode b_L_matter 66 = .ok (.aload_n 0, 1) := by decide +kernel
theorem d_L_matter_67 : decode b_L_matter 67 = .ok (.getfield 21, 3) := by decide +kernel
theorem d_L_matter_70 : decode b_L_matter 70 = .ok (.getfield 98, 3) := by decide +kernel
theorem d_L_matter_73 : decode b_L_matter 73 = .ok (.if_icmp .ge 84, 3) := by decide +kernel
theorem d_L_matter_76 : decode b_L_matter 76 = .ok (.aload_n 0, 1) := by decide +kernel
theorem d_L_matter_77 : decode b_L_matter 77 = .ok (.getfield 21, 3) := by decide +kernel
theorem d_L_matter_80 : decode b_L_matter 80 = .ok (.getfield 149, 3) := by decide +kernel
theorem d_L_matter_83 : decode b_L_matter 83 = .ok (.iload 5, 2) := by decide +kernel
theorem d_L_matter_85 : decode b_L_matter 85 = .ok (.invokestatic 124, 3) := by decide +kernel
theorem d_L_matter_88 : decode b_L_matter 88 = .ok (.iconst 3, 1) := by decide +kernel
theorem d_L_matter_89 : decode b_L_matter 89 = .ok (.if_icmp .eq 6, 3) := by decide +kernel
theorem d_L_matter_92 : decode b_L_matter 92 = .ok (.goto 59, 3) := by decide +kernel
theorem d_L_matter_95 : decode b_L_matter 95 = .ok (.aload_n 0, 1) := by decide +kernel
theorem d_L_matter_96 : decode b_L_matter 96 = .ok (.iload 5, 2) := by decide +kernel
theorem d_L_matter_98 : decode b_L_matter 98 = .ok (.invokevirtual 269, 3) := by decide +kernel
theorem d_L_matter_101 : decode b_L_matter 101 = .ok (.aload_n 0, 1) := by decide +kernel
theorem d_L_matter_102 : decode b_L_matter 102 = .ok (.getfield 42, 3) := by decide +kernel
theorem d_L_matter_105 : decode b_L_matter 105 = .ok (.getfield 230, 3) := by decide +kernel
theorem d_L_matter_108 : decode b_L_matter 108 = .ok (.iload_n 1, 1) := by decide +kernel
theorem d_L_matter_109 : decode b_L_matter 109 = .ok (.if_icmp .ne 33, 3) := by decide +kernel
theorem d_L_matter_112 : decode b_L_matter 112 = .ok (.aload_n 0, 1) := by decide +kernel
theorem d_L_matter_113 : decode b_L_matter 113 = .ok (.getfield 32, 3) := by decide +kernel
theorem d_L_matter_116 : decode b_L_matter 116 = .ok (.getfield 167, 3) := by decide +kernel
theorem d_L_matter_119 : decode b_L_matter 119 = .ok (.iconst 0, 1) := by decide +kernel
theorem d_L_matter_120 : decode b_L_matter 120 = .ok (.invokestatic 124, 3) := by decide +kernel
theorem d_L_matter_123 : decode b_L_matter 123 = .ok (.iload_n 2, 1) := by decide +kernel
theorem d_L_matter_124 : decode b_L_matter 124 = .ok (.if_icmp .ne 18, 3) := by decide +kernel
theorem d_L_matter_127 : decode b_L_matter 127 = .ok (.aload_n 0, 1) := by decide +kernel
theorem d_L_matter_128 : decode b_L_matter 128 = .ok (.getfield 32, 3) := by decide +kernel
theorem d_L_matter_131 : decode b_L_matter 131 = .ok (.getfield 167, 3) := by decide +kernel
theorem d_L_matter_134 : decode b_L_matter 134 = .ok (.iconst 1, 1) := by decide +kernel
theorem d_L_matter_135 : decode b_L_matter 135 = .ok (.invokestatic 124, 3) := by decide +kernel
theorem d_L_matter_138 : decode b_L_matter 138 = .ok (.iload_n 3, 1) := by decide +kernel
theorem d_L_matter_139 : decode b_L_matter 139 = .ok (.if_icmp .eq 12, 3) := by decide +kernel
theorem d_L_matter_142 : decode b_L_matter 142 = .ok (.iload 4, 2) := by decide +kernel
theorem d_L_matter_144 : decode b_L_matter 144 = .ok (.iconst 1, 1) := by decide +kernel
theorem d_L_matter_145 : decode b_L_matter 145 = .ok (.iload 5, 2) := by decide +kernel
theorem d_L_matter_147 : decode b_L_matter 147 = .ok (.ishl, 1) := by decide +kernel
theorem d_L_matter_148 : decode b_L_matter 148 = .ok (.ior, 1) := by decide +kernel
theorem d_L_matter_149 : decode b_L_matter 149 = .ok (.istore 4, 2) := by decide +kernel
theorem d_L_matter_151 : decode b_L_matter 151 = .ok (.iinc 5 1, 3) := by decide +kernel
theorem d_L_matter_154 : decode b_L_matter 154 = .ok (.goto (-90), 3) := by decide +kernel
theorem d_L_matter_157 : decode b_L_matter 157 = .ok (.iload 4, 2) := by decide +kernel
theorem d_L_matter_159 : decode b_L_matter 159 = .ok (.ireturn, 1) := by decide +kernel
theorem d_L_runWithout_0 : decode b_L_runWithout 0 = .ok (.aload_n 0, 1) := by decide +kernel
theorem d_L_runWithout_1 : decode b_L_runWithout 1 = .ok (.getfield 32, 3) := by decide +kernel
theorem d_L_runWithout_4 : decode b_L_runWithout 4 = .ok (.aload_n 0, 1) := by decide +kernel
theorem d_L_runWithout_5 : decode b_L_runWithout 5 = .ok (.getfield 21, 3) := by decide +kernel
theorem d_L_runWithout_8 : decode b_L_runWithout 8 = .ok (.invokevirtual 252, 3) := by decide +kernel
theorem d_L_runWithout_11 : decode b_L_runWithout 11 = .ok (.aload_n 0, 1) := by decide +kernel
theorem d_L_runWithout_12 : decode b_L_runWithout 12 = .ok (.getfield 32, 3) := by decide +kernel
theorem d_L_runWithout_15 : decode b_L_runWithout 15 = .ok (.iload_n 1, 1) := by decide +kernel
theorem d_L_runWithout_16 : decode b_L_runWithout 16 = .ok (.invokevirtual 272, 3) := by decide +kernel
theorem d_L_runWithout_19 : decode b_L_runWithout 19 = .ok (.aload_n 0, 1) := by decide +kernel
theorem d_L_runWithout_20 : decode b_L_runWithout 20 = .ok (.getfield 42, 3) := by decide +kernel
theorem d_L_runWithout_23 : decode b_L_runWithout 23 = .ok (.aload_n 0, 1) := by decide +kernel
theorem d_L_runWithout_24 : decode b_L_runWithout 24 = .ok (.getfield 32, 3) := by decide +kernel
theorem d_L_runWithout_27 : decode b_L_runWithout 27 = .ok (.aload_n 0, 1) := by decide +kernel
theorem d_L_runWithout_28 : decode b_L_runWithout 28 = .ok (.getfield 67, 3) := by decide +kernel
theorem d_L_runWithout_31 : decode b_L_runWithout 31 = .ok (.invokevirtual 227, 3) := by decide +kernel
theorem d_L_runWithout_34 : decode b_L_runWithout 34 = .ok (.return_, 1) := by decide +kernel
theorem d_L_swing_0 : decode b_L_swing 0 = .ok (.aload_n 0, 1) := by decide +kernel
theorem d_L_swing_1 : decode b_L_swing 1 = .ok (.getfield 21, 3) := by decide +kernel
theorem d_L_swing_4 : decode b_L_swing 4 = .ok (.iload_n 1, 1) := by decide +kernel
theorem d_L_swing_5 : decode b_L_swing 5 = .ok (.invokevirtual 137, 3) := by decide +kernel
theorem d_L_swing_8 : decode b_L_swing 8 = .ok (.ifCond .eq 18, 3) := by decide +kernel
theorem d_L_swing_11 : decode b_L_swing 11 = .ok (.aload_n 0, 1) := by decide +kernel
theorem d_L_swing_12 : decode b_L_swing 12 = .ok (.getfield 21, 3) := by decide +kernel
theorem d_L_swing_15 : decode b_L_swing 15 = .ok (.getfield 149, 3) := by decide +kernel
theorem d_L_swing_18 : decode b_L_swing 18 = .ok (.iload_n 1, 1) := by decide +kernel
theorem d_L_swing_19 : decode b_L_swing 19 = .ok (.invokestatic 124, 3) := by decide +kernel
theorem d_L_swing_22 : decode b_L_swing 22 = .ok (.iconst 3, 1) := by decide +kernel
theorem d_L_swing_23 : decode b_L_swing 23 = .ok (.if_icmp .eq 6, 3) := by decide +kernel
theorem d_L_swing_26 : decode b_L_swing 26 = .ok (.ldc 159, 2) := by decide +kernel
theorem d_L_swing_28 : decode b_L_swing 28 = .ok (.ireturn, 1) := by decide +kernel
theorem d_L_swing_29 : decode b_L_swing 29 = .ok (.aload_n 0, 1) := by decide +kernel
theorem d_L_swing_30 : decode b_L_swing 30 = .ok (.getfield 10, 3) := by decide +kernel
theorem d_L_swing_33 : decode b_L_swing 33 = .ok (.getfield 141, 3) := by decide +kernel
theorem d_L_swing_36 : decode b_L_swing 36 = .ok (.iload_n 1, 1) := by decide +kernel
theorem d_L_swing_37 : decode b_L_swing 37 = .ok (.invokestatic 124, 3) := by decide +kernel
theorem d_L_swing_40 : decode b_L_swing 40 = .ok (.istore_n 2, 1) := by decide +kernel
theorem d_L_swing_41 : decode b_L_swing 41 = .ok (.aload_n 0, 1) := by decide +kernel
theorem d_L_swing_42 : decode b_L_swing 42 = .ok (.getfield 32, 3) := by decide +kernel
theorem d_L_swing_45 : decode b_L_swing 45 = .ok (.aload_n 0, 1) := by decide +kernel
theorem d_L_swing_46 : decode b_L_swing 46 = .ok (.getfield 21, 3) := by decide +kernel
theorem d_L_swing_49 : decode b_L_swing 49 = .ok (.invokevirtual 252, 3) := by decide +kernel
theorem d_L_swing_52 : decode b_L_swing 52 = .ok (.aload_n 0, 1) := by decide +kernel
theorem d_L_swing_53 : decode b_L_swing 53 = .ok (.getfield 42, 3) := by decide +kernel
theorem d_L_swing_56 : decode b_L_swing 56 = .ok (.aload_n 0, 1) := by decide +kernel
theorem d_L_swing_57 : decode b_L_swing 57 = .ok (.getfield 32, 3) := by decide +kernel
theorem d_L_swing_60 : decode b_L_swing 60 = .ok (.aload_n 0, 1) := by decide +kernel
theorem d_L_swing_61 : decode b_L_swing 61 = .ok (.getfield 67, 3) := by decide +kernel
theorem d_L_swing_64 : decode b_L_swing 64 = .ok (.invokevirtual 227, 3) := by decide +kernel
theorem d_L_swing_67 : decode b_L_swing 67 = .ok (.aload_n 0, 1) := by decide +kernel
theorem d_L_swing_68 : decode b_L_swing 68 = .ok (.getfield 32, 3) := by decide +kernel
theorem d_L_swing_71 : decode b_L_swing 71 = .ok (.iload_n 2, 1) := by decide +kernel
theorem d_L_swing_72 : decode b_L_swing 72 = .ok (.invokevirtual 258, 3) := by decide +kernel
theorem d_L_swing_75 : decode b_L_swing 75 = .ok (.istore_n 3, 1) := by decide +kernel
theorem d_L_swing_76 : decode b_L_swing 76 = .ok (.aload_n 0, 1) := by decide +kernel
theorem d_L_swing_77 : decode b_L_swing 77 = .ok (.iload_n 1, 1) := by decide +kernel
theorem d_L_swing_78 : decode b_L_swing 78 = .ok (.invokevirtual 269, 3) := by decide +kernel
theorem d_L_swing_81 : decode b_L_swing 81 = .ok (.iload_n 3, 1) := by decide +kernel
theorem d_L_swing_82 : decode b_L_swing 82 = .ok (.aload_n 0, 1) := by decide +kernel
theorem d_L_swing_83 : decode b_L_swing 83 = .ok (.getfield 32, 3) := by decide +kernel
theorem d_L_swing_86 : decode b_L_swing 86 = .ok (.iload_n 2, 1) := by decide +kernel
theorem d_L_swing_87 : decode b_L_swing 87 = .ok (.invokevirtual 258, 3) := by decide +kernel
theorem d_L_swing_90 : decode b_L_swing 90 = .ok (.isub, 1) := by decide +kernel
theorem d_L_swing_91 : decode b_L_swing 91 = .ok (.ireturn, 1) := by decide +kernel
theorem d_L_next_0 : decode b_L_next 0 = .ok (.iload_n 1, 1) := by decide +kernel
theorem d_L_next_1 : decode b_L_next 1 = .ok (.invokestatic 91, 3) := by decide +kernel
theorem d_L_next_4 : decode b_L_next 4 = .ok (.ifCond .ne 5, 3) := by decide +kernel
theorem d_L_next_7 : decode b_L_next 7 = .ok (.iconst (-1), 1) := by decide +kernel
theorem d_L_next_8 : decode b_L_next 8 = .ok (.ireturn, 1) := by decide +kernel
theorem d_L_next_9 : decode b_L_next 9 = .ok (.aload_n 0, 1) := by decide +kernel
theorem d_L_next_10 : decode b_L_next 10 = .ok (.getfield 21, 3) := by decide +kernel
theorem d_L_next_13 : decode b_L_next 13 = .ok (.iload_n 1, 1) := by decide +kernel
theorem d_L_next_14 : decode b_L_next 14 = .ok (.iconst 0, 1) := by decide +kernel
theorem d_L_next_15 : decode b_L_next 15 = .ok (.invokevirtual 170, 3) := by decide +kernel
theorem d_L_next_18 : decode b_L_next 18 = .ok (.istore_n 2, 1) := by decide +kernel
theorem d_L_next_19 : decode b_L_next 19 = .ok (.iload_n 2, 1) := by decide +kernel
theorem d_L_next_20 : decode b_L_next 20 = .ok (.ifCond .gt 6, 3) := by decide +kernel
theorem d_L_next_23 : decode b_L_next 23 = .ok (.bipush (-2), 2) := by decide +kernel
theorem d_L_next_25 : decode b_L_next 25 = .ok (.ireturn, 1) := by decide +kernel
theorem d_L_next_26 : decode b_L_next 26 = .ok (.aload_n 0, 1) := by decide +kernel
theorem d_L_next_27 : decode b_L_next 27 = .ok (.getfield 21, 3) := by decide +kernel
theorem d_L_next_30 : decode b_L_next 30 = .ok (.iload_n 1, 1) := by decide +kernel
theorem d_L_next_31 : decode b_L_next 31 = .ok (.iconst 0, 1) := by decide +kernel
theorem d_L_next_32 : decode b_L_next 32 = .ok (.iload_n 2, 1) := by decide +kernel
theorem d_L_next_33 : decode b_L_next 33 = .ok (.aload_n 0, 1) := by decide +kernel
theorem d_L_next_34 : decode b_L_next 34 = .ok (.getfield 21, 3) := by decide +kernel
theorem d_L_next_37 : decode b_L_next 37 = .ok (.getfield 275, 3) := by decide +kernel
theorem d_L_next_40 : decode b_L_next 40 = .ok (.invokestatic 278, 3) := by decide +kernel
theorem d_L_next_43 : decode b_L_next 43 = .ok (.invokestatic 281, 3) := by decide +kernel
theorem d_L_next_46 : decode b_L_next 46 = .ok (.invokevirtual 265, 3) := by decide +kernel
theorem d_L_next_49 : decode b_L_next 49 = .ok (.ireturn, 1) := by decide +kernel
theorem d_L_ahead_0 : decode b_L_ahead 0 = .ok (.iload_n 1, 1) := by decide +kernel
theorem d_L_ahead_1 : decode b_L_ahead 1 = .ok (.iconst 1, 1) := by decide +kernel
theorem d_L_ahead_2 : decode b_L_ahead 2 = .ok (.if_icmp .lt 18, 3) := by decide +kernel
theorem d_L_ahead_5 : decode b_L_ahead 5 = .ok (.iload_n 1, 1) := by decide +kernel
theorem d_L_ahead_6 : decode b_L_ahead 6 = .ok (.bipush 9, 2) := by decide +kernel
theorem d_L_ahead_8 : decode b_L_ahead 8 = .ok (.if_icmp .gt 12, 3) := by decide +kernel
theorem d_L_ahead_11 : decode b_L_ahead 11 = .ok (.iload_n 2, 1) := by decide +kernel
theorem d_L_ahead_12 : decode b_L_ahead 12 = .ok (.ifCond .lt 8, 3) := by decide +kernel
theorem d_L_ahead_15 : decode b_L_ahead 15 = .ok (.iload_n 2, 1) := by decide +kernel
theorem d_L_ahead_16 : decode b_L_ahead 16 = .ok (.iconst 4, 1) := by decide +kernel
theorem d_L_ahead_17 : decode b_L_ahead 17 = .ok (.if_icmp .le 6, 3) := by decide +kernel
theorem d_L_ahead_20 : decode b_L_ahead 20 = .ok (.ldc 159, 2) := by decide +kernel
theorem d_L_ahead_22 : decode b_L_ahead 22 = .ok (.ireturn, 1) := by decide +kernel
theorem d_L_ahead_23 : decode b_L_ahead 23 = .ok (.aload_n 0, 1) := by decide +kernel
theorem d_L_ahead_24 : decode b_L_ahead 24 = .ok (.getfield 32, 3) := by decide +kernel
theorem d_L_ahead_27 : decode b_L_ahead 27 = .ok (.aload_n 0, 1) := by decide +kernel
theorem d_L_ahead_28 : decode b_L_ahead 28 = .ok (.getfield 21, 3) := by decide +kernel
theorem d_L_ahead_31 : decode b_L_ahead 31 = .ok (.invokevirtual 252, 3) := by decide +kernel
theorem d_L_ahead_34 : decode b_L_ahead 34 = .ok (.iconst 0, 1) := by decide +kernel
theorem d_L_ahead_35 : decode b_L_ahead 35 = .ok (.istore_n 3, 1) := by decide +kernel
theorem d_L_ahead_36 : decode b_L_ahead 36 = .ok (.iload_n 3, 1) := by decide +kernel
theorem d_L_ahead_37 : decode b_L_ahead 37 = .ok (.iload_n 1, 1) := by decide +kernel
theorem d_L_ahead_38 : decode b_L_ahead 38 = .ok (.if_icmp .ge 49, 3) := by decide +kernel
theorem d_L_ahead_41 : decode b_L_ahead 41 = .ok (.aload_n 0, 1) := by decide +kernel
theorem d_L_ahead_42 : decode b_L_ahead 42 = .ok (.getfield 32, 3) := by decide +kernel
theorem d_L_ahead_45 : decode b_L_ahead 45 = .ok (.invokevirtual 242, 3) := by decide +kernel
theorem d_L_ahead_48 : decode b_L_ahead 48 = .ok (.ifCond .eq 39, 3) := by decide +kernel
theorem d_L_ahead_51 : decode b_L_ahead 51 = .ok (.aload_n 0, 1) := by decide +kernel
theorem d_L_ahead_52 : decode b_L_ahead 52 = .ok (.getfield 42, 3) := by decide +kernel
theorem d_L_ahead_55 : decode b_L_ahead 55 = .ok (.aload_n 0, 1) := by decide +kernel
theorem d_L_ahead_56 : decode b_L_ahead 56 = .ok (.getfield 32, 3) := by decide +kernel
theorem d_L_ahead_59 : decode b_L_ahead 59 = .ok (.aload_n 0, 1) := by decide +kernel
theorem d_L_ahead_60 : decode b_L_ahead 60 = .ok (.getfield 67, 3) := by decide +kernel
theorem d_L_ahead_63 : decode b_L_ahead 63 = .ok (.invokevirtual 246, 3) := by decide +kernel
theorem d_L_ahead_66 : decode b_L_ahead 66 = .ok (.aload_n 0, 1) := by decide +kernel
theorem d_L_ahead_67 : decode b_L_ahead 67 = .ok (.getfield 42, 3) := by decide +kernel
theorem d_L_ahead_70 : decode b_L_ahead 70 = .ok (.aload_n 0, 1) := by decide +kernel
theorem d_L_ahead_71 : decode b_L_ahead 71 = .ok (.getfield 32, 3) := by decide +kernel
theorem d_L_ahead_74 : decode b_L_ahead 74 = .ok (.aload_n 0, 1) := by decide +kernel
theorem d_L_ahead_75 : decode b_L_ahead 75 = .ok (.getfield 67, 3) := by decide +kernel
theorem d_L_ahead_78 : decode b_L_ahead 78 = .ok (.invokevirtual 227, 3) := by decide +kernel
theorem d_L_ahead_81 : decode b_L_ahead 81 = .ok (.iinc 3 1, 3) := by decide +kernel
theorem d_L_ahead_84 : decode b_L_ahead 84 = .ok (.goto (-48), 3) := by decide +kernel
theorem d_L_ahead_87 : decode b_L_ahead 87 = .ok (.iload_n 2, 1) := by decide +kernel
theorem d_L_ahead_88 : decode b_L_ahead 88 = .ok (.tableswitch 68 0 3 #[32, 34, 46, 58], 32) := by decide +kernel
theorem d_L_ahead_120 : decode b_L_ahead 120 = .ok (.iload_n 3, 1) := by decide +kernel
theorem d_L_ahead_121 : decode b_L_ahead 121 = .ok (.ireturn, 1) := by decide +kernel
theorem d_L_ahead_122 : decode b_L_ahead 122 = .ok (.aload_n 0, 1) := by decide +kernel
theorem d_L_ahead_123 : decode b_L_ahead 123 = .ok (.getfield 32, 3) := by decide +kernel
theorem d_L_ahead_126 : decode b_L_ahead 126 = .ok (.getfield 167, 3) := by decide +kernel
theorem d_L_ahead_129 : decode b_L_ahead 129 = .ok (.iconst 0, 1) := by decide +kernel
theorem d_L_ahead_130 : decode b_L_ahead 130 = .ok (.invokestatic 124, 3) := by decide +kernel
theorem d_L_ahead_133 : decode b_L_ahead 133 = .ok (.ireturn, 1) := by decide +kernel
theorem d_L_ahead_134 : decode b_L_ahead 134 = .ok (.aload_n 0, 1) := by decide +kernel
theorem d_L_ahead_135 : decode b_L_ahead 135 = .ok (.getfield 32, 3) := by decide +kernel
theorem d_L_ahead_138 : decode b_L_ahead 138 = .ok (.getfield 167, 3) := by decide +kernel
theorem d_L_ahead_141 : decode b_L_ahead 141 = .ok (.iconst 1, 1) := by decide +kernel
theorem d_L_ahead_142 : decode b_L_ahead 142 = .ok (.invokestatic 124, 3) := by decide +kernel
theorem d_L_ahead_145 : decode b_L_ahead 145 = .ok (.ireturn, 1) := by decide +kernel
theorem d_L_ahead_146 : decode b_L_ahead 146 = .ok (.aload_n 0, 1) := by decide +kernel
theorem d_L_ahead_147 : decode b_L_ahead 147 = .ok (.getfield 32, 3) := by decide +kernel
theorem d_L_ahead_150 : decode b_L_ahead 150 = .ok (.iconst 0, 1) := by decide +kernel
theorem d_L_ahead_151 : decode b_L_ahead 151 = .ok (.iconst 1, 1) := by decide +kernel
theorem d_L_ahead_152 : decode b_L_ahead 152 = .ok (.invokevirtual 170, 3) := by decide +kernel
theorem d_L_ahead_155 : decode b_L_ahead 155 = .ok (.ireturn, 1) := by decide +kernel
theorem d_L_ahead_156 : decode b_L_ahead 156 = .ok (.aload_n 0, 1) := by decide +kernel
theorem d_L_ahead_157 : decode b_L_ahead 157 = .ok (.getfield 32, 3) := by decide +kernel
theorem d_L_ahead_160 : decode b_L_ahead 160 = .ok (.iconst 1, 1) := by decide +kernel
theorem d_L_ahead_161 : decode b_L_ahead 161 = .ok (.iconst 1, 1) := by decide +kernel
theorem d_L_ahead_162 : decode b_L_ahead 162 = .ok (.invokevirtual 170, 3) := by decide +kernel
theorem d_L_ahead_165 : decode b_L_ahead 165 = .ok (.ireturn, 1) := by decide +kernel
theorem d_L_trace_0 : decode b_L_trace 0 = .ok (.iload_n 1, 1) := by decide +kernel
theorem d_L_trace_1 : decode b_L_trace 1 = .ok (.ifCond .lt 12, 3) := by decide +kernel
theorem d_L_trace_4 : decode b_L_trace 4 = .ok (.iload_n 1, 1) := by decide +kernel
theorem d_L_trace_5 : decode b_L_trace 5 = .ok (.iconst 1, 1) := by decide +kernel
theorem d_L_trace_6 : decode b_L_trace 6 = .ok (.if_icmp .gt 7, 3) := by decide +kernel
theorem d_L_trace_9 : decode b_L_trace 9 = .ok (.iload_n 2, 1) := by decide +kernel
theorem d_L_trace_10 : decode b_L_trace 10 = .ok (.ifCond .ge 5, 3) := by decide +kernel
theorem d_L_trace_13 : decode b_L_trace 13 = .ok (.iconst (-1), 1) := by decide +kernel
theorem d_L_trace_14 : decode b_L_trace 14 = .ok (.ireturn, 1) := by decide +kernel
theorem d_L_trace_15 : decode b_L_trace 15 = .ok (.iload_n 1, 1) := by decide +kernel
theorem d_L_trace_16 : decode b_L_trace 16 = .ok (.ifCond .ne 31, 3) := by decide +kernel
theorem d_L_trace_19 : decode b_L_trace 19 = .ok (.iload_n 2, 1) := by decide +kernel
theorem d_L_trace_20 : decode b_L_trace 20 = .ok (.aload_n 0, 1) := by decide +kernel
theorem d_L_trace_21 : decode b_L_trace 21 = .ok (.getfield 63, 3) := by decide +kernel
theorem d_L_trace_24 : decode b_L_trace 24 = .ok (.getfield 284, 3) := by decide +kernel
theorem d_L_trace_27 : decode b_L_trace 27 = .ok (.if_icmp .ge 17, 3) := by decide +kernel
theorem d_L_trace_30 : decode b_L_trace 30 = .ok (.aload_n 0, 1) := by decide +kernel
theorem d_L_trace_31 : decode b_L_trace 31 = .ok (.getfield 63, 3) := by decide +kernel
theorem d_L_trace_34 : decode b_L_trace 34 = .ok (.getfield 287, 3) := by decide +kernel
theorem d_L_trace_37 : decode b_L_trace 37 = .ok (.iload_n 2, 1) := by decide +kernel
theorem d_L_trace_38 : decode b_L_trace 38 = .ok (.invokestatic 124, 3) := by decide +kernel
theorem d_L_trace_41 : decode b_L_trace 41 = .ok (.goto 5, 3) := by decide +kernel
theorem d_L_trace_44 : decode b_L_trace 44 = .ok (.bipush (-2), 2) := by decide +kernel
theorem d_L_trace_46 : decode b_L_trace 46 = .ok (.ireturn, 1) := by decide +kernel
theorem d_L_trace_47 : decode b_L_trace 47 = .ok (.iload_n 2, 1) := by decide +kernel
theorem d_L_trace_48 : decode b_L_trace 48 = .ok (.aload_n 0, 1) := by decide +kernel
theorem d_L_trace_49 : decode b_L_trace 49 = .ok (.getfield 63, 3) := by decide +kernel
theorem d_L_trace_52 : decode b_L_trace 52 = .ok (.getfield 290, 3) := by decide +kernel
theorem d_L_trace_55 : decode b_L_trace 55 = .ok (.if_icmp .ge 17, 3) := by decide +kernel
theorem d_L_trace_58 : decode b_L_trace 58 = .ok (.aload_n 0, 1) := by decide +kernel
theorem d_L_trace_59 : decode b_L_trace 59 = .ok (.getfield 63, 3) := by decide +kernel
theorem d_L_trace_62 : decode b_L_trace 62 = .ok (.getfield 293, 3) := by decide +kernel
theorem d_L_trace_65 : decode b_L_trace 65 = .ok (.iload_n 2, 1) := by decide +kernel
theorem d_L_trace_66 : decode b_L_trace 66 = .ok (.invokestatic 124, 3) := by decide +kernel
theorem d_L_trace_69 : decode b_L_trace 69 = .ok (.goto 5, 3) := by decide +kernel
theorem d_L_trace_72 : decode b_L_trace 72 = .ok (.bipush (-2), 2) := by decide +kernel
theorem d_L_trace_74 : decode b_L_trace 74 = .ok (.ireturn, 1) := by decide +kernel
theorem d_L_seed_0 : decode b_L_seed 0 = .ok (.aload_n 0, 1) := by decide +kernel
theorem d_L_seed_1 : decode b_L_seed 1 = .ok (.getfield 21, 3) := by decide +kernel
theorem d_L_seed_4 : decode b_L_seed 4 = .ok (.getfield 275, 3) := by decide +kernel
theorem d_L_seed_7 : decode b_L_seed 7 = .ok (.istore_n 2, 1) := by decide +kernel
theorem d_L_seed_8 : decode b_L_seed 8 = .ok (.aload_n 0, 1) := by decide +kernel
theorem d_L_seed_9 : decode b_L_seed 9 = .ok (.getfield 21, 3) := by decide +kernel
theorem d_L_seed_12 : decode b_L_seed 12 = .ok (.iload_n 1, 1) := by decide +kernel
theorem d_L_seed_13 : decode b_L_seed 13 = .ok (.putfield 275, 3) := by decide +kernel
theorem d_L_seed_16 : decode b_L_seed 16 = .ok (.iload_n 2, 1) := by decide +kernel
theorem d_L_seed_17 : decode b_L_seed 17 = .ok (.ireturn, 1) := by decide +kernel
theorem d_L_image_0 : decode b_L_image 0 = .ok (.aload_n 0, 1) := by decide +kernel
theorem d_L_image_1 : decode b_L_image 1 = .ok (.getfield 25, 3) := by decide +kernel
theorem d_L_image_4 : decode b_L_image 4 = .ok (.aload_n 0, 1) := by decide +kernel
theorem d_L_image_5 : decode b_L_image 5 = .ok (.getfield 21, 3) := by decide +kernel
theorem d_L_image_8 : decode b_L_image 8 = .ok (.invokevirtual 252, 3) := by decide +kernel
theorem d_L_image_11 : decode b_L_image 11 = .ok (.aload_n 0, 1) := by decide +kernel
theorem d_L_image_12 : decode b_L_image 12 = .ok (.iconst 1, 1) := by decide +kernel
theorem d_L_image_13 : decode b_L_image 13 = .ok (.putfield 28, 3) := by decide +kernel
theorem d_L_image_16 : decode b_L_image 16 = .ok (.aload_n 0, 1) := by decide +kernel
theorem d_L_image_17 : decode b_L_image 17 = .ok (.getfield 21, 3) := by decide +kernel
theorem d_L_image_20 : decode b_L_image 20 = .ok (.getfield 98, 3) := by decide +kernel
theorem d_L_image_23 : decode b_L_image 23 = .ok (.ireturn, 1) := by decide +kernel
theorem d_L_back_0 : decode b_L_back 0 = .ok (.aload_n 0, 1) := by decide +kernel
theorem d_L_back_1 : decode b_L_back 1 = .ok (.getfield 28, 3) := by decide +kernel
theorem d_L_back_4 : decode b_L_back 4 = .ok (.ifCond .ne 6, 3) := by decide +kernel
theorem d_L_back_7 : decode b_L_back 7 = .ok (.bipush (-5), 2) := by decide +kernel
theorem d_L_back_9 : decode b_L_back 9 = .ok (.ireturn, 1) := by decide +kernel
theorem d_L_back_10 : decode b_L_back 10 = .ok (.aload_n 0, 1) := by decide +kernel
theorem d_L_back_11 : decode b_L_back 11 = .ok (.getfield 21, 3) := by decide +kernel
theorem d_L_back_14 : decode b_L_back 14 = .ok (.aload_n 0, 1) := by decide +kernel
theorem d_L_back_15 : decode b_L_back 15 = .ok (.getfield 25, 3) := by decide +kernel
theorem d_L_back_18 : decode b_L_back 18 = .ok (.invokevirtual 252, 3) := by decide +kernel
theorem d_L_back_21 : decode b_L_back 21 = .ok (.iconst 0, 1) := by decide +kernel
theorem d_L_back_22 : decode b_L_back 22 = .ok (.istore_n 1, 1) := by decide +kernel
theorem d_L_back_23 : decode b_L_back 23 = .ok (.iload_n 1, 1) := by decide +kernel
theorem d_L_back_24 : decode b_L_back 24 = .ok (.aload_n 0, 1) := by decide +kernel
theorem d_L_back_25 : decode b_L_back 25 = .ok (.getfield 77, 3) := by decide +kernel
theorem d_L_back_28 : decode b_L_back 28 = .ok (.arraylength, 1) := by decide +kernel
theorem d_L_back_29 : decode b_L_back 29 = .ok (.if_icmp .ge 33, 3) := by decide +kernel
theorem d_L_back_32 : decode b_L_back 32 = .ok (.aload_n 0, 1) := by decide +kernel
theorem d_L_back_33 : decode b_L_back 33 = .ok (.getfield 21, 3) := by decide +kernel
theorem d_L_back_36 : decode b_L_back 36 = .ok (.aload_n 0, 1) := by decide +kernel
theorem d_L_back_37 : decode b_L_back 37 = .ok (.getfield 77, 3) := by decide +kernel
theorem d_L_back_40 : decode b_L_back 40 = .ok (.iload_n 1, 1) := by decide +kernel
theorem d_L_back_41 : decode b_L_back 41 = .ok (.iaload, 1) := by decide +kernel
theorem d_L_back_42 : decode b_L_back 42 = .ok (.invokevirtual 137, 3) := by decide +kernel
theorem d_L_back_45 : decode b_L_back 45 = .ok (.ifCond .ne 11, 3) := by decide +kernel
theorem d_L_back_48 : decode b_L_back 48 = .ok (.aload_n 0, 1) := by decide +kernel
theorem d_L_back_49 : decode b_L_back 49 = .ok (.getfield 77, 3) := by decide +kernel
theorem d_L_back_52 : decode b_L_back 52 = .ok (.iload_n 1, 1) := by decide +kernel
theorem d_L_back_53 : decode b_L_back 53 = .ok (.bipush (-2), 2) := by decide +kernel
theorem d_L_back_55 : decode b_L_back 55 = .ok (.iastore, 1) := by decide +kernel
theorem d_L_back_56 : decode b_L_back 56 = .ok (.iinc 1 1, 3) := by decide +kernel
theorem d_L_back_59 : decode b_L_back 59 = .ok (.goto (-36), 3) := by decide +kernel
theorem d_L_back_62 : decode b_L_back 62 = .ok (.aload_n 0, 1) := by decide +kernel
theorem d_L_back_63 : decode b_L_back 63 = .ok (.getfield 21, 3) := by decide +kernel
theorem d_L_back_66 : decode b_L_back 66 = .ok (.getfield 98, 3) := by decide +kernel
theorem d_L_back_69 : decode b_L_back 69 = .ok (.ireturn, 1) := by decide +kernel
theorem d_L_hold_0 : decode b_L_hold 0 = .ok (.iload_n 1, 1) := by decide +kernel
theorem d_L_hold_1 : decode b_L_hold 1 = .ok (.ifCond .lt 25, 3) := by decide +kernel
theorem d_L_hold_4 : decode b_L_hold 4 = .ok (.iload_n 1, 1) := by decide +kernel
theorem d_L_hold_5 : decode b_L_hold 5 = .ok (.bipush 8, 2) := by decide +kernel
theorem d_L_hold_7 : decode b_L_hold 7 = .ok (.if_icmp .ge 19, 3) := by decide +kernel
theorem d_L_hold_10 : decode b_L_hold 10 = .ok (.iload_n 2, 1) := by decide +kernel
theorem d_L_hold_11 : decode b_L_hold 11 = .ok (.iconst (-1), 1) := by decide +kernel
theorem d_L_hold_12 : decode b_L_hold 12 = .ok (.if_icmp .eq 16, 3) := by decide +kernel
theorem d_L_hold_15 : decode b_L_hold 15 = .ok (.aload_n 0, 1) := by decide +kernel
theorem d_L_hold_16 : decode b_L_hold 16 = .ok (.getfield 21, 3) := by decide +kernel
theorem d_L_hold_19 : decode b_L_hold 19 = .ok (.iload_n 2, 1) := by decide +kernel
theorem d_L_hold_20 : decode b_L_hold 20 = .ok (.invokevirtual 137, 3) := by decide +kernel
theorem d_L_hold_23 : decode b_L_hold 23 = .ok (.ifCond .ne 5, 3) := by decide +kernel
theorem d_L_hold_26 : decode b_L_hold 26 = .ok (.iconst (-1), 1) := by decide +kernel
theorem d_L_hold_27 : decode b_L_hold 27 = .ok (.ireturn, 1) := by decide +kernel
theorem d_L_hold_28 : decode b_L_hold 28 = .ok (.aload_n 0, 1) := by decide +kernel
theorem d_L_hold_29 : decode b_L_hold 29 = .ok (.getfield 77, 3) := by decide +kernel
theorem d_L_hold_32 : decode b_L_hold 32 = .ok (.iload_n 1, 1) := by decide +kernel
theorem d_L_hold_33 : decode b_L_hold 33 = .ok (.iload_n 2, 1) := by decide +kernel
theorem d_L_hold_34 : decode b_L_hold 34 = .ok (.invokestatic 163, 3) := by decide +kernel
theorem d_L_hold_37 : decode b_L_hold 37 = .ok (.iconst 1, 1) := by decide +kernel
theorem d_L_hold_38 : decode b_L_hold 38 = .ok (.ireturn, 1) := by decide +kernel
theorem d_L_tells_0 : decode b_L_tells 0 = .ok (.iload_n 1, 1) := by decide +kernel
theorem d_L_tells_1 : decode b_L_tells 1 = .ok (.ifCond .lt 18, 3) := by decide +kernel
theorem d_L_tells_4 : decode b_L_tells 4 = .ok (.iload_n 1, 1) := by decide +kernel
theorem d_L_tells_5 : decode b_L_tells 5 = .ok (.bipush 8, 2) := by decide +kernel
theorem d_L_tells_7 : decode b_L_tells 7 = .ok (.if_icmp .ge 12, 3) := by decide +kernel
theorem d_L_tells_10 : decode b_L_tells 10 = .ok (.iload_n 2, 1) := by decide +kernel
theorem d_L_tells_11 : decode b_L_tells 11 = .ok (.ifCond .lt 8, 3) := by decide +kernel
theorem d_L_tells_14 : decode b_L_tells 14 = .ok (.iload_n 2, 1) := by decide +kernel
theorem d_L_tells_15 : decode b_L_tells 15 = .ok (.iconst 4, 1) := by decide +kernel
theorem d_L_tells_16 : decode b_L_tells 16 = .ok (.if_icmp .le 5, 3) := by decide +kernel
theorem d_L_tells_19 : decode b_L_tells 19 = .ok (.iconst (-1), 1) := by decide +kernel
theorem d_L_tells_20 : decode b_L_tells 20 = .ok (.ireturn, 1) := by decide +kernel
theorem d_L_tells_21 : decode b_L_tells 21 = .ok (.aload_n 0, 1) := by decide +kernel
theorem d_L_tells_22 : decode b_L_tells 22 = .ok (.getfield 77, 3) := by decide +kernel
theorem d_L_tells_25 : decode b_L_tells 25 = .ok (.iload_n 1, 1) := by decide +kernel
theorem d_L_tells_26 : decode b_L_tells 26 = .ok (.invokestatic 124, 3) := by decide +kernel
theorem d_L_tells_29 : decode b_L_tells 29 = .ok (.istore_n 3, 1) := by decide +kernel
theorem d_L_tells_30 : decode b_L_tells 30 = .ok (.aload_n 0, 1) := by decide +kernel
theorem d_L_tells_31 : decode b_L_tells 31 = .ok (.getfield 21, 3) := by decide +kernel
theorem d_L_tells_34 : decode b_L_tells 34 = .ok (.iload_n 3, 1) := by decide +kernel
theorem d_L_tells_35 : decode b_L_tells 35 = .ok (.invokevirtual 137, 3) := by decide +kernel
theorem d_L_tells_38 : decode b_L_tells 38 = .ok (.ifCond .ne 6, 3) := by decide +kernel
theorem d_L_tells_41 : decode b_L_tells 41 = .ok (.bipush (-11), 2) := by decide +kernel
theorem d_L_tells_43 : decode b_L_tells 43 = .ok (.ireturn, 1) := by decide +kernel
theorem d_L_tells_44 : decode b_L_tells 44 = .ok (.aload_n 0, 1) := by decide +kernel
theorem d_L_tells_45 : decode b_L_tells 45 = .ok (.getfield 10, 3) := by decide +kernel
theorem d_L_tells_48 : decode b_L_tells 48 = .ok (.getfield 140, 3) := by decide +kernel
theorem d_L_tells_51 : decode b_L_tells 51 = .ok (.iload_n 3, 1) := by decide +kernel
theorem d_L_tells_52 : decode b_L_tells 52 = .ok (.invokestatic 124, 3) := by decide +kernel
theorem d_L_tells_55 : decode b_L_tells 55 = .ok (.istore 4, 2) := by decide +kernel
theorem d_L_tells_57 : decode b_L_tells 57 = .ok (.iload_n 2, 1) := by decide +kernel
theorem d_L_tells_58 : decode b_L_tells 58 = .ok (.ifCond .ne 9, 3) := by decide +kernel
theorem d_L_tells_61 : decode b_L_tells 61 = .ok (.bipush 100, 2) := by decide +kernel
theorem d_L_tells_63 : decode b_L_tells 63 = .ok (.iload 4, 2) := by decide +kernel
theorem d_L_tells_65 : decode b_L_tells 65 = .ok (.iadd, 1) := by decide +kernel
theorem d_L_tells_66 : decode b_L_tells 66 = .ok (.ireturn, 1) := by decide +kernel
theorem d_L_tells_67 : decode b_L_tells 67 = .ok (.iload_n 2, 1) := by decide +kernel
theorem d_L_tells_68 : decode b_L_tells 68 = .ok (.iload 4, 2) := by decide +kernel
theorem d_L_tells_70 : decode b_L_tells 70 = .ok (.invokestatic 193, 3) := by decide +kernel
theorem d_L_tells_73 : decode b_L_tells 73 = .ok (.if_icmp .eq 6, 3) := by decide +kernel
theorem d_L_tells_76 : decode b_L_tells 76 = .ok (.bipush (-12), 2) := by decide +kernel
theorem d_L_tells_78 : decode b_L_tells 78 = .ok (.ireturn, 1) := by decide +kernel
theorem d_L_tells_79 : decode b_L_tells 79 = .ok (.aload_n 0, 1) := by decide +kernel
theorem d_L_tells_80 : decode b_L_tells 80 = .ok (.getfield 10, 3) := by decide +kernel
theorem d_L_tells_83 : decode b_L_tells 83 = .ok (.getfield 148, 3) := by decide +kernel
theorem d_L_tells_86 : decode b_L_tells 86 = .ok (.iload_n 3, 1) := by decide +kernel
theorem d_L_tells_87 : decode b_L_tells 87 = .ok (.invokestatic 124, 3) := by decide +kernel
theorem d_L_tells_90 : decode b_L_tells 90 = .ok (.istore 5, 2) := by decide +kernel
theorem d_L_tells_92 : decode b_L_tells 92 = .ok (.iload_n 2, 1) := by decide +kernel
theorem d_L_tells_93 : decode b_L_tells 93 = .ok (.tableswitch 61 1 3 #[27, 42, 55], 27) := by decide +kernel
theorem d_L_tells_120 : decode b_L_tells 120 = .ok (.bipush 100, 2) := by decide +kernel
theorem d_L_tells_122 : decode b_L_tells 122 = .ok (.iload 4, 2) := by decide +kernel
theorem d_L_tells_124 : decode b_L_tells 124 = .ok (.iload 5, 2) := by decide +kernel
theorem d_L_tells_126 : decode b_L_tells 126 = .ok (.bipush 10, 2) := by decide +kernel
theorem d_L_tells_128 : decode b_L_tells 128 = .ok (.bipush 20, 2) := by decide +kernel
theorem d_L_tells_130 : decode b_L_tells 130 = .ok (.invokestatic 296, 3) := by decide +kernel
theorem d_L_tells_133 : decode b_L_tells 133 = .ok (.iadd, 1) := by decide +kernel
theorem d_L_tells_134 : decode b_L_tells 134 = .ok (.ireturn, 1) := by decide +kernel
theorem d_L_tells_135 : decode b_L_tells 135 = .ok (.bipush 100, 2) := by decide +kernel
theorem d_L_tells_137 : decode b_L_tells 137 = .ok (.iload 4, 2) := by decide +kernel
theorem d_L_tells_139 : decode b_L_tells 139 = .ok (.iload 5, 2) := by decide +kernel
theorem d_L_tells_141 : decode b_L_tells 141 = .ok (.bipush 10, 2) := by decide +kernel
theorem d_L_tells_143 : decode b_L_tells 143 = .ok (.invokestatic 299, 3) := by decide +kernel
theorem d_L_tells_146 : decode b_L_tells 146 = .ok (.iadd, 1) := by decide +kernel
theorem d_L_tells_147 : decode b_L_tells 147 = .ok (.ireturn, 1) := by decide +kernel
theorem d_L_tells_148 : decode b_L_tells 148 = .ok (.bipush 100, 2) := by decide +kernel
theorem d_L_tells_150 : decode b_L_tells 150 = .ok (.iload 5, 2) := by decide +kernel
theorem d_L_tells_152 : decode b_L_tells 152 = .ok (.iadd, 1) := by decide +kernel
theorem d_L_tells_153 : decode b_L_tells 153 = .ok (.ireturn, 1) := by decide +kernel
theorem d_L_tells_154 : decode b_L_tells 154 = .ok (.bipush 100, 2) := by decide +kernel
theorem d_L_tells_156 : decode b_L_tells 156 = .ok (.aload_n 0, 1) := by decide +kernel
theorem d_L_tells_157 : decode b_L_tells 157 = .ok (.getfield 10, 3) := by decide +kernel
theorem d_L_tells_160 : decode b_L_tells 160 = .ok (.getfield 142, 3) := by decide +kernel
theorem d_L_tells_163 : decode b_L_tells 163 = .ok (.iload_n 3, 1) := by decide +kernel
theorem d_L_tells_164 : decode b_L_tells 164 = .ok (.invokestatic 124, 3) := by decide +kernel
theorem d_L_tells_167 : decode b_L_tells 167 = .ok (.iconst 4, 1) := by decide +kernel
theorem d_L_tells_168 : decode b_L_tells 168 = .ok (.imul, 1) := by decide +kernel
theorem d_L_tells_169 : decode b_L_tells 169 = .ok (.iadd, 1) := by decide +kernel
theorem d_L_tells_170 : decode b_L_tells 170 = .ok (.aload_n 0, 1) := by decide +kernel
theorem d_L_tells_171 : decode b_L_tells 171 = .ok (.getfield 10, 3) := by decide +kernel
theorem d_L_tells_174 : decode b_L_tells 174 = .ok (.getfield 145, 3) := by decide +kernel
theorem d_L_tells_177 : decode b_L_tells 177 = .ok (.iload_n 3, 1) := by decide +kernel
theorem d_L_tells_178 : decode b_L_tells 178 = .ok (.invokestatic 124, 3) := by decide +kernel
theorem d_L_tells_181 : decode b_L_tells 181 = .ok (.iadd, 1) := by decide +kernel
theorem d_L_tells_182 : decode b_L_tells 182 = .ok (.ireturn, 1) := by decide +kernel
theorem d_L_count_0 : decode b_L_count 0 = .ok (.iload_n 1, 1) := by decide +kernel
theorem d_L_count_1 : decode b_L_count 1 = .ok (.tableswitch 135 0 8 #[51, 59, 67, 75, 95, 103, 111, 119, 127], 51) := by decide +kernel
theorem d_L_count_52 : decode b_L_count 52 = .ok (.aload_n 0, 1) := by decide +kernel
theorem d_L_count_53 : decode b_L_count 53 = .ok (.getfield 21, 3) := by decide +kernel
theorem d_L_count_56 : decode b_L_count 56 = .ok (.getfield 98, 3) := by decide +kernel
theorem d_L_count_59 : decode b_L_count 59 = .ok (.ireturn, 1) := by decide +kernel
theorem d_L_count_60 : decode b_L_count 60 = .ok (.aload_n 0, 1) := by decide +kernel
theorem d_L_count_61 : decode b_L_count 61 = .ok (.getfield 21, 3) := by decide +kernel
theorem d_L_count_64 : decode b_L_count 64 = .ok (.getfield 211, 3) := by decide +kernel
theorem d_L_count_67 : decode b_L_count 67 = .ok (.ireturn, 1) := by decide +kernel
theorem d_L_count_68 : decode b_L_count 68 = .ok (.aload_n 0, 1) := by decide +kernel
theorem d_L_count_69 : decode b_L_count 69 = .ok (.getfield 21, 3) := by decide +kernel
theorem d_L_count_72 : decode b_L_count 72 = .ok (.getfield 302, 3) := by decide +kernel
theorem d_L_count_75 : decode b_L_count 75 = .ok (.ireturn, 1) := by decide +kernel
theorem d_L_count_76 : decode b_L_count 76 = .ok (.aload_n 0, 1) := by decide +kernel
theorem d_L_count_77 : decode b_L_count 77 = .ok (.getfield 21, 3) := by decide +kernel
theorem d_L_count_80 : decode b_L_count 80 = .ok (.iconst 0, 1) := by decide +kernel
theorem d_L_count_81 : decode b_L_count 81 = .ok (.iconst 4, 1) := by decide +kernel
theorem d_L_count_82 : decode b_L_count 82 = .ok (.invokevirtual 170, 3) := by decide +kernel
theorem d_L_count_85 : decode b_L_count 85 = .ok (.aload_n 0, 1) := by decide +kernel
theorem d_L_count_86 : decode b_L_count 86 = .ok (.getfield 21, 3) := by decide +kernel
theorem d_L_count_89 : decode b_L_count 89 = .ok (.iconst 1, 1) := by decide +kernel
theorem d_L_count_90 : decode b_L_count 90 = .ok (.iconst 4, 1) := by decide +kernel
theorem d_L_count_91 : decode b_L_count 91 = .ok (.invokevirtual 170, 3) := by decide +kernel
theorem d_L_count_94 : decode b_L_count 94 = .ok (.iadd, 1) := by decide +kernel
theorem d_L_count_95 : decode b_L_count 95 = .ok (.ireturn, 1) := by decide +kernel
theorem d_L_count_96 : decode b_L_count 96 = .ok (.aload_n 0, 1) := by decide +kernel
theorem d_L_count_97 : decode b_L_count 97 = .ok (.getfield 73, 3) := by decide +kernel
theorem d_L_count_100 : decode b_L_count 100 = .ok (.getfield 108, 3) := by decide +kernel
theorem d_L_count_103 : decode b_L_count 103 = .ok (.ireturn, 1) := by decide +kernel
theorem d_L_count_104 : decode b_L_count 104 = .ok (.aload_n 0, 1) := by decide +kernel
theorem d_L_count_105 : decode b_L_count 105 = .ok (.getfield 21, 3) := by decide +kernel
theorem d_L_count_108 : decode b_L_count 108 = .ok (.getfield 305, 3) := by decide +kernel
theorem d_L_count_111 : decode b_L_count 111 = .ok (.ireturn, 1) := by decide +kernel
theorem d_L_count_112 : decode b_L_count 112 = .ok (.aload_n 0, 1) := by decide +kernel
theorem d_L_count_113 : decode b_L_count 113 = .ok (.getfield 21, 3) := by decide +kernel
theorem d_L_count_116 : decode b_L_count 116 = .ok (.getfield 308, 3) := by decide +kernel
theorem d_L_count_119 : decode b_L_count 119 = .ok (.ireturn, 1) := by decide +kernel
theorem d_L_count_120 : decode b_L_count 120 = .ok (.aload_n 0, 1) := by decide +kernel
theorem d_L_count_121 : decode b_L_count 121 = .ok (.getfield 21, 3) := by decide +kernel
theorem d_L_count_124 : decode b_L_count 124 = .ok (.getfield 249, 3) := by decide +kernel
theorem d_L_count_127 : decode b_L_count 127 = .ok (.ireturn, 1) := by decide +kernel
theorem d_L_count_128 : decode b_L_count 128 = .ok (.aload_n 0, 1) := by decide +kernel
theorem d_L_count_129 : decode b_L_count 129 = .ok (.getfield 21, 3) := by decide +kernel
theorem d_L_count_132 : decode b_L_count 132 = .ok (.invokevirtual 311, 3) := by decide +kernel
theorem d_L_count_135 : decode b_L_count 135 = .ok (.ireturn, 1) := by decide +kernel
theorem d_L_count_136 : decode b_L_count 136 = .ok (.iconst (-1), 1) := by decide +kernel
theorem d_L_count_137 : decode b_L_count 137 = .ok (.ireturn, 1) := by decide +kernel
theorem d_L_at_0 : decode b_L_at 0 = .ok (.iload_n 1, 1) := by decide +kernel
theorem d_L_at_1 : decode b_L_at 1 = .ok (.ifCond .lt 15, 3) := by decide +kernel
theorem d_L_at_4 : decode b_L_at 4 = .ok (.iload_n 1, 1) := by decide +kernel
theorem d_L_at_5 : decode b_L_at 5 = .ok (.aload_n 0, 1) := by decide +kernel
theorem d_L_at_6 : decode b_L_at 6 = .ok (.arraylength, 1) := by decide +kernel
theorem d_L_at_7 : decode b_L_at 7 = .ok (.if_icmp .ge 9, 3) := by decide +kernel
theorem d_L_at_10 : decode b_L_at 10 = .ok (.aload_n 0, 1) := by decide +kernel
theorem d_L_at_11 : decode b_L_at 11 = .ok (.iload_n 1, 1) := by decide +kernel
theorem d_L_at_12 : decode b_L_at 12 = .ok (.iaload, 1) := by decide +kernel
theorem d_L_at_13 : decode b_L_at 13 = .ok (.goto 4, 3) := by decide +kernel
theorem d_L_at_16 : decode b_L_at 16 = .ok (.iconst 0, 1) := by decide +kernel
theorem d_L_at_17 : decode b_L_at 17 = .ok (.ireturn, 1) := by decide +kernel
theorem d_L_put_0 : decode b_L_put 0 = .ok (.iload_n 1, 1) := by decide +kernel
theorem d_L_put_1 : decode b_L_put 1 = .ok (.ifCond .lt 13, 3) := by decide +kernel
theorem d_L_put_4 : decode b_L_put 4 = .ok (.iload_n 1, 1) := by decide +kernel
theorem d_L_put_5 : decode b_L_put 5 = .ok (.aload_n 0, 1) := by decide +kernel
theorem d_L_put_6 : decode b_L_put 6 = .ok (.arraylength, 1) := by decide +kernel
theorem d_L_put_7 : decode b_L_put 7 = .ok (.if_icmp .ge 7, 3) := by decide +kernel
theorem d_L_put_10 : decode b_L_put 10 = .ok (.aload_n 0, 1) := by decide +kernel
theorem d_L_put_11 : decode b_L_put 11 = .ok (.iload_n 1, 1) := by decide +kernel
theorem d_L_put_12 : decode b_L_put 12 = .ok (.iload_n 2, 1) := by decide +kernel
theorem d_L_put_13 : decode b_L_put 13 = .ok (.iastore, 1) := by decide +kernel
theorem d_L_put_14 : decode b_L_put 14 = .ok (.return_, 1) := by decide +kernel
theorem d_L_copyRow_0 : decode b_L_copyRow 0 = .ok (.aload_n 0, 1) := by decide +kernel
theorem d_L_copyRow_1 : decode b_L_copyRow 1 = .ok (.iconst 0, 1) := by decide +kernel
theorem d_L_copyRow_2 : decode b_L_copyRow 2 = .ok (.aload_n 1, 1) := by decide +kernel
theorem d_L_copyRow_3 : decode b_L_copyRow 3 = .ok (.iconst 0, 1) := by decide +kernel
theorem d_L_copyRow_4 : decode b_L_copyRow 4 = .ok (.aload_n 0, 1) := by decide +kernel
theorem d_L_copyRow_5 : decode b_L_copyRow 5 = .ok (.arraylength, 1) := by decide +kernel
theorem d_L_copyRow_6 : decode b_L_copyRow 6 = .ok (.aload_n 1, 1) := by decide +kernel
theorem d_L_copyRow_7 : decode b_L_copyRow 7 = .ok (.arraylength, 1) := by decide +kernel
theorem d_L_copyRow_8 : decode b_L_copyRow 8 = .ok (.invokestatic 314, 3) := by decide +kernel
theorem d_L_copyRow_11 : decode b_L_copyRow 11 = .ok (.invokestatic 319, 3) := by decide +kernel
theorem d_L_copyRow_14 : decode b_L_copyRow 14 = .ok (.return_, 1) := by decide +kernel
theorem d_L_within_0 : decode b_L_within 0 = .ok (.iload_n 0, 1) := by decide +kernel
theorem d_L_within_1 : decode b_L_within 1 = .ok (.iload_n 1, 1) := by decide +kernel
theorem d_L_within_2 : decode b_L_within 2 = .ok (.if_icmp .ge 5, 3) := by decide +kernel
theorem d_L_within_5 : decode b_L_within 5 = .ok (.iload_n 1, 1) := by decide +kernel
theorem d_L_within_6 : decode b_L_within 6 = .ok (.ireturn, 1) := by decide +kernel
theorem d_L_within_7 : decode b_L_within 7 = .ok (.iload_n 0, 1) := by decide +kernel
theorem d_L_within_8 : decode b_L_within 8 = .ok (.iload_n 2, 1) := by decide +kernel
theorem d_L_within_9 : decode b_L_within 9 = .ok (.if_icmp .le 7, 3) := by decide +kernel
theorem d_L_within_12 : decode b_L_within 12 = .ok (.iload_n 2, 1) := by decide +kernel
theorem d_L_within_13 : decode b_L_within 13 = .ok (.goto 4, 3) := by decide +kernel
theorem d_L_within_16 : decode b_L_within 16 = .ok (.iload_n 0, 1) := by decide +kernel
theorem d_L_within_17 : decode b_L_within 17 = .ok (.ireturn, 1) := by decide +kernel
theorem d_L_isPlayer_0 : decode b_L_isPlayer 0 = .ok (.iload_n 0, 1) := by decide +kernel
theorem d_L_isPlayer_1 : decode b_L_isPlayer 1 = .ok (.ifCond .eq 8, 3) := by decide +kernel
theorem d_L_isPlayer_4 : decode b_L_isPlayer 4 = .ok (.iload_n 0, 1) := by decide +kernel
theorem d_L_isPlayer_5 : decode b_L_isPlayer 5 = .ok (.iconst 1, 1) := by decide +kernel
theorem d_L_isPlayer_6 : decode b_L_isPlayer 6 = .ok (.if_icmp .ne 7, 3) := by decide +kernel
theorem d_L_isPlayer_9 : decode b_L_isPlayer 9 = .ok (.iconst 1, 1) := by decide +kernel
theorem d_L_isPlayer_10 : decode b_L_isPlayer 10 = .ok (.goto 4, 3) := by decide +kernel
theorem d_L_isPlayer_13 : decode b_L_isPlayer 13 = .ok (.iconst 0, 1) := by decide +kernel
theorem d_L_isPlayer_14 : decode b_L_isPlayer 14 = .ok (.ireturn, 1) := by decide +kernel
theorem d_L_isPair_0 : decode b_L_isPair 0 = .ok (.iload_n 0, 1) := by decide +kernel
theorem d_L_isPair_1 : decode b_L_isPair 1 = .ok (.ifCond .lt 23, 3) := by decide +kernel
theorem d_L_isPair_4 : decode b_L_isPair 4 = .ok (.iload_n 0, 1) := by decide +kernel
theorem d_L_isPair_5 : decode b_L_isPair 5 = .ok (.bipush 10, 2) := by decide +kernel
theorem d_L_isPair_7 : decode b_L_isPair 7 = .ok (.idiv, 1) := by decide +kernel
theorem d_L_isPair_8 : decode b_L_isPair 8 = .ok (.iconst 3, 1) := by decide +kernel
theorem d_L_isPair_9 : decode b_L_isPair 9 = .ok (.if_icmp .gt 15, 3) := by decide +kernel
theorem d_L_isPair_12 : decode b_L_isPair 12 = .ok (.iload_n 0, 1) := by decide +kernel
theorem d_L_isPair_13 : decode b_L_isPair 13 = .ok (.bipush 10, 2) := by decide +kernel
theorem d_L_isPair_15 : decode b_L_isPair 15 = .ok (.irem, 1) := by decide +kernel
theorem d_L_isPair_16 : decode b_L_isPair 16 = .ok (.iconst 3, 1) := by decide +kernel
theorem d_L_isPair_17 : decode b_L_isPair 17 = .ok (.if_icmp .gt 7, 3) := by decide +kernel
theorem d_L_isPair_20 : decode b_L_isPair 20 = .ok (.iconst 1, 1) := by decide +kernel
theorem d_L_isPair_21 : decode b_L_isPair 21 = .ok (.goto 4, 3) := by decide +kernel
theorem d_L_isPair_24 : decode b_L_isPair 24 = .ok (.iconst 0, 1) := by decide +kernel
theorem d_L_isPair_25 : decode b_L_isPair 25 = .ok (.ireturn, 1) := by decide +kernel
theorem d_L_familyOf_0 : decode b_L_familyOf 0 = .ok (.iload_n 0, 1) := by decide +kernel
theorem d_L_familyOf_1 : decode b_L_familyOf 1 = .ok (.iconst 4, 1) := by decide +kernel
theorem d_L_familyOf_2 : decode b_L_familyOf 2 = .ok (.if_icmp .gt 5, 3) := by decide +kernel
theorem d_L_familyOf_5 : decode b_L_familyOf 5 = .ok (.iconst 1, 1) := by decide +kernel
theorem d_L_familyOf_6 : decode b_L_familyOf 6 = .ok (.ireturn, 1) := by decide +kernel
theorem d_L_familyOf_7 : decode b_L_familyOf 7 = .ok (.iload_n 0, 1) := by decide +kernel
theorem d_L_familyOf_8 : decode b_L_familyOf 8 = .ok (.bipush 8, 2) := by decide +kernel
theorem d_L_familyOf_10 : decode b_L_familyOf 10 = .ok (.if_icmp .gt 5, 3) := by decide +kernel
theorem d_L_familyOf_13 : decode b_L_familyOf 13 = .ok (.iconst 2, 1) := by decide +kernel
theorem d_L_familyOf_14 : decode b_L_familyOf 14 = .ok (.ireturn, 1) := by decide +kernel
theorem d_L_familyOf_15 : decode b_L_familyOf 15 = .ok (.iload_n 0, 1) := by decide +kernel
theorem d_L_familyOf_16 : decode b_L_familyOf 16 = .ok (.bipush 13, 2) := by decide +kernel
theorem d_L_familyOf_18 : decode b_L_familyOf 18 = .ok (.if_icmp .gt 7, 3) := by decide +kernel
theorem d_L_familyOf_21 : decode b_L_familyOf 21 = .ok (.iconst 3, 1) := by decide +kernel
theorem d_L_familyOf_22 : decode b_L_familyOf 22 = .ok (.goto 4, 3) := by decide +kernel
theorem d_L_familyOf_25 : decode b_L_familyOf 25 = .ok (.iconst 4, 1) := by decide +kernel
theorem d_L_familyOf_26 : decode b_L_familyOf 26 = .ok (.ireturn, 1) := by decide +kernel
theorem d_L_looksAtOther_0 : decode b_L_looksAtOther 0 = .ok (.iload_n 0, 1) := by decide +kernel
theorem d_L_looksAtOther_1 : decode b_L_looksAtOther 1 = .ok (.iconst 3, 1) := by decide +kernel
theorem d_L_looksAtOther_2 : decode b_L_looksAtOther 2 = .ok (.if_icmp .eq 8, 3) := by decide +kernel
theorem d_L_looksAtOther_5 : decode b_L_looksAtOther 5 = .ok (.iload_n 0, 1) := by decide +kernel
theorem d_L_looksAtOther_6 : decode b_L_looksAtOther 6 = .ok (.iconst 4, 1) := by decide +kernel
theorem d_L_looksAtOther_7 : decode b_L_looksAtOther 7 = .ok (.if_icmp .ne 7, 3) := by decide +kernel
theorem d_L_looksAtOther_10 : decode b_L_looksAtOther 10 = .ok (.iconst 1, 1) := by decide +kernel
theorem d_L_looksAtOther_11 : decode b_L_looksAtOther 11 = .ok (.goto 4, 3) := by decide +kernel
theorem d_L_looksAtOther_14 : decode b_L_looksAtOther 14 = .ok (.iconst 0, 1) := by decide +kernel
theorem d_L_looksAtOther_15 : decode b_L_looksAtOther 15 = .ok (.ireturn, 1) := by decide +kernel
theorem d_L_layered_0 : decode b_L_layered 0 = .ok (.iload_n 0, 1) := by decide +kernel
theorem d_L_layered_1 : decode b_L_layered 1 = .ok (.tableswitch 57 0 3 #[31, 42, 53, 55], 31) := by decide +kernel
theorem d_L_layered_32 : decode b_L_layered 32 = .ok (.iload_n 2, 1) := by decide +kernel
theorem d_L_layered_33 : decode b_L_layered 33 = .ok (.iload_n 1, 1) := by decide +kernel
theorem d_L_layered_34 : decode b_L_layered 34 = .ok (.iadd, 1) := by decide +kernel
theorem d_L_layered_35 : decode b_L_layered 35 = .ok (.bipush (-99), 2) := by decide +kernel
theorem d_L_layered_37 : decode b_L_layered 37 = .ok (.bipush 99, 2) := by decide +kernel
theorem d_L_layered_39 : decode b_L_layered 39 = .ok (.invokestatic 325, 3) := by decide +kernel
theorem d_L_layered_42 : decode b_L_layered 42 = .ok (.ireturn, 1) := by decide +kernel
theorem d_L_layered_43 : decode b_L_layered 43 = .ok (.iload_n 2, 1) := by decide +kernel
theorem d_L_layered_44 : decode b_L_layered 44 = .ok (.iload_n 1, 1) := by decide +kernel
theorem d_L_layered_45 : decode b_L_layered 45 = .ok (.imul, 1) := by decide +kernel
theorem d_L_layered_46 : decode b_L_layered 46 = .ok (.bipush (-99), 2) := by decide +kernel
theorem d_L_layered_48 : decode b_L_layered 48 = .ok (.bipush 99, 2) := by decide +kernel
theorem d_L_layered_50 : decode b_L_layered 50 = .ok (.invokestatic 325, 3) := by decide +kernel
theorem d_L_layered_53 : decode b_L_layered 53 = .ok (.ireturn, 1) := by decide +kernel
theorem d_L_layered_54 : decode b_L_layered 54 = .ok (.iload_n 1, 1) := by decide +kernel
theorem d_L_layered_55 : decode b_L_layered 55 = .ok (.ireturn, 1) := by decide +kernel
theorem d_L_layered_56 : decode b_L_layered 56 = .ok (.iload_n 3, 1) := by decide +kernel
theorem d_L_layered_57 : decode b_L_layered 57 = .ok (.ireturn, 1) := by decide +kernel
theorem d_L_layered_58 : decode b_L_layered 58 = .ok (.iload_n 2, 1) := by decide +kernel
theorem d_L_layered_59 : decode b_L_layered 59 = .ok (.iload_n 3, 1) := by decide +kernel
theorem d_L_layered_60 : decode b_L_layered 60 = .ok (.iadd, 1) := by decide +kernel
theorem d_L_layered_61 : decode b_L_layered 61 = .ok (.bipush (-99), 2) := by decide +kernel
theorem d_L_layered_63 : decode b_L_layered 63 = .ok (.bipush 99, 2) := by decide +kernel
theorem d_L_layered_65 : decode b_L_layered 65 = .ok (.invokestatic 325, 3) := by decide +kernel
theorem d_L_layered_68 : decode b_L_layered 68 = .ok (.ireturn, 1) := by decide +kernel
theorem d_L_replacedAmount_0 : decode b_L_replacedAmount 0 = .ok (.iload_n 0, 1) := by decide +kernel
theorem d_L_replacedAmount_1 : decode b_L_replacedAmount 1 = .ok (.iconst 5, 1) := by decide +kernel
theorem d_L_replacedAmount_2 : decode b_L_replacedAmount 2 = .ok (.if_icmp .ne 7, 3) := by decide +kernel
theorem d_L_replacedAmount_5 : decode b_L_replacedAmount 5 = .ok (.iload_n 2, 1) := by decide +kernel
theorem d_L_replacedAmount_6 : decode b_L_replacedAmount 6 = .ok (.iconst 2, 1) := by decide +kernel
theorem d_L_replacedAmount_7 : decode b_L_replacedAmount 7 = .ok (.imul, 1) := by decide +kernel
theorem d_L_replacedAmount_8 : decode b_L_replacedAmount 8 = .ok (.ireturn, 1) := by decide +kernel
theorem d_L_replacedAmount_9 : decode b_L_replacedAmount 9 = .ok (.iload_n 0, 1) := by decide +kernel
theorem d_L_replacedAmount_10 : decode b_L_replacedAmount 10 = .ok (.bipush 7, 2) := by decide +kernel
theorem d_L_replacedAmount_12 : decode b_L_replacedAmount 12 = .ok (.if_icmp .ne 9, 3) := by decide +kernel
theorem d_L_replacedAmount_15 : decode b_L_replacedAmount 15 = .ok (.iload_n 2, 1) := by decide +kernel
theorem d_L_replacedAmount_16 : decode b_L_replacedAmount 16 = .ok (.iload_n 1, 1) := by decide +kernel
theorem d_L_replacedAmount_17 : decode b_L_replacedAmount 17 = .ok (.isub, 1) := by decide +kernel
theorem d_L_replacedAmount_18 : decode b_L_replacedAmount 18 = .ok (.goto 4, 3) := by decide +kernel
theorem d_L_replacedAmount_21 : decode b_L_replacedAmount 21 = .ok (.iload_n 2, 1) := by decide +kernel
theorem d_L_replacedAmount_22 : decode b_L_replacedAmount 22 = .ok (.ireturn, 1) := by decide +kernel
theorem d_L_codeOf_0 : decode b_L_codeOf 0 = .ok (.sipush 1000, 3) := by decide +kernel
theorem d_L_codeOf_3 : decode b_L_codeOf 3 = .ok (.iload_n 0, 1) := by decide +kernel
theorem d_L_codeOf_4 : decode b_L_codeOf 4 = .ok (.imul, 1) := by decide +kernel
theorem d_L_codeOf_5 : decode b_L_codeOf 5 = .ok (.bipush 100, 2) := by decide +kernel
theorem d_L_codeOf_7 : decode b_L_codeOf 7 = .ok (.iload_n 1, 1) := by decide +kernel
theorem d_L_codeOf_8 : decode b_L_codeOf 8 = .ok (.imul, 1) := by decide +kernel
theorem d_L_codeOf_9 : decode b_L_codeOf 9 = .ok (.iadd, 1) := by decide +kernel
theorem d_L_codeOf_10 : decode b_L_codeOf 10 = .ok (.iload_n 2, 1) := by decide +kernel
theorem d_L_codeOf_11 : decode b_L_codeOf 11 = .ok (.iadd, 1) := by decide +kernel
theorem d_L_codeOf_12 : decode b_L_codeOf 12 = .ok (.ireturn, 1) := by decide +kernel
theorem d_L_seedAfter_0 : decode b_L_seedAfter 0 = .ok (.iload_n 0, 1) := by decide +kernel
theorem d_L_seedAfter_1 : decode b_L_seedAfter 1 = .ok (.ldc_w 328, 3) := by decide +kernel
theorem d_L_seedAfter_4 : decode b_L_seedAfter 4 = .ok (.imul, 1) := by decide +kernel
theorem d_L_seedAfter_5 : decode b_L_seedAfter 5 = .ok (.sipush 12345, 3) := by decide +kernel
theorem d_L_seedAfter_8 : decode b_L_seedAfter 8 = .ok (.iadd, 1) := by decide +kernel
theorem d_L_seedAfter_9 : decode b_L_seedAfter 9 = .ok (.ireturn, 1) := by decide +kernel
theorem d_L_drawnBelow_0 : decode b_L_drawnBelow 0 = .ok (.iload_n 0, 1) := by decide +kernel
theorem d_L_drawnBelow_1 : decode b_L_drawnBelow 1 = .ok (.ifCond .le 12, 3) := by decide +kernel
theorem d_L_drawnBelow_4 : decode b_L_drawnBelow 4 = .ok (.iload_n 1, 1) := by decide +kernel
theorem d_L_drawnBelow_5 : decode b_L_drawnBelow 5 = .ok (.bipush 16, 2) := by decide +kernel
theorem d_L_drawnBelow_7 : decode b_L_drawnBelow 7 = .ok (.iushr, 1) := by decide +kernel
theorem d_L_drawnBelow_8 : decode b_L_drawnBelow 8 = .ok (.iload_n 0, 1) := by decide +kernel
theorem d_L_drawnBelow_9 : decode b_L_drawnBelow 9 = .ok (.irem, 1) := by decide +kernel
theorem d_L_drawnBelow_10 : decode b_L_drawnBelow 10 = .ok (.goto 4, 3) := by decide +kernel
theorem d_L_drawnBelow_13 : decode b_L_drawnBelow 13 = .ok (.iconst 0, 1) := by decide +kernel
theorem d_L_drawnBelow_14 : decode b_L_drawnBelow 14 = .ok (.ireturn, 1) := by decide +kernel
theorem d_M_init_0 : decode b_M_init 0 = .ok (.aload_n 0, 1) := by decide +kernel
theorem d_M_init_1 : decode b_M_init 1 = .ok (.invokespecial 3, 3) := by decide +kernel
theorem d_M_init_4 : decode b_M_init 4 = .ok (.aload_n 0, 1) := by decide +kernel
theorem d_M_init_5 : decode b_M_init 5 = .ok (.bipush 24, 2) := by decide +kernel
theorem d_M_init_7 : decode b_M_init 7 = .ok (.newarray .int, 2) := by decide +kernel
theorem d_M_init_9 : decode b_M_init 9 = .ok (.putfield 9, 3) := by decide +kernel
theorem d_M_init_12 : decode b_M_init 12 = .ok (.aload_n 0, 1) := by decide +kernel
theorem d_M_init_13 : decode b_M_init 13 = .ok (.bipush 24, 2) := by decide +kernel
theorem d_M_init_15 : decode b_M_init 15 = .ok (.newarray .int, 2) := by decide +kernel
theorem d_M_init_17 : decode b_M_init 17 = .ok (.putfield 13, 3) := by decide +kernel
theorem d_M_init_20 : decode b_M_init 20 = .ok (.aload_n 0, 1) := by decide +kernel
theorem d_M_init_21 : decode b_M_init 21 = .ok (.bipush 24, 2) := by decide +kernel
theorem d_M_init_23 : decode b_M_init 23 = .ok (.newarray .int, 2) := by decide +kernel
theorem d_M_init_25 : decode b_M_init 25 = .ok (.putfield 16, 3) := by decide +kernel
theorem d_M_init_28 : decode b_M_init 28 = .ok (.aload_n 0, 1) := by decide +kernel
theorem d_M_init_29 : decode b_M_init 29 = .ok (.bipush 24, 2) := by decide +kernel
theorem d_M_init_31 : decode b_M_init 31 = .ok (.newarray .int, 2) := by decide +kernel
theorem d_M_init_33 : decode b_M_init 33 = .ok (.putfield 19, 3) := by decide +kernel
theorem d_M_init_36 : decode b_M_init 36 = .ok (.aload_n 0, 1) := by decide +kernel
theorem d_M_init_37 : decode b_M_init 37 = .ok (.bipush 24, 2) := by decide +kernel
theorem d_M_init_39 : decode b_M_init 39 = .ok (.newarray .int, 2) := by decide +kernel
theorem d_M_init_41 : decode b_M_init 41 = .ok (.putfield 22, 3) := by decide +kernel
theorem d_M_init_44 : decode b_M_init 44 = .ok (.aload_n 0, 1) := by decide +kernel
theorem d_M_init_45 : decode b_M_init 45 = .ok (.bipush 123, 2) := by decide +kernel
theorem d_M_init_47 : decode b_M_init 47 = .ok (.newarray .int, 2) := by decide +kernel
theorem d_M_init_49 : decode b_M_init 49 = .ok (.putfield 25, 3) := by decide +kernel
theorem d_M_init_52 : decode b_M_init 52 = .ok (.aload_n 0, 1) := by decide +kernel
theorem d_M_init_53 : decode b_M_init 53 = .ok (.bipush 6, 2) := by decide +kernel
theorem d_M_init_55 : decode b_M_init 55 = .ok (.bipush 123, 2) := by decide +kernel
theorem d_M_init_57 : decode b_M_init 57 = .ok (.multianewarray 28 2, 4) := by decide +kernel
theorem d_M_init_61 : decode b_M_init 61 = .ok (.putfield 30, 3) := by decide +kernel
theorem d_M_init_64 : decode b_M_init 64 = .ok (.aload_n 0, 1) := by decide +kernel
theorem d_M_init_65 : decode b_M_init 65 = .ok (.bipush 123, 2) := by decide +kernel
theorem d_M_init_67 : decode b_M_init 67 = .ok (.newarray .int, 2) := by decide +kernel
theorem d_M_init_69 : decode b_M_init 69 = .ok (.putfield 33, 3) := by decide +kernel
theorem d_M_init_72 : decode b_M_init 72 = .ok (.aload_n 0, 1) := by decide +kernel
theorem d_M_init_73 : decode b_M_init 73 = .ok (.iconst (-1), 1) := by decide +kernel
theorem d_M_init_74 : decode b_M_init 74 = .ok (.putfield 36, 3) := by decide +kernel
theorem d_M_init_77 : decode b_M_init 77 = .ok (.aload_n 0, 1) := by decide +kernel
theorem d_M_init_78 : decode b_M_init 78 = .ok (.sipush 201, 3) := by decide +kernel
theorem d_M_init_81 : decode b_M_init 81 = .ok (.bipush 116, 2) := by decide +kernel
theorem d_M_init_83 : decode b_M_init 83 = .ok (.multianewarray 28 2, 4) := by decide +kernel
theorem d_M_init_87 : decode b_M_init 87 = .ok (.putfield 40, 3) := by decide +kernel
theorem d_M_init_90 : decode b_M_init 90 = .ok (.aload_n 0, 1) := by decide +kernel
theorem d_M_init_91 : decode b_M_init 91 = .ok (.iconst 4, 1) := by decide +kernel
theorem d_M_init_92 : decode b_M_init 92 = .ok (.newarray .int, 2) := by decide +kernel
theorem d_M_init_94 : decode b_M_init 94 = .ok (.putfield 43, 3) := by decide +kernel
theorem d_M_init_97 : decode b_M_init 97 = .ok (.aload_n 0, 1) := by decide +kernel
theorem d_M_init_98 : decode b_M_init 98 = .ok (.bipush 24, 2) := by decide +kernel
theorem d_M_init_100 : decode b_M_init 100 = .ok (.newarray .int, 2) := by decide +kernel
theorem d_M_init_102 : decode b_M_init 102 = .ok (.putfield 46, 3) := by decide +kernel
theorem d_M_init_105 : decode b_M_init 105 = .ok (.aload_n 0, 1) := by decide +kernel
theorem d_M_init_106 : decode b_M_init 106 = .ok (.bipush 24, 2) := by decide +kernel
theorem d_M_init_108 : decode b_M_init 108 = .ok (.newarray .int, 2) := by decide +kernel
theorem d_M_init_110 : decode b_M_init 110 = .ok (.putfield 49, 3) := by decide +kernel
theorem d_M_init_113 : decode b_M_init 113 = .ok (.aload_n 0, 1) := by decide +kernel
theorem d_M_init_114 : decode b_M_init 114 = .ok (.bipush 120, 2) := by decide +kernel
theorem d_M_init_116 : decode b_M_init 116 = .ok (.newarray .int, 2) := by decide +kernel
theorem d_M_init_118 : decode b_M_init 118 = .ok (.putfield 52, 3) := by decide +kernel
theorem d_M_init_121 : decode b_M_init 121 = .ok (.aload_n 0, 1) := by decide +kernel
theorem d_M_init_122 : decode b_M_init 122 = .ok (.bipush 8, 2) := by decide +kernel
theorem d_M_init_124 : decode b_M_init 124 = .ok (.newarray .int, 2) := by decide +kernel
theorem d_M_init_126 : decode b_M_init 126 = .ok (.putfield 55, 3) := by decide +kernel
theorem d_M_init_129 : decode b_M_init 129 = .ok (.aload_n 0, 1) := by decide +kernel
theorem d_M_init_130 : decode b_M_init 130 = .ok (.bipush (-2), 2) := by decide +kernel
theorem d_M_init_132 : decode b_M_init 132 = .ok (.putfield 58, 3) := by decide +kernel
theorem d_M_init_135 : decode b_M_init 135 = .ok (.aload_n 0, 1) := by decide +kernel
theorem d_M_init_136 : decode b_M_init 136 = .ok (.bipush (-2), 2) := by decide +kernel
theorem d_M_init_138 : decode b_M_init 138 = .ok (.putfield 61, 3) := by decide +kernel
theorem d_M_init_141 : decode b_M_init 141 = .ok (.aload_n 0, 1) := by decide +kernel
theorem d_M_init_142 : decode b_M_init 142 = .ok (.bipush 40, 2) := by decide +kernel
theorem d_M_init_144 : decode b_M_init 144 = .ok (.newarray .int, 2) := by decide +kernel
theorem d_M_init_146 : decode b_M_init 146 = .ok (.putfield 64, 3) := by decide +kernel
theorem d_M_init_149 : decode b_M_init 149 = .ok (.aload_n 0, 1) := by decide +kernel
theorem d_M_init_150 : decode b_M_init 150 = .ok (.bipush 40, 2) := by decide +kernel
theorem d_M_init_152 : decode b_M_init 152 = .ok (.newarray .int, 2) := by decide +kernel
theorem d_M_init_154 : decode b_M_init 154 = .ok (.putfield 67, 3) := by decide +kernel
theorem d_M_init_157 : decode b_M_init 157 = .ok (.aload_n 0, 1) := by decide +kernel
theorem d_M_init_158 : decode b_M_init 158 = .ok (.getfield 25, 3) := by decide +kernel
theorem d_M_init_161 : decode b_M_init 161 = .ok (.iconst 0, 1) := by decide +kernel
theorem d_M_init_162 : decode b_M_init 162 = .ok (.bipush 20, 2) := by decide +kernel
theorem d_M_init_164 : decode b_M_init 164 = .ok (.iastore, 1) := by decide +kernel
theorem d_M_init_165 : decode b_M_init 165 = .ok (.aload_n 0, 1) := by decide +kernel
theorem d_M_init_166 : decode b_M_init 166 = .ok (.getfield 25, 3) := by decide +kernel
theorem d_M_init_169 : decode b_M_init 169 = .ok (.iconst 1, 1) := by decide +kernel
theorem d_M_init_170 : decode b_M_init 170 = .ok (.bipush 20, 2) := by decide +kernel
theorem d_M_init_172 : decode b_M_init 172 = .ok (.iastore, 1) := by decide +kernel
theorem d_M_init_173 : decode b_M_init 173 = .ok (.aload_n 0, 1) := by decide +kernel
theorem d_M_init_174 : decode b_M_init 174 = .ok (.getfield 25, 3) := by decide +kernel
theorem d_M_init_177 : decode b_M_init 177 = .ok (.iconst 3, 1) := by decide +kernel
theorem d_M_init_178 : decode b_M_init 178 = .ok (.iconst 1, 1) := by decide +kernel
theorem d_M_init_179 : decode b_M_init 179 = .ok (.iastore, 1) := by decide +kernel
theorem d_M_init_180 : decode b_M_init 180 = .ok (.aload_n 0, 1) := by decide +kernel
theorem d_M_init_181 : decode b_M_init 181 = .ok (.getfield 25, 3) := by decide +kernel
theorem d_M_init_184 : decode b_M_init 184 = .ok (.bipush 119, 2) := by decide +kernel
theorem d_M_init_186 : decode b_M_init 186 = .ok (.iconst 1, 1) := by decide +kernel
theorem d_M_init_187 : decode b_M_init 187 = .ok (.iastore, 1) := by decide +kernel
theorem d_M_init_188 : decode b_M_init 188 = .ok (.aload_n 0, 1) := by decide +kernel
theorem d_M_init_189 : decode b_M_init 189 = .ok (.getfield 25, 3) := by decide +kernel
theorem d_M_init_192 : decode b_M_init 192 = .ok (.bipush 120, 2) := by decide +kernel
theorem d_M_init_194 : decode b_M_init 194 = .ok (.iconst 2, 1) := by decide +kernel
theorem d_M_init_195 : decode b_M_init 195 = .ok (.iastore, 1) := by decide +kernel
theorem d_M_init_196 : decode b_M_init 196 = .ok (.aload_n 0, 1) := by decide +kernel
theorem d_M_init_197 : decode b_M_init 197 = .ok (.getfield 25, 3) := by decide +kernel
theorem d_M_init_200 : decode b_M_init 200 = .ok (.bipush 121, 2) := by decide +kernel
theorem d_M_init_202 : decode b_M_init 202 = .ok (.iconst 1, 1) := by decide +kernel
theorem d_M_init_203 : decode b_M_init 203 = .ok (.iastore, 1) := by decide +kernel
theorem d_M_init_204 : decode b_M_init 204 = .ok (.aload_n 0, 1) := by decide +kernel
theorem d_M_init_205 : decode b_M_init 205 = .ok (.getfield 25, 3) := by decide +kernel
theorem d_M_init_208 : decode b_M_init 208 = .ok (.bipush 122, 2) := by decide +kernel
theorem d_M_init_210 : decode b_M_init 210 = .ok (.bipush 7, 2) := by decide +kernel
theorem d_M_init_212 : decode b_M_init 212 = .ok (.iastore, 1) := by decide +kernel
theorem d_M_init_213 : decode b_M_init 213 = .ok (.iconst 0, 1) := by decide +kernel
theorem d_M_init_214 : decode b_M_init 214 = .ok (.istore_n 1, 1) := by decide +kernel
theorem d_M_init_215 : decode b_M_init 215 = .ok (.iload_n 1, 1) := by decide +kernel
theorem d_M_init_216 : decode b_M_init 216 = .ok (.bipush 8, 2) := by decide +kernel
theorem d_M_init_218 : decode b_M_init 218 = .ok (.if_icmp .ge 16, 3) := by decide +kernel
theorem d_M_init_221 : decode b_M_init 221 = .ok (.aload_n 0, 1) := by decide +kernel
theorem d_M_init_222 : decode b_M_init 222 = .ok (.getfield 55, 3) := by decide +kernel
theorem d_M_init_225 : decode b_M_init 225 = .ok (.iload_n 1, 1) := by decide +kernel
theorem d_M_init_226 : decode b_M_init 226 = .ok (.iconst (-1), 1) := by decide +kernel
theorem d_M_init_227 : decode b_M_init 227 = .ok (.iastore, 1) := by decide +kernel
theorem d_M_init_228 : decode b_M_init 228 = .ok (.iinc 1 1, 3) := by decide +kernel
theorem d_M_init_231 : decode b_M_init 231 = .ok (.goto (-16), 3) := by decide +kernel
theorem d_M_init_234 : decode b_M_init 234 = .ok (.return_, 1) := by decide +kernel
theorem d_M_in_0 : decode b_M_in 0 = .ok (.iload_n 0, 1) := by decide +kernel
theorem d_M_in_1 : decode b_M_in 1 = .ok (.iload_n 1, 1) := by decide +kernel
theorem d_M_in_2 : decode b_M_in 2 = .ok (.if_icmp .lt 12, 3) := by decide +kernel
theorem d_M_in_5 : decode b_M_in 5 = .ok (.iload_n 0, 1) := by decide +kernel
theorem d_M_in_6 : decode b_M_in 6 = .ok (.iload_n 2, 1) := by decide +kernel
theorem d_M_in_7 : decode b_M_in 7 = .ok (.if_icmp .gt 7, 3) := by decide +kernel
theorem d_M_in_10 : decode b_M_in 10 = .ok (.iconst 1, 1) := by decide +kernel
theorem d_M_in_11 : decode b_M_in 11 = .ok (.goto 4, 3) := by decide +kernel
theorem d_M_in_14 : decode b_M_in 14 = .ok (.iconst 0, 1) := by decide +kernel
theorem d_M_in_15 : decode b_M_in 15 = .ok (.ireturn, 1) := by decide +kernel
theorem d_M_held_0 : decode b_M_held 0 = .ok (.iload_n 0, 1) := by decide +kernel
theorem d_M_held_1 : decode b_M_held 1 = .ok (.iload_n 1, 1) := by decide +kernel
theorem d_M_held_2 : decode b_M_held 2 = .ok (.if_icmp .ge 7, 3) := by decide +kernel
theorem d_M_held_5 : decode b_M_held 5 = .ok (.iload_n 1, 1) := by decide +kernel
theorem d_M_held_6 : decode b_M_held 6 = .ok (.goto 13, 3) := by decide +kernel
theorem d_M_held_9 : decode b_M_held 9 = .ok (.iload_n 0, 1) := by decide +kernel
theorem d_M_held_10 : decode b_M_held 10 = .ok (.iload_n 2, 1) := by decide +kernel
theorem d_M_held_11 : decode b_M_held 11 = .ok (.if_icmp .le 7, 3) := by decide +kernel
theorem d_M_held_14 : decode b_M_held 14 = .ok (.iload_n 2, 1) := by decide +kernel
theorem d_M_held_15 : decode b_M_held 15 = .ok (.goto 4, 3) := by decide +kernel
theorem d_M_held_18 : decode b_M_held 18 = .ok (.iload_n 0, 1) := by decide +kernel
theorem d_M_held_19 : decode b_M_held 19 = .ok (.ireturn, 1) := by decide +kernel
theorem d_M_isCard_0 : decode b_M_isCard 0 = .ok (.iload_n 1, 1) := by decide +kernel
theorem d_M_isCard_1 : decode b_M_isCard 1 = .ok (.iconst 0, 1) := by decide +kernel
theorem d_M_isCard_2 : decode b_M_isCard 2 = .ok (.aload_n 0, 1) := by decide +kernel
theorem d_M_isCard_3 : decode b_M_isCard 3 = .ok (.getfield 70, 3) := by decide +kernel
theorem d_M_isCard_6 : decode b_M_isCard 6 = .ok (.iconst 1, 1) := by decide +kernel
theorem d_M_isCard_7 : decode b_M_isCard 7 = .ok (.isub, 1) := by decide +kernel
theorem d_M_isCard_8 : decode b_M_isCard 8 = .ok (.invokestatic 73, 3) := by decide +kernel
theorem d_M_isCard_11 : decode b_M_isCard 11 = .ok (.ireturn, 1) := by decide +kernel
theorem d_M_isAt_0 : decode b_M_isAt 0 = .ok (.aload_n 0, 1) := by decide +kernel
theorem d_M_isAt_1 : decode b_M_isAt 1 = .ok (.getfield 25, 3) := by decide +kernel
theorem d_M_isAt_4 : decode b_M_isAt 4 = .ok (.bipush 71, 2) := by decide +kernel
theorem d_M_isAt_6 : decode b_M_isAt 6 = .ok (.iload_n 1, 1) := by decide +kernel
theorem d_M_isAt_7 : decode b_M_isAt 7 = .ok (.iadd, 1) := by decide +kernel
theorem d_M_isAt_8 : decode b_M_isAt 8 = .ok (.iaload, 1) := by decide +kernel
theorem d_M_isAt_9 : decode b_M_isAt 9 = .ok (.iload_n 2, 1) := by decide +kernel
theorem d_M_isAt_10 : decode b_M_isAt 10 = .ok (.if_icmp .ne 7, 3) := by decide +kernel
theorem d_M_isAt_13 : decode b_M_isAt 13 = .ok (.iconst 1, 1) := by decide +kernel
theorem d_M_isAt_14 : decode b_M_isAt 14 = .ok (.goto 4, 3) := by decide +kernel
theorem d_M_isAt_17 : decode b_M_isAt 17 = .ok (.iconst 0, 1) := by decide +kernel
theorem d_M_isAt_18 : decode b_M_isAt 18 = .ok (.ireturn, 1) := by decide +kernel
theorem d_M_copy_0 : decode b_M_copy 0 = .ok (.iconst 0, 1) := by decide +kernel
theorem d_M_copy_1 : decode b_M_copy 1 = .ok (.istore_n 2, 1) := by decide +kernel
theorem d_M_copy_2 : decode b_M_copy 2 = .ok (.iload_n 2, 1) := by decide +kernel
theorem d_M_copy_3 : decode b_M_copy 3 = .ok (.bipush 123, 2) := by decide +kernel
theorem d_M_copy_5 : decode b_M_copy 5 = .ok (.if_icmp .ge 15, 3) := by decide +kernel
theorem d_M_copy_8 : decode b_M_copy 8 = .ok (.aload_n 1, 1) := by decide +kernel
theorem d_M_copy_9 : decode b_M_copy 9 = .ok (.iload_n 2, 1) := by decide +kernel
theorem d_M_copy_10 : decode b_M_copy 10 = .ok (.aload_n 0, 1) := by decide +kernel
theorem d_M_copy_11 : decode b_M_copy 11 = .ok (.iload_n 2, 1) := by decide +kernel
theorem d_M_copy_12 : decode b_M_copy 12 = .ok (.iaload, 1) := by decide +kernel
theorem d_M_copy_13 : decode b_M_copy 13 = .ok (.iastore, 1) := by decide +kernel
theorem d_M_copy_14 : decode b_M_copy 14 = .ok (.iinc 2 1, 3) := by decide +kernel
theorem d_M_copy_17 : decode b_M_copy 17 = .ok (.goto (-15), 3) := by decide +kernel
theorem d_M_copy_20 : decode b_M_copy 20 = .ok (.return_, 1) := by decide +kernel
theorem d_M_add_0 : decode b_M_add 0 = .ok (.aload_n 0, 1) := by decide +kernel
theorem d_M_add_1 : decode b_M_add 1 = .ok (.getfield 9, 3) := by decide +kernel
theorem d_M_add_4 : decode b_M_add 4 = .ok (.aload_n 0, 1) := by decide +kernel
theorem d_M_add_5 : decode b_M_add 5 = .ok (.getfield 70, 3) := by decide +kernel
theorem d_M_add_8 : decode b_M_add 8 = .ok (.iload_n 1, 1) := by decide +kernel
theorem d_M_add_9 : decode b_M_add 9 = .ok (.iastore, 1) := by decide +kernel
theorem d_M_add_10 : decode b_M_add 10 = .ok (.aload_n 0, 1) := by decide +kernel
theorem d_M_add_11 : decode b_M_add 11 = .ok (.getfield 13, 3) := by decide +kernel
theorem d_M_add_14 : decode b_M_add 14 = .ok (.aload_n 0, 1) := by decide +kernel
theorem d_M_add_15 : decode b_M_add 15 = .ok (.getfield 70, 3) := by decide +kernel
theorem d_M_add_18 : decode b_M_add 18 = .ok (.iload_n 2, 1) := by decide +kernel
theorem d_M_add_19 : decode b_M_add 19 = .ok (.iastore, 1) := by decide +kernel
theorem d_M_add_20 : decode b_M_add 20 = .ok (.aload_n 0, 1) := by decide +kernel
theorem d_M_add_21 : decode b_M_add 21 = .ok (.getfield 16, 3) := by decide +kernel
theorem d_M_add_24 : decode b_M_add 24 = .ok (.aload_n 0, 1) := by decide +kernel
theorem d_M_add_25 : decode b_M_add 25 = .ok (.getfield 70, 3) := by decide +kernel
theorem d_M_add_28 : decode b_M_add 28 = .ok (.iload_n 3, 1) := by decide +kernel
theorem d_M_add_29 : decode b_M_add 29 = .ok (.iastore, 1) := by decide +kernel
theorem d_M_add_30 : decode b_M_add 30 = .ok (.aload_n 0, 1) := by decide +kernel
theorem d_M_add_31 : decode b_M_add 31 = .ok (.getfield 19, 3) := by decide +kernel
theorem d_M_add_34 : decode b_M_add 34 = .ok (.aload_n 0, 1) := by decide +kernel
theorem d_M_add_35 : decode b_M_add 35 = .ok (.getfield 70, 3) := by decide +kernel
theorem d_M_add_38 : decode b_M_add 38 = .ok (.iload 4, 2) := by decide +kernel
theorem d_M_add_40 : decode b_M_add 40 = .ok (.iastore, 1) := by decide +kernel
theorem d_M_add_41 : decode b_M_add 41 = .ok (.aload_n 0, 1) := by decide +kernel
theorem d_M_add_42 : decode b_M_add 42 = .ok (.getfield 22, 3) := by decide +kernel
theorem d_M_add_45 : decode b_M_add 45 = .ok (.aload_n 0, 1) := by decide +kernel
theorem d_M_add_46 : decode b_M_add 46 = .ok (.getfield 70, 3) := by decide +kernel
theorem d_M_add_49 : decode b_M_add 49 = .ok (.iload 5, 2) := by decide +kernel
theorem d_M_add_51 : decode b_M_add 51 = .ok (.iastore, 1) := by decide +kernel
theorem d_M_add_52 : decode b_M_add 52 = .ok (.aload_n 0, 1) := by decide +kernel
theorem d_M_add_53 : decode b_M_add 53 = .ok (.getfield 25, 3) := by decide +kernel
theorem d_M_add_56 : decode b_M_add 56 = .ok (.bipush 71, 2) := by decide +kernel
theorem d_M_add_58 : decode b_M_add 58 = .ok (.aload_n 0, 1) := by decide +kernel
theorem d_M_add_59 : decode b_M_add 59 = .ok (.getfield 70, 3) := by decide +kernel
theorem d_M_add_62 : decode b_M_add 62 = .ok (.iadd, 1) := by decide +kernel
theorem d_M_add_63 : decode b_M_add 63 = .ok (.iconst 0, 1) := by decide +kernel
theorem d_M_add_64 : decode b_M_add 64 = .ok (.iastore, 1) := by decide +kernel
theorem d_M_add_65 : decode b_M_add 65 = .ok (.aload_n 0, 1) := by decide +kernel
theorem d_M_add_66 : decode b_M_add 66 = .ok (.getfield 25, 3) := by decide +kernel
theorem d_M_add_69 : decode b_M_add 69 = .ok (.bipush 95, 2) := by decide +kernel
theorem d_M_add_71 : decode b_M_add 71 = .ok (.aload_n 0, 1) := by decide +kernel
theorem d_M_add_72 : decode b_M_add 72 = .ok (.getfield 70, 3) := by decide +kernel
theorem d_M_add_75 : decode b_M_add 75 = .ok (.iadd, 1) := by decide +kernel
theorem d_M_add_76 : decode b_M_add 76 = .ok (.iconst 0, 1) := by decide +kernel
theorem d_M_add_77 : decode b_M_add 77 = .ok (.iastore, 1) := by decide +kernel
theorem d_M_add_78 : decode b_M_add 78 = .ok (.aload_n 0, 1) := by decide +kernel
theorem d_M_add_79 : decode b_M_add 79 = .ok (.dup, 1) := by decide +kernel
theorem d_M_add_80 : decode b_M_add 80 = .ok (.getfield 70, 3) := by decide +kernel
theorem d_M_add_83 : decode b_M_add 83 = .ok (.dup_x1, 1) := by decide +kernel
theorem d_M_add_84 : decode b_M_add 84 = .ok (.iconst 1, 1) := by decide +kernel
theorem d_M_add_85 : decode b_M_add 85 = .ok (.iadd, 1) := by decide +kernel
theorem d_M_add_86 : decode b_M_add 86 = .ok (.putfield 70, 3) := by decide +kernel
theorem d_M_add_89 : decode b_M_add 89 = .ok (.ireturn, 1) := by decide +kernel
theorem d_M_card_0 : decode b_M_card 0 = .ok (.iload_n 1, 1) := by decide +kernel
theorem d_M_card_1 : decode b_M_card 1 = .ok (.iconst 0, 1) := by decide +kernel
theorem d_M_card_2 : decode b_M_card 2 = .ok (.bipush 14, 2) := by decide +kernel
theorem d_M_card_4 : decode b_M_card 4 = .ok (.invokestatic 73, 3) := by decide +kernel
theorem d_M_card_7 : decode b_M_card 7 = .ok (.ifCond .eq 42, 3) := by decide +kernel
theorem d_M_card_10 : decode b_M_card 10 = .ok (.iload_n 2, 1) := by decide +kernel
theorem d_M_card_11 : decode b_M_card 11 = .ok (.iconst 0, 1) := by decide +kernel
theorem d_M_card_12 : decode b_M_card 12 = .ok (.iconst 1, 1) := by decide +kernel
theorem d_M_card_13 : decode b_M_card 13 = .ok (.invokestatic 73, 3) := by decide +kernel
theorem d_M_card_16 : decode b_M_card 16 = .ok (.ifCond .eq 33, 3) := by decide +kernel
theorem d_M_card_19 : decode b_M_card 19 = .ok (.iload_n 3, 1) := by decide +kernel
theorem d_M_card_20 : decode b_M_card 20 = .ok (.iconst 0, 1) := by decide +kernel
theorem d_M_card_21 : decode b_M_card 21 = .ok (.bipush 33, 2) := by decide +kernel
theorem d_M_card_23 : decode b_M_card 23 = .ok (.invokestatic 73, 3) := by decide +kernel
theorem d_M_card_26 : decode b_M_card 26 = .ok (.ifCond .eq 23, 3) := by decide +kernel
theorem d_M_card_29 : decode b_M_card 29 = .ok (.iload_n 3, 1) := by decide +kernel
theorem d_M_card_30 : decode b_M_card 30 = .ok (.bipush 10, 2) := by decide +kernel
theorem d_M_card_32 : decode b_M_card 32 = .ok (.irem, 1) := by decide +kernel
theorem d_M_card_33 : decode b_M_card 33 = .ok (.iconst 3, 1) := by decide +kernel
theorem d_M_card_34 : decode b_M_card 34 = .ok (.if_icmp .gt 15, 3) := by decide +kernel
theorem d_M_card_37 : decode b_M_card 37 = .ok (.iload 4, 2) := by decide +kernel
theorem d_M_card_39 : decode b_M_card 39 = .ok (.bipush (-9), 2) := by decide +kernel
theorem d_M_card_41 : decode b_M_card 41 = .ok (.bipush 9, 2) := by decide +kernel
theorem d_M_card_43 : decode b_M_card 43 = .ok (.invokestatic 73, 3) := by decide +kernel
theorem d_M_card_46 : decode b_M_card 46 = .ok (.ifCond .ne 5, 3) := by decide +kernel
theorem d_M_card_49 : decode b_M_card 49 = .ok (.iconst (-1), 1) := by decide +kernel
theorem d_M_card_50 : decode b_M_card 50 = .ok (.ireturn, 1) := by decide +kernel
theorem d_M_card_51 : decode b_M_card 51 = .ok (.aload_n 0, 1) := by decide +kernel
theorem d_M_card_52 : decode b_M_card 52 = .ok (.getfield 70, 3) := by decide +kernel
theorem d_M_card_55 : decode b_M_card 55 = .ok (.bipush 24, 2) := by decide +kernel
theorem d_M_card_57 : decode b_M_card 57 = .ok (.if_icmp .ne 8, 3) := by decide +kernel
theorem d_M_card_60 : decode b_M_card 60 = .ok (.bipush (-3), 2) := by decide +kernel
theorem d_M_card_62 : decode b_M_card 62 = .ok (.goto 19, 3) := by decide +kernel
theorem d_M_card_65 : decode b_M_card 65 = .ok (.aload_n 0, 1) := by decide +kernel
theorem d_M_card_66 : decode b_M_card 66 = .ok (.iload_n 1, 1) := by decide +kernel
theorem d_M_card_67 : decode b_M_card 67 = .ok (.iload_n 2, 1) := by decide +kernel
theorem d_M_card_68 : decode b_M_card 68 = .ok (.iload_n 3, 1) := by decide +kernel
theorem d_M_card_69 : decode b_M_card 69 = .ok (.bipush 10, 2) := by decide +kernel
theorem d_M_card_71 : decode b_M_card 71 = .ok (.idiv, 1) := by decide +kernel
theorem d_M_card_72 : decode b_M_card 72 = .ok (.iload_n 3, 1) := by decide +kernel
theorem d_M_card_73 : decode b_M_card 73 = .ok (.bipush 10, 2) := by decide +kernel
theorem d_M_card_75 : decode b_M_card 75 = .ok (.irem, 1) := by decide +kernel
theorem d_M_card_76 : decode b_M_card 76 = .ok (.iload 4, 2) := by decide +kernel
theorem d_M_card_78 : decode b_M_card 78 = .ok (.invokevirtual 77, 3) := by decide +kernel
theorem d_M_card_81 : decode b_M_card 81 = .ok (.ireturn, 1) := by decide +kernel
theorem d_M_feed_0 : decode b_M_feed 0 = .ok (.iload_n 1, 1) := by decide +kernel
theorem d_M_feed_1 : decode b_M_feed 1 = .ok (.iconst 0, 1) := by decide +kernel
theorem d_M_feed_2 : decode b_M_feed 2 = .ok (.sipush 255, 3) := by decide +kernel
theorem d_M_feed_5 : decode b_M_feed 5 = .ok (.invokestatic 73, 3) := by decide +kernel
theorem d_M_feed_8 : decode b_M_feed 8 = .ok (.ifCond .ne 5, 3) := by decide +kernel
theorem d_M_feed_11 : decode b_M_feed 11 = .ok (.iconst (-1), 1) := by decide +kernel
theorem d_M_feed_12 : decode b_M_feed 12 = .ok (.ireturn, 1) := by decide +kernel
theorem d_M_feed_13 : decode b_M_feed 13 = .ok (.aload_n 0, 1) := by decide +kernel
theorem d_M_feed_14 : decode b_M_feed 14 = .ok (.getfield 81, 3) := by decide +kernel
theorem d_M_feed_17 : decode b_M_feed 17 = .ok (.bipush 120, 2) := by decide +kernel
theorem d_M_feed_19 : decode b_M_feed 19 = .ok (.if_icmp .ne 6, 3) := by decide +kernel
theorem d_M_feed_22 : decode b_M_feed 22 = .ok (.bipush (-3), 2) := by decide +kernel
theorem d_M_feed_24 : decode b_M_feed 24 = .ok (.ireturn, 1) := by decide +kernel
theorem d_M_feed_25 : decode b_M_feed 25 = .ok (.aload_n 0, 1) := by decide +kernel
theorem d_M_feed_26 : decode b_M_feed 26 = .ok (.getfield 52, 3) := by decide +kernel
theorem d_M_feed_29 : decode b_M_feed 29 = .ok (.aload_n 0, 1) := by decide +kernel
theorem d_M_feed_30 : decode b_M_feed 30 = .ok (.dup, 1) := by decide +kernel
theorem d_M_feed_31 : decode b_M_feed 31 = .ok (.getfield 81, 3) := by decide +kernel
theorem d_M_feed_34 : decode b_M_feed 34 = .ok (.dup_x1, 1) := by decide +kernel
theorem d_M_feed_35 : decode b_M_feed 35 = .ok (.iconst 1, 1) := by decide +kernel
theorem d_M_feed_36 : decode b_M_feed 36 = .ok (.iadd, 1) := by decide +kernel
theorem d_M_feed_37 : decode b_M_feed 37 = .ok (.putfield 81, 3) := by decide +kernel
theorem d_M_feed_40 : decode b_M_feed 40 = .ok (.iload_n 1, 1) := by decide +kernel
theorem d_M_feed_41 : decode b_M_feed 41 = .ok (.iastore, 1) := by decide +kernel
theorem d_M_feed_42 : decode b_M_feed 42 = .ok (.aload_n 0, 1) := by decide +kernel
theorem d_M_feed_43 : decode b_M_feed 43 = .ok (.getfield 81, 3) := by decide +kernel
theorem d_M_feed_46 : decode b_M_feed 46 = .ok (.ireturn, 1) := by decide +kernel
theorem d_M_wordOf_0 : decode b_M_wordOf 0 = .ok (.iload_n 0, 1) := by decide +kernel
theorem d_M_wordOf_1 : decode b_M_wordOf 1 = .ok (.tableswitch 113 0 13 #[71, 74, 77, 80, 83, 86, 89, 92, 95, 98, 101, 104, 107, 110], 71) := by decide +kernel
theorem d_M_wordOf_72 : decode b_M_wordOf 72 = .ok (.ldc 84, 2) := by decide +kernel
theorem d_M_wordOf_74 : decode b_M_wordOf 74 = .ok (.areturn, 1) := by decide +kernel
theorem d_M_wordOf_75 : decode b_M_wordOf 75 = .ok (.ldc 85, 2) := by decide +kernel
theorem d_M_wordOf_77 : decode b_M_wordOf 77 = .ok (.areturn, 1) := by decide +kernel
theorem d_M_wordOf_78 : decode b_M_wordOf 78 = .ok (.ldc 87, 2) := by decide +kernel
theorem d_M_wordOf_80 : decode b_M_wordOf 80 = .ok (.areturn, 1) := by decide +kernel
theorem d_M_wordOf_81 : decode b_M_wordOf 81 = .ok (.ldc 89, 2) := by decide +kernel
theorem d_M_wordOf_83 : decode b_M_wordOf 83 = .ok (.areturn, 1) := by decide +kernel
theorem d_M_wordOf_84 : decode b_M_wordOf 84 = .ok (.ldc 91, 2) := by decide +kernel
theorem d_M_wordOf_86 : decode b_M_wordOf 86 = .ok (.areturn, 1) := by decide +kernel
theorem d_M_wordOf_87 : decode b_M_wordOf 87 = .ok (.ldc 93, 2) := by decide +kernel
theorem d_M_wordOf_89 : decode b_M_wordOf 89 = .ok (.areturn, 1) := by decide +kernel
theorem d_M_wordOf_90 : decode b_M_wordOf 90 = .ok (.ldc 95, 2) := by decide +kernel
theorem d_M_wordOf_92 : decode b_M_wordOf 92 = .ok (.areturn, 1) := by decide +kernel
theorem d_M_wordOf_93 : decode b_M_wordOf 93 = .ok (.ldc 97, 2) := by decide +kernel
theorem d_M_wordOf_95 : decode b_M_wordOf 95 = .ok (.areturn, 1) := by decide +kernel
theorem d_M_wordOf_96 : decode b_M_wordOf 96 = .ok (.ldc 99, 2) := by decide +kernel
theorem d_M_wordOf_98 : decode b_M_wordOf 98 = .ok (.areturn, 1) := by decide +kernel
theorem d_M_wordOf_99 : decode b_M_wordOf 99 = .ok (.ldc 101, 2) := by decide +kernel
theorem d_M_wordOf_101 : decode b_M_wordOf 101 = .ok (.areturn, 1) := by decide +kernel
theorem d_M_wordOf_102 : decode b_M_wordOf 102 = .ok (.ldc 103, 2) := by decide +kernel
theorem d_M_wordOf_104 : decode b_M_wordOf 104 = .ok (.areturn, 1) := by decide +kernel
theorem d_M_wordOf_105 : decode b_M_wordOf 105 = .ok (.ldc 105, 2) := by decide +kernel
theorem d_M_wordOf_107 : decode b_M_wordOf 107 = .ok (.areturn, 1) := by decide +kernel
theorem d_M_wordOf_108 : decode b_M_wordOf 108 = .ok (.ldc 107, 2) := by decide +kernel
theorem d_M_wordOf_110 : decode b_M_wordOf 110 = .ok (.areturn, 1) := by decide +kernel
theorem d_M_wordOf_111 : decode b_M_wordOf 111 = .ok (.ldc 109, 2) := by decide +kernel
theorem d_M_wordOf_113 : decode b_M_wordOf 113 = .ok (.areturn, 1) := by decide +kernel
theorem d_M_wordOf_114 : decode b_M_wordOf 114 = .ok (.ldc 111, 2) := by decide +kernel
theorem d_M_wordOf_116 : decode b_M_wordOf 116 = .ok (.areturn, 1) := by decide +kernel
theorem d_M_sees_0 : decode b_M_sees 0 = .ok (.aload_n 0, 1) := by decide +kernel
theorem d_M_sees_1 : decode b_M_sees 1 = .ok (.getfield 113, 3) := by decide +kernel
theorem d_M_sees_4 : decode b_M_sees 4 = .ok (.aload_n 0, 1) := by decide +kernel
theorem d_M_sees_5 : decode b_M_sees 5 = .ok (.getfield 81, 3) := by decide +kernel
theorem d_M_sees_8 : decode b_M_sees 8 = .ok (.if_icmp .ge 24, 3) := by decide +kernel
theorem d_M_sees_11 : decode b_M_sees 11 = .ok (.aload_n 0, 1) := by decide +kernel
theorem d_M_sees_12 : decode b_M_sees 12 = .ok (.getfield 52, 3) := by decide +kernel
theorem d_M_sees_15 : decode b_M_sees 15 = .ok (.aload_n 0, 1) := by decide +kernel
theorem d_M_sees_16 : decode b_M_sees 16 = .ok (.getfield 113, 3) := by decide +kernel
theorem d_M_sees_19 : decode b_M_sees 19 = .ok (.iaload, 1) := by decide +kernel
theorem d_M_sees_20 : decode b_M_sees 20 = .ok (.iload_n 1, 1) := by decide +kernel
theorem d_M_sees_21 : decode b_M_sees 21 = .ok (.iload_n 2, 1) := by decide +kernel
theorem d_M_sees_22 : decode b_M_sees 22 = .ok (.invokestatic 73, 3) := by decide +kernel
theorem d_M_sees_25 : decode b_M_sees 25 = .ok (.ifCond .eq 7, 3) := by decide +kernel
theorem d_M_sees_28 : decode b_M_sees 28 = .ok (.iconst 1, 1) := by decide +kernel
theorem d_M_sees_29 : decode b_M_sees 29 = .ok (.goto 4, 3) := by decide +kernel
theorem d_M_sees_32 : decode b_M_sees 32 = .ok (.iconst 0, 1) := by decide +kernel
theorem d_M_sees_33 : decode b_M_sees 33 = .ok (.ireturn, 1) := by decide +kernel
theorem d_M_must_0 : decode b_M_must 0 = .ok (.aload_n 0, 1) := by decide +kernel
theorem d_M_must_1 : decode b_M_must 1 = .ok (.getfield 116, 3) := by decide +kernel
theorem d_M_must_4 : decode b_M_must 4 = .ok (.ifCond .lt 5, 3) := by decide +kernel
theorem d_M_must_7 : decode b_M_must 7 = .ok (.iload_n 1, 1) := by decide +kernel
theorem d_M_must_8 : decode b_M_must 8 = .ok (.ireturn, 1) := by decide +kernel
theorem d_M_must_9 : decode b_M_must 9 = .ok (.aload_n 0, 1) := by decide +kernel
theorem d_M_must_10 : decode b_M_must 10 = .ok (.iload_n 1, 1) := by decide +kernel
theorem d_M_must_11 : decode b_M_must 11 = .ok (.iload_n 2, 1) := by decide +kernel
theorem d_M_must_12 : decode b_M_must 12 = .ok (.invokevirtual 119, 3) := by decide +kernel
theorem d_M_must_15 : decode b_M_must 15 = .ok (.ifCond .ne 13, 3) := by decide +kernel
theorem d_M_must_18 : decode b_M_must 18 = .ok (.aload_n 0, 1) := by decide +kernel
theorem d_M_must_19 : decode b_M_must 19 = .ok (.aload_n 0, 1) := by decide +kernel
theorem d_M_must_20 : decode b_M_must 20 = .ok (.getfield 113, 3) := by decide +kernel
theorem d_M_must_23 : decode b_M_must 23 = .ok (.putfield 116, 3) := by decide +kernel
theorem d_M_must_26 : decode b_M_must 26 = .ok (.iload_n 1, 1) := by decide +kernel
theorem d_M_must_27 : decode b_M_must 27 = .ok (.ireturn, 1) := by decide +kernel
theorem d_M_must_28 : decode b_M_must 28 = .ok (.aload_n 0, 1) := by decide +kernel
theorem d_M_must_29 : decode b_M_must 29 = .ok (.getfield 52, 3) := by decide +kernel
theorem d_M_must_32 : decode b_M_must 32 = .ok (.aload_n 0, 1) := by decide +kernel
theorem d_M_must_33 : decode b_M_must 33 = .ok (.dup, 1) := by decide +kernel
theorem d_M_must_34 : decode b_M_must 34 = .ok (.getfield 113, 3) := by decide +kernel
theorem d_M_must_37 : decode b_M_must 37 = .ok (.dup_x1, 1) := by decide +kernel
theorem d_M_must_38 : decode b_M_must 38 = .ok (.iconst 1, 1) := by decide +kernel
theorem d_M_must_39 : decode b_M_must 39 = .ok (.iadd, 1) := by decide +kernel
theorem d_M_must_40 : decode b_M_must 40 = .ok (.putfield 113, 3) := by decide +kernel
theorem d_M_must_43 : decode b_M_must 43 = .ok (.iaload, 1) := by decide +kernel
theorem d_M_must_44 : decode b_M_must 44 = .ok (.ireturn, 1) := by decide +kernel
theorem d_M_goes_0 : decode b_M_goes 0 = .ok (.iconst 0, 1) := by decide +kernel
theorem d_M_goes_1 : decode b_M_goes 1 = .ok (.istore_n 2, 1) := by decide +kernel
theorem d_M_goes_2 : decode b_M_goes 2 = .ok (.iload_n 2, 1) := by decide +kernel
theorem d_M_goes_3 : decode b_M_goes 3 = .ok (.aload_n 1, 1) := by decide +kernel
theorem d_M_goes_4 : decode b_M_goes 4 = .ok (.invokevirtual 123, 3) := by decide +kernel
theorem d_M_goes_7 : decode b_M_goes 7 = .ok (.if_icmp .ge 41, 3) := by decide +kernel
theorem d_M_goes_10 : decode b_M_goes 10 = .ok (.aload_n 0, 1) := by decide +kernel
theorem d_M_goes_11 : decode b_M_goes 11 = .ok (.getfield 113, 3) := by decide +kernel
theorem d_M_goes_14 : decode b_M_goes 14 = .ok (.iload_n 2, 1) := by decide +kernel
theorem d_M_goes_15 : decode b_M_goes 15 = .ok (.iadd, 1) := by decide +kernel
theorem d_M_goes_16 : decode b_M_goes 16 = .ok (.aload_n 0, 1) := by decide +kernel
theorem d_M_goes_17 : decode b_M_goes 17 = .ok (.getfield 81, 3) := by decide +kernel
theorem d_M_goes_20 : decode b_M_goes 20 = .ok (.if_icmp .ge 28, 3) := by decide +kernel
theorem d_M_goes_23 : decode b_M_goes 23 = .ok (.aload_n 0, 1) := by decide +kernel
theorem d_M_goes_24 : decode b_M_goes 24 = .ok (.getfield 52, 3) := by decide +kernel
theorem d_M_goes_27 : decode b_M_goes 27 = .ok (.aload_n 0, 1) := by decide +kernel
theorem d_M_goes_28 : decode b_M_goes 28 = .ok (.getfield 113, 3) := by decide +kernel
theorem d_M_goes_31 : decode b_M_goes 31 = .ok (.iload_n 2, 1) := by decide +kernel
theorem d_M_goes_32 : decode b_M_goes 32 = .ok (.iadd, 1) := by decide +kernel
theorem d_M_goes_33 : decode b_M_goes 33 = .ok (.iaload, 1) := by decide +kernel
theorem d_M_goes_34 : decode b_M_goes 34 = .ok (.aload_n 1, 1) := by decide +kernel
theorem d_M_goes_35 : decode b_M_goes 35 = .ok (.iload_n 2, 1) := by decide +kernel
theorem d_M_goes_36 : decode b_M_goes 36 = .ok (.invokevirtual 129, 3) := by decide +kernel
theorem d_M_goes_39 : decode b_M_goes 39 = .ok (.if_icmp .ne 9, 3) := by decide +kernel
theorem d_M_goes_42 : decode b_M_goes 42 = .ok (.iinc 2 1, 3) := by decide +kernel
theorem d_M_goes_45 : decode b_M_goes 45 = .ok (.goto (-43), 3) := by decide +kernel
theorem d_M_goes_48 : decode b_M_goes 48 = .ok (.iload_n 2, 1) := by decide +kernel
theorem d_M_goes_49 : decode b_M_goes 49 = .ok (.ireturn, 1) := by decide +kernel
theorem d_M_wordHere_0 : decode b_M_wordHere 0 = .ok (.iconst 0, 1) := by decide +kernel
theorem d_M_wordHere_1 : decode b_M_wordHere 1 = .ok (.istore_n 1, 1) := by decide +kernel
theorem d_M_wordHere_2 : decode b_M_wordHere 2 = .ok (.iconst 0, 1) := by decide +kernel
theorem d_M_wordHere_3 : decode b_M_wordHere 3 = .ok (.istore_n 2, 1) := by decide +kernel
theorem d_M_wordHere_4 : decode b_M_wordHere 4 = .ok (.iload_n 2, 1) := by decide +kernel
theorem d_M_wordHere_5 : decode b_M_wordHere 5 = .ok (.bipush 14, 2) := by decide +kernel
theorem d_M_wordHere_7 : decode b_M_wordHere 7 = .ok (.if_icmp .gt 52, 3) := by decide +kernel
theorem d_M_wordHere_10 : decode b_M_wordHere 10 = .ok (.aload_n 0, 1) := by decide +kernel
theorem d_M_wordHere_11 : decode b_M_wordHere 11 = .ok (.iload_n 2, 1) := by decide +kernel
theorem d_M_wordHere_12 : decode b_M_wordHere 12 = .ok (.invokestatic 133, 3) := by decide +kernel
theorem d_M_wordHere_15 : decode b_M_wordHere 15 = .ok (.invokevirtual 137, 3) := by decide +kernel
theorem d_M_wordHere_18 : decode b_M_wordHere 18 = .ok (.istore_n 3, 1) := by decide +kernel
theorem d_M_wordHere_19 : decode b_M_wordHere 19 = .ok (.iload_n 3, 1) := by decide +kernel
theorem d_M_wordHere_20 : decode b_M_wordHere 20 = .ok (.iload_n 2, 1) := by decide +kernel
theorem d_M_wordHere_21 : decode b_M_wordHere 21 = .ok (.invokestatic 133, 3) := by decide +kernel
theorem d_M_wordHere_24 : decode b_M_wordHere 24 = .ok (.invokevirtual 123, 3) := by decide +kernel
theorem d_M_wordHere_27 : decode b_M_wordHere 27 = .ok (.if_icmp .ne 15, 3) := by decide +kernel
theorem d_M_wordHere_30 : decode b_M_wordHere 30 = .ok (.aload_n 0, 1) := by decide +kernel
theorem d_M_wordHere_31 : decode b_M_wordHere 31 = .ok (.dup, 1) := by decide +kernel
theorem d_M_wordHere_32 : decode b_M_wordHere 32 = .ok (.getfield 113, 3) := by decide +kernel
theorem d_M_wordHere_35 : decode b_M_wordHere 35 = .ok (.iload_n 3, 1) := by decide +kernel
theorem d_M_wordHere_36 : decode b_M_wordHere 36 = .ok (.iadd, 1) := by decide +kernel
theorem d_M_wordHere_37 : decode b_M_wordHere 37 = .ok (.putfield 113, 3) := by decide +kernel
theorem d_M_wordHere_40 : decode b_M_wordHere 40 = .ok (.iload_n 2, 1) := by decide +kernel
theorem d_M_wordHere_41 : decode b_M_wordHere 41 = .ok (.ireturn, 1) := by decide +kernel
theorem d_M_wordHere_42 : decode b_M_wordHere 42 = .ok (.iload_n 3, 1) := by decide +kernel
theorem d_M_wordHere_43 : decode b_M_wordHere 43 = .ok (.iload_n 1, 1) := by decide +kernel
theorem d_M_wordHere_44 : decode b_M_wordHere 44 = .ok (.if_icmp .le 7, 3) := by decide +kernel
theorem d_M_wordHere_47 : decode b_M_wordHere 47 = .ok (.iload_n 3, 1) := by decide +kernel
theorem d_M_wordHere_48 : decode b_M_wordHere 48 = .ok (.goto 4, 3) := by decide +kernel
theorem d_M_wordHere_51 : decode b_M_wordHere 51 = .ok (.iload_n 1, 1) := by decide +kernel
theorem d_M_wordHere_52 : decode b_M_wordHere 52 = .ok (.istore_n 1, 1) := by decide +kernel
theorem d_M_wordHere_53 : decode b_M_wordHere 53 = .ok (.iinc 2 1, 3) := by decide +kernel
theorem d_M_wordHere_56 : decode b_M_wordHere 56 = .ok (.goto (-52), 3) := by decide +kernel
theorem d_M_wordHere_59 : decode b_M_wordHere 59 = .ok (.aload_n 0, 1) := by decide +kernel
theorem d_M_wordHere_60 : decode b_M_wordHere 60 = .ok (.aload_n 0, 1) := by decide +kernel
theorem d_M_wordHere_61 : decode b_M_wordHere 61 = .ok (.getfield 113, 3) := by decide +kernel
theorem d_M_wordHere_64 : decode b_M_wordHere 64 = .ok (.iload_n 1, 1) := by decide +kernel
theorem d_M_wordHere_65 : decode b_M_wordHere 65 = .ok (.iadd, 1) := by decide +kernel
theorem d_M_wordHere_66 : decode b_M_wordHere 66 = .ok (.putfield 116, 3) := by decide +kernel
theorem d_M_wordHere_69 : decode b_M_wordHere 69 = .ok (.iconst 0, 1) := by decide +kernel
theorem d_M_wordHere_70 : decode b_M_wordHere 70 = .ok (.ireturn, 1) := by decide +kernel
theorem d_M_digit_0 : decode b_M_digit 0 = .ok (.aload_n 0, 1) := by decide +kernel
theorem d_M_digit_1 : decode b_M_digit 1 = .ok (.bipush 32, 2) := by decide +kernel
theorem d_M_digit_3 : decode b_M_digit 3 = .ok (.bipush 32, 2) := by decide +kernel
theorem d_M_digit_5 : decode b_M_digit 5 = .ok (.invokevirtual 141, 3) := by decide +kernel
theorem d_M_digit_8 : decode b_M_digit 8 = .ok (.pop, 1) := by decide +kernel
theorem d_M_digit_9 : decode b_M_digit 9 = .ok (.aload_n 0, 1) := by decide +kernel
theorem d_M_digit_10 : decode b_M_digit 10 = .ok (.bipush 48, 2) := by decide +kernel
theorem d_M_digit_12 : decode b_M_digit 12 = .ok (.bipush 48, 2) := by decide +kernel
theorem d_M_digit_14 : decode b_M_digit 14 = .ok (.iload_n 1, 1) := by decide +kernel
theorem d_M_digit_15 : decode b_M_digit 15 = .ok (.iadd, 1) := by decide +kernel
theorem d_M_digit_16 : decode b_M_digit 16 = .ok (.invokevirtual 141, 3) := by decide +kernel
theorem d_M_digit_19 : decode b_M_digit 19 = .ok (.bipush 48, 2) := by decide +kernel
theorem d_M_digit_21 : decode b_M_digit 21 = .ok (.isub, 1) := by decide +kernel
theorem d_M_digit_22 : decode b_M_digit 22 = .ok (.ireturn, 1) := by decide +kernel
theorem d_M_line_0 : decode b_M_line 0 = .ok (.aload_n 0, 1) := by decide +kernel
theorem d_M_line_1 : decode b_M_line 1 = .ok (.invokevirtual 145, 3) := by decide +kernel
theorem d_M_line_4 : decode b_M_line 4 = .ok (.istore_n 2, 1) := by decide +kernel
theorem d_M_line_5 : decode b_M_line 5 = .ok (.aload_n 0, 1) := by decide +kernel
theorem d_M_line_6 : decode b_M_line 6 = .ok (.iconst 1, 1) := by decide +kernel
theorem d_M_line_7 : decode b_M_line 7 = .ok (.invokevirtual 148, 3) := by decide +kernel
theorem d_M_line_10 : decode b_M_line 10 = .ok (.istore_n 3, 1) := by decide +kernel
theorem d_M_line_11 : decode b_M_line 11 = .ok (.aload_n 0, 1) := by decide +kernel
theorem d_M_line_12 : decode b_M_line 12 = .ok (.iconst 3, 1) := by decide +kernel
theorem d_M_line_13 : decode b_M_line 13 = .ok (.invokevirtual 148, 3) := by decide +kernel
theorem d_M_line_16 : decode b_M_line 16 = .ok (.istore 4, 2) := by decide +kernel
theorem d_M_line_18 : decode b_M_line 18 = .ok (.aload_n 0, 1) := by decide +kernel
theorem d_M_line_19 : decode b_M_line 19 = .ok (.iconst 3, 1) := by decide +kernel
theorem d_M_line_20 : decode b_M_line 20 = .ok (.invokevirtual 148, 3) := by decide +kernel
theorem d_M_line_23 : decode b_M_line 23 = .ok (.istore 5, 2) := by decide +kernel
theorem d_M_line_25 : decode b_M_line 25 = .ok (.aload_n 0, 1) := by decide +kernel
theorem d_M_line_26 : decode b_M_line 26 = .ok (.bipush 32, 2) := by decide +kernel
theorem d_M_line_28 : decode b_M_line 28 = .ok (.bipush 32, 2) := by decide +kernel
theorem d_M_line_30 : decode b_M_line 30 = .ok (.invokevirtual 141, 3) := by decide +kernel
theorem d_M_line_33 : decode b_M_line 33 = .ok (.pop, 1) := by decide +kernel
theorem d_M_line_34 : decode b_M_line 34 = .ok (.aload_n 0, 1) := by decide +kernel
theorem d_M_line_35 : decode b_M_line 35 = .ok (.getfield 116, 3) := by decide +kernel
theorem d_M_line_38 : decode b_M_line 38 = .ok (.ifCond .ge 18, 3) := by decide +kernel
theorem d_M_line_41 : decode b_M_line 41 = .ok (.aload_n 0, 1) := by decide +kernel
theorem d_M_line_42 : decode b_M_line 42 = .ok (.bipush 45, 2) := by decide +kernel
theorem d_M_line_44 : decode b_M_line 44 = .ok (.bipush 45, 2) := by decide +kernel
theorem d_M_line_46 : decode b_M_line 46 = .ok (.invokevirtual 119, 3) := by decide +kernel
theorem d_M_line_49 : decode b_M_line 49 = .ok (.ifCond .eq 7, 3) := by decide +kernel
theorem d_M_line_52 : decode b_M_line 52 = .ok (.iconst 1, 1) := by decide +kernel
theorem d_M_line_53 : decode b_M_line 53 = .ok (.goto 4, 3) := by decide +kernel
theorem d_M_line_56 : decode b_M_line 56 = .ok (.iconst 0, 1) := by decide +kernel
theorem d_M_line_57 : decode b_M_line 57 = .ok (.istore 6, 2) := by decide +kernel
theorem d_M_line_59 : decode b_M_line 59 = .ok (.aload_n 0, 1) := by decide +kernel
theorem d_M_line_60 : decode b_M_line 60 = .ok (.dup, 1) := by decide +kernel
theorem d_M_line_61 : decode b_M_line 61 = .ok (.getfield 113, 3) := by decide +kernel
theorem d_M_line_64 : decode b_M_line 64 = .ok (.iload 6, 2) := by decide +kernel
theorem d_M_line_66 : decode b_M_line 66 = .ok (.ifCond .eq 7, 3) := by decide +kernel
theorem d_M_line_69 : decode b_M_line 69 = .ok (.iconst 1, 1) := by decide +kernel
theorem d_M_line_70 : decode b_M_line 70 = .ok (.goto 4, 3) := by decide +kernel
theorem d_M_line_73 : decode b_M_line 73 = .ok (.iconst 0, 1) := by decide +kernel
theorem d_M_line_74 : decode b_M_line 74 = .ok (.iadd, 1) := by decide +kernel
theorem d_M_line_75 : decode b_M_line 75 = .ok (.putfield 113, 3) := by decide +kernel
theorem d_M_line_78 : decode b_M_line 78 = .ok (.aload_n 0, 1) := by decide +kernel
theorem d_M_line_79 : decode b_M_line 79 = .ok (.bipush 48, 2) := by decide +kernel
theorem d_M_line_81 : decode b_M_line 81 = .ok (.bipush 57, 2) := by decide +kernel
theorem d_M_line_83 : decode b_M_line 83 = .ok (.invokevirtual 141, 3) := by decide +kernel
theorem d_M_line_86 : decode b_M_line 86 = .ok (.bipush 48, 2) := by decide +kernel
theorem d_M_line_88 : decode b_M_line 88 = .ok (.isub, 1) := by decide +kernel
theorem d_M_line_89 : decode b_M_line 89 = .ok (.istore 7, 2) := by decide +kernel
theorem d_M_line_91 : decode b_M_line 91 = .ok (.iload_n 1, 1) := by decide +kernel
theorem d_M_line_92 : decode b_M_line 92 = .ok (.ifCond .eq 27, 3) := by decide +kernel
theorem d_M_line_95 : decode b_M_line 95 = .ok (.aload_n 0, 1) := by decide +kernel
theorem d_M_line_96 : decode b_M_line 96 = .ok (.iload_n 2, 1) := by decide +kernel
theorem d_M_line_97 : decode b_M_line 97 = .ok (.iload_n 3, 1) := by decide +kernel
theorem d_M_line_98 : decode b_M_line 98 = .ok (.iload 4, 2) := by decide +kernel
theorem d_M_line_100 : decode b_M_line 100 = .ok (.iload 5, 2) := by decide +kernel
theorem d_M_line_102 : decode b_M_line 102 = .ok (.iload 6, 2) := by decide +kernel
theorem d_M_line_104 : decode b_M_line 104 = .ok (.ifCond .eq 9, 3) := by decide +kernel
theorem d_M_line_107 : decode b_M_line 107 = .ok (.iload 7, 2) := by decide +kernel
theorem d_M_line_109 : decode b_M_line 109 = .ok (.ineg, 1) := by decide +kernel
theorem d_M_line_110 : decode b_M_line 110 = .ok (.goto 5, 3) := by decide +kernel
theorem d_M_line_113 : decode b_M_line 113 = .ok (.iload 7, 2) := by decide +kernel
theorem d_M_line_115 : decode b_M_line 115 = .ok (.invokevirtual 77, 3) := by decide +kernel
theorem d_M_line_118 : decode b_M_line 118 = .ok (.pop, 1) := by decide +kernel
theorem d_M_line_119 : decode b_M_line 119 = .ok (.return_, 1) := by decide +kernel
theorem d_M_lines_0 : decode b_M_lines 0 = .ok (.aload_n 0, 1) := by decide +kernel
theorem d_M_lines_1 : decode b_M_lines 1 = .ok (.iconst 0, 1) := by decide +kernel
theorem d_M_lines_2 : decode b_M_lines 2 = .ok (.putfield 113, 3) := by decide +kernel
theorem d_M_lines_5 : decode b_M_lines 5 = .ok (.aload_n 0, 1) := by decide +kernel
theorem d_M_lines_6 : decode b_M_lines 6 = .ok (.iconst (-1), 1) := by decide +kernel
theorem d_M_lines_7 : decode b_M_lines 7 = .ok (.putfield 116, 3) := by decide +kernel
theorem d_M_lines_10 : decode b_M_lines 10 = .ok (.iconst 1, 1) := by decide +kernel
theorem d_M_lines_11 : decode b_M_lines 11 = .ok (.istore_n 2, 1) := by decide +kernel
theorem d_M_lines_12 : decode b_M_lines 12 = .ok (.aload_n 0, 1) := by decide +kernel
theorem d_M_lines_13 : decode b_M_lines 13 = .ok (.iload_n 1, 1) := by decide +kernel
theorem d_M_lines_14 : decode b_M_lines 14 = .ok (.invokevirtual 152, 3) := by decide +kernel
theorem d_M_lines_17 : decode b_M_lines 17 = .ok (.aload_n 0, 1) := by decide +kernel
theorem d_M_lines_18 : decode b_M_lines 18 = .ok (.getfield 116, 3) := by decide +kernel
theorem d_M_lines_21 : decode b_M_lines 21 = .ok (.ifCond .ge 41, 3) := by decide +kernel
theorem d_M_lines_24 : decode b_M_lines 24 = .ok (.aload_n 0, 1) := by decide +kernel
theorem d_M_lines_25 : decode b_M_lines 25 = .ok (.getfield 113, 3) := by decide +kernel
theorem d_M_lines_28 : decode b_M_lines 28 = .ok (.aload_n 0, 1) := by decide +kernel
theorem d_M_lines_29 : decode b_M_lines 29 = .ok (.getfield 81, 3) := by decide +kernel
theorem d_M_lines_32 : decode b_M_lines 32 = .ok (.if_icmp .ge 30, 3) := by decide +kernel
theorem d_M_lines_35 : decode b_M_lines 35 = .ok (.aload_n 0, 1) := by decide +kernel
theorem d_M_lines_36 : decode b_M_lines 36 = .ok (.bipush 59, 2) := by decide +kernel
theorem d_M_lines_38 : decode b_M_lines 38 = .ok (.bipush 59, 2) := by decide +kernel
theorem d_M_lines_40 : decode b_M_lines 40 = .ok (.invokevirtual 141, 3) := by decide +kernel
theorem d_M_lines_43 : decode b_M_lines 43 = .ok (.pop, 1) := by decide +kernel
theorem d_M_lines_44 : decode b_M_lines 44 = .ok (.aload_n 0, 1) := by decide +kernel
theorem d_M_lines_45 : decode b_M_lines 45 = .ok (.getfield 116, 3) := by decide +kernel
theorem d_M_lines_48 : decode b_M_lines 48 = .ok (.ifCond .ge (-31), 3) := by decide +kernel
theorem d_M_lines_51 : decode b_M_lines 51 = .ok (.aload_n 0, 1) := by decide +kernel
theorem d_M_lines_52 : decode b_M_lines 52 = .ok (.iload_n 1, 1) := by decide +kernel
theorem d_M_lines_53 : decode b_M_lines 53 = .ok (.invokevirtual 152, 3) := by decide +kernel
theorem d_M_lines_56 : decode b_M_lines 56 = .ok (.iinc 2 1, 3) := by decide +kernel
theorem d_M_lines_59 : decode b_M_lines 59 = .ok (.goto (-42), 3) := by decide +kernel
theorem d_M_lines_62 : decode b_M_lines 62 = .ok (.iload_n 2, 1) := by decide +kernel
theorem d_M_lines_63 : decode b_M_lines 63 = .ok (.ireturn, 1) := by decide +kernel
theorem d_M_deck_0 : decode b_M_deck 0 = .ok (.aload_n 0, 1) := by decide +kernel
theorem d_M_deck_1 : decode b_M_deck 1 = .ok (.iconst 0, 1) := by decide +kernel
theorem d_M_deck_2 : decode b_M_deck 2 = .ok (.invokevirtual 156, 3) := by decide +kernel
theorem d_M_deck_5 : decode b_M_deck 5 = .ok (.istore_n 1, 1) := by decide +kernel
theorem d_M_deck_6 : decode b_M_deck 6 = .ok (.aload_n 0, 1) := by decide +kernel
theorem d_M_deck_7 : decode b_M_deck 7 = .ok (.getfield 116, 3) := by decide +kernel
theorem d_M_deck_10 : decode b_M_deck 10 = .ok (.ifCond .ge 18, 3) := by decide +kernel
theorem d_M_deck_13 : decode b_M_deck 13 = .ok (.aload_n 0, 1) := by decide +kernel
theorem d_M_deck_14 : decode b_M_deck 14 = .ok (.getfield 70, 3) := by decide +kernel
theorem d_M_deck_17 : decode b_M_deck 17 = .ok (.iload_n 1, 1) := by decide +kernel
theorem d_M_deck_18 : decode b_M_deck 18 = .ok (.iadd, 1) := by decide +kernel
theorem d_M_deck_19 : decode b_M_deck 19 = .ok (.bipush 24, 2) := by decide +kernel
theorem d_M_deck_21 : decode b_M_deck 21 = .ok (.if_icmp .gt 7, 3) := by decide +kernel
theorem d_M_deck_24 : decode b_M_deck 24 = .ok (.iconst 1, 1) := by decide +kernel
theorem d_M_deck_25 : decode b_M_deck 25 = .ok (.goto 4, 3) := by decide +kernel
theorem d_M_deck_28 : decode b_M_deck 28 = .ok (.iconst 0, 1) := by decide +kernel
theorem d_M_deck_29 : decode b_M_deck 29 = .ok (.istore_n 2, 1) := by decide +kernel
theorem d_M_deck_30 : decode b_M_deck 30 = .ok (.aload_n 0, 1) := by decide +kernel
theorem d_M_deck_31 : decode b_M_deck 31 = .ok (.getfield 116, 3) := by decide +kernel
theorem d_M_deck_34 : decode b_M_deck 34 = .ok (.istore_n 3, 1) := by decide +kernel
theorem d_M_deck_35 : decode b_M_deck 35 = .ok (.iload_n 2, 1) := by decide +kernel
theorem d_M_deck_36 : decode b_M_deck 36 = .ok (.ifCond .eq 9, 3) := by decide +kernel
theorem d_M_deck_39 : decode b_M_deck 39 = .ok (.aload_n 0, 1) := by decide +kernel
theorem d_M_deck_40 : decode b_M_deck 40 = .ok (.iconst 1, 1) := by decide +kernel
theorem d_M_deck_41 : decode b_M_deck 41 = .ok (.invokevirtual 156, 3) := by decide +kernel
theorem d_M_deck_44 : decode b_M_deck 44 = .ok (.pop, 1) := by decide +kernel
theorem d_M_deck_45 : decode b_M_deck 45 = .ok (.aload_n 0, 1) := by decide +kernel
theorem d_M_deck_46 : decode b_M_deck 46 = .ok (.iconst 0, 1) := by decide +kernel
theorem d_M_deck_47 : decode b_M_deck 47 = .ok (.putfield 81, 3) := by decide +kernel
theorem d_M_deck_50 : decode b_M_deck 50 = .ok (.iload_n 3, 1) := by decide +kernel
theorem d_M_deck_51 : decode b_M_deck 51 = .ok (.ifCond .lt 10, 3) := by decide +kernel
theorem d_M_deck_54 : decode b_M_deck 54 = .ok (.bipush (-100), 2) := by decide +kernel
theorem d_M_deck_56 : decode b_M_deck 56 = .ok (.iload_n 3, 1) := by decide +kernel
theorem d_M_deck_57 : decode b_M_deck 57 = .ok (.isub, 1) := by decide +kernel
theorem d_M_deck_58 : decode b_M_deck 58 = .ok (.goto 13, 3) := by decide +kernel
theorem d_M_deck_61 : decode b_M_deck 61 = .ok (.iload_n 2, 1) := by decide +kernel
theorem d_M_deck_62 : decode b_M_deck 62 = .ok (.ifCond .eq 7, 3) := by decide +kernel
theorem d_M_deck_65 : decode b_M_deck 65 = .ok (.iload_n 1, 1) := by decide +kernel
theorem d_M_deck_66 : decode b_M_deck 66 = .ok (.goto 5, 3) := by decide +kernel
theorem d_M_deck_69 : decode b_M_deck 69 = .ok (.bipush (-3), 2) := by decide +kernel
theorem d_M_deck_71 : decode b_M_deck 71 = .ok (.ireturn, 1) := by decide +kernel
theorem d_M_of_0 : decode b_M_of 0 = .ok (.aload_n 0, 1) := by decide +kernel
theorem d_M_of_1 : decode b_M_of 1 = .ok (.iload_n 1, 1) := by decide +kernel
theorem d_M_of_2 : decode b_M_of 2 = .ok (.invokevirtual 160, 3) := by decide +kernel
theorem d_M_of_5 : decode b_M_of 5 = .ok (.ifCond .ne 5, 3) := by decide +kernel
theorem d_M_of_8 : decode b_M_of 8 = .ok (.iconst (-1), 1) := by decide +kernel
theorem d_M_of_9 : decode b_M_of 9 = .ok (.ireturn, 1) := by decide +kernel
theorem d_M_of_10 : decode b_M_of 10 = .ok (.iload_n 2, 1) := by decide +kernel
theorem d_M_of_11 : decode b_M_of 11 = .ok (.tableswitch 113 0 6 #[41, 48, 55, 62, 69, 79, 89], 41) := by decide +kernel
theorem d_M_of_52 : decode b_M_of 52 = .ok (.aload_n 0, 1) := by decide +kernel
theorem d_M_of_53 : decode b_M_of 53 = .ok (.getfield 9, 3) := by decide +kernel
theorem d_M_of_56 : decode b_M_of 56 = .ok (.iload_n 1, 1) := by decide +kernel
theorem d_M_of_57 : decode b_M_of 57 = .ok (.iaload, 1) := by decide +kernel
theorem d_M_of_58 : decode b_M_of 58 = .ok (.ireturn, 1) := by decide +kernel
theorem d_M_of_59 : decode b_M_of 59 = .ok (.aload_n 0, 1) := by decide +kernel
theorem d_M_of_60 : decode b_M_of 60 = .ok (.getfield 13, 3) := by decide +kernel
theorem d_M_of_63 : decode b_M_of 63 = .ok (.iload_n 1, 1) := by decide +kernel
theorem d_M_of_64 : decode b_M_of 64 = .ok (.iaload, 1) := by decide +kernel
theorem d_M_of_65 : decode b_M_of 65 = .ok (.ireturn, 1) := by decide +kernel
theorem d_M_of_66 : decode b_M_of 66 = .ok (.aload_n 0, 1) := by decide +kernel
theorem d_M_of_67 : decode b_M_of 67 = .ok (.getfield 16, 3) := by decide +kernel
theorem d_M_of_70 : decode b_M_of 70 = .ok (.iload_n 1, 1) := by decide +kernel
theorem d_M_of_71 : decode b_M_of 71 = .ok (.iaload, 1) := by decide +kernel
theorem d_M_of_72 : decode b_M_of 72 = .ok (.ireturn, 1) := by decide +kernel
theorem d_M_of_73 : decode b_M_of 73 = .ok (.aload_n 0, 1) := by decide +kernel
theorem d_M_of_74 : decode b_M_of 74 = .ok (.getfield 19, 3) := by decide +kernel
theorem d_M_of_77 : decode b_M_of 77 = .ok (.iload_n 1, 1) := by decide +kernel
theorem d_M_of_78 : decode b_M_of 78 = .ok (.iaload, 1) := by decide +kernel
theorem d_M_of_79 : decode b_M_of 79 = .ok (.ireturn, 1) := by decide +kernel
theorem d_M_of_80 : decode b_M_of 80 = .ok (.aload_n 0, 1) := by decide +kernel
theorem d_M_of_81 : decode b_M_of 81 = .ok (.getfield 22, 3) := by decide +kernel
theorem d_M_of_84 : decode b_M_of 84 = .ok (.iload_n 1, 1) := by decide +kernel
theorem d_M_of_85 : decode b_M_of 85 = .ok (.iaload, 1) := by decide +kernel
theorem d_M_of_86 : decode b_M_of 86 = .ok (.bipush 10, 2) := by decide +kernel
theorem d_M_of_88 : decode b_M_of 88 = .ok (.iadd, 1) := by decide +kernel
theorem d_M_of_89 : decode b_M_of 89 = .ok (.ireturn, 1) := by decide +kernel
theorem d_M_of_90 : decode b_M_of 90 = .ok (.aload_n 0, 1) := by decide +kernel
theorem d_M_of_91 : decode b_M_of 91 = .ok (.getfield 25, 3) := by decide +kernel
theorem d_M_of_94 : decode b_M_of 94 = .ok (.bipush 71, 2) := by decide +kernel
theorem d_M_of_96 : decode b_M_of 96 = .ok (.iload_n 1, 1) := by decide +kernel
theorem d_M_of_97 : decode b_M_of 97 = .ok (.iadd, 1) := by decide +kernel
theorem d_M_of_98 : decode b_M_of 98 = .ok (.iaload, 1) := by decide +kernel
theorem d_M_of_99 : decode b_M_of 99 = .ok (.ireturn, 1) := by decide +kernel
theorem d_M_of_100 : decode b_M_of 100 = .ok (.aload_n 0, 1) := by decide +kernel
theorem d_M_of_101 : decode b_M_of 101 = .ok (.iload_n 1, 1) := by decide +kernel
theorem d_M_of_102 : decode b_M_of 102 = .ok (.iconst 3, 1) := by decide +kernel
theorem d_M_of_103 : decode b_M_of 103 = .ok (.invokevirtual 164, 3) := by decide +kernel
theorem d_M_of_106 : decode b_M_of 106 = .ok (.ifCond .eq 15, 3) := by decide +kernel
theorem d_M_of_109 : decode b_M_of 109 = .ok (.aload_n 0, 1) := by decide +kernel
theorem d_M_of_110 : decode b_M_of 110 = .ok (.getfield 25, 3) := by decide +kernel
theorem d_M_of_113 : decode b_M_of 113 = .ok (.bipush 95, 2) := by decide +kernel
theorem d_M_of_115 : decode b_M_of 115 = .ok (.iload_n 1, 1) := by decide +kernel
theorem d_M_of_116 : decode b_M_of 116 = .ok (.iadd, 1) := by decide +kernel
theorem d_M_of_117 : decode b_M_of 117 = .ok (.iaload, 1) := by decide +kernel
theorem d_M_of_118 : decode b_M_of 118 = .ok (.goto 5, 3) := by decide +kernel
theorem d_M_of_121 : decode b_M_of 121 = .ok (.bipush (-2), 2) := by decide +kernel
theorem d_M_of_123 : decode b_M_of 123 = .ok (.ireturn, 1) := by decide +kernel
theorem d_M_of_124 : decode b_M_of 124 = .ok (.iconst (-1), 1) := by decide +kernel
theorem d_M_of_125 : decode b_M_of 125 = .ok (.ireturn, 1) := by decide +kernel
theorem d_M_deal_0 : decode b_M_deal 0 = .ok (.aload_n 0, 1) := by decide +kernel
theorem d_M_deal_1 : decode b_M_deal 1 = .ok (.iload_n 1, 1) := by decide +kernel
theorem d_M_deal_2 : decode b_M_deal 2 = .ok (.invokevirtual 160, 3) := by decide +kernel
theorem d_M_deal_5 : decode b_M_deal 5 = .ok (.ifCond .ne 5, 3) := by decide +kernel
theorem d_M_deal_8 : decode b_M_deal 8 = .ok (.iconst (-1), 1) := by decide +kernel
theorem d_M_deal_9 : decode b_M_deal 9 = .ok (.ireturn, 1) := by decide +kernel
theorem d_M_deal_10 : decode b_M_deal 10 = .ok (.aload_n 0, 1) := by decide +kernel
theorem d_M_deal_11 : decode b_M_deal 11 = .ok (.iload_n 1, 1) := by decide +kernel
theorem d_M_deal_12 : decode b_M_deal 12 = .ok (.iconst 0, 1) := by decide +kernel
theorem d_M_deal_13 : decode b_M_deal 13 = .ok (.invokevirtual 164, 3) := by decide +kernel
theorem d_M_deal_16 : decode b_M_deal 16 = .ok (.ifCond .ne 6, 3) := by decide +kernel
theorem d_M_deal_19 : decode b_M_deal 19 = .ok (.bipush (-5), 2) := by decide +kernel
theorem d_M_deal_21 : decode b_M_deal 21 = .ok (.ireturn, 1) := by decide +kernel
theorem d_M_deal_22 : decode b_M_deal 22 = .ok (.aload_n 0, 1) := by decide +kernel
theorem d_M_deal_23 : decode b_M_deal 23 = .ok (.getfield 25, 3) := by decide +kernel
theorem d_M_deal_26 : decode b_M_deal 26 = .ok (.bipush 71, 2) := by decide +kernel
theorem d_M_deal_28 : decode b_M_deal 28 = .ok (.iload_n 1, 1) := by decide +kernel
theorem d_M_deal_29 : decode b_M_deal 29 = .ok (.iadd, 1) := by decide +kernel
theorem d_M_deal_30 : decode b_M_deal 30 = .ok (.iconst 1, 1) := by decide +kernel
theorem d_M_deal_31 : decode b_M_deal 31 = .ok (.iastore, 1) := by decide +kernel
theorem d_M_deal_32 : decode b_M_deal 32 = .ok (.iconst 1, 1) := by decide +kernel
theorem d_M_deal_33 : decode b_M_deal 33 = .ok (.ireturn, 1) := by decide +kernel
theorem d_M_base_0 : decode b_M_base 0 = .ok (.iload_n 1, 1) := by decide +kernel
theorem d_M_base_1 : decode b_M_base 1 = .ok (.iconst 0, 1) := by decide +kernel
theorem d_M_base_2 : decode b_M_base 2 = .ok (.iconst 3, 1) := by decide +kernel
theorem d_M_base_3 : decode b_M_base 3 = .ok (.invokestatic 73, 3) := by decide +kernel
theorem d_M_base_6 : decode b_M_base 6 = .ok (.ifCond .eq 14, 3) := by decide +kernel
theorem d_M_base_9 : decode b_M_base 9 = .ok (.iload_n 2, 1) := by decide +kernel
theorem d_M_base_10 : decode b_M_base 10 = .ok (.bipush (-99), 2) := by decide +kernel
theorem d_M_base_12 : decode b_M_base 12 = .ok (.bipush 99, 2) := by decide +kernel
theorem d_M_base_14 : decode b_M_base 14 = .ok (.invokestatic 73, 3) := by decide +kernel
theorem d_M_base_17 : decode b_M_base 17 = .ok (.ifCond .ne 6, 3) := by decide +kernel
theorem d_M_base_20 : decode b_M_base 20 = .ok (.ldc 167, 2) := by decide +kernel
theorem d_M_base_22 : decode b_M_base 22 = .ok (.ireturn, 1) := by decide +kernel
theorem d_M_base_23 : decode b_M_base 23 = .ok (.aload_n 0, 1) := by decide +kernel
theorem d_M_base_24 : decode b_M_base 24 = .ok (.getfield 25, 3) := by decide +kernel
theorem d_M_base_27 : decode b_M_base 27 = .ok (.bipush 119, 2) := by decide +kernel
theorem d_M_base_29 : decode b_M_base 29 = .ok (.iload_n 1, 1) := by decide +kernel
theorem d_M_base_30 : decode b_M_base 30 = .ok (.iadd, 1) := by decide +kernel
theorem d_M_base_31 : decode b_M_base 31 = .ok (.iaload, 1) := by decide +kernel
theorem d_M_base_32 : decode b_M_base 32 = .ok (.istore_n 3, 1) := by decide +kernel
theorem d_M_base_33 : decode b_M_base 33 = .ok (.aload_n 0, 1) := by decide +kernel
theorem d_M_base_34 : decode b_M_base 34 = .ok (.getfield 25, 3) := by decide +kernel
theorem d_M_base_37 : decode b_M_base 37 = .ok (.bipush 119, 2) := by decide +kernel
theorem d_M_base_39 : decode b_M_base 39 = .ok (.iload_n 1, 1) := by decide +kernel
theorem d_M_base_40 : decode b_M_base 40 = .ok (.iadd, 1) := by decide +kernel
theorem d_M_base_41 : decode b_M_base 41 = .ok (.iload_n 2, 1) := by decide +kernel
theorem d_M_base_42 : decode b_M_base 42 = .ok (.iastore, 1) := by decide +kernel
theorem d_M_base_43 : decode b_M_base 43 = .ok (.iload_n 3, 1) := by decide +kernel
theorem d_M_base_44 : decode b_M_base 44 = .ok (.ireturn, 1) := by decide +kernel
theorem d_M_mend_0 : decode b_M_mend 0 = .ok (.iload_n 1, 1) := by decide +kernel
theorem d_M_mend_1 : decode b_M_mend 1 = .ok (.iconst 0, 1) := by decide +kernel
theorem d_M_mend_2 : decode b_M_mend 2 = .ok (.iconst 1, 1) := by decide +kernel
theorem d_M_mend_3 : decode b_M_mend 3 = .ok (.invokestatic 73, 3) := by decide +kernel
theorem d_M_mend_6 : decode b_M_mend 6 = .ok (.ifCond .eq 14, 3) := by decide +kernel
theorem d_M_mend_9 : decode b_M_mend 9 = .ok (.iload_n 2, 1) := by decide +kernel
theorem d_M_mend_10 : decode b_M_mend 10 = .ok (.bipush (-99), 2) := by decide +kernel
theorem d_M_mend_12 : decode b_M_mend 12 = .ok (.bipush 99, 2) := by decide +kernel
theorem d_M_mend_14 : decode b_M_mend 14 = .ok (.invokestatic 73, 3) := by decide +kernel
theorem d_M_mend_17 : decode b_M_mend 17 = .ok (.ifCond .ne 6, 3) := by decide +kernel
theorem d_M_mend_20 : decode b_M_mend 20 = .ok (.ldc 167, 2) := by decide +kernel
theorem d_M_mend_22 : decode b_M_mend 22 = .ok (.ireturn, 1) := by decide +kernel
theorem d_M_mend_23 : decode b_M_mend 23 = .ok (.aload_n 0, 1) := by decide +kernel
theorem d_M_mend_24 : decode b_M_mend 24 = .ok (.getfield 25, 3) := by decide +kernel
theorem d_M_mend_27 : decode b_M_mend 27 = .ok (.iconst 0, 1) := by decide +kernel
theorem d_M_mend_28 : decode b_M_mend 28 = .ok (.iload_n 1, 1) := by decide +kernel
theorem d_M_mend_29 : decode b_M_mend 29 = .ok (.iadd, 1) := by decide +kernel
theorem d_M_mend_30 : decode b_M_mend 30 = .ok (.iaload, 1) := by decide +kernel
theorem d_M_mend_31 : decode b_M_mend 31 = .ok (.istore_n 3, 1) := by decide +kernel
theorem d_M_mend_32 : decode b_M_mend 32 = .ok (.aload_n 0, 1) := by decide +kernel
theorem d_M_mend_33 : decode b_M_mend 33 = .ok (.getfield 25, 3) := by decide +kernel
theorem d_M_mend_36 : decode b_M_mend 36 = .ok (.iconst 0, 1) := by decide +kernel
theorem d_M_mend_37 : decode b_M_mend 37 = .ok (.iload_n 1, 1) := by decide +kernel
theorem d_M_mend_38 : decode b_M_mend 38 = .ok (.iadd, 1) := by decide +kernel
theorem d_M_mend_39 : decode b_M_mend 39 = .ok (.iload_n 2, 1) := by decide +kernel
theorem d_M_mend_40 : decode b_M_mend 40 = .ok (.iastore, 1) := by decide +kernel
theorem d_M_mend_41 : decode b_M_mend 41 = .ok (.iload_n 3, 1) := by decide +kernel
theorem d_M_mend_42 : decode b_M_mend 42 = .ok (.ireturn, 1) := by decide +kernel
theorem d_M_manyAt_0 : decode b_M_manyAt 0 = .ok (.iconst 0, 1) := by decide +kernel
theorem d_M_manyAt_1 : decode b_M_manyAt 1 = .ok (.istore_n 3, 1) := by decide +kernel
theorem d_M_manyAt_2 : decode b_M_manyAt 2 = .ok (.iconst 0, 1) := by decide +kernel
theorem d_M_manyAt_3 : decode b_M_manyAt 3 = .ok (.istore 4, 2) := by decide +kernel
theorem d_M_manyAt_5 : decode b_M_manyAt 5 = .ok (.iload 4, 2) := by decide +kernel
theorem d_M_manyAt_7 : decode b_M_manyAt 7 = .ok (.aload_n 0, 1) := by decide +kernel
theorem d_M_manyAt_8 : decode b_M_manyAt 8 = .ok (.getfield 70, 3) := by decide +kernel
theorem d_M_manyAt_11 : decode b_M_manyAt 11 = .ok (.if_icmp .ge 42, 3) := by decide +kernel
theorem d_M_manyAt_14 : decode b_M_manyAt 14 = .ok (.iload_n 3, 1) := by decide +kernel
theorem d_M_manyAt_15 : decode b_M_manyAt 15 = .ok (.iload_n 1, 1) := by decide +kernel
theorem d_M_manyAt_16 : decode b_M_manyAt 16 = .ok (.ifCond .lt 14, 3) := by decide +kernel
theorem d_M_manyAt_19 : decode b_M_manyAt 19 = .ok (.aload_n 0, 1) := by decide +kernel
theorem d_M_manyAt_20 : decode b_M_manyAt 20 = .ok (.getfield 13, 3) := by decide +kernel
theorem d_M_manyAt_23 : decode b_M_manyAt 23 = .ok (.iload 4, 2) := by decide +kernel
theorem d_M_manyAt_25 : decode b_M_manyAt 25 = .ok (.iaload, 1) := by decide +kernel
theorem d_M_manyAt_26 : decode b_M_manyAt 26 = .ok (.iload_n 1, 1) := by decide +kernel
theorem d_M_manyAt_27 : decode b_M_manyAt 27 = .ok (.if_icmp .ne 17, 3) := by decide +kernel
theorem d_M_manyAt_30 : decode b_M_manyAt 30 = .ok (.aload_n 0, 1) := by decide +kernel
theorem d_M_manyAt_31 : decode b_M_manyAt 31 = .ok (.iload 4, 2) := by decide +kernel
theorem d_M_manyAt_33 : decode b_M_manyAt 33 = .ok (.iload_n 2, 1) := by decide +kernel
theorem d_M_manyAt_34 : decode b_M_manyAt 34 = .ok (.invokevirtual 164, 3) := by decide +kernel
theorem d_M_manyAt_37 : decode b_M_manyAt 37 = .ok (.ifCond .eq 7, 3) := by decide +kernel
theorem d_M_manyAt_40 : decode b_M_manyAt 40 = .ok (.iconst 1, 1) := by decide +kernel
theorem d_M_manyAt_41 : decode b_M_manyAt 41 = .ok (.goto 4, 3) := by decide +kernel
theorem d_M_manyAt_44 : decode b_M_manyAt 44 = .ok (.iconst 0, 1) := by decide +kernel
theorem d_M_manyAt_45 : decode b_M_manyAt 45 = .ok (.iadd, 1) := by decide +kernel
theorem d_M_manyAt_46 : decode b_M_manyAt 46 = .ok (.istore_n 3, 1) := by decide +kernel
theorem d_M_manyAt_47 : decode b_M_manyAt 47 = .ok (.iinc 4 1, 3) := by decide +kernel
theorem d_M_manyAt_50 : decode b_M_manyAt 50 = .ok (.goto (-45), 3) := by decide +kernel
theorem d_M_manyAt_53 : decode b_M_manyAt 53 = .ok (.iload_n 3, 1) := by decide +kernel
theorem d_M_manyAt_54 : decode b_M_manyAt 54 = .ok (.ireturn, 1) := by decide +kernel
theorem d_M_player_0 : decode b_M_player 0 = .ok (.iload_n 1, 1) := by decide +kernel
theorem d_M_player_1 : decode b_M_player 1 = .ok (.iconst 0, 1) := by decide +kernel
theorem d_M_player_2 : decode b_M_player 2 = .ok (.iconst 1, 1) := by decide +kernel
theorem d_M_player_3 : decode b_M_player 3 = .ok (.invokestatic 73, 3) := by decide +kernel
theorem d_M_player_6 : decode b_M_player 6 = .ok (.ifCond .eq 12, 3) := by decide +kernel
theorem d_M_player_9 : decode b_M_player 9 = .ok (.iload_n 2, 1) := by decide +kernel
theorem d_M_player_10 : decode b_M_player 10 = .ok (.iconst 0, 1) := by decide +kernel
theorem d_M_player_11 : decode b_M_player 11 = .ok (.iconst 4, 1) := by decide +kernel
theorem d_M_player_12 : decode b_M_player 12 = .ok (.invokestatic 73, 3) := by decide +kernel
theorem d_M_player_15 : decode b_M_player 15 = .ok (.ifCond .ne 6, 3) := by decide +kernel
theorem d_M_player_18 : decode b_M_player 18 = .ok (.ldc 167, 2) := by decide +kernel
theorem d_M_player_20 : decode b_M_player 20 = .ok (.ireturn, 1) := by decide +kernel
theorem d_M_player_21 : decode b_M_player 21 = .ok (.iload_n 2, 1) := by decide +kernel
theorem d_M_player_22 : decode b_M_player 22 = .ok (.ifCond .ne 14, 3) := by decide +kernel
theorem d_M_player_25 : decode b_M_player 25 = .ok (.aload_n 0, 1) := by decide +kernel
theorem d_M_player_26 : decode b_M_player 26 = .ok (.getfield 25, 3) := by decide +kernel
theorem d_M_player_29 : decode b_M_player 29 = .ok (.iconst 0, 1) := by decide +kernel
theorem d_M_player_30 : decode b_M_player 30 = .ok (.iload_n 1, 1) := by decide +kernel
theorem d_M_player_31 : decode b_M_player 31 = .ok (.iadd, 1) := by decide +kernel
theorem d_M_player_32 : decode b_M_player 32 = .ok (.iaload, 1) := by decide +kernel
theorem d_M_player_33 : decode b_M_player 33 = .ok (.goto 36, 3) := by decide +kernel
theorem d_M_player_36 : decode b_M_player 36 = .ok (.aload_n 0, 1) := by decide +kernel
theorem d_M_player_37 : decode b_M_player 37 = .ok (.iload_n 1, 1) := by decide +kernel
theorem d_M_player_38 : decode b_M_player 38 = .ok (.iload_n 2, 1) := by decide +kernel
theorem d_M_player_39 : decode b_M_player 39 = .ok (.iconst 1, 1) := by decide +kernel
theorem d_M_player_40 : decode b_M_player 40 = .ok (.if_icmp .ne 7, 3) := by decide +kernel
theorem d_M_player_43 : decode b_M_player 43 = .ok (.iconst 0, 1) := by decide +kernel
theorem d_M_player_44 : decode b_M_player 44 = .ok (.goto 22, 3) := by decide +kernel
theorem d_M_player_47 : decode b_M_player 47 = .ok (.iload_n 2, 1) := by decide +kernel
theorem d_M_player_48 : decode b_M_player 48 = .ok (.iconst 2, 1) := by decide +kernel
theorem d_M_player_49 : decode b_M_player 49 = .ok (.if_icmp .ne 7, 3) := by decide +kernel
theorem d_M_player_52 : decode b_M_player 52 = .ok (.iconst 1, 1) := by decide +kernel
theorem d_M_player_53 : decode b_M_player 53 = .ok (.goto 13, 3) := by decide +kernel
theorem d_M_player_56 : decode b_M_player 56 = .ok (.iload_n 2, 1) := by decide +kernel
theorem d_M_player_57 : decode b_M_player 57 = .ok (.iconst 3, 1) := by decide +kernel
theorem d_M_player_58 : decode b_M_player 58 = .ok (.if_icmp .ne 7, 3) := by decide +kernel
theorem d_M_player_61 : decode b_M_player 61 = .ok (.iconst 3, 1) := by decide +kernel
theorem d_M_player_62 : decode b_M_player 62 = .ok (.goto 4, 3) := by decide +kernel
theorem d_M_player_65 : decode b_M_player 65 = .ok (.iconst 4, 1) := by decide +kernel
theorem d_M_player_66 : decode b_M_player 66 = .ok (.invokevirtual 168, 3) := by decide +kernel
theorem d_M_player_69 : decode b_M_player 69 = .ok (.ireturn, 1) := by decide +kernel
theorem d_M_isLayer_0 : decode b_M_isLayer 0 = .ok (.aload_n 0, 1) := by decide +kernel
theorem d_M_isLayer_1 : decode b_M_isLayer 1 = .ok (.iload_n 1, 1) := by decide +kernel
theorem d_M_isLayer_2 : decode b_M_isLayer 2 = .ok (.iconst 3, 1) := by decide +kernel
theorem d_M_isLayer_3 : decode b_M_isLayer 3 = .ok (.invokevirtual 164, 3) := by decide +kernel
theorem d_M_isLayer_6 : decode b_M_isLayer 6 = .ok (.ifCond .eq 17, 3) := by decide +kernel
theorem d_M_isLayer_9 : decode b_M_isLayer 9 = .ok (.aload_n 0, 1) := by decide +kernel
theorem d_M_isLayer_10 : decode b_M_isLayer 10 = .ok (.getfield 9, 3) := by decide +kernel
theorem d_M_isLayer_13 : decode b_M_isLayer 13 = .ok (.iload_n 1, 1) := by decide +kernel
theorem d_M_isLayer_14 : decode b_M_isLayer 14 = .ok (.iaload, 1) := by decide +kernel
theorem d_M_isLayer_15 : decode b_M_isLayer 15 = .ok (.iconst 4, 1) := by decide +kernel
theorem d_M_isLayer_16 : decode b_M_isLayer 16 = .ok (.if_icmp .gt 7, 3) := by decide +kernel
theorem d_M_isLayer_19 : decode b_M_isLayer 19 = .ok (.iconst 1, 1) := by decide +kernel
theorem d_M_isLayer_20 : decode b_M_isLayer 20 = .ok (.goto 4, 3) := by decide +kernel
theorem d_M_isLayer_23 : decode b_M_isLayer 23 = .ok (.iconst 0, 1) := by decide +kernel
theorem d_M_isLayer_24 : decode b_M_isLayer 24 = .ok (.ireturn, 1) := by decide +kernel
theorem d_M_hangs_0 : decode b_M_hangs 0 = .ok (.iload_n 1, 1) := by decide +kernel
theorem d_M_hangs_1 : decode b_M_hangs 1 = .ok (.iload_n 2, 1) := by decide +kernel
theorem d_M_hangs_2 : decode b_M_hangs 2 = .ok (.if_icmp .eq 42, 3) := by decide +kernel
theorem d_M_hangs_5 : decode b_M_hangs 5 = .ok (.aload_n 0, 1) := by decide +kernel
theorem d_M_hangs_6 : decode b_M_hangs 6 = .ok (.getfield 9, 3) := by decide +kernel
theorem d_M_hangs_9 : decode b_M_hangs 9 = .ok (.iload_n 1, 1) := by decide +kernel
theorem d_M_hangs_10 : decode b_M_hangs 10 = .ok (.iaload, 1) := by decide +kernel
theorem d_M_hangs_11 : decode b_M_hangs 11 = .ok (.iconst 3, 1) := by decide +kernel
theorem d_M_hangs_12 : decode b_M_hangs 12 = .ok (.if_icmp .eq 13, 3) := by decide +kernel
theorem d_M_hangs_15 : decode b_M_hangs 15 = .ok (.aload_n 0, 1) := by decide +kernel
theorem d_M_hangs_16 : decode b_M_hangs 16 = .ok (.getfield 9, 3) := by decide +kernel
theorem d_M_hangs_19 : decode b_M_hangs 19 = .ok (.iload_n 1, 1) := by decide +kernel
theorem d_M_hangs_20 : decode b_M_hangs 20 = .ok (.iaload, 1) := by decide +kernel
theorem d_M_hangs_21 : decode b_M_hangs 21 = .ok (.iconst 4, 1) := by decide +kernel
theorem d_M_hangs_22 : decode b_M_hangs 22 = .ok (.if_icmp .ne 22, 3) := by decide +kernel
theorem d_M_hangs_25 : decode b_M_hangs 25 = .ok (.aload_n 0, 1) := by decide +kernel
theorem d_M_hangs_26 : decode b_M_hangs 26 = .ok (.getfield 19, 3) := by decide +kernel
theorem d_M_hangs_29 : decode b_M_hangs 29 = .ok (.iload_n 1, 1) := by decide +kernel
theorem d_M_hangs_30 : decode b_M_hangs 30 = .ok (.iaload, 1) := by decide +kernel
theorem d_M_hangs_31 : decode b_M_hangs 31 = .ok (.aload_n 0, 1) := by decide +kernel
theorem d_M_hangs_32 : decode b_M_hangs 32 = .ok (.getfield 16, 3) := by decide +kernel
theorem d_M_hangs_35 : decode b_M_hangs 35 = .ok (.iload_n 2, 1) := by decide +kernel
theorem d_M_hangs_36 : decode b_M_hangs 36 = .ok (.iaload, 1) := by decide +kernel
theorem d_M_hangs_37 : decode b_M_hangs 37 = .ok (.if_icmp .ne 7, 3) := by decide +kernel
theorem d_M_hangs_40 : decode b_M_hangs 40 = .ok (.iconst 1, 1) := by decide +kernel
theorem d_M_hangs_41 : decode b_M_hangs 41 = .ok (.goto 4, 3) := by decide +kernel
theorem d_M_hangs_44 : decode b_M_hangs 44 = .ok (.iconst 0, 1) := by decide +kernel
theorem d_M_hangs_45 : decode b_M_hangs 45 = .ok (.ireturn, 1) := by decide +kernel
theorem d_M_isUsed_0 : decode b_M_isUsed 0 = .ok (.iconst 0, 1) := by decide +kernel
theorem d_M_isUsed_1 : decode b_M_isUsed 1 = .ok (.istore_n 2, 1) := by decide +kernel
theorem d_M_isUsed_2 : decode b_M_isUsed 2 = .ok (.iload_n 2, 1) := by decide +kernel
theorem d_M_isUsed_3 : decode b_M_isUsed 3 = .ok (.aload_n 0, 1) := by decide +kernel
theorem d_M_isUsed_4 : decode b_M_isUsed 4 = .ok (.getfield 171, 3) := by decide +kernel
theorem d_M_isUsed_7 : decode b_M_isUsed 7 = .ok (.if_icmp .ge 21, 3) := by decide +kernel
theorem d_M_isUsed_10 : decode b_M_isUsed 10 = .ok (.aload_n 0, 1) := by decide +kernel
theorem d_M_isUsed_11 : decode b_M_isUsed 11 = .ok (.getfield 46, 3) := by decide +kernel
theorem d_M_isUsed_14 : decode b_M_isUsed 14 = .ok (.iload_n 2, 1) := by decide +kernel
theorem d_M_isUsed_15 : decode b_M_isUsed 15 = .ok (.iaload, 1) := by decide +kernel
theorem d_M_isUsed_16 : decode b_M_isUsed 16 = .ok (.iload_n 1, 1) := by decide +kernel
theorem d_M_isUsed_17 : decode b_M_isUsed 17 = .ok (.if_icmp .ne 5, 3) := by decide +kernel
theorem d_M_isUsed_20 : decode b_M_isUsed 20 = .ok (.iconst 1, 1) := by decide +kernel
theorem d_M_isUsed_21 : decode b_M_isUsed 21 = .ok (.ireturn, 1) := by decide +kernel
theorem d_M_isUsed_22 : decode b_M_isUsed 22 = .ok (.iinc 2 1, 3) := by decide +kernel
theorem d_M_isUsed_25 : decode b_M_isUsed 25 = .ok (.goto (-23), 3) := by decide +kernel
theorem d_M_isUsed_28 : decode b_M_isUsed 28 = .ok (.iconst 0, 1) := by decide +kernel
theorem d_M_isUsed_29 : decode b_M_isUsed 29 = .ok (.ireturn, 1) := by decide +kernel
theorem d_M_isFree_0 : decode b_M_isFree 0 = .ok (.iconst 0, 1) := by decide +kernel
theorem d_M_isFree_1 : decode b_M_isFree 1 = .ok (.istore_n 2, 1) := by decide +kernel
theorem d_M_isFree_2 : decode b_M_isFree 2 = .ok (.iload_n 2, 1) := by decide +kernel
theorem d_M_isFree_3 : decode b_M_isFree 3 = .ok (.aload_n 0, 1) := by decide +kernel
theorem d_M_isFree_4 : decode b_M_isFree 4 = .ok (.getfield 70, 3) := by decide +kernel
theorem d_M_isFree_7 : decode b_M_isFree 7 = .ok (.if_icmp .ge 36, 3) := by decide +kernel
theorem d_M_isFree_10 : decode b_M_isFree 10 = .ok (.aload_n 0, 1) := by decide +kernel
theorem d_M_isFree_11 : decode b_M_isFree 11 = .ok (.iload_n 2, 1) := by decide +kernel
theorem d_M_isFree_12 : decode b_M_isFree 12 = .ok (.invokevirtual 174, 3) := by decide +kernel
theorem d_M_isFree_15 : decode b_M_isFree 15 = .ok (.ifCond .eq 22, 3) := by decide +kernel
theorem d_M_isFree_18 : decode b_M_isFree 18 = .ok (.aload_n 0, 1) := by decide +kernel
theorem d_M_isFree_19 : decode b_M_isFree 19 = .ok (.iload_n 2, 1) := by decide +kernel
theorem d_M_isFree_20 : decode b_M_isFree 20 = .ok (.invokevirtual 177, 3) := by decide +kernel
theorem d_M_isFree_23 : decode b_M_isFree 23 = .ok (.ifCond .ne 14, 3) := by decide +kernel
theorem d_M_isFree_26 : decode b_M_isFree 26 = .ok (.aload_n 0, 1) := by decide +kernel
theorem d_M_isFree_27 : decode b_M_isFree 27 = .ok (.iload_n 1, 1) := by decide +kernel
theorem d_M_isFree_28 : decode b_M_isFree 28 = .ok (.iload_n 2, 1) := by decide +kernel
theorem d_M_isFree_29 : decode b_M_isFree 29 = .ok (.invokevirtual 180, 3) := by decide +kernel
theorem d_M_isFree_32 : decode b_M_isFree 32 = .ok (.ifCond .eq 5, 3) := by decide +kernel
theorem d_M_isFree_35 : decode b_M_isFree 35 = .ok (.iconst 0, 1) := by decide +kernel
theorem d_M_isFree_36 : decode b_M_isFree 36 = .ok (.ireturn, 1) := by decide +kernel
theorem d_M_isFree_37 : decode b_M_isFree 37 = .ok (.iinc 2 1, 3) := by decide +kernel
theorem d_M_isFree_40 : decode b_M_isFree 40 = .ok (.goto (-38), 3) := by decide +kernel
theorem d_M_isFree_43 : decode b_M_isFree 43 = .ok (.iconst 1, 1) := by decide +kernel
theorem d_M_isFree_44 : decode b_M_isFree 44 = .ok (.ireturn, 1) := by decide +kernel
theorem d_M_nextLayer_0 : decode b_M_nextLayer 0 = .ok (.iconst (-1), 1) := by decide +kernel
theorem d_M_nextLayer_1 : decode b_M_nextLayer 1 = .ok (.istore_n 2, 1) := by decide +kernel
theorem d_M_nextLayer_2 : decode b_M_nextLayer 2 = .ok (.iconst 0, 1) := by decide +kernel
theorem d_M_nextLayer_3 : decode b_M_nextLayer 3 = .ok (.istore_n 3, 1) := by decide +kernel
theorem d_M_nextLayer_4 : decode b_M_nextLayer 4 = .ok (.iload_n 3, 1) := by decide +kernel
theorem d_M_nextLayer_5 : decode b_M_nextLayer 5 = .ok (.aload_n 0, 1) := by decide +kernel
theorem d_M_nextLayer_6 : decode b_M_nextLayer 6 = .ok (.getfield 70, 3) := by decide +kernel
theorem d_M_nextLayer_9 : decode b_M_nextLayer 9 = .ok (.if_icmp .ge 64, 3) := by decide +kernel
theorem d_M_nextLayer_12 : decode b_M_nextLayer 12 = .ok (.aload_n 0, 1) := by decide +kernel
theorem d_M_nextLayer_13 : decode b_M_nextLayer 13 = .ok (.iload_n 3, 1) := by decide +kernel
theorem d_M_nextLayer_14 : decode b_M_nextLayer 14 = .ok (.invokevirtual 174, 3) := by decide +kernel
theorem d_M_nextLayer_17 : decode b_M_nextLayer 17 = .ok (.ifCond .eq 50, 3) := by decide +kernel
theorem d_M_nextLayer_20 : decode b_M_nextLayer 20 = .ok (.aload_n 0, 1) := by decide +kernel
theorem d_M_nextLayer_21 : decode b_M_nextLayer 21 = .ok (.iload_n 3, 1) := by decide +kernel
theorem d_M_nextLayer_22 : decode b_M_nextLayer 22 = .ok (.invokevirtual 177, 3) := by decide +kernel
theorem d_M_nextLayer_25 : decode b_M_nextLayer 25 = .ok (.ifCond .ne 42, 3) := by decide +kernel
theorem d_M_nextLayer_28 : decode b_M_nextLayer 28 = .ok (.iload_n 1, 1) := by decide +kernel
theorem d_M_nextLayer_29 : decode b_M_nextLayer 29 = .ok (.ifCond .eq 11, 3) := by decide +kernel
theorem d_M_nextLayer_32 : decode b_M_nextLayer 32 = .ok (.aload_n 0, 1) := by decide +kernel
theorem d_M_nextLayer_33 : decode b_M_nextLayer 33 = .ok (.iload_n 3, 1) := by decide +kernel
theorem d_M_nextLayer_34 : decode b_M_nextLayer 34 = .ok (.invokevirtual 183, 3) := by decide +kernel
theorem d_M_nextLayer_37 : decode b_M_nextLayer 37 = .ok (.ifCond .eq 30, 3) := by decide +kernel
theorem d_M_nextLayer_40 : decode b_M_nextLayer 40 = .ok (.iload_n 2, 1) := by decide +kernel
theorem d_M_nextLayer_41 : decode b_M_nextLayer 41 = .ok (.ifCond .lt 24, 3) := by decide +kernel
theorem d_M_nextLayer_44 : decode b_M_nextLayer 44 = .ok (.aload_n 0, 1) := by decide +kernel
theorem d_M_nextLayer_45 : decode b_M_nextLayer 45 = .ok (.getfield 25, 3) := by decide +kernel
theorem d_M_nextLayer_48 : decode b_M_nextLayer 48 = .ok (.bipush 95, 2) := by decide +kernel
theorem d_M_nextLayer_50 : decode b_M_nextLayer 50 = .ok (.iload_n 3, 1) := by decide +kernel
theorem d_M_nextLayer_51 : decode b_M_nextLayer 51 = .ok (.iadd, 1) := by decide +kernel
theorem d_M_nextLayer_52 : decode b_M_nextLayer 52 = .ok (.iaload, 1) := by decide +kernel
theorem d_M_nextLayer_53 : decode b_M_nextLayer 53 = .ok (.aload_n 0, 1) := by decide +kernel
theorem d_M_nextLayer_54 : decode b_M_nextLayer 54 = .ok (.getfield 25, 3) := by decide +kernel
theorem d_M_nextLayer_57 : decode b_M_nextLayer 57 = .ok (.bipush 95, 2) := by decide +kernel
theorem d_M_nextLayer_59 : decode b_M_nextLayer 59 = .ok (.iload_n 2, 1) := by decide +kernel
theorem d_M_nextLayer_60 : decode b_M_nextLayer 60 = .ok (.iadd, 1) := by decide +kernel
theorem d_M_nextLayer_61 : decode b_M_nextLayer 61 = .ok (.iaload, 1) := by decide +kernel
theorem d_M_nextLayer_62 : decode b_M_nextLayer 62 = .ok (.if_icmp .ge 5, 3) := by decide +kernel
theorem d_M_nextLayer_65 : decode b_M_nextLayer 65 = .ok (.iload_n 3, 1) := by decide +kernel
theorem d_M_nextLayer_66 : decode b_M_nextLayer 66 = .ok (.istore_n 2, 1) := by decide +kernel
theorem d_M_nextLayer_67 : decode b_M_nextLayer 67 = .ok (.iinc 3 1, 3) := by decide +kernel
theorem d_M_nextLayer_70 : decode b_M_nextLayer 70 = .ok (.goto (-66), 3) := by decide +kernel
theorem d_M_nextLayer_73 : decode b_M_nextLayer 73 = .ok (.iload_n 2, 1) := by decide +kernel
theorem d_M_nextLayer_74 : decode b_M_nextLayer 74 = .ok (.ireturn, 1) := by decide +kernel
theorem d_M_use_0 : decode b_M_use 0 = .ok (.aload_n 0, 1) := by decide +kernel
theorem d_M_use_1 : decode b_M_use 1 = .ok (.getfield 16, 3) := by decide +kernel
theorem d_M_use_4 : decode b_M_use 4 = .ok (.iload_n 1, 1) := by decide +kernel
theorem d_M_use_5 : decode b_M_use 5 = .ok (.iaload, 1) := by decide +kernel
theorem d_M_use_6 : decode b_M_use 6 = .ok (.istore_n 2, 1) := by decide +kernel
theorem d_M_use_7 : decode b_M_use 7 = .ok (.aload_n 0, 1) := by decide +kernel
theorem d_M_use_8 : decode b_M_use 8 = .ok (.getfield 43, 3) := by decide +kernel
theorem d_M_use_11 : decode b_M_use 11 = .ok (.aload_n 0, 1) := by decide +kernel
theorem d_M_use_12 : decode b_M_use 12 = .ok (.getfield 19, 3) := by decide +kernel
theorem d_M_use_15 : decode b_M_use 15 = .ok (.iload_n 1, 1) := by decide +kernel
theorem d_M_use_16 : decode b_M_use 16 = .ok (.iaload, 1) := by decide +kernel
theorem d_M_use_17 : decode b_M_use 17 = .ok (.iaload, 1) := by decide +kernel
theorem d_M_use_18 : decode b_M_use 18 = .ok (.istore_n 3, 1) := by decide +kernel
theorem d_M_use_19 : decode b_M_use 19 = .ok (.aload_n 0, 1) := by decide +kernel
theorem d_M_use_20 : decode b_M_use 20 = .ok (.getfield 9, 3) := by decide +kernel
theorem d_M_use_23 : decode b_M_use 23 = .ok (.iload_n 1, 1) := by decide +kernel
theorem d_M_use_24 : decode b_M_use 24 = .ok (.iaload, 1) := by decide +kernel
theorem d_M_use_25 : decode b_M_use 25 = .ok (.ifCond .ne 19, 3) := by decide +kernel
theorem d_M_use_28 : decode b_M_use 28 = .ok (.aload_n 0, 1) := by decide +kernel
theorem d_M_use_29 : decode b_M_use 29 = .ok (.getfield 43, 3) := by decide +kernel
theorem d_M_use_32 : decode b_M_use 32 = .ok (.iload_n 2, 1) := by decide +kernel
theorem d_M_use_33 : decode b_M_use 33 = .ok (.iaload, 1) := by decide +kernel
theorem d_M_use_34 : decode b_M_use 34 = .ok (.aload_n 0, 1) := by decide +kernel
theorem d_M_use_35 : decode b_M_use 35 = .ok (.getfield 22, 3) := by decide +kernel
theorem d_M_use_38 : decode b_M_use 38 = .ok (.iload_n 1, 1) := by decide +kernel
theorem d_M_use_39 : decode b_M_use 39 = .ok (.iaload, 1) := by decide +kernel
theorem d_M_use_40 : decode b_M_use 40 = .ok (.iadd, 1) := by decide +kernel
theorem d_M_use_41 : decode b_M_use 41 = .ok (.goto 70, 3) := by decide +kernel
theorem d_M_use_44 : decode b_M_use 44 = .ok (.aload_n 0, 1) := by decide +kernel
theorem d_M_use_45 : decode b_M_use 45 = .ok (.getfield 9, 3) := by decide +kernel
theorem d_M_use_48 : decode b_M_use 48 = .ok (.iload_n 1, 1) := by decide +kernel
theorem d_M_use_49 : decode b_M_use 49 = .ok (.iaload, 1) := by decide +kernel
theorem d_M_use_50 : decode b_M_use 50 = .ok (.iconst 1, 1) := by decide +kernel
theorem d_M_use_51 : decode b_M_use 51 = .ok (.if_icmp .ne 19, 3) := by decide +kernel
theorem d_M_use_54 : decode b_M_use 54 = .ok (.aload_n 0, 1) := by decide +kernel
theorem d_M_use_55 : decode b_M_use 55 = .ok (.getfield 43, 3) := by decide +kernel
theorem d_M_use_58 : decode b_M_use 58 = .ok (.iload_n 2, 1) := by decide +kernel
theorem d_M_use_59 : decode b_M_use 59 = .ok (.iaload, 1) := by decide +kernel
theorem d_M_use_60 : decode b_M_use 60 = .ok (.aload_n 0, 1) := by decide +kernel
theorem d_M_use_61 : decode b_M_use 61 = .ok (.getfield 22, 3) := by decide +kernel
theorem d_M_use_64 : decode b_M_use 64 = .ok (.iload_n 1, 1) := by decide +kernel
theorem d_M_use_65 : decode b_M_use 65 = .ok (.iaload, 1) := by decide +kernel
theorem d_M_use_66 : decode b_M_use 66 = .ok (.imul, 1) := by decide +kernel
theorem d_M_use_67 : decode b_M_use 67 = .ok (.goto 44, 3) := by decide +kernel
theorem d_M_use_70 : decode b_M_use 70 = .ok (.aload_n 0, 1) := by decide +kernel
theorem d_M_use_71 : decode b_M_use 71 = .ok (.getfield 9, 3) := by decide +kernel
theorem d_M_use_74 : decode b_M_use 74 = .ok (.iload_n 1, 1) := by decide +kernel
theorem d_M_use_75 : decode b_M_use 75 = .ok (.iaload, 1) := by decide +kernel
theorem d_M_use_76 : decode b_M_use 76 = .ok (.iconst 2, 1) := by decide +kernel
theorem d_M_use_77 : decode b_M_use 77 = .ok (.if_icmp .ne 12, 3) := by decide +kernel
theorem d_M_use_80 : decode b_M_use 80 = .ok (.aload_n 0, 1) := by decide +kernel
theorem d_M_use_81 : decode b_M_use 81 = .ok (.getfield 22, 3) := by decide +kernel
theorem d_M_use_84 : decode b_M_use 84 = .ok (.iload_n 1, 1) := by decide +kernel
theorem d_M_use_85 : decode b_M_use 85 = .ok (.iaload, 1) := by decide +kernel
theorem d_M_use_86 : decode b_M_use 86 = .ok (.goto 25, 3) := by decide +kernel
theorem d_M_use_89 : decode b_M_use 89 = .ok (.aload_n 0, 1) := by decide +kernel
theorem d_M_use_90 : decode b_M_use 90 = .ok (.getfield 9, 3) := by decide +kernel
theorem d_M_use_93 : decode b_M_use 93 = .ok (.iload_n 1, 1) := by decide +kernel
theorem d_M_use_94 : decode b_M_use 94 = .ok (.iaload, 1) := by decide +kernel
theorem d_M_use_95 : decode b_M_use 95 = .ok (.iconst 3, 1) := by decide +kernel
theorem d_M_use_96 : decode b_M_use 96 = .ok (.if_icmp .ne 7, 3) := by decide +kernel
theorem d_M_use_99 : decode b_M_use 99 = .ok (.iload_n 3, 1) := by decide +kernel
theorem d_M_use_100 : decode b_M_use 100 = .ok (.goto 11, 3) := by decide +kernel
theorem d_M_use_103 : decode b_M_use 103 = .ok (.aload_n 0, 1) := by decide +kernel
theorem d_M_use_104 : decode b_M_use 104 = .ok (.getfield 43, 3) := by decide +kernel
theorem d_M_use_107 : decode b_M_use 107 = .ok (.iload_n 2, 1) := by decide +kernel
theorem d_M_use_108 : decode b_M_use 108 = .ok (.iaload, 1) := by decide +kernel
theorem d_M_use_109 : decode b_M_use 109 = .ok (.iload_n 3, 1) := by decide +kernel
theorem d_M_use_110 : decode b_M_use 110 = .ok (.iadd, 1) := by decide +kernel
theorem d_M_use_111 : decode b_M_use 111 = .ok (.istore 4, 2) := by decide +kernel
theorem d_M_use_113 : decode b_M_use 113 = .ok (.aload_n 0, 1) := by decide +kernel
theorem d_M_use_114 : decode b_M_use 114 = .ok (.getfield 43, 3) := by decide +kernel
theorem d_M_use_117 : decode b_M_use 117 = .ok (.iload_n 2, 1) := by decide +kernel
theorem d_M_use_118 : decode b_M_use 118 = .ok (.iload 4, 2) := by decide +kernel
theorem d_M_use_120 : decode b_M_use 120 = .ok (.bipush (-99), 2) := by decide +kernel
theorem d_M_use_122 : decode b_M_use 122 = .ok (.bipush 99, 2) := by decide +kernel
theorem d_M_use_124 : decode b_M_use 124 = .ok (.invokestatic 186, 3) := by decide +kernel
theorem d_M_use_127 : decode b_M_use 127 = .ok (.iastore, 1) := by decide +kernel
theorem d_M_use_128 : decode b_M_use 128 = .ok (.aload_n 0, 1) := by decide +kernel
theorem d_M_use_129 : decode b_M_use 129 = .ok (.getfield 46, 3) := by decide +kernel
theorem d_M_use_132 : decode b_M_use 132 = .ok (.aload_n 0, 1) := by decide +kernel
theorem d_M_use_133 : decode b_M_use 133 = .ok (.dup, 1) := by decide +kernel
theorem d_M_use_134 : decode b_M_use 134 = .ok (.getfield 171, 3) := by decide +kernel
theorem d_M_use_137 : decode b_M_use 137 = .ok (.dup_x1, 1) := by decide +kernel
theorem d_M_use_138 : decode b_M_use 138 = .ok (.iconst 1, 1) := by decide +kernel
theorem d_M_use_139 : decode b_M_use 139 = .ok (.iadd, 1) := by decide +kernel
theorem d_M_use_140 : decode b_M_use 140 = .ok (.putfield 171, 3) := by decide +kernel
theorem d_M_use_143 : decode b_M_use 143 = .ok (.iload_n 1, 1) := by decide +kernel
theorem d_M_use_144 : decode b_M_use 144 = .ok (.iastore, 1) := by decide +kernel
theorem d_M_use_145 : decode b_M_use 145 = .ok (.return_, 1) := by decide +kernel
theorem d_M_layered_0 : decode b_M_layered 0 = .ok (.aload_n 0, 1) := by decide +kernel
theorem d_M_layered_1 : decode b_M_layered 1 = .ok (.iconst 0, 1) := by decide +kernel
theorem d_M_layered_2 : decode b_M_layered 2 = .ok (.putfield 171, 3) := by decide +kernel
theorem d_M_layered_5 : decode b_M_layered 5 = .ok (.iconst 0, 1) := by decide +kernel
theorem d_M_layered_6 : decode b_M_layered 6 = .ok (.istore_n 1, 1) := by decide +kernel
theorem d_M_layered_7 : decode b_M_layered 7 = .ok (.iload_n 1, 1) := by decide +kernel
theorem d_M_layered_8 : decode b_M_layered 8 = .ok (.iconst 4, 1) := by decide +kernel
theorem d_M_layered_9 : decode b_M_layered 9 = .ok (.if_icmp .ge 24, 3) := by decide +kernel
theorem d_M_layered_12 : decode b_M_layered 12 = .ok (.aload_n 0, 1) := by decide +kernel
theorem d_M_layered_13 : decode b_M_layered 13 = .ok (.getfield 43, 3) := by decide +kernel
theorem d_M_layered_16 : decode b_M_layered 16 = .ok (.iload_n 1, 1) := by decide +kernel
theorem d_M_layered_17 : decode b_M_layered 17 = .ok (.aload_n 0, 1) := by decide +kernel
theorem d_M_layered_18 : decode b_M_layered 18 = .ok (.getfield 25, 3) := by decide +kernel
theorem d_M_layered_21 : decode b_M_layered 21 = .ok (.bipush 119, 2) := by decide +kernel
theorem d_M_layered_23 : decode b_M_layered 23 = .ok (.iload_n 1, 1) := by decide +kernel
theorem d_M_layered_24 : decode b_M_layered 24 = .ok (.iadd, 1) := by decide +kernel
theorem d_M_layered_25 : decode b_M_layered 25 = .ok (.iaload, 1) := by decide +kernel
theorem d_M_layered_26 : decode b_M_layered 26 = .ok (.iastore, 1) := by decide +kernel
theorem d_M_layered_27 : decode b_M_layered 27 = .ok (.iinc 1 1, 3) := by decide +kernel
theorem d_M_layered_30 : decode b_M_layered 30 = .ok (.goto (-23), 3) := by decide +kernel
theorem d_M_layered_33 : decode b_M_layered 33 = .ok (.iconst 0, 1) := by decide +kernel
theorem d_M_layered_34 : decode b_M_layered 34 = .ok (.istore_n 1, 1) := by decide +kernel
theorem d_M_layered_35 : decode b_M_layered 35 = .ok (.iload_n 1, 1) := by decide +kernel
theorem d_M_layered_36 : decode b_M_layered 36 = .ok (.ifCond .lt 35, 3) := by decide +kernel
theorem d_M_layered_39 : decode b_M_layered 39 = .ok (.aload_n 0, 1) := by decide +kernel
theorem d_M_layered_40 : decode b_M_layered 40 = .ok (.iconst 1, 1) := by decide +kernel
theorem d_M_layered_41 : decode b_M_layered 41 = .ok (.invokevirtual 189, 3) := by decide +kernel
theorem d_M_layered_44 : decode b_M_layered 44 = .ok (.istore_n 1, 1) := by decide +kernel
theorem d_M_layered_45 : decode b_M_layered 45 = .ok (.iload_n 1, 1) := by decide +kernel
theorem d_M_layered_46 : decode b_M_layered 46 = .ok (.ifCond .ge 11, 3) := by decide +kernel
theorem d_M_layered_49 : decode b_M_layered 49 = .ok (.aload_n 0, 1) := by decide +kernel
theorem d_M_layered_50 : decode b_M_layered 50 = .ok (.iconst 0, 1) := by decide +kernel
theorem d_M_layered_51 : decode b_M_layered 51 = .ok (.invokevirtual 189, 3) := by decide +kernel
theorem d_M_layered_54 : decode b_M_layered 54 = .ok (.goto 4, 3) := by decide +kernel
theorem d_M_layered_57 : decode b_M_layered 57 = .ok (.iload_n 1, 1) := by decide +kernel
theorem d_M_layered_58 : decode b_M_layered 58 = .ok (.istore_n 1, 1) := by decide +kernel
theorem d_M_layered_59 : decode b_M_layered 59 = .ok (.iload_n 1, 1) := by decide +kernel
theorem d_M_layered_60 : decode b_M_layered 60 = .ok (.ifCond .lt (-25), 3) := by decide +kernel
theorem d_M_layered_63 : decode b_M_layered 63 = .ok (.aload_n 0, 1) := by decide +kernel
theorem d_M_layered_64 : decode b_M_layered 64 = .ok (.iload_n 1, 1) := by decide +kernel
theorem d_M_layered_65 : decode b_M_layered 65 = .ok (.invokevirtual 192, 3) := by decide +kernel
theorem d_M_layered_68 : decode b_M_layered 68 = .ok (.goto (-33), 3) := by decide +kernel
theorem d_M_layered_71 : decode b_M_layered 71 = .ok (.return_, 1) := by decide +kernel
theorem d_M_valueNow_0 : decode b_M_valueNow 0 = .ok (.aload_n 0, 1) := by decide +kernel
theorem d_M_valueNow_1 : decode b_M_valueNow 1 = .ok (.invokevirtual 196, 3) := by decide +kernel
theorem d_M_valueNow_4 : decode b_M_valueNow 4 = .ok (.aload_n 0, 1) := by decide +kernel
theorem d_M_valueNow_5 : decode b_M_valueNow 5 = .ok (.getfield 43, 3) := by decide +kernel
theorem d_M_valueNow_8 : decode b_M_valueNow 8 = .ok (.iload_n 1, 1) := by decide +kernel
theorem d_M_valueNow_9 : decode b_M_valueNow 9 = .ok (.iaload, 1) := by decide +kernel
theorem d_M_valueNow_10 : decode b_M_valueNow 10 = .ok (.ireturn, 1) := by decide +kernel
theorem d_M_value_0 : decode b_M_value 0 = .ok (.iload_n 1, 1) := by decide +kernel
theorem d_M_value_1 : decode b_M_value 1 = .ok (.iconst 0, 1) := by decide +kernel
theorem d_M_value_2 : decode b_M_value 2 = .ok (.iconst 3, 1) := by decide +kernel
theorem d_M_value_3 : decode b_M_value 3 = .ok (.invokestatic 73, 3) := by decide +kernel
theorem d_M_value_6 : decode b_M_value 6 = .ok (.ifCond .eq 11, 3) := by decide +kernel
theorem d_M_value_9 : decode b_M_value 9 = .ok (.aload_n 0, 1) := by decide +kernel
theorem d_M_value_10 : decode b_M_value 10 = .ok (.iload_n 1, 1) := by decide +kernel
theorem d_M_value_11 : decode b_M_value 11 = .ok (.invokevirtual 199, 3) := by decide +kernel
theorem d_M_value_14 : decode b_M_value 14 = .ok (.goto 5, 3) := by decide +kernel
theorem d_M_value_17 : decode b_M_value 17 = .ok (.ldc 167, 2) := by decide +kernel
theorem d_M_value_19 : decode b_M_value 19 = .ok (.ireturn, 1) := by decide +kernel
theorem d_M_layer_0 : decode b_M_layer 0 = .ok (.iload_n 1, 1) := by decide +kernel
theorem d_M_layer_1 : decode b_M_layer 1 = .ok (.ifCond .ge 5, 3) := by decide +kernel
theorem d_M_layer_4 : decode b_M_layer 4 = .ok (.iconst (-1), 1) := by decide +kernel
theorem d_M_layer_5 : decode b_M_layer 5 = .ok (.ireturn, 1) := by decide +kernel
theorem d_M_layer_6 : decode b_M_layer 6 = .ok (.aload_n 0, 1) := by decide +kernel
theorem d_M_layer_7 : decode b_M_layer 7 = .ok (.invokevirtual 196, 3) := by decide +kernel
theorem d_M_layer_10 : decode b_M_layer 10 = .ok (.iload_n 1, 1) := by decide +kernel
theorem d_M_layer_11 : decode b_M_layer 11 = .ok (.aload_n 0, 1) := by decide +kernel
theorem d_M_layer_12 : decode b_M_layer 12 = .ok (.getfield 171, 3) := by decide +kernel
theorem d_M_layer_15 : decode b_M_layer 15 = .ok (.if_icmp .ge 12, 3) := by decide +kernel
theorem d_M_layer_18 : decode b_M_layer 18 = .ok (.aload_n 0, 1) := by decide +kernel
theorem d_M_layer_19 : decode b_M_layer 19 = .ok (.getfield 46, 3) := by decide +kernel
theorem d_M_layer_22 : decode b_M_layer 22 = .ok (.iload_n 1, 1) := by decide +kernel
theorem d_M_layer_23 : decode b_M_layer 23 = .ok (.iaload, 1) := by decide +kernel
theorem d_M_layer_24 : decode b_M_layer 24 = .ok (.goto 5, 3) := by decide +kernel
theorem d_M_layer_27 : decode b_M_layer 27 = .ok (.bipush (-2), 2) := by decide +kernel
theorem d_M_layer_29 : decode b_M_layer 29 = .ok (.ireturn, 1) := by decide +kernel
theorem d_M_depends_0 : decode b_M_depends 0 = .ok (.aload_n 0, 1) := by decide +kernel
theorem d_M_depends_1 : decode b_M_depends 1 = .ok (.iload_n 1, 1) := by decide +kernel
theorem d_M_depends_2 : decode b_M_depends 2 = .ok (.invokevirtual 160, 3) := by decide +kernel
theorem d_M_depends_5 : decode b_M_depends 5 = .ok (.ifCond .eq 32, 3) := by decide +kernel
theorem d_M_depends_8 : decode b_M_depends 8 = .ok (.aload_n 0, 1) := by decide +kernel
theorem d_M_depends_9 : decode b_M_depends 9 = .ok (.iload_n 2, 1) := by decide +kernel
theorem d_M_depends_10 : decode b_M_depends 10 = .ok (.invokevirtual 160, 3) := by decide +kernel
theorem d_M_depends_13 : decode b_M_depends 13 = .ok (.ifCond .eq 24, 3) := by decide +kernel
theorem d_M_depends_16 : decode b_M_depends 16 = .ok (.iload_n 1, 1) := by decide +kernel
theorem d_M_depends_17 : decode b_M_depends 17 = .ok (.iload_n 2, 1) := by decide +kernel
theorem d_M_depends_18 : decode b_M_depends 18 = .ok (.if_icmp .eq 19, 3) := by decide +kernel
theorem d_M_depends_21 : decode b_M_depends 21 = .ok (.aload_n 0, 1) := by decide +kernel
theorem d_M_depends_22 : decode b_M_depends 22 = .ok (.iload_n 1, 1) := by decide +kernel
theorem d_M_depends_23 : decode b_M_depends 23 = .ok (.invokevirtual 174, 3) := by decide +kernel
theorem d_M_depends_26 : decode b_M_depends 26 = .ok (.ifCond .eq 11, 3) := by decide +kernel
theorem d_M_depends_29 : decode b_M_depends 29 = .ok (.aload_n 0, 1) := by decide +kernel
theorem d_M_depends_30 : decode b_M_depends 30 = .ok (.iload_n 2, 1) := by decide +kernel
theorem d_M_depends_31 : decode b_M_depends 31 = .ok (.invokevirtual 174, 3) := by decide +kernel
theorem d_M_depends_34 : decode b_M_depends 34 = .ok (.ifCond .ne 5, 3) := by decide +kernel
theorem d_M_depends_37 : decode b_M_depends 37 = .ok (.iconst (-1), 1) := by decide +kernel
theorem d_M_depends_38 : decode b_M_depends 38 = .ok (.ireturn, 1) := by decide +kernel
theorem d_M_depends_39 : decode b_M_depends 39 = .ok (.aload_n 0, 1) := by decide +kernel
theorem d_M_depends_40 : decode b_M_depends 40 = .ok (.iload_n 1, 1) := by decide +kernel
theorem d_M_depends_41 : decode b_M_depends 41 = .ok (.iload_n 2, 1) := by decide +kernel
theorem d_M_depends_42 : decode b_M_depends 42 = .ok (.invokevirtual 180, 3) := by decide +kernel
theorem d_M_depends_45 : decode b_M_depends 45 = .ok (.ifCond .eq 7, 3) := by decide +kernel
theorem d_M_depends_48 : decode b_M_depends 48 = .ok (.iconst 1, 1) := by decide +kernel
theorem d_M_depends_49 : decode b_M_depends 49 = .ok (.goto 4, 3) := by decide +kernel
theorem d_M_depends_52 : decode b_M_depends 52 = .ok (.iconst 0, 1) := by decide +kernel
theorem d_M_depends_53 : decode b_M_depends 53 = .ok (.ireturn, 1) := by decide +kernel
theorem d_M_fits_0 : decode b_M_fits 0 = .ok (.aload_n 0, 1) := by decide +kernel
theorem d_M_fits_1 : decode b_M_fits 1 = .ok (.iload_n 1, 1) := by decide +kernel
theorem d_M_fits_2 : decode b_M_fits 2 = .ok (.iconst 3, 1) := by decide +kernel
theorem d_M_fits_3 : decode b_M_fits 3 = .ok (.invokevirtual 164, 3) := by decide +kernel
theorem d_M_fits_6 : decode b_M_fits 6 = .ok (.ifCond .eq 31, 3) := by decide +kernel
theorem d_M_fits_9 : decode b_M_fits 9 = .ok (.aload_n 0, 1) := by decide +kernel
theorem d_M_fits_10 : decode b_M_fits 10 = .ok (.getfield 9, 3) := by decide +kernel
theorem d_M_fits_13 : decode b_M_fits 13 = .ok (.iload_n 1, 1) := by decide +kernel
theorem d_M_fits_14 : decode b_M_fits 14 = .ok (.iaload, 1) := by decide +kernel
theorem d_M_fits_15 : decode b_M_fits 15 = .ok (.iconst 5, 1) := by decide +kernel
theorem d_M_fits_16 : decode b_M_fits 16 = .ok (.bipush 8, 2) := by decide +kernel
theorem d_M_fits_18 : decode b_M_fits 18 = .ok (.invokestatic 73, 3) := by decide +kernel
theorem d_M_fits_21 : decode b_M_fits 21 = .ok (.ifCond .eq 16, 3) := by decide +kernel
theorem d_M_fits_24 : decode b_M_fits 24 = .ok (.aload_n 0, 1) := by decide +kernel
theorem d_M_fits_25 : decode b_M_fits 25 = .ok (.getfield 16, 3) := by decide +kernel
theorem d_M_fits_28 : decode b_M_fits 28 = .ok (.iload_n 1, 1) := by decide +kernel
theorem d_M_fits_29 : decode b_M_fits 29 = .ok (.iaload, 1) := by decide +kernel
theorem d_M_fits_30 : decode b_M_fits 30 = .ok (.aload_n 0, 1) := by decide +kernel
theorem d_M_fits_31 : decode b_M_fits 31 = .ok (.getfield 202, 3) := by decide +kernel
theorem d_M_fits_34 : decode b_M_fits 34 = .ok (.if_icmp .eq 5, 3) := by decide +kernel
theorem d_M_fits_37 : decode b_M_fits 37 = .ok (.iconst 0, 1) := by decide +kernel
theorem d_M_fits_38 : decode b_M_fits 38 = .ok (.ireturn, 1) := by decide +kernel
theorem d_M_fits_39 : decode b_M_fits 39 = .ok (.aload_n 0, 1) := by decide +kernel
theorem d_M_fits_40 : decode b_M_fits 40 = .ok (.getfield 9, 3) := by decide +kernel
theorem d_M_fits_43 : decode b_M_fits 43 = .ok (.iload_n 1, 1) := by decide +kernel
theorem d_M_fits_44 : decode b_M_fits 44 = .ok (.iaload, 1) := by decide +kernel
theorem d_M_fits_45 : decode b_M_fits 45 = .ok (.iconst 5, 1) := by decide +kernel
theorem d_M_fits_46 : decode b_M_fits 46 = .ok (.if_icmp .eq 27, 3) := by decide +kernel
theorem d_M_fits_49 : decode b_M_fits 49 = .ok (.aload_n 0, 1) := by decide +kernel
theorem d_M_fits_50 : decode b_M_fits 50 = .ok (.getfield 9, 3) := by decide +kernel
theorem d_M_fits_53 : decode b_M_fits 53 = .ok (.iload_n 1, 1) := by decide +kernel
theorem d_M_fits_54 : decode b_M_fits 54 = .ok (.iaload, 1) := by decide +kernel
theorem d_M_fits_55 : decode b_M_fits 55 = .ok (.bipush 8, 2) := by decide +kernel
theorem d_M_fits_57 : decode b_M_fits 57 = .ok (.if_icmp .eq 16, 3) := by decide +kernel
theorem d_M_fits_60 : decode b_M_fits 60 = .ok (.aload_n 0, 1) := by decide +kernel
theorem d_M_fits_61 : decode b_M_fits 61 = .ok (.getfield 13, 3) := by decide +kernel
theorem d_M_fits_64 : decode b_M_fits 64 = .ok (.iload_n 1, 1) := by decide +kernel
theorem d_M_fits_65 : decode b_M_fits 65 = .ok (.iaload, 1) := by decide +kernel
theorem d_M_fits_66 : decode b_M_fits 66 = .ok (.aload_n 0, 1) := by decide +kernel
theorem d_M_fits_67 : decode b_M_fits 67 = .ok (.getfield 205, 3) := by decide +kernel
theorem d_M_fits_70 : decode b_M_fits 70 = .ok (.if_icmp .ne 7, 3) := by decide +kernel
theorem d_M_fits_73 : decode b_M_fits 73 = .ok (.iconst 1, 1) := by decide +kernel
theorem d_M_fits_74 : decode b_M_fits 74 = .ok (.goto 4, 3) := by decide +kernel
theorem d_M_fits_77 : decode b_M_fits 77 = .ok (.iconst 0, 1) := by decide +kernel
theorem d_M_fits_78 : decode b_M_fits 78 = .ok (.ireturn, 1) := by decide +kernel
theorem d_M_wasUsed_0 : decode b_M_wasUsed 0 = .ok (.iconst 0, 1) := by decide +kernel
theorem d_M_wasUsed_1 : decode b_M_wasUsed 1 = .ok (.istore_n 2, 1) := by decide +kernel
theorem d_M_wasUsed_2 : decode b_M_wasUsed 2 = .ok (.iload_n 2, 1) := by decide +kernel
theorem d_M_wasUsed_3 : decode b_M_wasUsed 3 = .ok (.aload_n 0, 1) := by decide +kernel
theorem d_M_wasUsed_4 : decode b_M_wasUsed 4 = .ok (.getfield 208, 3) := by decide +kernel
theorem d_M_wasUsed_7 : decode b_M_wasUsed 7 = .ok (.if_icmp .ge 21, 3) := by decide +kernel
theorem d_M_wasUsed_10 : decode b_M_wasUsed 10 = .ok (.aload_n 0, 1) := by decide +kernel
theorem d_M_wasUsed_11 : decode b_M_wasUsed 11 = .ok (.getfield 49, 3) := by decide +kernel
theorem d_M_wasUsed_14 : decode b_M_wasUsed 14 = .ok (.iload_n 2, 1) := by decide +kernel
theorem d_M_wasUsed_15 : decode b_M_wasUsed 15 = .ok (.iaload, 1) := by decide +kernel
theorem d_M_wasUsed_16 : decode b_M_wasUsed 16 = .ok (.iload_n 1, 1) := by decide +kernel
theorem d_M_wasUsed_17 : decode b_M_wasUsed 17 = .ok (.if_icmp .ne 5, 3) := by decide +kernel
theorem d_M_wasUsed_20 : decode b_M_wasUsed 20 = .ok (.iconst 1, 1) := by decide +kernel
theorem d_M_wasUsed_21 : decode b_M_wasUsed 21 = .ok (.ireturn, 1) := by decide +kernel
theorem d_M_wasUsed_22 : decode b_M_wasUsed 22 = .ok (.iinc 2 1, 3) := by decide +kernel
theorem d_M_wasUsed_25 : decode b_M_wasUsed 25 = .ok (.goto (-23), 3) := by decide +kernel
theorem d_M_wasUsed_28 : decode b_M_wasUsed 28 = .ok (.iconst 0, 1) := by decide +kernel
theorem d_M_wasUsed_29 : decode b_M_wasUsed 29 = .ok (.ireturn, 1) := by decide +kernel
theorem d_M_nextReplacer_0 : decode b_M_nextReplacer 0 = .ok (.iconst (-1), 1) := by decide +kernel
theorem d_M_nextReplacer_1 : decode b_M_nextReplacer 1 = .ok (.istore_n 1, 1) := by decide +kernel
theorem d_M_nextReplacer_2 : decode b_M_nextReplacer 2 = .ok (.iconst 0, 1) := by decide +kernel
theorem d_M_nextReplacer_3 : decode b_M_nextReplacer 3 = .ok (.istore_n 2, 1) := by decide +kernel
theorem d_M_nextReplacer_4 : decode b_M_nextReplacer 4 = .ok (.iload_n 2, 1) := by decide +kernel
theorem d_M_nextReplacer_5 : decode b_M_nextReplacer 5 = .ok (.aload_n 0, 1) := by decide +kernel
theorem d_M_nextReplacer_6 : decode b_M_nextReplacer 6 = .ok (.getfield 70, 3) := by decide +kernel
theorem d_M_nextReplacer_9 : decode b_M_nextReplacer 9 = .ok (.if_icmp .ge 52, 3) := by decide +kernel
theorem d_M_nextReplacer_12 : decode b_M_nextReplacer 12 = .ok (.aload_n 0, 1) := by decide +kernel
theorem d_M_nextReplacer_13 : decode b_M_nextReplacer 13 = .ok (.iload_n 2, 1) := by decide +kernel
theorem d_M_nextReplacer_14 : decode b_M_nextReplacer 14 = .ok (.invokevirtual 211, 3) := by decide +kernel
theorem d_M_nextReplacer_17 : decode b_M_nextReplacer 17 = .ok (.ifCond .eq 38, 3) := by decide +kernel
theorem d_M_nextReplacer_20 : decode b_M_nextReplacer 20 = .ok (.aload_n 0, 1) := by decide +kernel
theorem d_M_nextReplacer_21 : decode b_M_nextReplacer 21 = .ok (.iload_n 2, 1) := by decide +kernel
theorem d_M_nextReplacer_22 : decode b_M_nextReplacer 22 = .ok (.invokevirtual 214, 3) := by decide +kernel
theorem d_M_nextReplacer_25 : decode b_M_nextReplacer 25 = .ok (.ifCond .ne 30, 3) := by decide +kernel
theorem d_M_nextReplacer_28 : decode b_M_nextReplacer 28 = .ok (.iload_n 1, 1) := by decide +kernel
theorem d_M_nextReplacer_29 : decode b_M_nextReplacer 29 = .ok (.ifCond .lt 24, 3) := by decide +kernel
theorem d_M_nextReplacer_32 : decode b_M_nextReplacer 32 = .ok (.aload_n 0, 1) := by decide +kernel
theorem d_M_nextReplacer_33 : decode b_M_nextReplacer 33 = .ok (.getfield 25, 3) := by decide +kernel
theorem d_M_nextReplacer_36 : decode b_M_nextReplacer 36 = .ok (.bipush 95, 2) := by decide +kernel
theorem d_M_nextReplacer_38 : decode b_M_nextReplacer 38 = .ok (.iload_n 2, 1) := by decide +kernel
theorem d_M_nextReplacer_39 : decode b_M_nextReplacer 39 = .ok (.iadd, 1) := by decide +kernel
theorem d_M_nextReplacer_40 : decode b_M_nextReplacer 40 = .ok (.iaload, 1) := by decide +kernel
theorem d_M_nextReplacer_41 : decode b_M_nextReplacer 41 = .ok (.aload_n 0, 1) := by decide +kernel
theorem d_M_nextReplacer_42 : decode b_M_nextReplacer 42 = .ok (.getfield 25, 3) := by decide +kernel
theorem d_M_nextReplacer_45 : decode b_M_nextReplacer 45 = .ok (.bipush 95, 2) := by decide +kernel
theorem d_M_nextReplacer_47 : decode b_M_nextReplacer 47 = .ok (.iload_n 1, 1) := by decide +kernel
theorem d_M_nextReplacer_48 : decode b_M_nextReplacer 48 = .ok (.iadd, 1) := by decide +kernel
theorem d_M_nextReplacer_49 : decode b_M_nextReplacer 49 = .ok (.iaload, 1) := by decide +kernel
theorem d_M_nextReplacer_50 : decode b_M_nextReplacer 50 = .ok (.if_icmp .ge 5, 3) := by decide +kernel
theorem d_M_nextReplacer_53 : decode b_M_nextReplacer 53 = .ok (.iload_n 2, 1) := by decide +kernel
theorem d_M_nextReplacer_54 : decode b_M_nextReplacer 54 = .ok (.istore_n 1, 1) := by decide +kernel
theorem d_M_nextReplacer_55 : decode b_M_nextReplacer 55 = .ok (.iinc 2 1, 3) := by decide +kernel
theorem d_M_nextReplacer_58 : decode b_M_nextReplacer 58 = .ok (.goto (-54), 3) := by decide +kernel
theorem d_M_nextReplacer_61 : decode b_M_nextReplacer 61 = .ok (.iload_n 1, 1) := by decide +kernel
theorem d_M_nextReplacer_62 : decode b_M_nextReplacer 62 = .ok (.ireturn, 1) := by decide +kernel
theorem d_M_replaced_0 : decode b_M_replaced 0 = .ok (.aload_n 0, 1) := by decide +kernel
theorem d_M_replaced_1 : decode b_M_replaced 1 = .ok (.iload_n 1, 1) := by decide +kernel
theorem d_M_replaced_2 : decode b_M_replaced 2 = .ok (.putfield 202, 3) := by decide +kernel
theorem d_M_replaced_5 : decode b_M_replaced 5 = .ok (.aload_n 0, 1) := by decide +kernel
theorem d_M_replaced_6 : decode b_M_replaced 6 = .ok (.iload_n 2, 1) := by decide +kernel
theorem d_M_replaced_7 : decode b_M_replaced 7 = .ok (.putfield 205, 3) := by decide +kernel
theorem d_M_replaced_10 : decode b_M_replaced 10 = .ok (.aload_n 0, 1) := by decide +kernel
theorem d_M_replaced_11 : decode b_M_replaced 11 = .ok (.iload_n 3, 1) := by decide +kernel
theorem d_M_replaced_12 : decode b_M_replaced 12 = .ok (.iconst 0, 1) := by decide +kernel
theorem d_M_replaced_13 : decode b_M_replaced 13 = .ok (.bipush 99, 2) := by decide +kernel
theorem d_M_replaced_15 : decode b_M_replaced 15 = .ok (.invokestatic 186, 3) := by decide +kernel
theorem d_M_replaced_18 : decode b_M_replaced 18 = .ok (.putfield 217, 3) := by decide +kernel
theorem d_M_replaced_21 : decode b_M_replaced 21 = .ok (.aload_n 0, 1) := by decide +kernel
theorem d_M_replaced_22 : decode b_M_replaced 22 = .ok (.iconst 0, 1) := by decide +kernel
theorem d_M_replaced_23 : decode b_M_replaced 23 = .ok (.putfield 208, 3) := by decide +kernel
theorem d_M_replaced_26 : decode b_M_replaced 26 = .ok (.aload_n 0, 1) := by decide +kernel
theorem d_M_replaced_27 : decode b_M_replaced 27 = .ok (.invokevirtual 220, 3) := by decide +kernel
theorem d_M_replaced_30 : decode b_M_replaced 30 = .ok (.istore 4, 2) := by decide +kernel
theorem d_M_replaced_32 : decode b_M_replaced 32 = .ok (.iload 4, 2) := by decide +kernel
theorem d_M_replaced_34 : decode b_M_replaced 34 = .ok (.ifCond .lt 135, 3) := by decide +kernel
theorem d_M_replaced_37 : decode b_M_replaced 37 = .ok (.aload_n 0, 1) := by decide +kernel
theorem d_M_replaced_38 : decode b_M_replaced 38 = .ok (.getfield 49, 3) := by decide +kernel
theorem d_M_replaced_41 : decode b_M_replaced 41 = .ok (.aload_n 0, 1) := by decide +kernel
theorem d_M_replaced_42 : decode b_M_replaced 42 = .ok (.dup, 1) := by decide +kernel
theorem d_M_replaced_43 : decode b_M_replaced 43 = .ok (.getfield 208, 3) := by decide +kernel
theorem d_M_replaced_46 : decode b_M_replaced 46 = .ok (.dup_x1, 1) := by decide +kernel
theorem d_M_replaced_47 : decode b_M_replaced 47 = .ok (.iconst 1, 1) := by decide +kernel
theorem d_M_replaced_48 : decode b_M_replaced 48 = .ok (.iadd, 1) := by decide +kernel
theorem d_M_replaced_49 : decode b_M_replaced 49 = .ok (.putfield 208, 3) := by decide +kernel
theorem d_M_replaced_52 : decode b_M_replaced 52 = .ok (.iload 4, 2) := by decide +kernel
theorem d_M_replaced_54 : decode b_M_replaced 54 = .ok (.iastore, 1) := by decide +kernel
theorem d_M_replaced_55 : decode b_M_replaced 55 = .ok (.aload_n 0, 1) := by decide +kernel
theorem d_M_replaced_56 : decode b_M_replaced 56 = .ok (.getfield 9, 3) := by decide +kernel
theorem d_M_replaced_59 : decode b_M_replaced 59 = .ok (.iload 4, 2) := by decide +kernel
theorem d_M_replaced_61 : decode b_M_replaced 61 = .ok (.iaload, 1) := by decide +kernel
theorem d_M_replaced_62 : decode b_M_replaced 62 = .ok (.iconst 5, 1) := by decide +kernel
theorem d_M_replaced_63 : decode b_M_replaced 63 = .ok (.if_icmp .ne 22, 3) := by decide +kernel
theorem d_M_replaced_66 : decode b_M_replaced 66 = .ok (.aload_n 0, 1) := by decide +kernel
theorem d_M_replaced_67 : decode b_M_replaced 67 = .ok (.iconst 2, 1) := by decide +kernel
theorem d_M_replaced_68 : decode b_M_replaced 68 = .ok (.aload_n 0, 1) := by decide +kernel
theorem d_M_replaced_69 : decode b_M_replaced 69 = .ok (.getfield 217, 3) := by decide +kernel
theorem d_M_replaced_72 : decode b_M_replaced 72 = .ok (.imul, 1) := by decide +kernel
theorem d_M_replaced_73 : decode b_M_replaced 73 = .ok (.iconst 0, 1) := by decide +kernel
theorem d_M_replaced_74 : decode b_M_replaced 74 = .ok (.bipush 99, 2) := by decide +kernel
theorem d_M_replaced_76 : decode b_M_replaced 76 = .ok (.invokestatic 186, 3) := by decide +kernel
theorem d_M_replaced_79 : decode b_M_replaced 79 = .ok (.putfield 217, 3) := by decide +kernel
theorem d_M_replaced_82 : decode b_M_replaced 82 = .ok (.goto 78, 3) := by decide +kernel
theorem d_M_replaced_85 : decode b_M_replaced 85 = .ok (.aload_n 0, 1) := by decide +kernel
theorem d_M_replaced_86 : decode b_M_replaced 86 = .ok (.getfield 9, 3) := by decide +kernel
theorem d_M_replaced_89 : decode b_M_replaced 89 = .ok (.iload 4, 2) := by decide +kernel
theorem d_M_replaced_91 : decode b_M_replaced 91 = .ok (.iaload, 1) := by decide +kernel
theorem d_M_replaced_92 : decode b_M_replaced 92 = .ok (.bipush 6, 2) := by decide +kernel
theorem d_M_replaced_94 : decode b_M_replaced 94 = .ok (.if_icmp .ne 16, 3) := by decide +kernel
theorem d_M_replaced_97 : decode b_M_replaced 97 = .ok (.aload_n 0, 1) := by decide +kernel
theorem d_M_replaced_98 : decode b_M_replaced 98 = .ok (.iconst 1, 1) := by decide +kernel
theorem d_M_replaced_99 : decode b_M_replaced 99 = .ok (.aload_n 0, 1) := by decide +kernel
theorem d_M_replaced_100 : decode b_M_replaced 100 = .ok (.getfield 205, 3) := by decide +kernel
theorem d_M_replaced_103 : decode b_M_replaced 103 = .ok (.isub, 1) := by decide +kernel
theorem d_M_replaced_104 : decode b_M_replaced 104 = .ok (.putfield 205, 3) := by decide +kernel
theorem d_M_replaced_107 : decode b_M_replaced 107 = .ok (.goto 53, 3) := by decide +kernel
theorem d_M_replaced_110 : decode b_M_replaced 110 = .ok (.aload_n 0, 1) := by decide +kernel
theorem d_M_replaced_111 : decode b_M_replaced 111 = .ok (.getfield 9, 3) := by decide +kernel
theorem d_M_replaced_114 : decode b_M_replaced 114 = .ok (.iload 4, 2) := by decide +kernel
theorem d_M_replaced_116 : decode b_M_replaced 116 = .ok (.iaload, 1) := by decide +kernel
theorem d_M_replaced_117 : decode b_M_replaced 117 = .ok (.bipush 7, 2) := by decide +kernel
theorem d_M_replaced_119 : decode b_M_replaced 119 = .ok (.if_icmp .ne 28, 3) := by decide +kernel
theorem d_M_replaced_122 : decode b_M_replaced 122 = .ok (.aload_n 0, 1) := by decide +kernel
theorem d_M_replaced_123 : decode b_M_replaced 123 = .ok (.aload_n 0, 1) := by decide +kernel
theorem d_M_replaced_124 : decode b_M_replaced 124 = .ok (.getfield 217, 3) := by decide +kernel
theorem d_M_replaced_127 : decode b_M_replaced 127 = .ok (.aload_n 0, 1) := by decide +kernel
theorem d_M_replaced_128 : decode b_M_replaced 128 = .ok (.getfield 22, 3) := by decide +kernel
theorem d_M_replaced_131 : decode b_M_replaced 131 = .ok (.iload 4, 2) := by decide +kernel
theorem d_M_replaced_133 : decode b_M_replaced 133 = .ok (.iaload, 1) := by decide +kernel
theorem d_M_replaced_134 : decode b_M_replaced 134 = .ok (.isub, 1) := by decide +kernel
theorem d_M_replaced_135 : decode b_M_replaced 135 = .ok (.iconst 0, 1) := by decide +kernel
theorem d_M_replaced_136 : decode b_M_replaced 136 = .ok (.bipush 99, 2) := by decide +kernel
theorem d_M_replaced_138 : decode b_M_replaced 138 = .ok (.invokestatic 186, 3) := by decide +kernel
theorem d_M_replaced_141 : decode b_M_replaced 141 = .ok (.putfield 217, 3) := by decide +kernel
theorem d_M_replaced_144 : decode b_M_replaced 144 = .ok (.goto 16, 3) := by decide +kernel
theorem d_M_replaced_147 : decode b_M_replaced 147 = .ok (.aload_n 0, 1) := by decide +kernel
theorem d_M_replaced_148 : decode b_M_replaced 148 = .ok (.aload_n 0, 1) := by decide +kernel
theorem d_M_replaced_149 : decode b_M_replaced 149 = .ok (.getfield 19, 3) := by decide +kernel
theorem d_M_replaced_152 : decode b_M_replaced 152 = .ok (.iload 4, 2) := by decide +kernel
theorem d_M_replaced_154 : decode b_M_replaced 154 = .ok (.iaload, 1) := by decide +kernel
theorem d_M_replaced_155 : decode b_M_replaced 155 = .ok (.iconst 3, 1) := by decide +kernel
theorem d_M_replaced_156 : decode b_M_replaced 156 = .ok (.irem, 1) := by decide +kernel
theorem d_M_replaced_157 : decode b_M_replaced 157 = .ok (.putfield 202, 3) := by decide +kernel
theorem d_M_replaced_160 : decode b_M_replaced 160 = .ok (.aload_n 0, 1) := by decide +kernel
theorem d_M_replaced_161 : decode b_M_replaced 161 = .ok (.invokevirtual 220, 3) := by decide +kernel
theorem d_M_replaced_164 : decode b_M_replaced 164 = .ok (.istore 4, 2) := by decide +kernel
theorem d_M_replaced_166 : decode b_M_replaced 166 = .ok (.goto (-134), 3) := by decide +kernel
theorem d_M_replaced_169 : decode b_M_replaced 169 = .ok (.return_, 1) := by decide +kernel
theorem d_M_draw_0 : decode b_M_draw 0 = .ok (.aload_n 0, 1) := by decide +kernel
theorem d_M_draw_1 : decode b_M_draw 1 = .ok (.getfield 25, 3) := by decide +kernel
theorem d_M_draw_4 : decode b_M_draw 4 = .ok (.iconst 3, 1) := by decide +kernel
theorem d_M_draw_5 : decode b_M_draw 5 = .ok (.aload_n 0, 1) := by decide +kernel
theorem d_M_draw_6 : decode b_M_draw 6 = .ok (.getfield 25, 3) := by decide +kernel
theorem d_M_draw_9 : decode b_M_draw 9 = .ok (.iconst 3, 1) := by decide +kernel
theorem d_M_draw_10 : decode b_M_draw 10 = .ok (.iaload, 1) := by decide +kernel
theorem d_M_draw_11 : decode b_M_draw 11 = .ok (.ldc 223, 2) := by decide +kernel
theorem d_M_draw_13 : decode b_M_draw 13 = .ok (.imul, 1) := by decide +kernel
theorem d_M_draw_14 : decode b_M_draw 14 = .ok (.sipush 12345, 3) := by decide +kernel
theorem d_M_draw_17 : decode b_M_draw 17 = .ok (.iadd, 1) := by decide +kernel
theorem d_M_draw_18 : decode b_M_draw 18 = .ok (.iastore, 1) := by decide +kernel
theorem d_M_draw_19 : decode b_M_draw 19 = .ok (.aload_n 0, 1) := by decide +kernel
theorem d_M_draw_20 : decode b_M_draw 20 = .ok (.getfield 25, 3) := by decide +kernel
theorem d_M_draw_23 : decode b_M_draw 23 = .ok (.iconst 3, 1) := by decide +kernel
theorem d_M_draw_24 : decode b_M_draw 24 = .ok (.iaload, 1) := by decide +kernel
theorem d_M_draw_25 : decode b_M_draw 25 = .ok (.bipush 16, 2) := by decide +kernel
theorem d_M_draw_27 : decode b_M_draw 27 = .ok (.iushr, 1) := by decide +kernel
theorem d_M_draw_28 : decode b_M_draw 28 = .ok (.iload_n 1, 1) := by decide +kernel
theorem d_M_draw_29 : decode b_M_draw 29 = .ok (.irem, 1) := by decide +kernel
theorem d_M_draw_30 : decode b_M_draw 30 = .ok (.ireturn, 1) := by decide +kernel
theorem d_M_drawOne_0 : decode b_M_drawOne 0 = .ok (.aload_n 0, 1) := by decide +kernel
theorem d_M_drawOne_1 : decode b_M_drawOne 1 = .ok (.aload_n 0, 1) := by decide +kernel
theorem d_M_drawOne_2 : decode b_M_drawOne 2 = .ok (.getfield 205, 3) := by decide +kernel
theorem d_M_drawOne_5 : decode b_M_drawOne 5 = .ok (.iconst 0, 1) := by decide +kernel
theorem d_M_drawOne_6 : decode b_M_drawOne 6 = .ok (.invokevirtual 168, 3) := by decide +kernel
theorem d_M_drawOne_9 : decode b_M_drawOne 9 = .ok (.istore_n 1, 1) := by decide +kernel
theorem d_M_drawOne_10 : decode b_M_drawOne 10 = .ok (.iload_n 1, 1) := by decide +kernel
theorem d_M_drawOne_11 : decode b_M_drawOne 11 = .ok (.ifCond .ne 35, 3) := by decide +kernel
theorem d_M_drawOne_14 : decode b_M_drawOne 14 = .ok (.aload_n 0, 1) := by decide +kernel
theorem d_M_drawOne_15 : decode b_M_drawOne 15 = .ok (.getfield 25, 3) := by decide +kernel
theorem d_M_drawOne_18 : decode b_M_drawOne 18 = .ok (.iconst 0, 1) := by decide +kernel
theorem d_M_drawOne_19 : decode b_M_drawOne 19 = .ok (.aload_n 0, 1) := by decide +kernel
theorem d_M_drawOne_20 : decode b_M_drawOne 20 = .ok (.getfield 205, 3) := by decide +kernel
theorem d_M_drawOne_23 : decode b_M_drawOne 23 = .ok (.iadd, 1) := by decide +kernel
theorem d_M_drawOne_24 : decode b_M_drawOne 24 = .ok (.aload_n 0, 1) := by decide +kernel
theorem d_M_drawOne_25 : decode b_M_drawOne 25 = .ok (.getfield 25, 3) := by decide +kernel
theorem d_M_drawOne_28 : decode b_M_drawOne 28 = .ok (.iconst 0, 1) := by decide +kernel
theorem d_M_drawOne_29 : decode b_M_drawOne 29 = .ok (.aload_n 0, 1) := by decide +kernel
theorem d_M_drawOne_30 : decode b_M_drawOne 30 = .ok (.getfield 205, 3) := by decide +kernel
theorem d_M_drawOne_33 : decode b_M_drawOne 33 = .ok (.iadd, 1) := by decide +kernel
theorem d_M_drawOne_34 : decode b_M_drawOne 34 = .ok (.iaload, 1) := by decide +kernel
theorem d_M_drawOne_35 : decode b_M_drawOne 35 = .ok (.iconst 1, 1) := by decide +kernel
theorem d_M_drawOne_36 : decode b_M_drawOne 36 = .ok (.isub, 1) := by decide +kernel
theorem d_M_drawOne_37 : decode b_M_drawOne 37 = .ok (.bipush (-99), 2) := by decide +kernel
theorem d_M_drawOne_39 : decode b_M_drawOne 39 = .ok (.bipush 99, 2) := by decide +kernel
theorem d_M_drawOne_41 : decode b_M_drawOne 41 = .ok (.invokestatic 186, 3) := by decide +kernel
theorem d_M_drawOne_44 : decode b_M_drawOne 44 = .ok (.iastore, 1) := by decide +kernel
theorem d_M_drawOne_45 : decode b_M_drawOne 45 = .ok (.return_, 1) := by decide +kernel
theorem d_M_drawOne_46 : decode b_M_drawOne 46 = .ok (.aload_n 0, 1) := by decide +kernel
theorem d_M_drawOne_47 : decode b_M_drawOne 47 = .ok (.iload_n 1, 1) := by decide +kernel
theorem d_M_drawOne_48 : decode b_M_drawOne 48 = .ok (.invokevirtual 224, 3) := by decide +kernel
theorem d_M_drawOne_51 : decode b_M_drawOne 51 = .ok (.istore_n 2, 1) := by decide +kernel
theorem d_M_drawOne_52 : decode b_M_drawOne 52 = .ok (.iconst 0, 1) := by decide +kernel
theorem d_M_drawOne_53 : decode b_M_drawOne 53 = .ok (.istore_n 3, 1) := by decide +kernel
theorem d_M_drawOne_54 : decode b_M_drawOne 54 = .ok (.iload_n 3, 1) := by decide +kernel
theorem d_M_drawOne_55 : decode b_M_drawOne 55 = .ok (.aload_n 0, 1) := by decide +kernel
theorem d_M_drawOne_56 : decode b_M_drawOne 56 = .ok (.getfield 70, 3) := by decide +kernel
theorem d_M_drawOne_59 : decode b_M_drawOne 59 = .ok (.if_icmp .ge 48, 3) := by decide +kernel
theorem d_M_drawOne_62 : decode b_M_drawOne 62 = .ok (.aload_n 0, 1) := by decide +kernel
theorem d_M_drawOne_63 : decode b_M_drawOne 63 = .ok (.getfield 13, 3) := by decide +kernel
theorem d_M_drawOne_66 : decode b_M_drawOne 66 = .ok (.iload_n 3, 1) := by decide +kernel
theorem d_M_drawOne_67 : decode b_M_drawOne 67 = .ok (.iaload, 1) := by decide +kernel
theorem d_M_drawOne_68 : decode b_M_drawOne 68 = .ok (.aload_n 0, 1) := by decide +kernel
theorem d_M_drawOne_69 : decode b_M_drawOne 69 = .ok (.getfield 205, 3) := by decide +kernel
theorem d_M_drawOne_72 : decode b_M_drawOne 72 = .ok (.if_icmp .ne 29, 3) := by decide +kernel
theorem d_M_drawOne_75 : decode b_M_drawOne 75 = .ok (.aload_n 0, 1) := by decide +kernel
theorem d_M_drawOne_76 : decode b_M_drawOne 76 = .ok (.iload_n 3, 1) := by decide +kernel
theorem d_M_drawOne_77 : decode b_M_drawOne 77 = .ok (.iconst 0, 1) := by decide +kernel
theorem d_M_drawOne_78 : decode b_M_drawOne 78 = .ok (.invokevirtual 164, 3) := by decide +kernel
theorem d_M_drawOne_81 : decode b_M_drawOne 81 = .ok (.ifCond .eq 20, 3) := by decide +kernel
theorem d_M_drawOne_84 : decode b_M_drawOne 84 = .ok (.iload_n 2, 1) := by decide +kernel
theorem d_M_drawOne_85 : decode b_M_drawOne 85 = .ok (.ifCond .ne 13, 3) := by decide +kernel
theorem d_M_drawOne_88 : decode b_M_drawOne 88 = .ok (.aload_n 0, 1) := by decide +kernel
theorem d_M_drawOne_89 : decode b_M_drawOne 89 = .ok (.getfield 25, 3) := by decide +kernel
theorem d_M_drawOne_92 : decode b_M_drawOne 92 = .ok (.bipush 71, 2) := by decide +kernel
theorem d_M_drawOne_94 : decode b_M_drawOne 94 = .ok (.iload_n 3, 1) := by decide +kernel
theorem d_M_drawOne_95 : decode b_M_drawOne 95 = .ok (.iadd, 1) := by decide +kernel
theorem d_M_drawOne_96 : decode b_M_drawOne 96 = .ok (.iconst 1, 1) := by decide +kernel
theorem d_M_drawOne_97 : decode b_M_drawOne 97 = .ok (.iastore, 1) := by decide +kernel
theorem d_M_drawOne_98 : decode b_M_drawOne 98 = .ok (.iinc 2 (-1), 3) := by decide +kernel
theorem d_M_drawOne_101 : decode b_M_drawOne 101 = .ok (.iinc 3 1, 3) := by decide +kernel
theorem d_M_drawOne_104 : decode b_M_drawOne 104 = .ok (.goto (-50), 3) := by decide +kernel
theorem d_M_drawOne_107 : decode b_M_drawOne 107 = .ok (.return_, 1) := by decide +kernel
theorem d_M_push_0 : decode b_M_push 0 = .ok (.aload_n 0, 1) := by decide +kernel
theorem d_M_push_1 : decode b_M_push 1 = .ok (.getfield 25, 3) := by decide +kernel
theorem d_M_push_4 : decode b_M_push 4 = .ok (.bipush 6, 2) := by decide +kernel
theorem d_M_push_6 : decode b_M_push 6 = .ok (.iaload, 1) := by decide +kernel
theorem d_M_push_7 : decode b_M_push 7 = .ok (.bipush 64, 2) := by decide +kernel
theorem d_M_push_9 : decode b_M_push 9 = .ok (.if_icmp .ge 30, 3) := by decide +kernel
theorem d_M_push_12 : decode b_M_push 12 = .ok (.aload_n 0, 1) := by decide +kernel
theorem d_M_push_13 : decode b_M_push 13 = .ok (.getfield 25, 3) := by decide +kernel
theorem d_M_push_16 : decode b_M_push 16 = .ok (.bipush 7, 2) := by decide +kernel
theorem d_M_push_18 : decode b_M_push 18 = .ok (.aload_n 0, 1) := by decide +kernel
theorem d_M_push_19 : decode b_M_push 19 = .ok (.getfield 25, 3) := by decide +kernel
theorem d_M_push_22 : decode b_M_push 22 = .ok (.bipush 6, 2) := by decide +kernel
theorem d_M_push_24 : decode b_M_push 24 = .ok (.iaload, 1) := by decide +kernel
theorem d_M_push_25 : decode b_M_push 25 = .ok (.iadd, 1) := by decide +kernel
theorem d_M_push_26 : decode b_M_push 26 = .ok (.iload_n 1, 1) := by decide +kernel
theorem d_M_push_27 : decode b_M_push 27 = .ok (.iastore, 1) := by decide +kernel
theorem d_M_push_28 : decode b_M_push 28 = .ok (.aload_n 0, 1) := by decide +kernel
theorem d_M_push_29 : decode b_M_push 29 = .ok (.getfield 25, 3) := by decide +kernel
theorem d_M_push_32 : decode b_M_push 32 = .ok (.bipush 6, 2) := by decide +kernel
theorem d_M_push_34 : decode b_M_push 34 = .ok (.dup2, 1) := by decide +kernel
theorem d_M_push_35 : decode b_M_push 35 = .ok (.iaload, 1) := by decide +kernel
theorem d_M_push_36 : decode b_M_push 36 = .ok (.iconst 1, 1) := by decide +kernel
theorem d_M_push_37 : decode b_M_push 37 = .ok (.iadd, 1) := by decide +kernel
theorem d_M_push_38 : decode b_M_push 38 = .ok (.iastore, 1) := by decide +kernel
theorem d_M_push_39 : decode b_M_push 39 = .ok (.return_, 1) := by decide +kernel
theorem d_M_echoes_0 : decode b_M_echoes 0 = .ok (.iconst (-1), 1) := by decide +kernel
theorem d_M_echoes_1 : decode b_M_echoes 1 = .ok (.istore_n 1, 1) := by decide +kernel
theorem d_M_echoes_2 : decode b_M_echoes 2 = .ok (.iconst 1, 1) := by decide +kernel
theorem d_M_echoes_3 : decode b_M_echoes 3 = .ok (.istore_n 2, 1) := by decide +kernel
theorem d_M_echoes_4 : decode b_M_echoes 4 = .ok (.iload_n 2, 1) := by decide +kernel
theorem d_M_echoes_5 : decode b_M_echoes 5 = .ok (.ifCond .eq 198, 3) := by decide +kernel
theorem d_M_echoes_8 : decode b_M_echoes 8 = .ok (.iconst (-1), 1) := by decide +kernel
theorem d_M_echoes_9 : decode b_M_echoes 9 = .ok (.istore_n 3, 1) := by decide +kernel
theorem d_M_echoes_10 : decode b_M_echoes 10 = .ok (.iconst 0, 1) := by decide +kernel
theorem d_M_echoes_11 : decode b_M_echoes 11 = .ok (.istore 4, 2) := by decide +kernel
theorem d_M_echoes_13 : decode b_M_echoes 13 = .ok (.iload 4, 2) := by decide +kernel
theorem d_M_echoes_15 : decode b_M_echoes 15 = .ok (.aload_n 0, 1) := by decide +kernel
theorem d_M_echoes_16 : decode b_M_echoes 16 = .ok (.getfield 70, 3) := by decide +kernel
theorem d_M_echoes_19 : decode b_M_echoes 19 = .ok (.if_icmp .ge 88, 3) := by decide +kernel
theorem d_M_echoes_22 : decode b_M_echoes 22 = .ok (.aload_n 0, 1) := by decide +kernel
theorem d_M_echoes_23 : decode b_M_echoes 23 = .ok (.iload 4, 2) := by decide +kernel
theorem d_M_echoes_25 : decode b_M_echoes 25 = .ok (.iconst 3, 1) := by decide +kernel
theorem d_M_echoes_26 : decode b_M_echoes 26 = .ok (.invokevirtual 164, 3) := by decide +kernel
theorem d_M_echoes_29 : decode b_M_echoes 29 = .ok (.ifCond .eq 72, 3) := by decide +kernel
theorem d_M_echoes_32 : decode b_M_echoes 32 = .ok (.aload_n 0, 1) := by decide +kernel
theorem d_M_echoes_33 : decode b_M_echoes 33 = .ok (.getfield 9, 3) := by decide +kernel
theorem d_M_echoes_36 : decode b_M_echoes 36 = .ok (.iload 4, 2) := by decide +kernel
theorem d_M_echoes_38 : decode b_M_echoes 38 = .ok (.iaload, 1) := by decide +kernel
theorem d_M_echoes_39 : decode b_M_echoes 39 = .ok (.bipush 14, 2) := by decide +kernel
theorem d_M_echoes_41 : decode b_M_echoes 41 = .ok (.if_icmp .ne 60, 3) := by decide +kernel
theorem d_M_echoes_44 : decode b_M_echoes 44 = .ok (.aload_n 0, 1) := by decide +kernel
theorem d_M_echoes_45 : decode b_M_echoes 45 = .ok (.getfield 16, 3) := by decide +kernel
theorem d_M_echoes_48 : decode b_M_echoes 48 = .ok (.iload 4, 2) := by decide +kernel
theorem d_M_echoes_50 : decode b_M_echoes 50 = .ok (.iaload, 1) := by decide +kernel
theorem d_M_echoes_51 : decode b_M_echoes 51 = .ok (.aload_n 0, 1) := by decide +kernel
theorem d_M_echoes_52 : decode b_M_echoes 52 = .ok (.getfield 202, 3) := by decide +kernel
theorem d_M_echoes_55 : decode b_M_echoes 55 = .ok (.if_icmp .ne 46, 3) := by decide +kernel
theorem d_M_echoes_58 : decode b_M_echoes 58 = .ok (.aload_n 0, 1) := by decide +kernel
theorem d_M_echoes_59 : decode b_M_echoes 59 = .ok (.getfield 25, 3) := by decide +kernel
theorem d_M_echoes_62 : decode b_M_echoes 62 = .ok (.bipush 95, 2) := by decide +kernel
theorem d_M_echoes_64 : decode b_M_echoes 64 = .ok (.iload 4, 2) := by decide +kernel
theorem d_M_echoes_66 : decode b_M_echoes 66 = .ok (.iadd, 1) := by decide +kernel
theorem d_M_echoes_67 : decode b_M_echoes 67 = .ok (.iaload, 1) := by decide +kernel
theorem d_M_echoes_68 : decode b_M_echoes 68 = .ok (.iload_n 1, 1) := by decide +kernel
theorem d_M_echoes_69 : decode b_M_echoes 69 = .ok (.if_icmp .le 32, 3) := by decide +kernel
theorem d_M_echoes_72 : decode b_M_echoes 72 = .ok (.iload_n 3, 1) := by decide +kernel
theorem d_M_echoes_73 : decode b_M_echoes 73 = .ok (.ifCond .lt 25, 3) := by decide +kernel
theorem d_M_echoes_76 : decode b_M_echoes 76 = .ok (.aload_n 0, 1) := by decide +kernel
theorem d_M_echoes_77 : decode b_M_echoes 77 = .ok (.getfield 25, 3) := by decide +kernel
theorem d_M_echoes_80 : decode b_M_echoes 80 = .ok (.bipush 95, 2) := by decide +kernel
theorem d_M_echoes_82 : decode b_M_echoes 82 = .ok (.iload 4, 2) := by decide +kernel
theorem d_M_echoes_84 : decode b_M_echoes 84 = .ok (.iadd, 1) := by decide +kernel
theorem d_M_echoes_85 : decode b_M_echoes 85 = .ok (.iaload, 1) := by decide +kernel
theorem d_M_echoes_86 : decode b_M_echoes 86 = .ok (.aload_n 0, 1) := by decide +kernel
theorem d_M_echoes_87 : decode b_M_echoes 87 = .ok (.getfield 25, 3) := by decide +kernel
theorem d_M_echoes_90 : decode b_M_echoes 90 = .ok (.bipush 95, 2) := by decide +kernel
theorem d_M_echoes_92 : decode b_M_echoes 92 = .ok (.iload_n 3, 1) := by decide +kernel
theorem d_M_echoes_93 : decode b_M_echoes 93 = .ok (.iadd, 1) := by decide +kernel
theorem d_M_echoes_94 : decode b_M_echoes 94 = .ok (.iaload, 1) := by decide +kernel
theorem d_M_echoes_95 : decode b_M_echoes 95 = .ok (.if_icmp .ge 6, 3) := by decide +kernel
theorem d_M_echoes_98 : decode b_M_echoes 98 = .ok (.iload 4, 2) := by decide +kernel
theorem d_M_echoes_100 : decode b_M_echoes 100 = .ok (.istore_n 3, 1) := by decide +kernel
theorem d_M_echoes_101 : decode b_M_echoes 101 = .ok (.iinc 4 1, 3) := by decide +kernel
theorem d_M_echoes_104 : decode b_M_echoes 104 = .ok (.goto (-91), 3) := by decide +kernel
theorem d_M_echoes_107 : decode b_M_echoes 107 = .ok (.iload_n 3, 1) := by decide +kernel
theorem d_M_echoes_108 : decode b_M_echoes 108 = .ok (.ifCond .lt 7, 3) := by decide +kernel
theorem d_M_echoes_111 : decode b_M_echoes 111 = .ok (.iconst 1, 1) := by decide +kernel
theorem d_M_echoes_112 : decode b_M_echoes 112 = .ok (.goto 4, 3) := by decide +kernel
theorem d_M_echoes_115 : decode b_M_echoes 115 = .ok (.iconst 0, 1) := by decide +kernel
theorem d_M_echoes_116 : decode b_M_echoes 116 = .ok (.istore_n 2, 1) := by decide +kernel
theorem d_M_echoes_117 : decode b_M_echoes 117 = .ok (.iload_n 2, 1) := by decide +kernel
theorem d_M_echoes_118 : decode b_M_echoes 118 = .ok (.ifCond .eq 82, 3) := by decide +kernel
theorem d_M_echoes_121 : decode b_M_echoes 121 = .ok (.aload_n 0, 1) := by decide +kernel
theorem d_M_echoes_122 : decode b_M_echoes 122 = .ok (.getfield 25, 3) := by decide +kernel
theorem d_M_echoes_125 : decode b_M_echoes 125 = .ok (.bipush 95, 2) := by decide +kernel
theorem d_M_echoes_127 : decode b_M_echoes 127 = .ok (.iload_n 3, 1) := by decide +kernel
theorem d_M_echoes_128 : decode b_M_echoes 128 = .ok (.iadd, 1) := by decide +kernel
theorem d_M_echoes_129 : decode b_M_echoes 129 = .ok (.iaload, 1) := by decide +kernel
theorem d_M_echoes_130 : decode b_M_echoes 130 = .ok (.istore_n 1, 1) := by decide +kernel
theorem d_M_echoes_131 : decode b_M_echoes 131 = .ok (.aload_n 0, 1) := by decide +kernel
theorem d_M_echoes_132 : decode b_M_echoes 132 = .ok (.getfield 22, 3) := by decide +kernel
theorem d_M_echoes_135 : decode b_M_echoes 135 = .ok (.iload_n 3, 1) := by decide +kernel
theorem d_M_echoes_136 : decode b_M_echoes 136 = .ok (.iaload, 1) := by decide +kernel
theorem d_M_echoes_137 : decode b_M_echoes 137 = .ok (.iconst 2, 1) := by decide +kernel
theorem d_M_echoes_138 : decode b_M_echoes 138 = .ok (.irem, 1) := by decide +kernel
theorem d_M_echoes_139 : decode b_M_echoes 139 = .ok (.ifCond .eq 12, 3) := by decide +kernel
theorem d_M_echoes_142 : decode b_M_echoes 142 = .ok (.aload_n 0, 1) := by decide +kernel
theorem d_M_echoes_143 : decode b_M_echoes 143 = .ok (.getfield 13, 3) := by decide +kernel
theorem d_M_echoes_146 : decode b_M_echoes 146 = .ok (.iload_n 3, 1) := by decide +kernel
theorem d_M_echoes_147 : decode b_M_echoes 147 = .ok (.iaload, 1) := by decide +kernel
theorem d_M_echoes_148 : decode b_M_echoes 148 = .ok (.goto 11, 3) := by decide +kernel
theorem d_M_echoes_151 : decode b_M_echoes 151 = .ok (.iconst 1, 1) := by decide +kernel
theorem d_M_echoes_152 : decode b_M_echoes 152 = .ok (.aload_n 0, 1) := by decide +kernel
theorem d_M_echoes_153 : decode b_M_echoes 153 = .ok (.getfield 13, 3) := by decide +kernel
theorem d_M_echoes_156 : decode b_M_echoes 156 = .ok (.iload_n 3, 1) := by decide +kernel
theorem d_M_echoes_157 : decode b_M_echoes 157 = .ok (.iaload, 1) := by decide +kernel
theorem d_M_echoes_158 : decode b_M_echoes 158 = .ok (.isub, 1) := by decide +kernel
theorem d_M_echoes_159 : decode b_M_echoes 159 = .ok (.istore 4, 2) := by decide +kernel
theorem d_M_echoes_161 : decode b_M_echoes 161 = .ok (.aload_n 0, 1) := by decide +kernel
theorem d_M_echoes_162 : decode b_M_echoes 162 = .ok (.sipush 10000, 3) := by decide +kernel
theorem d_M_echoes_165 : decode b_M_echoes 165 = .ok (.sipush 1000, 3) := by decide +kernel
theorem d_M_echoes_168 : decode b_M_echoes 168 = .ok (.aload_n 0, 1) := by decide +kernel
theorem d_M_echoes_169 : decode b_M_echoes 169 = .ok (.getfield 19, 3) := by decide +kernel
theorem d_M_echoes_172 : decode b_M_echoes 172 = .ok (.iload_n 3, 1) := by decide +kernel
theorem d_M_echoes_173 : decode b_M_echoes 173 = .ok (.iaload, 1) := by decide +kernel
theorem d_M_echoes_174 : decode b_M_echoes 174 = .ok (.iconst 3, 1) := by decide +kernel
theorem d_M_echoes_175 : decode b_M_echoes 175 = .ok (.irem, 1) := by decide +kernel
theorem d_M_echoes_176 : decode b_M_echoes 176 = .ok (.imul, 1) := by decide +kernel
theorem d_M_echoes_177 : decode b_M_echoes 177 = .ok (.iadd, 1) := by decide +kernel
theorem d_M_echoes_178 : decode b_M_echoes 178 = .ok (.bipush 100, 2) := by decide +kernel
theorem d_M_echoes_180 : decode b_M_echoes 180 = .ok (.iload 4, 2) := by decide +kernel
theorem d_M_echoes_182 : decode b_M_echoes 182 = .ok (.imul, 1) := by decide +kernel
theorem d_M_echoes_183 : decode b_M_echoes 183 = .ok (.iadd, 1) := by decide +kernel
theorem d_M_echoes_184 : decode b_M_echoes 184 = .ok (.aload_n 0, 1) := by decide +kernel
theorem d_M_echoes_185 : decode b_M_echoes 185 = .ok (.getfield 22, 3) := by decide +kernel
theorem d_M_echoes_188 : decode b_M_echoes 188 = .ok (.iload_n 3, 1) := by decide +kernel
theorem d_M_echoes_189 : decode b_M_echoes 189 = .ok (.iaload, 1) := by decide +kernel
theorem d_M_echoes_190 : decode b_M_echoes 190 = .ok (.iconst 0, 1) := by decide +kernel
theorem d_M_echoes_191 : decode b_M_echoes 191 = .ok (.bipush 99, 2) := by decide +kernel
theorem d_M_echoes_193 : decode b_M_echoes 193 = .ok (.invokestatic 186, 3) := by decide +kernel
theorem d_M_echoes_196 : decode b_M_echoes 196 = .ok (.iadd, 1) := by decide +kernel
theorem d_M_echoes_197 : decode b_M_echoes 197 = .ok (.invokevirtual 227, 3) := by decide +kernel
theorem d_M_echoes_200 : decode b_M_echoes 200 = .ok (.goto (-196), 3) := by decide +kernel
theorem d_M_echoes_203 : decode b_M_echoes 203 = .ok (.return_, 1) := by decide +kernel
theorem d_M_event_0 : decode b_M_event 0 = .ok (.aload_n 0, 1) := by decide +kernel
theorem d_M_event_1 : decode b_M_event 1 = .ok (.iload_n 1, 1) := by decide +kernel
theorem d_M_event_2 : decode b_M_event 2 = .ok (.iload_n 2, 1) := by decide +kernel
theorem d_M_event_3 : decode b_M_event 3 = .ok (.iload_n 3, 1) := by decide +kernel
theorem d_M_event_4 : decode b_M_event 4 = .ok (.invokevirtual 230, 3) := by decide +kernel
theorem d_M_event_7 : decode b_M_event 7 = .ok (.aload_n 0, 1) := by decide +kernel
theorem d_M_event_8 : decode b_M_event 8 = .ok (.getfield 234, 3) := by decide +kernel
theorem d_M_event_11 : decode b_M_event 11 = .ok (.ifCond .eq 49, 3) := by decide +kernel
theorem d_M_event_14 : decode b_M_event 14 = .ok (.aload_n 0, 1) := by decide +kernel
theorem d_M_event_15 : decode b_M_event 15 = .ok (.getfield 238, 3) := by decide +kernel
theorem d_M_event_18 : decode b_M_event 18 = .ok (.bipush 40, 2) := by decide +kernel
theorem d_M_event_20 : decode b_M_event 20 = .ok (.if_icmp .ge 40, 3) := by decide +kernel
theorem d_M_event_23 : decode b_M_event 23 = .ok (.aload_n 0, 1) := by decide +kernel
theorem d_M_event_24 : decode b_M_event 24 = .ok (.getfield 67, 3) := by decide +kernel
theorem d_M_event_27 : decode b_M_event 27 = .ok (.aload_n 0, 1) := by decide +kernel
theorem d_M_event_28 : decode b_M_event 28 = .ok (.dup, 1) := by decide +kernel
theorem d_M_event_29 : decode b_M_event 29 = .ok (.getfield 238, 3) := by decide +kernel
theorem d_M_event_32 : decode b_M_event 32 = .ok (.dup_x1, 1) := by decide +kernel
theorem d_M_event_33 : decode b_M_event 33 = .ok (.iconst 1, 1) := by decide +kernel
theorem d_M_event_34 : decode b_M_event 34 = .ok (.iadd, 1) := by decide +kernel
theorem d_M_event_35 : decode b_M_event 35 = .ok (.putfield 238, 3) := by decide +kernel
theorem d_M_event_38 : decode b_M_event 38 = .ok (.sipush 1000, 3) := by decide +kernel
theorem d_M_event_41 : decode b_M_event 41 = .ok (.aload_n 0, 1) := by decide +kernel
theorem d_M_event_42 : decode b_M_event 42 = .ok (.getfield 202, 3) := by decide +kernel
theorem d_M_event_45 : decode b_M_event 45 = .ok (.imul, 1) := by decide +kernel
theorem d_M_event_46 : decode b_M_event 46 = .ok (.bipush 100, 2) := by decide +kernel
theorem d_M_event_48 : decode b_M_event 48 = .ok (.aload_n 0, 1) := by decide +kernel
theorem d_M_event_49 : decode b_M_event 49 = .ok (.getfield 205, 3) := by decide +kernel
theorem d_M_event_52 : decode b_M_event 52 = .ok (.imul, 1) := by decide +kernel
theorem d_M_event_53 : decode b_M_event 53 = .ok (.iadd, 1) := by decide +kernel
theorem d_M_event_54 : decode b_M_event 54 = .ok (.aload_n 0, 1) := by decide +kernel
theorem d_M_event_55 : decode b_M_event 55 = .ok (.getfield 217, 3) := by decide +kernel
theorem d_M_event_58 : decode b_M_event 58 = .ok (.iadd, 1) := by decide +kernel
theorem d_M_event_59 : decode b_M_event 59 = .ok (.iastore, 1) := by decide +kernel
theorem d_M_event_60 : decode b_M_event 60 = .ok (.aload_n 0, 1) := by decide +kernel
theorem d_M_event_61 : decode b_M_event 61 = .ok (.getfield 202, 3) := by decide +kernel
theorem d_M_event_64 : decode b_M_event 64 = .ok (.iconst 1, 1) := by decide +kernel
theorem d_M_event_65 : decode b_M_event 65 = .ok (.if_icmp .ne 40, 3) := by decide +kernel
theorem d_M_event_68 : decode b_M_event 68 = .ok (.aload_n 0, 1) := by decide +kernel
theorem d_M_event_69 : decode b_M_event 69 = .ok (.getfield 25, 3) := by decide +kernel
theorem d_M_event_72 : decode b_M_event 72 = .ok (.iconst 0, 1) := by decide +kernel
theorem d_M_event_73 : decode b_M_event 73 = .ok (.aload_n 0, 1) := by decide +kernel
theorem d_M_event_74 : decode b_M_event 74 = .ok (.getfield 205, 3) := by decide +kernel
theorem d_M_event_77 : decode b_M_event 77 = .ok (.iadd, 1) := by decide +kernel
theorem d_M_event_78 : decode b_M_event 78 = .ok (.aload_n 0, 1) := by decide +kernel
theorem d_M_event_79 : decode b_M_event 79 = .ok (.getfield 25, 3) := by decide +kernel
theorem d_M_event_82 : decode b_M_event 82 = .ok (.iconst 0, 1) := by decide +kernel
theorem d_M_event_83 : decode b_M_event 83 = .ok (.aload_n 0, 1) := by decide +kernel
theorem d_M_event_84 : decode b_M_event 84 = .ok (.getfield 205, 3) := by decide +kernel
theorem d_M_event_87 : decode b_M_event 87 = .ok (.iadd, 1) := by decide +kernel
theorem d_M_event_88 : decode b_M_event 88 = .ok (.iaload, 1) := by decide +kernel
theorem d_M_event_89 : decode b_M_event 89 = .ok (.aload_n 0, 1) := by decide +kernel
theorem d_M_event_90 : decode b_M_event 90 = .ok (.getfield 217, 3) := by decide +kernel
theorem d_M_event_93 : decode b_M_event 93 = .ok (.isub, 1) := by decide +kernel
theorem d_M_event_94 : decode b_M_event 94 = .ok (.bipush (-99), 2) := by decide +kernel
theorem d_M_event_96 : decode b_M_event 96 = .ok (.bipush 99, 2) := by decide +kernel
theorem d_M_event_98 : decode b_M_event 98 = .ok (.invokestatic 186, 3) := by decide +kernel
theorem d_M_event_101 : decode b_M_event 101 = .ok (.iastore, 1) := by decide +kernel
theorem d_M_event_102 : decode b_M_event 102 = .ok (.goto 70, 3) := by decide +kernel
theorem d_M_event_105 : decode b_M_event 105 = .ok (.aload_n 0, 1) := by decide +kernel
theorem d_M_event_106 : decode b_M_event 106 = .ok (.getfield 202, 3) := by decide +kernel
theorem d_M_event_109 : decode b_M_event 109 = .ok (.iconst 2, 1) := by decide +kernel
theorem d_M_event_110 : decode b_M_event 110 = .ok (.if_icmp .ne 40, 3) := by decide +kernel
theorem d_M_event_113 : decode b_M_event 113 = .ok (.aload_n 0, 1) := by decide +kernel
theorem d_M_event_114 : decode b_M_event 114 = .ok (.getfield 25, 3) := by decide +kernel
theorem d_M_event_117 : decode b_M_event 117 = .ok (.iconst 0, 1) := by decide +kernel
theorem d_M_event_118 : decode b_M_event 118 = .ok (.aload_n 0, 1) := by decide +kernel
theorem d_M_event_119 : decode b_M_event 119 = .ok (.getfield 205, 3) := by decide +kernel
theorem d_M_event_122 : decode b_M_event 122 = .ok (.iadd, 1) := by decide +kernel
theorem d_M_event_123 : decode b_M_event 123 = .ok (.aload_n 0, 1) := by decide +kernel
theorem d_M_event_124 : decode b_M_event 124 = .ok (.getfield 25, 3) := by decide +kernel
theorem d_M_event_127 : decode b_M_event 127 = .ok (.iconst 0, 1) := by decide +kernel
theorem d_M_event_128 : decode b_M_event 128 = .ok (.aload_n 0, 1) := by decide +kernel
theorem d_M_event_129 : decode b_M_event 129 = .ok (.getfield 205, 3) := by decide +kernel
theorem d_M_event_132 : decode b_M_event 132 = .ok (.iadd, 1) := by decide +kernel
theorem d_M_event_133 : decode b_M_event 133 = .ok (.iaload, 1) := by decide +kernel
theorem d_M_event_134 : decode b_M_event 134 = .ok (.aload_n 0, 1) := by decide +kernel
theorem d_M_event_135 : decode b_M_event 135 = .ok (.getfield 217, 3) := by decide +kernel
theorem d_M_event_138 : decode b_M_event 138 = .ok (.iadd, 1) := by decide +kernel
theorem d_M_event_139 : decode b_M_event 139 = .ok (.bipush (-99), 2) := by decide +kernel
theorem d_M_event_141 : decode b_M_event 141 = .ok (.bipush 99, 2) := by decide +kernel
theorem d_M_event_143 : decode b_M_event 143 = .ok (.invokestatic 186, 3) := by decide +kernel
theorem d_M_event_146 : decode b_M_event 146 = .ok (.iastore, 1) := by decide +kernel
theorem d_M_event_147 : decode b_M_event 147 = .ok (.goto 25, 3) := by decide +kernel
theorem d_M_event_150 : decode b_M_event 150 = .ok (.iconst 0, 1) := by decide +kernel
theorem d_M_event_151 : decode b_M_event 151 = .ok (.istore 4, 2) := by decide +kernel
theorem d_M_event_153 : decode b_M_event 153 = .ok (.iload 4, 2) := by decide +kernel
theorem d_M_event_155 : decode b_M_event 155 = .ok (.aload_n 0, 1) := by decide +kernel
theorem d_M_event_156 : decode b_M_event 156 = .ok (.getfield 217, 3) := by decide +kernel
theorem d_M_event_159 : decode b_M_event 159 = .ok (.if_icmp .ge 13, 3) := by decide +kernel
theorem d_M_event_162 : decode b_M_event 162 = .ok (.aload_n 0, 1) := by decide +kernel
theorem d_M_event_163 : decode b_M_event 163 = .ok (.invokevirtual 241, 3) := by decide +kernel
theorem d_M_event_166 : decode b_M_event 166 = .ok (.iinc 4 1, 3) := by decide +kernel
theorem d_M_event_169 : decode b_M_event 169 = .ok (.goto (-16), 3) := by decide +kernel
theorem d_M_event_172 : decode b_M_event 172 = .ok (.aload_n 0, 1) := by decide +kernel
theorem d_M_event_173 : decode b_M_event 173 = .ok (.getfield 217, 3) := by decide +kernel
theorem d_M_event_176 : decode b_M_event 176 = .ok (.ifCond .le 7, 3) := by decide +kernel
theorem d_M_event_179 : decode b_M_event 179 = .ok (.aload_n 0, 1) := by decide +kernel
theorem d_M_event_180 : decode b_M_event 180 = .ok (.invokevirtual 244, 3) := by decide +kernel
theorem d_M_event_183 : decode b_M_event 183 = .ok (.return_, 1) := by decide +kernel
theorem d_M_used_0 : decode b_M_used 0 = .ok (.iload_n 1, 1) := by decide +kernel
theorem d_M_used_1 : decode b_M_used 1 = .ok (.iconst 0, 1) := by decide +kernel
theorem d_M_used_2 : decode b_M_used 2 = .ok (.sipush 2199, 3) := by decide +kernel
theorem d_M_used_5 : decode b_M_used 5 = .ok (.invokestatic 73, 3) := by decide +kernel
theorem d_M_used_8 : decode b_M_used 8 = .ok (.ifCond .eq 20, 3) := by decide +kernel
theorem d_M_used_11 : decode b_M_used 11 = .ok (.iload_n 1, 1) := by decide +kernel
theorem d_M_used_12 : decode b_M_used 12 = .ok (.bipush 100, 2) := by decide +kernel
theorem d_M_used_14 : decode b_M_used 14 = .ok (.idiv, 1) := by decide +kernel
theorem d_M_used_15 : decode b_M_used 15 = .ok (.bipush 10, 2) := by decide +kernel
theorem d_M_used_17 : decode b_M_used 17 = .ok (.irem, 1) := by decide +kernel
theorem d_M_used_18 : decode b_M_used 18 = .ok (.iconst 1, 1) := by decide +kernel
theorem d_M_used_19 : decode b_M_used 19 = .ok (.if_icmp .gt 9, 3) := by decide +kernel
theorem d_M_used_22 : decode b_M_used 22 = .ok (.iload_n 2, 1) := by decide +kernel
theorem d_M_used_23 : decode b_M_used 23 = .ok (.bipush (-2), 2) := by decide +kernel
theorem d_M_used_25 : decode b_M_used 25 = .ok (.if_icmp .ge 5, 3) := by decide +kernel
theorem d_M_used_28 : decode b_M_used 28 = .ok (.iconst (-1), 1) := by decide +kernel
theorem d_M_used_29 : decode b_M_used 29 = .ok (.ireturn, 1) := by decide +kernel
theorem d_M_used_30 : decode b_M_used 30 = .ok (.aload_n 0, 1) := by decide +kernel
theorem d_M_used_31 : decode b_M_used 31 = .ok (.iload_n 1, 1) := by decide +kernel
theorem d_M_used_32 : decode b_M_used 32 = .ok (.sipush 1000, 3) := by decide +kernel
theorem d_M_used_35 : decode b_M_used 35 = .ok (.idiv, 1) := by decide +kernel
theorem d_M_used_36 : decode b_M_used 36 = .ok (.iload_n 1, 1) := by decide +kernel
theorem d_M_used_37 : decode b_M_used 37 = .ok (.bipush 100, 2) := by decide +kernel
theorem d_M_used_39 : decode b_M_used 39 = .ok (.idiv, 1) := by decide +kernel
theorem d_M_used_40 : decode b_M_used 40 = .ok (.bipush 10, 2) := by decide +kernel
theorem d_M_used_42 : decode b_M_used 42 = .ok (.irem, 1) := by decide +kernel
theorem d_M_used_43 : decode b_M_used 43 = .ok (.iload_n 1, 1) := by decide +kernel
theorem d_M_used_44 : decode b_M_used 44 = .ok (.bipush 100, 2) := by decide +kernel
theorem d_M_used_46 : decode b_M_used 46 = .ok (.irem, 1) := by decide +kernel
theorem d_M_used_47 : decode b_M_used 47 = .ok (.invokevirtual 230, 3) := by decide +kernel
theorem d_M_used_50 : decode b_M_used 50 = .ok (.iload_n 2, 1) := by decide +kernel
theorem d_M_used_51 : decode b_M_used 51 = .ok (.iconst (-1), 1) := by decide +kernel
theorem d_M_used_52 : decode b_M_used 52 = .ok (.if_icmp .ne 25, 3) := by decide +kernel
theorem d_M_used_55 : decode b_M_used 55 = .ok (.sipush 1000, 3) := by decide +kernel
theorem d_M_used_58 : decode b_M_used 58 = .ok (.aload_n 0, 1) := by decide +kernel
theorem d_M_used_59 : decode b_M_used 59 = .ok (.getfield 202, 3) := by decide +kernel
theorem d_M_used_62 : decode b_M_used 62 = .ok (.imul, 1) := by decide +kernel
theorem d_M_used_63 : decode b_M_used 63 = .ok (.bipush 100, 2) := by decide +kernel
theorem d_M_used_65 : decode b_M_used 65 = .ok (.aload_n 0, 1) := by decide +kernel
theorem d_M_used_66 : decode b_M_used 66 = .ok (.getfield 205, 3) := by decide +kernel
theorem d_M_used_69 : decode b_M_used 69 = .ok (.imul, 1) := by decide +kernel
theorem d_M_used_70 : decode b_M_used 70 = .ok (.iadd, 1) := by decide +kernel
theorem d_M_used_71 : decode b_M_used 71 = .ok (.aload_n 0, 1) := by decide +kernel
theorem d_M_used_72 : decode b_M_used 72 = .ok (.getfield 217, 3) := by decide +kernel
theorem d_M_used_75 : decode b_M_used 75 = .ok (.iadd, 1) := by decide +kernel
theorem d_M_used_76 : decode b_M_used 76 = .ok (.ireturn, 1) := by decide +kernel
theorem d_M_used_77 : decode b_M_used 77 = .ok (.iload_n 2, 1) := by decide +kernel
theorem d_M_used_78 : decode b_M_used 78 = .ok (.bipush (-2), 2) := by decide +kernel
theorem d_M_used_80 : decode b_M_used 80 = .ok (.if_icmp .ne 10, 3) := by decide +kernel
theorem d_M_used_83 : decode b_M_used 83 = .ok (.aload_n 0, 1) := by decide +kernel
theorem d_M_used_84 : decode b_M_used 84 = .ok (.getfield 208, 3) := by decide +kernel
theorem d_M_used_87 : decode b_M_used 87 = .ok (.goto 22, 3) := by decide +kernel
theorem d_M_used_90 : decode b_M_used 90 = .ok (.iload_n 2, 1) := by decide +kernel
theorem d_M_used_91 : decode b_M_used 91 = .ok (.aload_n 0, 1) := by decide +kernel
theorem d_M_used_92 : decode b_M_used 92 = .ok (.getfield 208, 3) := by decide +kernel
theorem d_M_used_95 : decode b_M_used 95 = .ok (.if_icmp .ge 12, 3) := by decide +kernel
theorem d_M_used_98 : decode b_M_used 98 = .ok (.aload_n 0, 1) := by decide +kernel
theorem d_M_used_99 : decode b_M_used 99 = .ok (.getfield 49, 3) := by decide +kernel
theorem d_M_used_102 : decode b_M_used 102 = .ok (.iload_n 2, 1) := by decide +kernel
theorem d_M_used_103 : decode b_M_used 103 = .ok (.iaload, 1) := by decide +kernel
theorem d_M_used_104 : decode b_M_used 104 = .ok (.goto 5, 3) := by decide +kernel
theorem d_M_used_107 : decode b_M_used 107 = .ok (.bipush (-2), 2) := by decide +kernel
theorem d_M_used_109 : decode b_M_used 109 = .ok (.ireturn, 1) := by decide +kernel
theorem d_M_play_0 : decode b_M_play 0 = .ok (.aload_n 0, 1) := by decide +kernel
theorem d_M_play_1 : decode b_M_play 1 = .ok (.iload_n 1, 1) := by decide +kernel
theorem d_M_play_2 : decode b_M_play 2 = .ok (.invokevirtual 160, 3) := by decide +kernel
theorem d_M_play_5 : decode b_M_play 5 = .ok (.ifCond .ne 5, 3) := by decide +kernel
theorem d_M_play_8 : decode b_M_play 8 = .ok (.iconst (-1), 1) := by decide +kernel
theorem d_M_play_9 : decode b_M_play 9 = .ok (.ireturn, 1) := by decide +kernel
theorem d_M_play_10 : decode b_M_play 10 = .ok (.aload_n 0, 1) := by decide +kernel
theorem d_M_play_11 : decode b_M_play 11 = .ok (.iload_n 1, 1) := by decide +kernel
theorem d_M_play_12 : decode b_M_play 12 = .ok (.iconst 1, 1) := by decide +kernel
theorem d_M_play_13 : decode b_M_play 13 = .ok (.invokevirtual 164, 3) := by decide +kernel
theorem d_M_play_16 : decode b_M_play 16 = .ok (.ifCond .ne 6, 3) := by decide +kernel
theorem d_M_play_19 : decode b_M_play 19 = .ok (.bipush (-5), 2) := by decide +kernel
theorem d_M_play_21 : decode b_M_play 21 = .ok (.ireturn, 1) := by decide +kernel
theorem d_M_play_22 : decode b_M_play 22 = .ok (.aload_n 0, 1) := by decide +kernel
theorem d_M_play_23 : decode b_M_play 23 = .ok (.getfield 25, 3) := by decide +kernel
theorem d_M_play_26 : decode b_M_play 26 = .ok (.bipush 6, 2) := by decide +kernel
theorem d_M_play_28 : decode b_M_play 28 = .ok (.iaload, 1) := by decide +kernel
theorem d_M_play_29 : decode b_M_play 29 = .ok (.bipush 64, 2) := by decide +kernel
theorem d_M_play_31 : decode b_M_play 31 = .ok (.if_icmp .ne 6, 3) := by decide +kernel
theorem d_M_play_34 : decode b_M_play 34 = .ok (.bipush (-3), 2) := by decide +kernel
theorem d_M_play_36 : decode b_M_play 36 = .ok (.ireturn, 1) := by decide +kernel
theorem d_M_play_37 : decode b_M_play 37 = .ok (.aload_n 0, 1) := by decide +kernel
theorem d_M_play_38 : decode b_M_play 38 = .ok (.iload_n 1, 1) := by decide +kernel
theorem d_M_play_39 : decode b_M_play 39 = .ok (.invokevirtual 247, 3) := by decide +kernel
theorem d_M_play_42 : decode b_M_play 42 = .ok (.aload_n 0, 1) := by decide +kernel
theorem d_M_play_43 : decode b_M_play 43 = .ok (.getfield 25, 3) := by decide +kernel
theorem d_M_play_46 : decode b_M_play 46 = .ok (.bipush 6, 2) := by decide +kernel
theorem d_M_play_48 : decode b_M_play 48 = .ok (.iaload, 1) := by decide +kernel
theorem d_M_play_49 : decode b_M_play 49 = .ok (.ireturn, 1) := by decide +kernel
theorem d_M_playIt_0 : decode b_M_playIt 0 = .ok (.aload_n 0, 1) := by decide +kernel
theorem d_M_playIt_1 : decode b_M_playIt 1 = .ok (.getfield 25, 3) := by decide +kernel
theorem d_M_playIt_4 : decode b_M_playIt 4 = .ok (.bipush 71, 2) := by decide +kernel
theorem d_M_playIt_6 : decode b_M_playIt 6 = .ok (.iload_n 1, 1) := by decide +kernel
theorem d_M_playIt_7 : decode b_M_playIt 7 = .ok (.iadd, 1) := by decide +kernel
theorem d_M_playIt_8 : decode b_M_playIt 8 = .ok (.iconst 2, 1) := by decide +kernel
theorem d_M_playIt_9 : decode b_M_playIt 9 = .ok (.iastore, 1) := by decide +kernel
theorem d_M_playIt_10 : decode b_M_playIt 10 = .ok (.aload_n 0, 1) := by decide +kernel
theorem d_M_playIt_11 : decode b_M_playIt 11 = .ok (.iload_n 1, 1) := by decide +kernel
theorem d_M_playIt_12 : decode b_M_playIt 12 = .ok (.invokevirtual 227, 3) := by decide +kernel
theorem d_M_playIt_15 : decode b_M_playIt 15 = .ok (.return_, 1) := by decide +kernel
theorem d_M_pile_0 : decode b_M_pile 0 = .ok (.iload_n 1, 1) := by decide +kernel
theorem d_M_pile_1 : decode b_M_pile 1 = .ok (.ifCond .ge 5, 3) := by decide +kernel
theorem d_M_pile_4 : decode b_M_pile 4 = .ok (.iconst (-1), 1) := by decide +kernel
theorem d_M_pile_5 : decode b_M_pile 5 = .ok (.ireturn, 1) := by decide +kernel
theorem d_M_pile_6 : decode b_M_pile 6 = .ok (.iload_n 1, 1) := by decide +kernel
theorem d_M_pile_7 : decode b_M_pile 7 = .ok (.aload_n 0, 1) := by decide +kernel
theorem d_M_pile_8 : decode b_M_pile 8 = .ok (.getfield 25, 3) := by decide +kernel
theorem d_M_pile_11 : decode b_M_pile 11 = .ok (.bipush 6, 2) := by decide +kernel
theorem d_M_pile_13 : decode b_M_pile 13 = .ok (.iaload, 1) := by decide +kernel
theorem d_M_pile_14 : decode b_M_pile 14 = .ok (.if_icmp .ge 25, 3) := by decide +kernel
theorem d_M_pile_17 : decode b_M_pile 17 = .ok (.aload_n 0, 1) := by decide +kernel
theorem d_M_pile_18 : decode b_M_pile 18 = .ok (.getfield 25, 3) := by decide +kernel
theorem d_M_pile_21 : decode b_M_pile 21 = .ok (.bipush 7, 2) := by decide +kernel
theorem d_M_pile_23 : decode b_M_pile 23 = .ok (.aload_n 0, 1) := by decide +kernel
theorem d_M_pile_24 : decode b_M_pile 24 = .ok (.getfield 25, 3) := by decide +kernel
theorem d_M_pile_27 : decode b_M_pile 27 = .ok (.bipush 6, 2) := by decide +kernel
theorem d_M_pile_29 : decode b_M_pile 29 = .ok (.iaload, 1) := by decide +kernel
theorem d_M_pile_30 : decode b_M_pile 30 = .ok (.iadd, 1) := by decide +kernel
theorem d_M_pile_31 : decode b_M_pile 31 = .ok (.iconst 1, 1) := by decide +kernel
theorem d_M_pile_32 : decode b_M_pile 32 = .ok (.isub, 1) := by decide +kernel
theorem d_M_pile_33 : decode b_M_pile 33 = .ok (.iload_n 1, 1) := by decide +kernel
theorem d_M_pile_34 : decode b_M_pile 34 = .ok (.isub, 1) := by decide +kernel
theorem d_M_pile_35 : decode b_M_pile 35 = .ok (.iaload, 1) := by decide +kernel
theorem d_M_pile_36 : decode b_M_pile 36 = .ok (.goto 5, 3) := by decide +kernel
theorem d_M_pile_39 : decode b_M_pile 39 = .ok (.bipush (-2), 2) := by decide +kernel
theorem d_M_pile_41 : decode b_M_pile 41 = .ok (.ireturn, 1) := by decide +kernel
theorem d_M_stop_0 : decode b_M_stop 0 = .ok (.aload_n 0, 1) := by decide +kernel
theorem d_M_stop_1 : decode b_M_stop 1 = .ok (.getfield 25, 3) := by decide +kernel
theorem d_M_stop_4 : decode b_M_stop 4 = .ok (.bipush 6, 2) := by decide +kernel
theorem d_M_stop_6 : decode b_M_stop 6 = .ok (.iaload, 1) := by decide +kernel
theorem d_M_stop_7 : decode b_M_stop 7 = .ok (.ifCond .le 47, 3) := by decide +kernel
theorem d_M_stop_10 : decode b_M_stop 10 = .ok (.aload_n 0, 1) := by decide +kernel
theorem d_M_stop_11 : decode b_M_stop 11 = .ok (.getfield 25, 3) := by decide +kernel
theorem d_M_stop_14 : decode b_M_stop 14 = .ok (.bipush 6, 2) := by decide +kernel
theorem d_M_stop_16 : decode b_M_stop 16 = .ok (.dup2, 1) := by decide +kernel
theorem d_M_stop_17 : decode b_M_stop 17 = .ok (.iaload, 1) := by decide +kernel
theorem d_M_stop_18 : decode b_M_stop 18 = .ok (.iconst 1, 1) := by decide +kernel
theorem d_M_stop_19 : decode b_M_stop 19 = .ok (.isub, 1) := by decide +kernel
theorem d_M_stop_20 : decode b_M_stop 20 = .ok (.iastore, 1) := by decide +kernel
theorem d_M_stop_21 : decode b_M_stop 21 = .ok (.aload_n 0, 1) := by decide +kernel
theorem d_M_stop_22 : decode b_M_stop 22 = .ok (.getfield 25, 3) := by decide +kernel
theorem d_M_stop_25 : decode b_M_stop 25 = .ok (.bipush 7, 2) := by decide +kernel
theorem d_M_stop_27 : decode b_M_stop 27 = .ok (.aload_n 0, 1) := by decide +kernel
theorem d_M_stop_28 : decode b_M_stop 28 = .ok (.getfield 25, 3) := by decide +kernel
theorem d_M_stop_31 : decode b_M_stop 31 = .ok (.bipush 6, 2) := by decide +kernel
theorem d_M_stop_33 : decode b_M_stop 33 = .ok (.iaload, 1) := by decide +kernel
theorem d_M_stop_34 : decode b_M_stop 34 = .ok (.iadd, 1) := by decide +kernel
theorem d_M_stop_35 : decode b_M_stop 35 = .ok (.iaload, 1) := by decide +kernel
theorem d_M_stop_36 : decode b_M_stop 36 = .ok (.istore_n 1, 1) := by decide +kernel
theorem d_M_stop_37 : decode b_M_stop 37 = .ok (.iload_n 1, 1) := by decide +kernel
theorem d_M_stop_38 : decode b_M_stop 38 = .ok (.sipush 10000, 3) := by decide +kernel
theorem d_M_stop_41 : decode b_M_stop 41 = .ok (.if_icmp .ge 13, 3) := by decide +kernel
theorem d_M_stop_44 : decode b_M_stop 44 = .ok (.aload_n 0, 1) := by decide +kernel
theorem d_M_stop_45 : decode b_M_stop 45 = .ok (.getfield 25, 3) := by decide +kernel
theorem d_M_stop_48 : decode b_M_stop 48 = .ok (.bipush 71, 2) := by decide +kernel
theorem d_M_stop_50 : decode b_M_stop 50 = .ok (.iload_n 1, 1) := by decide +kernel
theorem d_M_stop_51 : decode b_M_stop 51 = .ok (.iadd, 1) := by decide +kernel
theorem d_M_stop_52 : decode b_M_stop 52 = .ok (.iconst 4, 1) := by decide +kernel
theorem d_M_stop_53 : decode b_M_stop 53 = .ok (.iastore, 1) := by decide +kernel
theorem d_M_stop_54 : decode b_M_stop 54 = .ok (.return_, 1) := by decide +kernel
theorem d_M_clear_0 : decode b_M_clear 0 = .ok (.iconst (-1), 1) := by decide +kernel
theorem d_M_clear_1 : decode b_M_clear 1 = .ok (.istore_n 2, 1) := by decide +kernel
theorem d_M_clear_2 : decode b_M_clear 2 = .ok (.iconst 0, 1) := by decide +kernel
theorem d_M_clear_3 : decode b_M_clear 3 = .ok (.istore_n 3, 1) := by decide +kernel
theorem d_M_clear_4 : decode b_M_clear 4 = .ok (.iload_n 3, 1) := by decide +kernel
theorem d_M_clear_5 : decode b_M_clear 5 = .ok (.aload_n 0, 1) := by decide +kernel
theorem d_M_clear_6 : decode b_M_clear 6 = .ok (.getfield 70, 3) := by decide +kernel
theorem d_M_clear_9 : decode b_M_clear 9 = .ok (.if_icmp .ge 55, 3) := by decide +kernel
theorem d_M_clear_12 : decode b_M_clear 12 = .ok (.aload_n 0, 1) := by decide +kernel
theorem d_M_clear_13 : decode b_M_clear 13 = .ok (.iload_n 3, 1) := by decide +kernel
theorem d_M_clear_14 : decode b_M_clear 14 = .ok (.iconst 3, 1) := by decide +kernel
theorem d_M_clear_15 : decode b_M_clear 15 = .ok (.invokevirtual 164, 3) := by decide +kernel
theorem d_M_clear_18 : decode b_M_clear 18 = .ok (.ifCond .eq 40, 3) := by decide +kernel
theorem d_M_clear_21 : decode b_M_clear 21 = .ok (.aload_n 0, 1) := by decide +kernel
theorem d_M_clear_22 : decode b_M_clear 22 = .ok (.getfield 13, 3) := by decide +kernel
theorem d_M_clear_25 : decode b_M_clear 25 = .ok (.iload_n 3, 1) := by decide +kernel
theorem d_M_clear_26 : decode b_M_clear 26 = .ok (.iaload, 1) := by decide +kernel
theorem d_M_clear_27 : decode b_M_clear 27 = .ok (.iload_n 1, 1) := by decide +kernel
theorem d_M_clear_28 : decode b_M_clear 28 = .ok (.if_icmp .eq 30, 3) := by decide +kernel
theorem d_M_clear_31 : decode b_M_clear 31 = .ok (.iload_n 2, 1) := by decide +kernel
theorem d_M_clear_32 : decode b_M_clear 32 = .ok (.ifCond .lt 24, 3) := by decide +kernel
theorem d_M_clear_35 : decode b_M_clear 35 = .ok (.aload_n 0, 1) := by decide +kernel
theorem d_M_clear_36 : decode b_M_clear 36 = .ok (.getfield 25, 3) := by decide +kernel
theorem d_M_clear_39 : decode b_M_clear 39 = .ok (.bipush 95, 2) := by decide +kernel
theorem d_M_clear_41 : decode b_M_clear 41 = .ok (.iload_n 3, 1) := by decide +kernel
theorem d_M_clear_42 : decode b_M_clear 42 = .ok (.iadd, 1) := by decide +kernel
theorem d_M_clear_43 : decode b_M_clear 43 = .ok (.iaload, 1) := by decide +kernel
theorem d_M_clear_44 : decode b_M_clear 44 = .ok (.aload_n 0, 1) := by decide +kernel
theorem d_M_clear_45 : decode b_M_clear 45 = .ok (.getfield 25, 3) := by decide +kernel
theorem d_M_clear_48 : decode b_M_clear 48 = .ok (.bipush 95, 2) := by decide +kernel
theorem d_M_clear_50 : decode b_M_clear 50 = .ok (.iload_n 2, 1) := by decide +kernel
theorem d_M_clear_51 : decode b_M_clear 51 = .ok (.iadd, 1) := by decide +kernel
theorem d_M_clear_52 : decode b_M_clear 52 = .ok (.iaload, 1) := by decide +kernel
theorem d_M_clear_53 : decode b_M_clear 53 = .ok (.if_icmp .le 5, 3) := by decide +kernel
theorem d_M_clear_56 : decode b_M_clear 56 = .ok (.iload_n 3, 1) := by decide +kernel
theorem d_M_clear_57 : decode b_M_clear 57 = .ok (.istore_n 2, 1) := by decide +kernel
theorem d_M_clear_58 : decode b_M_clear 58 = .ok (.iinc 3 1, 3) := by decide +kernel
theorem d_M_clear_61 : decode b_M_clear 61 = .ok (.goto (-57), 3) := by decide +kernel
theorem d_M_clear_64 : decode b_M_clear 64 = .ok (.iload_n 2, 1) := by decide +kernel
theorem d_M_clear_65 : decode b_M_clear 65 = .ok (.ifCond .lt 13, 3) := by decide +kernel
theorem d_M_clear_68 : decode b_M_clear 68 = .ok (.aload_n 0, 1) := by decide +kernel
theorem d_M_clear_69 : decode b_M_clear 69 = .ok (.getfield 25, 3) := by decide +kernel
theorem d_M_clear_72 : decode b_M_clear 72 = .ok (.bipush 71, 2) := by decide +kernel
theorem d_M_clear_74 : decode b_M_clear 74 = .ok (.iload_n 2, 1) := by decide +kernel
theorem d_M_clear_75 : decode b_M_clear 75 = .ok (.iadd, 1) := by decide +kernel
theorem d_M_clear_76 : decode b_M_clear 76 = .ok (.iconst 4, 1) := by decide +kernel
theorem d_M_clear_77 : decode b_M_clear 77 = .ok (.iastore, 1) := by decide +kernel
theorem d_M_clear_78 : decode b_M_clear 78 = .ok (.return_, 1) := by decide +kernel
theorem d_M_answer_0 : decode b_M_answer 0 = .ok (.aload_n 0, 1) := by decide +kernel
theorem d_M_answer_1 : decode b_M_answer 1 = .ok (.getfield 25, 3) := by decide +kernel
theorem d_M_answer_4 : decode b_M_answer 4 = .ok (.bipush 71, 2) := by decide +kernel
theorem d_M_answer_6 : decode b_M_answer 6 = .ok (.iload_n 1, 1) := by decide +kernel
theorem d_M_answer_7 : decode b_M_answer 7 = .ok (.iadd, 1) := by decide +kernel
theorem d_M_answer_8 : decode b_M_answer 8 = .ok (.iconst 4, 1) := by decide +kernel
theorem d_M_answer_9 : decode b_M_answer 9 = .ok (.iastore, 1) := by decide +kernel
theorem d_M_answer_10 : decode b_M_answer 10 = .ok (.aload_n 0, 1) := by decide +kernel
theorem d_M_answer_11 : decode b_M_answer 11 = .ok (.getfield 13, 3) := by decide +kernel
theorem d_M_answer_14 : decode b_M_answer 14 = .ok (.iload_n 1, 1) := by decide +kernel
theorem d_M_answer_15 : decode b_M_answer 15 = .ok (.iaload, 1) := by decide +kernel
theorem d_M_answer_16 : decode b_M_answer 16 = .ok (.istore_n 2, 1) := by decide +kernel
theorem d_M_answer_17 : decode b_M_answer 17 = .ok (.aload_n 0, 1) := by decide +kernel
theorem d_M_answer_18 : decode b_M_answer 18 = .ok (.getfield 9, 3) := by decide +kernel
theorem d_M_answer_21 : decode b_M_answer 21 = .ok (.iload_n 1, 1) := by decide +kernel
theorem d_M_answer_22 : decode b_M_answer 22 = .ok (.iaload, 1) := by decide +kernel
theorem d_M_answer_23 : decode b_M_answer 23 = .ok (.bipush 9, 2) := by decide +kernel
theorem d_M_answer_25 : decode b_M_answer 25 = .ok (.if_icmp .ne 26, 3) := by decide +kernel
theorem d_M_answer_28 : decode b_M_answer 28 = .ok (.aload_n 0, 1) := by decide +kernel
theorem d_M_answer_29 : decode b_M_answer 29 = .ok (.iconst 1, 1) := by decide +kernel
theorem d_M_answer_30 : decode b_M_answer 30 = .ok (.iconst 1, 1) := by decide +kernel
theorem d_M_answer_31 : decode b_M_answer 31 = .ok (.iload_n 2, 1) := by decide +kernel
theorem d_M_answer_32 : decode b_M_answer 32 = .ok (.isub, 1) := by decide +kernel
theorem d_M_answer_33 : decode b_M_answer 33 = .ok (.aload_n 0, 1) := by decide +kernel
theorem d_M_answer_34 : decode b_M_answer 34 = .ok (.iconst 1, 1) := by decide +kernel
theorem d_M_answer_35 : decode b_M_answer 35 = .ok (.invokevirtual 199, 3) := by decide +kernel
theorem d_M_answer_38 : decode b_M_answer 38 = .ok (.aload_n 0, 1) := by decide +kernel
theorem d_M_answer_39 : decode b_M_answer 39 = .ok (.getfield 22, 3) := by decide +kernel
theorem d_M_answer_42 : decode b_M_answer 42 = .ok (.iload_n 1, 1) := by decide +kernel
theorem d_M_answer_43 : decode b_M_answer 43 = .ok (.iaload, 1) := by decide +kernel
theorem d_M_answer_44 : decode b_M_answer 44 = .ok (.iadd, 1) := by decide +kernel
theorem d_M_answer_45 : decode b_M_answer 45 = .ok (.invokevirtual 250, 3) := by decide +kernel
theorem d_M_answer_48 : decode b_M_answer 48 = .ok (.goto 90, 3) := by decide +kernel
theorem d_M_answer_51 : decode b_M_answer 51 = .ok (.aload_n 0, 1) := by decide +kernel
theorem d_M_answer_52 : decode b_M_answer 52 = .ok (.getfield 9, 3) := by decide +kernel
theorem d_M_answer_55 : decode b_M_answer 55 = .ok (.iload_n 1, 1) := by decide +kernel
theorem d_M_answer_56 : decode b_M_answer 56 = .ok (.iaload, 1) := by decide +kernel
theorem d_M_answer_57 : decode b_M_answer 57 = .ok (.bipush 10, 2) := by decide +kernel
theorem d_M_answer_59 : decode b_M_answer 59 = .ok (.if_icmp .ne 24, 3) := by decide +kernel
theorem d_M_answer_62 : decode b_M_answer 62 = .ok (.aload_n 0, 1) := by decide +kernel
theorem d_M_answer_63 : decode b_M_answer 63 = .ok (.iconst 2, 1) := by decide +kernel
theorem d_M_answer_64 : decode b_M_answer 64 = .ok (.iload_n 2, 1) := by decide +kernel
theorem d_M_answer_65 : decode b_M_answer 65 = .ok (.aload_n 0, 1) := by decide +kernel
theorem d_M_answer_66 : decode b_M_answer 66 = .ok (.iconst 2, 1) := by decide +kernel
theorem d_M_answer_67 : decode b_M_answer 67 = .ok (.invokevirtual 199, 3) := by decide +kernel
theorem d_M_answer_70 : decode b_M_answer 70 = .ok (.aload_n 0, 1) := by decide +kernel
theorem d_M_answer_71 : decode b_M_answer 71 = .ok (.getfield 22, 3) := by decide +kernel
theorem d_M_answer_74 : decode b_M_answer 74 = .ok (.iload_n 1, 1) := by decide +kernel
theorem d_M_answer_75 : decode b_M_answer 75 = .ok (.iaload, 1) := by decide +kernel
theorem d_M_answer_76 : decode b_M_answer 76 = .ok (.iadd, 1) := by decide +kernel
theorem d_M_answer_77 : decode b_M_answer 77 = .ok (.invokevirtual 250, 3) := by decide +kernel
theorem d_M_answer_80 : decode b_M_answer 80 = .ok (.goto 58, 3) := by decide +kernel
theorem d_M_answer_83 : decode b_M_answer 83 = .ok (.aload_n 0, 1) := by decide +kernel
theorem d_M_answer_84 : decode b_M_answer 84 = .ok (.getfield 9, 3) := by decide +kernel
theorem d_M_answer_87 : decode b_M_answer 87 = .ok (.iload_n 1, 1) := by decide +kernel
theorem d_M_answer_88 : decode b_M_answer 88 = .ok (.iaload, 1) := by decide +kernel
theorem d_M_answer_89 : decode b_M_answer 89 = .ok (.bipush 11, 2) := by decide +kernel
theorem d_M_answer_91 : decode b_M_answer 91 = .ok (.if_icmp .ne 24, 3) := by decide +kernel
theorem d_M_answer_94 : decode b_M_answer 94 = .ok (.aload_n 0, 1) := by decide +kernel
theorem d_M_answer_95 : decode b_M_answer 95 = .ok (.iconst 0, 1) := by decide +kernel
theorem d_M_answer_96 : decode b_M_answer 96 = .ok (.iload_n 2, 1) := by decide +kernel
theorem d_M_answer_97 : decode b_M_answer 97 = .ok (.aload_n 0, 1) := by decide +kernel
theorem d_M_answer_98 : decode b_M_answer 98 = .ok (.iconst 0, 1) := by decide +kernel
theorem d_M_answer_99 : decode b_M_answer 99 = .ok (.invokevirtual 199, 3) := by decide +kernel
theorem d_M_answer_102 : decode b_M_answer 102 = .ok (.aload_n 0, 1) := by decide +kernel
theorem d_M_answer_103 : decode b_M_answer 103 = .ok (.getfield 22, 3) := by decide +kernel
theorem d_M_answer_106 : decode b_M_answer 106 = .ok (.iload_n 1, 1) := by decide +kernel
theorem d_M_answer_107 : decode b_M_answer 107 = .ok (.iaload, 1) := by decide +kernel
theorem d_M_answer_108 : decode b_M_answer 108 = .ok (.iadd, 1) := by decide +kernel
theorem d_M_answer_109 : decode b_M_answer 109 = .ok (.invokevirtual 250, 3) := by decide +kernel
theorem d_M_answer_112 : decode b_M_answer 112 = .ok (.goto 26, 3) := by decide +kernel
theorem d_M_answer_115 : decode b_M_answer 115 = .ok (.aload_n 0, 1) := by decide +kernel
theorem d_M_answer_116 : decode b_M_answer 116 = .ok (.getfield 9, 3) := by decide +kernel
theorem d_M_answer_119 : decode b_M_answer 119 = .ok (.iload_n 1, 1) := by decide +kernel
theorem d_M_answer_120 : decode b_M_answer 120 = .ok (.iaload, 1) := by decide +kernel
theorem d_M_answer_121 : decode b_M_answer 121 = .ok (.bipush 12, 2) := by decide +kernel
theorem d_M_answer_123 : decode b_M_answer 123 = .ok (.if_icmp .ne 10, 3) := by decide +kernel
theorem d_M_answer_126 : decode b_M_answer 126 = .ok (.aload_n 0, 1) := by decide +kernel
theorem d_M_answer_127 : decode b_M_answer 127 = .ok (.invokevirtual 253, 3) := by decide +kernel
theorem d_M_answer_130 : decode b_M_answer 130 = .ok (.goto 8, 3) := by decide +kernel
theorem d_M_answer_133 : decode b_M_answer 133 = .ok (.aload_n 0, 1) := by decide +kernel
theorem d_M_answer_134 : decode b_M_answer 134 = .ok (.iload_n 2, 1) := by decide +kernel
theorem d_M_answer_135 : decode b_M_answer 135 = .ok (.invokevirtual 255, 3) := by decide +kernel
theorem d_M_answer_138 : decode b_M_answer 138 = .ok (.return_, 1) := by decide +kernel
theorem d_M_resolveTop_0 : decode b_M_resolveTop 0 = .ok (.aload_n 0, 1) := by decide +kernel
theorem d_M_resolveTop_1 : decode b_M_resolveTop 1 = .ok (.getfield 25, 3) := by decide +kernel
theorem d_M_resolveTop_4 : decode b_M_resolveTop 4 = .ok (.bipush 6, 2) := by decide +kernel
theorem d_M_resolveTop_6 : decode b_M_resolveTop 6 = .ok (.dup2, 1) := by decide +kernel
theorem d_M_resolveTop_7 : decode b_M_resolveTop 7 = .ok (.iaload, 1) := by decide +kernel
theorem d_M_resolveTop_8 : decode b_M_resolveTop 8 = .ok (.iconst 1, 1) := by decide +kernel
theorem d_M_resolveTop_9 : decode b_M_resolveTop 9 = .ok (.isub, 1) := by decide +kernel
theorem d_M_resolveTop_10 : decode b_M_resolveTop 10 = .ok (.iastore, 1) := by decide +kernel
theorem d_M_resolveTop_11 : decode b_M_resolveTop 11 = .ok (.aload_n 0, 1) := by decide +kernel
theorem d_M_resolveTop_12 : decode b_M_resolveTop 12 = .ok (.getfield 25, 3) := by decide +kernel
theorem d_M_resolveTop_15 : decode b_M_resolveTop 15 = .ok (.bipush 7, 2) := by decide +kernel
theorem d_M_resolveTop_17 : decode b_M_resolveTop 17 = .ok (.aload_n 0, 1) := by decide +kernel
theorem d_M_resolveTop_18 : decode b_M_resolveTop 18 = .ok (.getfield 25, 3) := by decide +kernel
theorem d_M_resolveTop_21 : decode b_M_resolveTop 21 = .ok (.bipush 6, 2) := by decide +kernel
theorem d_M_resolveTop_23 : decode b_M_resolveTop 23 = .ok (.iaload, 1) := by decide +kernel
theorem d_M_resolveTop_24 : decode b_M_resolveTop 24 = .ok (.iadd, 1) := by decide +kernel
theorem d_M_resolveTop_25 : decode b_M_resolveTop 25 = .ok (.iaload, 1) := by decide +kernel
theorem d_M_resolveTop_26 : decode b_M_resolveTop 26 = .ok (.istore_n 1, 1) := by decide +kernel
theorem d_M_resolveTop_27 : decode b_M_resolveTop 27 = .ok (.aload_n 0, 1) := by decide +kernel
theorem d_M_resolveTop_28 : decode b_M_resolveTop 28 = .ok (.getfield 234, 3) := by decide +kernel
theorem d_M_resolveTop_31 : decode b_M_resolveTop 31 = .ok (.ifCond .eq 29, 3) := by decide +kernel
theorem d_M_resolveTop_34 : decode b_M_resolveTop 34 = .ok (.aload_n 0, 1) := by decide +kernel
theorem d_M_resolveTop_35 : decode b_M_resolveTop 35 = .ok (.getfield 257, 3) := by decide +kernel
theorem d_M_resolveTop_38 : decode b_M_resolveTop 38 = .ok (.bipush 40, 2) := by decide +kernel
theorem d_M_resolveTop_40 : decode b_M_resolveTop 40 = .ok (.if_icmp .ge 20, 3) := by decide +kernel
theorem d_M_resolveTop_43 : decode b_M_resolveTop 43 = .ok (.aload_n 0, 1) := by decide +kernel
theorem d_M_resolveTop_44 : decode b_M_resolveTop 44 = .ok (.getfield 64, 3) := by decide +kernel
theorem d_M_resolveTop_47 : decode b_M_resolveTop 47 = .ok (.aload_n 0, 1) := by decide +kernel
theorem d_M_resolveTop_48 : decode b_M_resolveTop 48 = .ok (.dup, 1) := by decide +kernel
theorem d_M_resolveTop_49 : decode b_M_resolveTop 49 = .ok (.getfield 257, 3) := by decide +kernel
theorem d_M_resolveTop_52 : decode b_M_resolveTop 52 = .ok (.dup_x1, 1) := by decide +kernel
theorem d_M_resolveTop_53 : decode b_M_resolveTop 53 = .ok (.iconst 1, 1) := by decide +kernel
theorem d_M_resolveTop_54 : decode b_M_resolveTop 54 = .ok (.iadd, 1) := by decide +kernel
theorem d_M_resolveTop_55 : decode b_M_resolveTop 55 = .ok (.putfield 257, 3) := by decide +kernel
theorem d_M_resolveTop_58 : decode b_M_resolveTop 58 = .ok (.iload_n 1, 1) := by decide +kernel
theorem d_M_resolveTop_59 : decode b_M_resolveTop 59 = .ok (.iastore, 1) := by decide +kernel
theorem d_M_resolveTop_60 : decode b_M_resolveTop 60 = .ok (.iload_n 1, 1) := by decide +kernel
theorem d_M_resolveTop_61 : decode b_M_resolveTop 61 = .ok (.sipush 10000, 3) := by decide +kernel
theorem d_M_resolveTop_64 : decode b_M_resolveTop 64 = .ok (.if_icmp .lt 29, 3) := by decide +kernel
theorem d_M_resolveTop_67 : decode b_M_resolveTop 67 = .ok (.aload_n 0, 1) := by decide +kernel
theorem d_M_resolveTop_68 : decode b_M_resolveTop 68 = .ok (.iload_n 1, 1) := by decide +kernel
theorem d_M_resolveTop_69 : decode b_M_resolveTop 69 = .ok (.sipush 1000, 3) := by decide +kernel
theorem d_M_resolveTop_72 : decode b_M_resolveTop 72 = .ok (.idiv, 1) := by decide +kernel
theorem d_M_resolveTop_73 : decode b_M_resolveTop 73 = .ok (.bipush 10, 2) := by decide +kernel
theorem d_M_resolveTop_75 : decode b_M_resolveTop 75 = .ok (.irem, 1) := by decide +kernel
theorem d_M_resolveTop_76 : decode b_M_resolveTop 76 = .ok (.iload_n 1, 1) := by decide +kernel
theorem d_M_resolveTop_77 : decode b_M_resolveTop 77 = .ok (.bipush 100, 2) := by decide +kernel
theorem d_M_resolveTop_79 : decode b_M_resolveTop 79 = .ok (.idiv, 1) := by decide +kernel
theorem d_M_resolveTop_80 : decode b_M_resolveTop 80 = .ok (.bipush 10, 2) := by decide +kernel
theorem d_M_resolveTop_82 : decode b_M_resolveTop 82 = .ok (.irem, 1) := by decide +kernel
theorem d_M_resolveTop_83 : decode b_M_resolveTop 83 = .ok (.iload_n 1, 1) := by decide +kernel
theorem d_M_resolveTop_84 : decode b_M_resolveTop 84 = .ok (.bipush 100, 2) := by decide +kernel
theorem d_M_resolveTop_86 : decode b_M_resolveTop 86 = .ok (.irem, 1) := by decide +kernel
theorem d_M_resolveTop_87 : decode b_M_resolveTop 87 = .ok (.invokevirtual 250, 3) := by decide +kernel
theorem d_M_resolveTop_90 : decode b_M_resolveTop 90 = .ok (.goto 57, 3) := by decide +kernel
theorem d_M_resolveTop_93 : decode b_M_resolveTop 93 = .ok (.aload_n 0, 1) := by decide +kernel
theorem d_M_resolveTop_94 : decode b_M_resolveTop 94 = .ok (.getfield 9, 3) := by decide +kernel
theorem d_M_resolveTop_97 : decode b_M_resolveTop 97 = .ok (.iload_n 1, 1) := by decide +kernel
theorem d_M_resolveTop_98 : decode b_M_resolveTop 98 = .ok (.iaload, 1) := by decide +kernel
theorem d_M_resolveTop_99 : decode b_M_resolveTop 99 = .ok (.bipush 9, 2) := by decide +kernel
theorem d_M_resolveTop_101 : decode b_M_resolveTop 101 = .ok (.bipush 13, 2) := by decide +kernel
theorem d_M_resolveTop_103 : decode b_M_resolveTop 103 = .ok (.invokestatic 73, 3) := by decide +kernel
theorem d_M_resolveTop_106 : decode b_M_resolveTop 106 = .ok (.ifCond .eq 11, 3) := by decide +kernel
theorem d_M_resolveTop_109 : decode b_M_resolveTop 109 = .ok (.aload_n 0, 1) := by decide +kernel
theorem d_M_resolveTop_110 : decode b_M_resolveTop 110 = .ok (.iload_n 1, 1) := by decide +kernel
theorem d_M_resolveTop_111 : decode b_M_resolveTop 111 = .ok (.invokevirtual 260, 3) := by decide +kernel
theorem d_M_resolveTop_114 : decode b_M_resolveTop 114 = .ok (.goto 33, 3) := by decide +kernel
theorem d_M_resolveTop_117 : decode b_M_resolveTop 117 = .ok (.aload_n 0, 1) := by decide +kernel
theorem d_M_resolveTop_118 : decode b_M_resolveTop 118 = .ok (.getfield 25, 3) := by decide +kernel
theorem d_M_resolveTop_121 : decode b_M_resolveTop 121 = .ok (.bipush 71, 2) := by decide +kernel
theorem d_M_resolveTop_123 : decode b_M_resolveTop 123 = .ok (.iload_n 1, 1) := by decide +kernel
theorem d_M_resolveTop_124 : decode b_M_resolveTop 124 = .ok (.iadd, 1) := by decide +kernel
theorem d_M_resolveTop_125 : decode b_M_resolveTop 125 = .ok (.iconst 3, 1) := by decide +kernel
theorem d_M_resolveTop_126 : decode b_M_resolveTop 126 = .ok (.iastore, 1) := by decide +kernel
theorem d_M_resolveTop_127 : decode b_M_resolveTop 127 = .ok (.aload_n 0, 1) := by decide +kernel
theorem d_M_resolveTop_128 : decode b_M_resolveTop 128 = .ok (.getfield 25, 3) := by decide +kernel
theorem d_M_resolveTop_131 : decode b_M_resolveTop 131 = .ok (.bipush 95, 2) := by decide +kernel
theorem d_M_resolveTop_133 : decode b_M_resolveTop 133 = .ok (.iload_n 1, 1) := by decide +kernel
theorem d_M_resolveTop_134 : decode b_M_resolveTop 134 = .ok (.iadd, 1) := by decide +kernel
theorem d_M_resolveTop_135 : decode b_M_resolveTop 135 = .ok (.aload_n 0, 1) := by decide +kernel
theorem d_M_resolveTop_136 : decode b_M_resolveTop 136 = .ok (.getfield 25, 3) := by decide +kernel
theorem d_M_resolveTop_139 : decode b_M_resolveTop 139 = .ok (.iconst 2, 1) := by decide +kernel
theorem d_M_resolveTop_140 : decode b_M_resolveTop 140 = .ok (.dup2, 1) := by decide +kernel
theorem d_M_resolveTop_141 : decode b_M_resolveTop 141 = .ok (.iaload, 1) := by decide +kernel
theorem d_M_resolveTop_142 : decode b_M_resolveTop 142 = .ok (.dup_x2, 1) := by decide +kernel
theorem d_M_resolveTop_143 : decode b_M_resolveTop 143 = .ok (.iconst 1, 1) := by decide +kernel
theorem d_M_resolveTop_144 : decode b_M_resolveTop 144 = .ok (.iadd, 1) := by decide +kernel
theorem d_M_resolveTop_145 : decode b_M_resolveTop 145 = .ok (.iastore, 1) := by decide +kernel
theorem d_M_resolveTop_146 : decode b_M_resolveTop 146 = .ok (.iastore, 1) := by decide +kernel
theorem d_M_resolveTop_147 : decode b_M_resolveTop 147 = .ok (.return_, 1) := by decide +kernel
theorem d_M_traces_0 : decode b_M_traces 0 = .ok (.aload_n 0, 1) := by decide +kernel
theorem d_M_traces_1 : decode b_M_traces 1 = .ok (.iconst 1, 1) := by decide +kernel
theorem d_M_traces_2 : decode b_M_traces 2 = .ok (.putfield 234, 3) := by decide +kernel
theorem d_M_traces_5 : decode b_M_traces 5 = .ok (.aload_n 0, 1) := by decide +kernel
theorem d_M_traces_6 : decode b_M_traces 6 = .ok (.iconst 0, 1) := by decide +kernel
theorem d_M_traces_7 : decode b_M_traces 7 = .ok (.putfield 257, 3) := by decide +kernel
theorem d_M_traces_10 : decode b_M_traces 10 = .ok (.aload_n 0, 1) := by decide +kernel
theorem d_M_traces_11 : decode b_M_traces 11 = .ok (.iconst 0, 1) := by decide +kernel
theorem d_M_traces_12 : decode b_M_traces 12 = .ok (.putfield 238, 3) := by decide +kernel
theorem d_M_traces_15 : decode b_M_traces 15 = .ok (.return_, 1) := by decide +kernel
theorem d_M_resolve_0 : decode b_M_resolve 0 = .ok (.aload_n 0, 1) := by decide +kernel
theorem d_M_resolve_1 : decode b_M_resolve 1 = .ok (.getfield 25, 3) := by decide +kernel
theorem d_M_resolve_4 : decode b_M_resolve 4 = .ok (.bipush 6, 2) := by decide +kernel
theorem d_M_resolve_6 : decode b_M_resolve 6 = .ok (.iaload, 1) := by decide +kernel
theorem d_M_resolve_7 : decode b_M_resolve 7 = .ok (.ifCond .ne 6, 3) := by decide +kernel
theorem d_M_resolve_10 : decode b_M_resolve 10 = .ok (.bipush (-5), 2) := by decide +kernel
theorem d_M_resolve_12 : decode b_M_resolve 12 = .ok (.ireturn, 1) := by decide +kernel
theorem d_M_resolve_13 : decode b_M_resolve 13 = .ok (.aload_n 0, 1) := by decide +kernel
theorem d_M_resolve_14 : decode b_M_resolve 14 = .ok (.invokevirtual 263, 3) := by decide +kernel
theorem d_M_resolve_17 : decode b_M_resolve 17 = .ok (.aload_n 0, 1) := by decide +kernel
theorem d_M_resolve_18 : decode b_M_resolve 18 = .ok (.invokevirtual 266, 3) := by decide +kernel
theorem d_M_resolve_21 : decode b_M_resolve 21 = .ok (.aload_n 0, 1) := by decide +kernel
theorem d_M_resolve_22 : decode b_M_resolve 22 = .ok (.iconst 0, 1) := by decide +kernel
theorem d_M_resolve_23 : decode b_M_resolve 23 = .ok (.putfield 234, 3) := by decide +kernel
theorem d_M_resolve_26 : decode b_M_resolve 26 = .ok (.aload_n 0, 1) := by decide +kernel
theorem d_M_resolve_27 : decode b_M_resolve 27 = .ok (.getfield 25, 3) := by decide +kernel
theorem d_M_resolve_30 : decode b_M_resolve 30 = .ok (.bipush 6, 2) := by decide +kernel
theorem d_M_resolve_32 : decode b_M_resolve 32 = .ok (.iaload, 1) := by decide +kernel
theorem d_M_resolve_33 : decode b_M_resolve 33 = .ok (.ireturn, 1) := by decide +kernel
theorem d_M_isLost_0 : decode b_M_isLost 0 = .ok (.aload_n 0, 1) := by decide +kernel
theorem d_M_isLost_1 : decode b_M_isLost 1 = .ok (.getfield 25, 3) := by decide +kernel
theorem d_M_isLost_4 : decode b_M_isLost 4 = .ok (.iconst 0, 1) := by decide +kernel
theorem d_M_isLost_5 : decode b_M_isLost 5 = .ok (.iaload, 1) := by decide +kernel
theorem d_M_isLost_6 : decode b_M_isLost 6 = .ok (.ifCond .le 12, 3) := by decide +kernel
theorem d_M_isLost_9 : decode b_M_isLost 9 = .ok (.aload_n 0, 1) := by decide +kernel
theorem d_M_isLost_10 : decode b_M_isLost 10 = .ok (.getfield 25, 3) := by decide +kernel
theorem d_M_isLost_13 : decode b_M_isLost 13 = .ok (.iconst 1, 1) := by decide +kernel
theorem d_M_isLost_14 : decode b_M_isLost 14 = .ok (.iaload, 1) := by decide +kernel
theorem d_M_isLost_15 : decode b_M_isLost 15 = .ok (.ifCond .gt 7, 3) := by decide +kernel
theorem d_M_isLost_18 : decode b_M_isLost 18 = .ok (.iconst 1, 1) := by decide +kernel
theorem d_M_isLost_19 : decode b_M_isLost 19 = .ok (.goto 4, 3) := by decide +kernel
theorem d_M_isLost_22 : decode b_M_isLost 22 = .ok (.iconst 0, 1) := by decide +kernel
theorem d_M_isLost_23 : decode b_M_isLost 23 = .ok (.ireturn, 1) := by decide +kernel
theorem d_M_see_0 : decode b_M_see 0 = .ok (.aload_n 0, 1) := by decide +kernel
theorem d_M_see_1 : decode b_M_see 1 = .ok (.getfield 40, 3) := by decide +kernel
theorem d_M_see_4 : decode b_M_see 4 = .ok (.iload_n 1, 1) := by decide +kernel
theorem d_M_see_5 : decode b_M_see 5 = .ok (.aaload, 1) := by decide +kernel
theorem d_M_see_6 : decode b_M_see 6 = .ok (.astore_n 2, 1) := by decide +kernel
theorem d_M_see_7 : decode b_M_see 7 = .ok (.aload_n 2, 1) := by decide +kernel
theorem d_M_see_8 : decode b_M_see 8 = .ok (.iconst 0, 1) := by decide +kernel
theorem d_M_see_9 : decode b_M_see 9 = .ok (.aload_n 0, 1) := by decide +kernel
theorem d_M_see_10 : decode b_M_see 10 = .ok (.getfield 25, 3) := by decide +kernel
theorem d_M_see_13 : decode b_M_see 13 = .ok (.iconst 0, 1) := by decide +kernel
theorem d_M_see_14 : decode b_M_see 14 = .ok (.iaload, 1) := by decide +kernel
theorem d_M_see_15 : decode b_M_see 15 = .ok (.iastore, 1) := by decide +kernel
theorem d_M_see_16 : decode b_M_see 16 = .ok (.aload_n 2, 1) := by decide +kernel
theorem d_M_see_17 : decode b_M_see 17 = .ok (.iconst 1, 1) := by decide +kernel
theorem d_M_see_18 : decode b_M_see 18 = .ok (.aload_n 0, 1) := by decide +kernel
theorem d_M_see_19 : decode b_M_see 19 = .ok (.getfield 25, 3) := by decide +kernel
theorem d_M_see_22 : decode b_M_see 22 = .ok (.iconst 1, 1) := by decide +kernel
theorem d_M_see_23 : decode b_M_see 23 = .ok (.iaload, 1) := by decide +kernel
theorem d_M_see_24 : decode b_M_see 24 = .ok (.iastore, 1) := by decide +kernel
theorem d_M_see_25 : decode b_M_see 25 = .ok (.aload_n 2, 1) := by decide +kernel
theorem d_M_see_26 : decode b_M_see 26 = .ok (.iconst 2, 1) := by decide +kernel
theorem d_M_see_27 : decode b_M_see 27 = .ok (.aload_n 0, 1) := by decide +kernel
theorem d_M_see_28 : decode b_M_see 28 = .ok (.getfield 25, 3) := by decide +kernel
theorem d_M_see_31 : decode b_M_see 31 = .ok (.iconst 3, 1) := by decide +kernel
theorem d_M_see_32 : decode b_M_see 32 = .ok (.iaload, 1) := by decide +kernel
theorem d_M_see_33 : decode b_M_see 33 = .ok (.iastore, 1) := by decide +kernel
theorem d_M_see_34 : decode b_M_see 34 = .ok (.aload_n 2, 1) := by decide +kernel
theorem d_M_see_35 : decode b_M_see 35 = .ok (.iconst 3, 1) := by decide +kernel
theorem d_M_see_36 : decode b_M_see 36 = .ok (.aload_n 0, 1) := by decide +kernel
theorem d_M_see_37 : decode b_M_see 37 = .ok (.getfield 25, 3) := by decide +kernel
theorem d_M_see_40 : decode b_M_see 40 = .ok (.bipush 6, 2) := by decide +kernel
theorem d_M_see_42 : decode b_M_see 42 = .ok (.iaload, 1) := by decide +kernel
theorem d_M_see_43 : decode b_M_see 43 = .ok (.iastore, 1) := by decide +kernel
theorem d_M_see_44 : decode b_M_see 44 = .ok (.iconst 0, 1) := by decide +kernel
theorem d_M_see_45 : decode b_M_see 45 = .ok (.istore_n 3, 1) := by decide +kernel
theorem d_M_see_46 : decode b_M_see 46 = .ok (.iload_n 3, 1) := by decide +kernel
theorem d_M_see_47 : decode b_M_see 47 = .ok (.bipush 64, 2) := by decide +kernel
theorem d_M_see_49 : decode b_M_see 49 = .ok (.if_icmp .ge 38, 3) := by decide +kernel
theorem d_M_see_52 : decode b_M_see 52 = .ok (.aload_n 2, 1) := by decide +kernel
theorem d_M_see_53 : decode b_M_see 53 = .ok (.iconst 4, 1) := by decide +kernel
theorem d_M_see_54 : decode b_M_see 54 = .ok (.iload_n 3, 1) := by decide +kernel
theorem d_M_see_55 : decode b_M_see 55 = .ok (.iadd, 1) := by decide +kernel
theorem d_M_see_56 : decode b_M_see 56 = .ok (.iload_n 3, 1) := by decide +kernel
theorem d_M_see_57 : decode b_M_see 57 = .ok (.aload_n 0, 1) := by decide +kernel
theorem d_M_see_58 : decode b_M_see 58 = .ok (.getfield 25, 3) := by decide +kernel
theorem d_M_see_61 : decode b_M_see 61 = .ok (.bipush 6, 2) := by decide +kernel
theorem d_M_see_63 : decode b_M_see 63 = .ok (.iaload, 1) := by decide +kernel
theorem d_M_see_64 : decode b_M_see 64 = .ok (.if_icmp .ge 15, 3) := by decide +kernel
theorem d_M_see_67 : decode b_M_see 67 = .ok (.aload_n 0, 1) := by decide +kernel
theorem d_M_see_68 : decode b_M_see 68 = .ok (.getfield 25, 3) := by decide +kernel
theorem d_M_see_71 : decode b_M_see 71 = .ok (.bipush 7, 2) := by decide +kernel
theorem d_M_see_73 : decode b_M_see 73 = .ok (.iload_n 3, 1) := by decide +kernel
theorem d_M_see_74 : decode b_M_see 74 = .ok (.iadd, 1) := by decide +kernel
theorem d_M_see_75 : decode b_M_see 75 = .ok (.iaload, 1) := by decide +kernel
theorem d_M_see_76 : decode b_M_see 76 = .ok (.goto 4, 3) := by decide +kernel
theorem d_M_see_79 : decode b_M_see 79 = .ok (.iconst 0, 1) := by decide +kernel
theorem d_M_see_80 : decode b_M_see 80 = .ok (.iastore, 1) := by decide +kernel
theorem d_M_see_81 : decode b_M_see 81 = .ok (.iinc 3 1, 3) := by decide +kernel
theorem d_M_see_84 : decode b_M_see 84 = .ok (.goto (-38), 3) := by decide +kernel
theorem d_M_see_87 : decode b_M_see 87 = .ok (.iconst 0, 1) := by decide +kernel
theorem d_M_see_88 : decode b_M_see 88 = .ok (.istore_n 3, 1) := by decide +kernel
theorem d_M_see_89 : decode b_M_see 89 = .ok (.iload_n 3, 1) := by decide +kernel
theorem d_M_see_90 : decode b_M_see 90 = .ok (.bipush 24, 2) := by decide +kernel
theorem d_M_see_92 : decode b_M_see 92 = .ok (.if_icmp .ge 124, 3) := by decide +kernel
theorem d_M_see_95 : decode b_M_see 95 = .ok (.iconst 0, 1) := by decide +kernel
theorem d_M_see_96 : decode b_M_see 96 = .ok (.istore 4, 2) := by decide +kernel
theorem d_M_see_98 : decode b_M_see 98 = .ok (.iconst 0, 1) := by decide +kernel
theorem d_M_see_99 : decode b_M_see 99 = .ok (.istore 5, 2) := by decide +kernel
theorem d_M_see_101 : decode b_M_see 101 = .ok (.iload 5, 2) := by decide +kernel
theorem d_M_see_103 : decode b_M_see 103 = .ok (.aload_n 0, 1) := by decide +kernel
theorem d_M_see_104 : decode b_M_see 104 = .ok (.getfield 70, 3) := by decide +kernel
theorem d_M_see_107 : decode b_M_see 107 = .ok (.if_icmp .ge 68, 3) := by decide +kernel
theorem d_M_see_110 : decode b_M_see 110 = .ok (.iload_n 3, 1) := by decide +kernel
theorem d_M_see_111 : decode b_M_see 111 = .ok (.aload_n 0, 1) := by decide +kernel
theorem d_M_see_112 : decode b_M_see 112 = .ok (.getfield 70, 3) := by decide +kernel
theorem d_M_see_115 : decode b_M_see 115 = .ok (.if_icmp .ge 60, 3) := by decide +kernel
theorem d_M_see_118 : decode b_M_see 118 = .ok (.aload_n 0, 1) := by decide +kernel
theorem d_M_see_119 : decode b_M_see 119 = .ok (.iload_n 3, 1) := by decide +kernel
theorem d_M_see_120 : decode b_M_see 120 = .ok (.iconst 3, 1) := by decide +kernel
theorem d_M_see_121 : decode b_M_see 121 = .ok (.invokevirtual 164, 3) := by decide +kernel
theorem d_M_see_124 : decode b_M_see 124 = .ok (.ifCond .eq 51, 3) := by decide +kernel
theorem d_M_see_127 : decode b_M_see 127 = .ok (.iload 4, 2) := by decide +kernel
theorem d_M_see_129 : decode b_M_see 129 = .ok (.aload_n 0, 1) := by decide +kernel
theorem d_M_see_130 : decode b_M_see 130 = .ok (.iload 5, 2) := by decide +kernel
theorem d_M_see_132 : decode b_M_see 132 = .ok (.iconst 3, 1) := by decide +kernel
theorem d_M_see_133 : decode b_M_see 133 = .ok (.invokevirtual 164, 3) := by decide +kernel
theorem d_M_see_136 : decode b_M_see 136 = .ok (.ifCond .eq 29, 3) := by decide +kernel
theorem d_M_see_139 : decode b_M_see 139 = .ok (.aload_n 0, 1) := by decide +kernel
theorem d_M_see_140 : decode b_M_see 140 = .ok (.getfield 25, 3) := by decide +kernel
theorem d_M_see_143 : decode b_M_see 143 = .ok (.bipush 95, 2) := by decide +kernel
theorem d_M_see_145 : decode b_M_see 145 = .ok (.iload 5, 2) := by decide +kernel
theorem d_M_see_147 : decode b_M_see 147 = .ok (.iadd, 1) := by decide +kernel
theorem d_M_see_148 : decode b_M_see 148 = .ok (.iaload, 1) := by decide +kernel
theorem d_M_see_149 : decode b_M_see 149 = .ok (.aload_n 0, 1) := by decide +kernel
theorem d_M_see_150 : decode b_M_see 150 = .ok (.getfield 25, 3) := by decide +kernel
theorem d_M_see_153 : decode b_M_see 153 = .ok (.bipush 95, 2) := by decide +kernel
theorem d_M_see_155 : decode b_M_see 155 = .ok (.iload_n 3, 1) := by decide +kernel
theorem d_M_see_156 : decode b_M_see 156 = .ok (.iadd, 1) := by decide +kernel
theorem d_M_see_157 : decode b_M_see 157 = .ok (.iaload, 1) := by decide +kernel
theorem d_M_see_158 : decode b_M_see 158 = .ok (.if_icmp .ge 7, 3) := by decide +kernel
theorem d_M_see_161 : decode b_M_see 161 = .ok (.iconst 1, 1) := by decide +kernel
theorem d_M_see_162 : decode b_M_see 162 = .ok (.goto 4, 3) := by decide +kernel
theorem d_M_see_165 : decode b_M_see 165 = .ok (.iconst 0, 1) := by decide +kernel
theorem d_M_see_166 : decode b_M_see 166 = .ok (.iadd, 1) := by decide +kernel
theorem d_M_see_167 : decode b_M_see 167 = .ok (.istore 4, 2) := by decide +kernel
theorem d_M_see_169 : decode b_M_see 169 = .ok (.iinc 5 1, 3) := by decide +kernel
theorem d_M_see_172 : decode b_M_see 172 = .ok (.goto (-71), 3) := by decide +kernel
theorem d_M_see_175 : decode b_M_see 175 = .ok (.aload_n 2, 1) := by decide +kernel
theorem d_M_see_176 : decode b_M_see 176 = .ok (.bipush 68, 2) := by decide +kernel
theorem d_M_see_178 : decode b_M_see 178 = .ok (.iload_n 3, 1) := by decide +kernel
theorem d_M_see_179 : decode b_M_see 179 = .ok (.iadd, 1) := by decide +kernel
theorem d_M_see_180 : decode b_M_see 180 = .ok (.iload_n 3, 1) := by decide +kernel
theorem d_M_see_181 : decode b_M_see 181 = .ok (.aload_n 0, 1) := by decide +kernel
theorem d_M_see_182 : decode b_M_see 182 = .ok (.getfield 70, 3) := by decide +kernel
theorem d_M_see_185 : decode b_M_see 185 = .ok (.if_icmp .ge 15, 3) := by decide +kernel
theorem d_M_see_188 : decode b_M_see 188 = .ok (.aload_n 0, 1) := by decide +kernel
theorem d_M_see_189 : decode b_M_see 189 = .ok (.getfield 25, 3) := by decide +kernel
theorem d_M_see_192 : decode b_M_see 192 = .ok (.bipush 71, 2) := by decide +kernel
theorem d_M_see_194 : decode b_M_see 194 = .ok (.iload_n 3, 1) := by decide +kernel
theorem d_M_see_195 : decode b_M_see 195 = .ok (.iadd, 1) := by decide +kernel
theorem d_M_see_196 : decode b_M_see 196 = .ok (.iaload, 1) := by decide +kernel
theorem d_M_see_197 : decode b_M_see 197 = .ok (.goto 4, 3) := by decide +kernel
theorem d_M_see_200 : decode b_M_see 200 = .ok (.iconst 0, 1) := by decide +kernel
theorem d_M_see_201 : decode b_M_see 201 = .ok (.iastore, 1) := by decide +kernel
theorem d_M_see_202 : decode b_M_see 202 = .ok (.aload_n 2, 1) := by decide +kernel
theorem d_M_see_203 : decode b_M_see 203 = .ok (.bipush 92, 2) := by decide +kernel
theorem d_M_see_205 : decode b_M_see 205 = .ok (.iload_n 3, 1) := by decide +kernel
theorem d_M_see_206 : decode b_M_see 206 = .ok (.iadd, 1) := by decide +kernel
theorem d_M_see_207 : decode b_M_see 207 = .ok (.iload 4, 2) := by decide +kernel
theorem d_M_see_209 : decode b_M_see 209 = .ok (.iastore, 1) := by decide +kernel
theorem d_M_see_210 : decode b_M_see 210 = .ok (.iinc 3 1, 3) := by decide +kernel
theorem d_M_see_213 : decode b_M_see 213 = .ok (.goto (-124), 3) := by decide +kernel
theorem d_M_see_216 : decode b_M_see 216 = .ok (.return_, 1) := by decide +kernel
theorem d_M_sameAs_0 : decode b_M_sameAs 0 = .ok (.iconst 0, 1) := by decide +kernel
theorem d_M_sameAs_1 : decode b_M_sameAs 1 = .ok (.istore_n 2, 1) := by decide +kernel
theorem d_M_sameAs_2 : decode b_M_sameAs 2 = .ok (.iload_n 2, 1) := by decide +kernel
theorem d_M_sameAs_3 : decode b_M_sameAs 3 = .ok (.iload_n 1, 1) := by decide +kernel
theorem d_M_sameAs_4 : decode b_M_sameAs 4 = .ok (.if_icmp .ge 64, 3) := by decide +kernel
theorem d_M_sameAs_7 : decode b_M_sameAs 7 = .ok (.iconst 1, 1) := by decide +kernel
theorem d_M_sameAs_8 : decode b_M_sameAs 8 = .ok (.istore_n 3, 1) := by decide +kernel
theorem d_M_sameAs_9 : decode b_M_sameAs 9 = .ok (.iconst 0, 1) := by decide +kernel
theorem d_M_sameAs_10 : decode b_M_sameAs 10 = .ok (.istore 4, 2) := by decide +kernel
theorem d_M_sameAs_12 : decode b_M_sameAs 12 = .ok (.iload 4, 2) := by decide +kernel
theorem d_M_sameAs_14 : decode b_M_sameAs 14 = .ok (.bipush 116, 2) := by decide +kernel
theorem d_M_sameAs_16 : decode b_M_sameAs 16 = .ok (.if_icmp .ge 40, 3) := by decide +kernel
theorem d_M_sameAs_19 : decode b_M_sameAs 19 = .ok (.iload_n 3, 1) := by decide +kernel
theorem d_M_sameAs_20 : decode b_M_sameAs 20 = .ok (.ifCond .eq 36, 3) := by decide +kernel
theorem d_M_sameAs_23 : decode b_M_sameAs 23 = .ok (.aload_n 0, 1) := by decide +kernel
theorem d_M_sameAs_24 : decode b_M_sameAs 24 = .ok (.getfield 40, 3) := by decide +kernel
theorem d_M_sameAs_27 : decode b_M_sameAs 27 = .ok (.iload_n 2, 1) := by decide +kernel
theorem d_M_sameAs_28 : decode b_M_sameAs 28 = .ok (.aaload, 1) := by decide +kernel
theorem d_M_sameAs_29 : decode b_M_sameAs 29 = .ok (.iload 4, 2) := by decide +kernel
theorem d_M_sameAs_31 : decode b_M_sameAs 31 = .ok (.iaload, 1) := by decide +kernel
theorem d_M_sameAs_32 : decode b_M_sameAs 32 = .ok (.aload_n 0, 1) := by decide +kernel
theorem d_M_sameAs_33 : decode b_M_sameAs 33 = .ok (.getfield 40, 3) := by decide +kernel
theorem d_M_sameAs_36 : decode b_M_sameAs 36 = .ok (.iload_n 1, 1) := by decide +kernel
theorem d_M_sameAs_37 : decode b_M_sameAs 37 = .ok (.aaload, 1) := by decide +kernel
theorem d_M_sameAs_38 : decode b_M_sameAs 38 = .ok (.iload 4, 2) := by decide +kernel
theorem d_M_sameAs_40 : decode b_M_sameAs 40 = .ok (.iaload, 1) := by decide +kernel
theorem d_M_sameAs_41 : decode b_M_sameAs 41 = .ok (.if_icmp .ne 7, 3) := by decide +kernel
theorem d_M_sameAs_44 : decode b_M_sameAs 44 = .ok (.iconst 1, 1) := by decide +kernel
theorem d_M_sameAs_45 : decode b_M_sameAs 45 = .ok (.goto 4, 3) := by decide +kernel
theorem d_M_sameAs_48 : decode b_M_sameAs 48 = .ok (.iconst 0, 1) := by decide +kernel
theorem d_M_sameAs_49 : decode b_M_sameAs 49 = .ok (.istore_n 3, 1) := by decide +kernel
theorem d_M_sameAs_50 : decode b_M_sameAs 50 = .ok (.iinc 4 1, 3) := by decide +kernel
theorem d_M_sameAs_53 : decode b_M_sameAs 53 = .ok (.goto (-41), 3) := by decide +kernel
theorem d_M_sameAs_56 : decode b_M_sameAs 56 = .ok (.iload_n 3, 1) := by decide +kernel
theorem d_M_sameAs_57 : decode b_M_sameAs 57 = .ok (.ifCond .eq 5, 3) := by decide +kernel
theorem d_M_sameAs_60 : decode b_M_sameAs 60 = .ok (.iload_n 2, 1) := by decide +kernel
theorem d_M_sameAs_61 : decode b_M_sameAs 61 = .ok (.ireturn, 1) := by decide +kernel
theorem d_M_sameAs_62 : decode b_M_sameAs 62 = .ok (.iinc 2 1, 3) := by decide +kernel
theorem d_M_sameAs_65 : decode b_M_sameAs 65 = .ok (.goto (-63), 3) := by decide +kernel
theorem d_M_sameAs_68 : decode b_M_sameAs 68 = .ok (.iconst (-1), 1) := by decide +kernel
theorem d_M_sameAs_69 : decode b_M_sameAs 69 = .ok (.ireturn, 1) := by decide +kernel
theorem d_M_runIt_0 : decode b_M_runIt 0 = .ok (.iconst 0, 1) := by decide +kernel
theorem d_M_runIt_1 : decode b_M_runIt 1 = .ok (.istore_n 1, 1) := by decide +kernel
theorem d_M_runIt_2 : decode b_M_runIt 2 = .ok (.aload_n 0, 1) := by decide +kernel
theorem d_M_runIt_3 : decode b_M_runIt 3 = .ok (.bipush (-2), 2) := by decide +kernel
theorem d_M_runIt_5 : decode b_M_runIt 5 = .ok (.putfield 269, 3) := by decide +kernel
theorem d_M_runIt_8 : decode b_M_runIt 8 = .ok (.aload_n 0, 1) := by decide +kernel
theorem d_M_runIt_9 : decode b_M_runIt 9 = .ok (.bipush (-2), 2) := by decide +kernel
theorem d_M_runIt_11 : decode b_M_runIt 11 = .ok (.putfield 272, 3) := by decide +kernel
theorem d_M_runIt_14 : decode b_M_runIt 14 = .ok (.aload_n 0, 1) := by decide +kernel
theorem d_M_runIt_15 : decode b_M_runIt 15 = .ok (.invokevirtual 275, 3) := by decide +kernel
theorem d_M_runIt_18 : decode b_M_runIt 18 = .ok (.ifCond .eq 10, 3) := by decide +kernel
theorem d_M_runIt_21 : decode b_M_runIt 21 = .ok (.aload_n 0, 1) := by decide +kernel
theorem d_M_runIt_22 : decode b_M_runIt 22 = .ok (.iconst 1, 1) := by decide +kernel
theorem d_M_runIt_23 : decode b_M_runIt 23 = .ok (.putfield 279, 3) := by decide +kernel
theorem d_M_runIt_26 : decode b_M_runIt 26 = .ok (.iload_n 1, 1) := by decide +kernel
theorem d_M_runIt_27 : decode b_M_runIt 27 = .ok (.ireturn, 1) := by decide +kernel
theorem d_M_runIt_28 : decode b_M_runIt 28 = .ok (.aload_n 0, 1) := by decide +kernel
theorem d_M_runIt_29 : decode b_M_runIt 29 = .ok (.getfield 25, 3) := by decide +kernel
theorem d_M_runIt_32 : decode b_M_runIt 32 = .ok (.bipush 6, 2) := by decide +kernel
theorem d_M_runIt_34 : decode b_M_runIt 34 = .ok (.iaload, 1) := by decide +kernel
theorem d_M_runIt_35 : decode b_M_runIt 35 = .ok (.ifCond .ne 10, 3) := by decide +kernel
theorem d_M_runIt_38 : decode b_M_runIt 38 = .ok (.aload_n 0, 1) := by decide +kernel
theorem d_M_runIt_39 : decode b_M_runIt 39 = .ok (.iconst 0, 1) := by decide +kernel
theorem d_M_runIt_40 : decode b_M_runIt 40 = .ok (.putfield 279, 3) := by decide +kernel
theorem d_M_runIt_43 : decode b_M_runIt 43 = .ok (.iload_n 1, 1) := by decide +kernel
theorem d_M_runIt_44 : decode b_M_runIt 44 = .ok (.ireturn, 1) := by decide +kernel
theorem d_M_runIt_45 : decode b_M_runIt 45 = .ok (.aload_n 0, 1) := by decide +kernel
theorem d_M_runIt_46 : decode b_M_runIt 46 = .ok (.iload_n 1, 1) := by decide +kernel
theorem d_M_runIt_47 : decode b_M_runIt 47 = .ok (.invokevirtual 282, 3) := by decide +kernel
theorem d_M_runIt_50 : decode b_M_runIt 50 = .ok (.aload_n 0, 1) := by decide +kernel
theorem d_M_runIt_51 : decode b_M_runIt 51 = .ok (.iload_n 1, 1) := by decide +kernel
theorem d_M_runIt_52 : decode b_M_runIt 52 = .ok (.invokevirtual 285, 3) := by decide +kernel
theorem d_M_runIt_55 : decode b_M_runIt 55 = .ok (.istore_n 2, 1) := by decide +kernel
theorem d_M_runIt_56 : decode b_M_runIt 56 = .ok (.iload_n 2, 1) := by decide +kernel
theorem d_M_runIt_57 : decode b_M_runIt 57 = .ok (.ifCond .lt 22, 3) := by decide +kernel
theorem d_M_runIt_60 : decode b_M_runIt 60 = .ok (.aload_n 0, 1) := by decide +kernel
theorem d_M_runIt_61 : decode b_M_runIt 61 = .ok (.iconst 2, 1) := by decide +kernel
theorem d_M_runIt_62 : decode b_M_runIt 62 = .ok (.putfield 279, 3) := by decide +kernel
theorem d_M_runIt_65 : decode b_M_runIt 65 = .ok (.aload_n 0, 1) := by decide +kernel
theorem d_M_runIt_66 : decode b_M_runIt 66 = .ok (.iload_n 2, 1) := by decide +kernel
theorem d_M_runIt_67 : decode b_M_runIt 67 = .ok (.putfield 269, 3) := by decide +kernel
theorem d_M_runIt_70 : decode b_M_runIt 70 = .ok (.aload_n 0, 1) := by decide +kernel
theorem d_M_runIt_71 : decode b_M_runIt 71 = .ok (.iload_n 1, 1) := by decide +kernel
theorem d_M_runIt_72 : decode b_M_runIt 72 = .ok (.iload_n 2, 1) := by decide +kernel
theorem d_M_runIt_73 : decode b_M_runIt 73 = .ok (.isub, 1) := by decide +kernel
theorem d_M_runIt_74 : decode b_M_runIt 74 = .ok (.putfield 272, 3) := by decide +kernel
theorem d_M_runIt_77 : decode b_M_runIt 77 = .ok (.iload_n 1, 1) := by decide +kernel
theorem d_M_runIt_78 : decode b_M_runIt 78 = .ok (.ireturn, 1) := by decide +kernel
theorem d_M_runIt_79 : decode b_M_runIt 79 = .ok (.iload_n 1, 1) := by decide +kernel
theorem d_M_runIt_80 : decode b_M_runIt 80 = .ok (.sipush 200, 3) := by decide +kernel
theorem d_M_runIt_83 : decode b_M_runIt 83 = .ok (.if_icmp .ne 10, 3) := by decide +kernel
theorem d_M_runIt_86 : decode b_M_runIt 86 = .ok (.aload_n 0, 1) := by decide +kernel
theorem d_M_runIt_87 : decode b_M_runIt 87 = .ok (.iconst 3, 1) := by decide +kernel
theorem d_M_runIt_88 : decode b_M_runIt 88 = .ok (.putfield 279, 3) := by decide +kernel
theorem d_M_runIt_91 : decode b_M_runIt 91 = .ok (.iload_n 1, 1) := by decide +kernel
theorem d_M_runIt_92 : decode b_M_runIt 92 = .ok (.ireturn, 1) := by decide +kernel
theorem d_M_runIt_93 : decode b_M_runIt 93 = .ok (.aload_n 0, 1) := by decide +kernel
theorem d_M_runIt_94 : decode b_M_runIt 94 = .ok (.invokevirtual 266, 3) := by decide +kernel
theorem d_M_runIt_97 : decode b_M_runIt 97 = .ok (.iinc 1 1, 3) := by decide +kernel
theorem d_M_runIt_100 : decode b_M_runIt 100 = .ok (.goto (-86), 3) := by decide +kernel
theorem d_M_run_0 : decode b_M_run 0 = .ok (.aload_n 0, 1) := by decide +kernel
theorem d_M_run_1 : decode b_M_run 1 = .ok (.invokevirtual 263, 3) := by decide +kernel
theorem d_M_run_4 : decode b_M_run 4 = .ok (.aload_n 0, 1) := by decide +kernel
theorem d_M_run_5 : decode b_M_run 5 = .ok (.invokevirtual 288, 3) := by decide +kernel
theorem d_M_run_8 : decode b_M_run 8 = .ok (.istore_n 1, 1) := by decide +kernel
theorem d_M_run_9 : decode b_M_run 9 = .ok (.aload_n 0, 1) := by decide +kernel
theorem d_M_run_10 : decode b_M_run 10 = .ok (.iconst 0, 1) := by decide +kernel
theorem d_M_run_11 : decode b_M_run 11 = .ok (.putfield 234, 3) := by decide +kernel
theorem d_M_run_14 : decode b_M_run 14 = .ok (.aload_n 0, 1) := by decide +kernel
theorem d_M_run_15 : decode b_M_run 15 = .ok (.aload_n 0, 1) := by decide +kernel
theorem d_M_run_16 : decode b_M_run 16 = .ok (.getfield 279, 3) := by decide +kernel
theorem d_M_run_19 : decode b_M_run 19 = .ok (.putfield 291, 3) := by decide +kernel
theorem d_M_run_22 : decode b_M_run 22 = .ok (.aload_n 0, 1) := by decide +kernel
theorem d_M_run_23 : decode b_M_run 23 = .ok (.aload_n 0, 1) := by decide +kernel
theorem d_M_run_24 : decode b_M_run 24 = .ok (.getfield 269, 3) := by decide +kernel
theorem d_M_run_27 : decode b_M_run 27 = .ok (.putfield 58, 3) := by decide +kernel
theorem d_M_run_30 : decode b_M_run 30 = .ok (.aload_n 0, 1) := by decide +kernel
theorem d_M_run_31 : decode b_M_run 31 = .ok (.aload_n 0, 1) := by decide +kernel
theorem d_M_run_32 : decode b_M_run 32 = .ok (.getfield 272, 3) := by decide +kernel
theorem d_M_run_35 : decode b_M_run 35 = .ok (.putfield 61, 3) := by decide +kernel
theorem d_M_run_38 : decode b_M_run 38 = .ok (.iload_n 1, 1) := by decide +kernel
theorem d_M_run_39 : decode b_M_run 39 = .ok (.ireturn, 1) := by decide +kernel
theorem d_M_ended_0 : decode b_M_ended 0 = .ok (.iload_n 1, 1) := by decide +kernel
theorem d_M_ended_1 : decode b_M_ended 1 = .ok (.iconst 0, 1) := by decide +kernel
theorem d_M_ended_2 : decode b_M_ended 2 = .ok (.iconst 2, 1) := by decide +kernel
theorem d_M_ended_3 : decode b_M_ended 3 = .ok (.invokestatic 73, 3) := by decide +kernel
theorem d_M_ended_6 : decode b_M_ended 6 = .ok (.ifCond .ne 5, 3) := by decide +kernel
theorem d_M_ended_9 : decode b_M_ended 9 = .ok (.iconst (-1), 1) := by decide +kernel
theorem d_M_ended_10 : decode b_M_ended 10 = .ok (.ireturn, 1) := by decide +kernel
theorem d_M_ended_11 : decode b_M_ended 11 = .ok (.iload_n 1, 1) := by decide +kernel
theorem d_M_ended_12 : decode b_M_ended 12 = .ok (.ifCond .ne 10, 3) := by decide +kernel
theorem d_M_ended_15 : decode b_M_ended 15 = .ok (.aload_n 0, 1) := by decide +kernel
theorem d_M_ended_16 : decode b_M_ended 16 = .ok (.getfield 291, 3) := by decide +kernel
theorem d_M_ended_19 : decode b_M_ended 19 = .ok (.goto 19, 3) := by decide +kernel
theorem d_M_ended_22 : decode b_M_ended 22 = .ok (.iload_n 1, 1) := by decide +kernel
theorem d_M_ended_23 : decode b_M_ended 23 = .ok (.iconst 1, 1) := by decide +kernel
theorem d_M_ended_24 : decode b_M_ended 24 = .ok (.if_icmp .ne 10, 3) := by decide +kernel
theorem d_M_ended_27 : decode b_M_ended 27 = .ok (.aload_n 0, 1) := by decide +kernel
theorem d_M_ended_28 : decode b_M_ended 28 = .ok (.getfield 58, 3) := by decide +kernel
theorem d_M_ended_31 : decode b_M_ended 31 = .ok (.goto 7, 3) := by decide +kernel
theorem d_M_ended_34 : decode b_M_ended 34 = .ok (.aload_n 0, 1) := by decide +kernel
theorem d_M_ended_35 : decode b_M_ended 35 = .ok (.getfield 61, 3) := by decide +kernel
theorem d_M_ended_38 : decode b_M_ended 38 = .ok (.ireturn, 1) := by decide +kernel
theorem d_M_greatestIn_0 : decode b_M_greatestIn 0 = .ok (.iconst (-1), 1) := by decide +kernel
theorem d_M_greatestIn_1 : decode b_M_greatestIn 1 = .ok (.istore_n 2, 1) := by decide +kernel
theorem d_M_greatestIn_2 : decode b_M_greatestIn 2 = .ok (.iconst 0, 1) := by decide +kernel
theorem d_M_greatestIn_3 : decode b_M_greatestIn 3 = .ok (.istore_n 3, 1) := by decide +kernel
theorem d_M_greatestIn_4 : decode b_M_greatestIn 4 = .ok (.iload_n 3, 1) := by decide +kernel
theorem d_M_greatestIn_5 : decode b_M_greatestIn 5 = .ok (.aload_n 0, 1) := by decide +kernel
theorem d_M_greatestIn_6 : decode b_M_greatestIn 6 = .ok (.getfield 70, 3) := by decide +kernel
theorem d_M_greatestIn_9 : decode b_M_greatestIn 9 = .ok (.if_icmp .ge 34, 3) := by decide +kernel
theorem d_M_greatestIn_12 : decode b_M_greatestIn 12 = .ok (.aload_n 0, 1) := by decide +kernel
theorem d_M_greatestIn_13 : decode b_M_greatestIn 13 = .ok (.getfield 13, 3) := by decide +kernel
theorem d_M_greatestIn_16 : decode b_M_greatestIn 16 = .ok (.iload_n 3, 1) := by decide +kernel
theorem d_M_greatestIn_17 : decode b_M_greatestIn 17 = .ok (.iaload, 1) := by decide +kernel
theorem d_M_greatestIn_18 : decode b_M_greatestIn 18 = .ok (.iload_n 1, 1) := by decide +kernel
theorem d_M_greatestIn_19 : decode b_M_greatestIn 19 = .ok (.if_icmp .ne 16, 3) := by decide +kernel
theorem d_M_greatestIn_22 : decode b_M_greatestIn 22 = .ok (.aload_n 0, 1) := by decide +kernel
theorem d_M_greatestIn_23 : decode b_M_greatestIn 23 = .ok (.iload_n 3, 1) := by decide +kernel
theorem d_M_greatestIn_24 : decode b_M_greatestIn 24 = .ok (.iconst 1, 1) := by decide +kernel
theorem d_M_greatestIn_25 : decode b_M_greatestIn 25 = .ok (.invokevirtual 164, 3) := by decide +kernel
theorem d_M_greatestIn_28 : decode b_M_greatestIn 28 = .ok (.ifCond .eq 7, 3) := by decide +kernel
theorem d_M_greatestIn_31 : decode b_M_greatestIn 31 = .ok (.iload_n 3, 1) := by decide +kernel
theorem d_M_greatestIn_32 : decode b_M_greatestIn 32 = .ok (.goto 4, 3) := by decide +kernel
theorem d_M_greatestIn_35 : decode b_M_greatestIn 35 = .ok (.iload_n 2, 1) := by decide +kernel
theorem d_M_greatestIn_36 : decode b_M_greatestIn 36 = .ok (.istore_n 2, 1) := by decide +kernel
theorem d_M_greatestIn_37 : decode b_M_greatestIn 37 = .ok (.iinc 3 1, 3) := by decide +kernel
theorem d_M_greatestIn_40 : decode b_M_greatestIn 40 = .ok (.goto (-36), 3) := by decide +kernel
theorem d_M_greatestIn_43 : decode b_M_greatestIn 43 = .ok (.iload_n 2, 1) := by decide +kernel
theorem d_M_greatestIn_44 : decode b_M_greatestIn 44 = .ok (.ireturn, 1) := by decide +kernel
theorem d_M_turn_0 : decode b_M_turn 0 = .ok (.aload_n 0, 1) := by decide +kernel
theorem d_M_turn_1 : decode b_M_turn 1 = .ok (.getfield 25, 3) := by decide +kernel
theorem d_M_turn_4 : decode b_M_turn 4 = .ok (.bipush 6, 2) := by decide +kernel
theorem d_M_turn_6 : decode b_M_turn 6 = .ok (.iaload, 1) := by decide +kernel
theorem d_M_turn_7 : decode b_M_turn 7 = .ok (.ifCond .gt 10, 3) := by decide +kernel
theorem d_M_turn_10 : decode b_M_turn 10 = .ok (.aload_n 0, 1) := by decide +kernel
theorem d_M_turn_11 : decode b_M_turn 11 = .ok (.invokevirtual 275, 3) := by decide +kernel
theorem d_M_turn_14 : decode b_M_turn 14 = .ok (.ifCond .eq 6, 3) := by decide +kernel
theorem d_M_turn_17 : decode b_M_turn 17 = .ok (.bipush (-5), 2) := by decide +kernel
theorem d_M_turn_19 : decode b_M_turn 19 = .ok (.ireturn, 1) := by decide +kernel
theorem d_M_turn_20 : decode b_M_turn 20 = .ok (.aload_n 0, 1) := by decide +kernel
theorem d_M_turn_21 : decode b_M_turn 21 = .ok (.invokevirtual 294, 3) := by decide +kernel
theorem d_M_turn_24 : decode b_M_turn 24 = .ok (.aload_n 0, 1) := by decide +kernel
theorem d_M_turn_25 : decode b_M_turn 25 = .ok (.getfield 25, 3) := by decide +kernel
theorem d_M_turn_28 : decode b_M_turn 28 = .ok (.iconst 4, 1) := by decide +kernel
theorem d_M_turn_29 : decode b_M_turn 29 = .ok (.iaload, 1) := by decide +kernel
theorem d_M_turn_30 : decode b_M_turn 30 = .ok (.ireturn, 1) := by decide +kernel
theorem d_M_turnIt_0 : decode b_M_turnIt 0 = .ok (.aload_n 0, 1) := by decide +kernel
theorem d_M_turnIt_1 : decode b_M_turnIt 1 = .ok (.getfield 25, 3) := by decide +kernel
theorem d_M_turnIt_4 : decode b_M_turnIt 4 = .ok (.iconst 4, 1) := by decide +kernel
theorem d_M_turnIt_5 : decode b_M_turnIt 5 = .ok (.iaload, 1) := by decide +kernel
theorem d_M_turnIt_6 : decode b_M_turnIt 6 = .ok (.istore_n 1, 1) := by decide +kernel
theorem d_M_turnIt_7 : decode b_M_turnIt 7 = .ok (.aload_n 0, 1) := by decide +kernel
theorem d_M_turnIt_8 : decode b_M_turnIt 8 = .ok (.iconst 0, 1) := by decide +kernel
theorem d_M_turnIt_9 : decode b_M_turnIt 9 = .ok (.iload_n 1, 1) := by decide +kernel
theorem d_M_turnIt_10 : decode b_M_turnIt 10 = .ok (.aload_n 0, 1) := by decide +kernel
theorem d_M_turnIt_11 : decode b_M_turnIt 11 = .ok (.iconst 0, 1) := by decide +kernel
theorem d_M_turnIt_12 : decode b_M_turnIt 12 = .ok (.invokevirtual 199, 3) := by decide +kernel
theorem d_M_turnIt_15 : decode b_M_turnIt 15 = .ok (.invokevirtual 250, 3) := by decide +kernel
theorem d_M_turnIt_18 : decode b_M_turnIt 18 = .ok (.aload_n 0, 1) := by decide +kernel
theorem d_M_turnIt_19 : decode b_M_turnIt 19 = .ok (.iload_n 1, 1) := by decide +kernel
theorem d_M_turnIt_20 : decode b_M_turnIt 20 = .ok (.iconst 1, 1) := by decide +kernel
theorem d_M_turnIt_21 : decode b_M_turnIt 21 = .ok (.invokevirtual 168, 3) := by decide +kernel
theorem d_M_turnIt_24 : decode b_M_turnIt 24 = .ok (.aload_n 0, 1) := by decide +kernel
theorem d_M_turnIt_25 : decode b_M_turnIt 25 = .ok (.iconst 3, 1) := by decide +kernel
theorem d_M_turnIt_26 : decode b_M_turnIt 26 = .ok (.invokevirtual 199, 3) := by decide +kernel
theorem d_M_turnIt_29 : decode b_M_turnIt 29 = .ok (.iconst 0, 1) := by decide +kernel
theorem d_M_turnIt_30 : decode b_M_turnIt 30 = .ok (.bipush 99, 2) := by decide +kernel
theorem d_M_turnIt_32 : decode b_M_turnIt 32 = .ok (.invokestatic 186, 3) := by decide +kernel
theorem d_M_turnIt_35 : decode b_M_turnIt 35 = .ok (.if_icmp .le 20, 3) := by decide +kernel
theorem d_M_turnIt_38 : decode b_M_turnIt 38 = .ok (.aload_n 0, 1) := by decide +kernel
theorem d_M_turnIt_39 : decode b_M_turnIt 39 = .ok (.getfield 25, 3) := by decide +kernel
theorem d_M_turnIt_42 : decode b_M_turnIt 42 = .ok (.bipush 71, 2) := by decide +kernel
theorem d_M_turnIt_44 : decode b_M_turnIt 44 = .ok (.aload_n 0, 1) := by decide +kernel
theorem d_M_turnIt_45 : decode b_M_turnIt 45 = .ok (.iload_n 1, 1) := by decide +kernel
theorem d_M_turnIt_46 : decode b_M_turnIt 46 = .ok (.invokevirtual 297, 3) := by decide +kernel
theorem d_M_turnIt_49 : decode b_M_turnIt 49 = .ok (.iadd, 1) := by decide +kernel
theorem d_M_turnIt_50 : decode b_M_turnIt 50 = .ok (.iconst 4, 1) := by decide +kernel
theorem d_M_turnIt_51 : decode b_M_turnIt 51 = .ok (.iastore, 1) := by decide +kernel
theorem d_M_turnIt_52 : decode b_M_turnIt 52 = .ok (.goto (-34), 3) := by decide +kernel
theorem d_M_turnIt_55 : decode b_M_turnIt 55 = .ok (.aload_n 0, 1) := by decide +kernel
theorem d_M_turnIt_56 : decode b_M_turnIt 56 = .ok (.getfield 25, 3) := by decide +kernel
theorem d_M_turnIt_59 : decode b_M_turnIt 59 = .ok (.iconst 4, 1) := by decide +kernel
theorem d_M_turnIt_60 : decode b_M_turnIt 60 = .ok (.iconst 1, 1) := by decide +kernel
theorem d_M_turnIt_61 : decode b_M_turnIt 61 = .ok (.iload_n 1, 1) := by decide +kernel
theorem d_M_turnIt_62 : decode b_M_turnIt 62 = .ok (.isub, 1) := by decide +kernel
theorem d_M_turnIt_63 : decode b_M_turnIt 63 = .ok (.iastore, 1) := by decide +kernel
theorem d_M_turnIt_64 : decode b_M_turnIt 64 = .ok (.aload_n 0, 1) := by decide +kernel
theorem d_M_turnIt_65 : decode b_M_turnIt 65 = .ok (.getfield 25, 3) := by decide +kernel
theorem d_M_turnIt_68 : decode b_M_turnIt 68 = .ok (.iconst 5, 1) := by decide +kernel
theorem d_M_turnIt_69 : decode b_M_turnIt 69 = .ok (.dup2, 1) := by decide +kernel
theorem d_M_turnIt_70 : decode b_M_turnIt 70 = .ok (.iaload, 1) := by decide +kernel
theorem d_M_turnIt_71 : decode b_M_turnIt 71 = .ok (.iconst 1, 1) := by decide +kernel
theorem d_M_turnIt_72 : decode b_M_turnIt 72 = .ok (.iadd, 1) := by decide +kernel
theorem d_M_turnIt_73 : decode b_M_turnIt 73 = .ok (.iastore, 1) := by decide +kernel
theorem d_M_turnIt_74 : decode b_M_turnIt 74 = .ok (.return_, 1) := by decide +kernel
theorem d_M_dry_0 : decode b_M_dry 0 = .ok (.iload_n 1, 1) := by decide +kernel
theorem d_M_dry_1 : decode b_M_dry 1 = .ok (.iconst 0, 1) := by decide +kernel
theorem d_M_dry_2 : decode b_M_dry 2 = .ok (.iconst 3, 1) := by decide +kernel
theorem d_M_dry_3 : decode b_M_dry 3 = .ok (.invokestatic 73, 3) := by decide +kernel
theorem d_M_dry_6 : decode b_M_dry 6 = .ok (.ifCond .ne 6, 3) := by decide +kernel
theorem d_M_dry_9 : decode b_M_dry 9 = .ok (.ldc 167, 2) := by decide +kernel
theorem d_M_dry_11 : decode b_M_dry 11 = .ok (.ireturn, 1) := by decide +kernel
theorem d_M_dry_12 : decode b_M_dry 12 = .ok (.aload_n 0, 1) := by decide +kernel
theorem d_M_dry_13 : decode b_M_dry 13 = .ok (.getfield 25, 3) := by decide +kernel
theorem d_M_dry_16 : decode b_M_dry 16 = .ok (.aload_n 0, 1) := by decide +kernel
theorem d_M_dry_17 : decode b_M_dry 17 = .ok (.getfield 30, 3) := by decide +kernel
theorem d_M_dry_20 : decode b_M_dry 20 = .ok (.iconst 0, 1) := by decide +kernel
theorem d_M_dry_21 : decode b_M_dry 21 = .ok (.aaload, 1) := by decide +kernel
theorem d_M_dry_22 : decode b_M_dry 22 = .ok (.invokestatic 300, 3) := by decide +kernel
theorem d_M_dry_25 : decode b_M_dry 25 = .ok (.aload_n 0, 1) := by decide +kernel
theorem d_M_dry_26 : decode b_M_dry 26 = .ok (.invokevirtual 288, 3) := by decide +kernel
theorem d_M_dry_29 : decode b_M_dry 29 = .ok (.istore_n 2, 1) := by decide +kernel
theorem d_M_dry_30 : decode b_M_dry 30 = .ok (.iload_n 1, 1) := by decide +kernel
theorem d_M_dry_31 : decode b_M_dry 31 = .ok (.ifCond .ne 10, 3) := by decide +kernel
theorem d_M_dry_34 : decode b_M_dry 34 = .ok (.aload_n 0, 1) := by decide +kernel
theorem d_M_dry_35 : decode b_M_dry 35 = .ok (.getfield 279, 3) := by decide +kernel
theorem d_M_dry_38 : decode b_M_dry 38 = .ok (.goto 22, 3) := by decide +kernel
theorem d_M_dry_41 : decode b_M_dry 41 = .ok (.iload_n 1, 1) := by decide +kernel
theorem d_M_dry_42 : decode b_M_dry 42 = .ok (.iconst 1, 1) := by decide +kernel
theorem d_M_dry_43 : decode b_M_dry 43 = .ok (.if_icmp .ne 7, 3) := by decide +kernel
theorem d_M_dry_46 : decode b_M_dry 46 = .ok (.iload_n 2, 1) := by decide +kernel
theorem d_M_dry_47 : decode b_M_dry 47 = .ok (.goto 13, 3) := by decide +kernel
theorem d_M_dry_50 : decode b_M_dry 50 = .ok (.aload_n 0, 1) := by decide +kernel
theorem d_M_dry_51 : decode b_M_dry 51 = .ok (.getfield 25, 3) := by decide +kernel
theorem d_M_dry_54 : decode b_M_dry 54 = .ok (.iconst 0, 1) := by decide +kernel
theorem d_M_dry_55 : decode b_M_dry 55 = .ok (.iload_n 1, 1) := by decide +kernel
theorem d_M_dry_56 : decode b_M_dry 56 = .ok (.iadd, 1) := by decide +kernel
theorem d_M_dry_57 : decode b_M_dry 57 = .ok (.iconst 2, 1) := by decide +kernel
theorem d_M_dry_58 : decode b_M_dry 58 = .ok (.isub, 1) := by decide +kernel
theorem d_M_dry_59 : decode b_M_dry 59 = .ok (.iaload, 1) := by decide +kernel
theorem d_M_dry_60 : decode b_M_dry 60 = .ok (.istore_n 3, 1) := by decide +kernel
theorem d_M_dry_61 : decode b_M_dry 61 = .ok (.aload_n 0, 1) := by decide +kernel
theorem d_M_dry_62 : decode b_M_dry 62 = .ok (.getfield 30, 3) := by decide +kernel
theorem d_M_dry_65 : decode b_M_dry 65 = .ok (.iconst 0, 1) := by decide +kernel
theorem d_M_dry_66 : decode b_M_dry 66 = .ok (.aaload, 1) := by decide +kernel
theorem d_M_dry_67 : decode b_M_dry 67 = .ok (.aload_n 0, 1) := by decide +kernel
theorem d_M_dry_68 : decode b_M_dry 68 = .ok (.getfield 25, 3) := by decide +kernel
theorem d_M_dry_71 : decode b_M_dry 71 = .ok (.invokestatic 300, 3) := by decide +kernel
theorem d_M_dry_74 : decode b_M_dry 74 = .ok (.iload_n 3, 1) := by decide +kernel
theorem d_M_dry_75 : decode b_M_dry 75 = .ok (.ireturn, 1) := by decide +kernel
theorem d_M_worthOf_0 : decode b_M_worthOf 0 = .ok (.aload_n 0, 1) := by decide +kernel
theorem d_M_worthOf_1 : decode b_M_worthOf 1 = .ok (.getfield 25, 3) := by decide +kernel
theorem d_M_worthOf_4 : decode b_M_worthOf 4 = .ok (.iconst 0, 1) := by decide +kernel
theorem d_M_worthOf_5 : decode b_M_worthOf 5 = .ok (.iload_n 1, 1) := by decide +kernel
theorem d_M_worthOf_6 : decode b_M_worthOf 6 = .ok (.iadd, 1) := by decide +kernel
theorem d_M_worthOf_7 : decode b_M_worthOf 7 = .ok (.iaload, 1) := by decide +kernel
theorem d_M_worthOf_8 : decode b_M_worthOf 8 = .ok (.aload_n 0, 1) := by decide +kernel
theorem d_M_worthOf_9 : decode b_M_worthOf 9 = .ok (.getfield 25, 3) := by decide +kernel
theorem d_M_worthOf_12 : decode b_M_worthOf 12 = .ok (.iconst 1, 1) := by decide +kernel
theorem d_M_worthOf_13 : decode b_M_worthOf 13 = .ok (.iload_n 1, 1) := by decide +kernel
theorem d_M_worthOf_14 : decode b_M_worthOf 14 = .ok (.isub, 1) := by decide +kernel
theorem d_M_worthOf_15 : decode b_M_worthOf 15 = .ok (.iaload, 1) := by decide +kernel
theorem d_M_worthOf_16 : decode b_M_worthOf 16 = .ok (.isub, 1) := by decide +kernel
theorem d_M_worthOf_17 : decode b_M_worthOf 17 = .ok (.ireturn, 1) := by decide +kernel
theorem d_M_worthIf_0 : decode b_M_worthIf 0 = .ok (.aload_n 0, 1) := by decide +kernel
theorem d_M_worthIf_1 : decode b_M_worthIf 1 = .ok (.getfield 25, 3) := by decide +kernel
theorem d_M_worthIf_4 : decode b_M_worthIf 4 = .ok (.aload_n 0, 1) := by decide +kernel
theorem d_M_worthIf_5 : decode b_M_worthIf 5 = .ok (.getfield 30, 3) := by decide +kernel
theorem d_M_worthIf_8 : decode b_M_worthIf 8 = .ok (.iconst 0, 1) := by decide +kernel
theorem d_M_worthIf_9 : decode b_M_worthIf 9 = .ok (.aaload, 1) := by decide +kernel
theorem d_M_worthIf_10 : decode b_M_worthIf 10 = .ok (.invokestatic 300, 3) := by decide +kernel
theorem d_M_worthIf_13 : decode b_M_worthIf 13 = .ok (.iload_n 1, 1) := by decide +kernel
theorem d_M_worthIf_14 : decode b_M_worthIf 14 = .ok (.ifCond .lt 8, 3) := by decide +kernel
theorem d_M_worthIf_17 : decode b_M_worthIf 17 = .ok (.aload_n 0, 1) := by decide +kernel
theorem d_M_worthIf_18 : decode b_M_worthIf 18 = .ok (.iload_n 1, 1) := by decide +kernel
theorem d_M_worthIf_19 : decode b_M_worthIf 19 = .ok (.invokevirtual 247, 3) := by decide +kernel
theorem d_M_worthIf_22 : decode b_M_worthIf 22 = .ok (.aload_n 0, 1) := by decide +kernel
theorem d_M_worthIf_23 : decode b_M_worthIf 23 = .ok (.invokevirtual 288, 3) := by decide +kernel
theorem d_M_worthIf_26 : decode b_M_worthIf 26 = .ok (.pop, 1) := by decide +kernel
theorem d_M_worthIf_27 : decode b_M_worthIf 27 = .ok (.aload_n 0, 1) := by decide +kernel
theorem d_M_worthIf_28 : decode b_M_worthIf 28 = .ok (.iload_n 2, 1) := by decide +kernel
theorem d_M_worthIf_29 : decode b_M_worthIf 29 = .ok (.invokevirtual 304, 3) := by decide +kernel
theorem d_M_worthIf_32 : decode b_M_worthIf 32 = .ok (.istore_n 3, 1) := by decide +kernel
theorem d_M_worthIf_33 : decode b_M_worthIf 33 = .ok (.aload_n 0, 1) := by decide +kernel
theorem d_M_worthIf_34 : decode b_M_worthIf 34 = .ok (.getfield 30, 3) := by decide +kernel
theorem d_M_worthIf_37 : decode b_M_worthIf 37 = .ok (.iconst 0, 1) := by decide +kernel
theorem d_M_worthIf_38 : decode b_M_worthIf 38 = .ok (.aaload, 1) := by decide +kernel
theorem d_M_worthIf_39 : decode b_M_worthIf 39 = .ok (.aload_n 0, 1) := by decide +kernel
theorem d_M_worthIf_40 : decode b_M_worthIf 40 = .ok (.getfield 25, 3) := by decide +kernel
theorem d_M_worthIf_43 : decode b_M_worthIf 43 = .ok (.invokestatic 300, 3) := by decide +kernel
theorem d_M_worthIf_46 : decode b_M_worthIf 46 = .ok (.iload_n 3, 1) := by decide +kernel
theorem d_M_worthIf_47 : decode b_M_worthIf 47 = .ok (.ireturn, 1) := by decide +kernel
theorem d_M_worth_0 : decode b_M_worth 0 = .ok (.aload_n 0, 1) := by decide +kernel
theorem d_M_worth_1 : decode b_M_worth 1 = .ok (.iload_n 1, 1) := by decide +kernel
theorem d_M_worth_2 : decode b_M_worth 2 = .ok (.invokevirtual 160, 3) := by decide +kernel
theorem d_M_worth_5 : decode b_M_worth 5 = .ok (.ifCond .eq 38, 3) := by decide +kernel
theorem d_M_worth_8 : decode b_M_worth 8 = .ok (.aload_n 0, 1) := by decide +kernel
theorem d_M_worth_9 : decode b_M_worth 9 = .ok (.iload_n 1, 1) := by decide +kernel
theorem d_M_worth_10 : decode b_M_worth 10 = .ok (.iconst 1, 1) := by decide +kernel
theorem d_M_worth_11 : decode b_M_worth 11 = .ok (.invokevirtual 164, 3) := by decide +kernel
theorem d_M_worth_14 : decode b_M_worth 14 = .ok (.ifCond .eq 29, 3) := by decide +kernel
theorem d_M_worth_17 : decode b_M_worth 17 = .ok (.aload_n 0, 1) := by decide +kernel
theorem d_M_worth_18 : decode b_M_worth 18 = .ok (.getfield 25, 3) := by decide +kernel
theorem d_M_worth_21 : decode b_M_worth 21 = .ok (.bipush 6, 2) := by decide +kernel
theorem d_M_worth_23 : decode b_M_worth 23 = .ok (.iaload, 1) := by decide +kernel
theorem d_M_worth_24 : decode b_M_worth 24 = .ok (.bipush 64, 2) := by decide +kernel
theorem d_M_worth_26 : decode b_M_worth 26 = .ok (.if_icmp .ge 17, 3) := by decide +kernel
theorem d_M_worth_29 : decode b_M_worth 29 = .ok (.aload_n 0, 1) := by decide +kernel
theorem d_M_worth_30 : decode b_M_worth 30 = .ok (.iload_n 1, 1) := by decide +kernel
theorem d_M_worth_31 : decode b_M_worth 31 = .ok (.aload_n 0, 1) := by decide +kernel
theorem d_M_worth_32 : decode b_M_worth 32 = .ok (.getfield 13, 3) := by decide +kernel
theorem d_M_worth_35 : decode b_M_worth 35 = .ok (.iload_n 1, 1) := by decide +kernel
theorem d_M_worth_36 : decode b_M_worth 36 = .ok (.iaload, 1) := by decide +kernel
theorem d_M_worth_37 : decode b_M_worth 37 = .ok (.invokevirtual 307, 3) := by decide +kernel
theorem d_M_worth_40 : decode b_M_worth 40 = .ok (.goto 5, 3) := by decide +kernel
theorem d_M_worth_43 : decode b_M_worth 43 = .ok (.ldc 167, 2) := by decide +kernel
theorem d_M_worth_45 : decode b_M_worth 45 = .ok (.ireturn, 1) := by decide +kernel
theorem d_M_best_0 : decode b_M_best 0 = .ok (.iload_n 1, 1) := by decide +kernel
theorem d_M_best_1 : decode b_M_best 1 = .ok (.iconst 0, 1) := by decide +kernel
theorem d_M_best_2 : decode b_M_best 2 = .ok (.iconst 1, 1) := by decide +kernel
theorem d_M_best_3 : decode b_M_best 3 = .ok (.invokestatic 73, 3) := by decide +kernel
theorem d_M_best_6 : decode b_M_best 6 = .ok (.ifCond .eq 12, 3) := by decide +kernel
theorem d_M_best_9 : decode b_M_best 9 = .ok (.iload_n 2, 1) := by decide +kernel
theorem d_M_best_10 : decode b_M_best 10 = .ok (.iconst 0, 1) := by decide +kernel
theorem d_M_best_11 : decode b_M_best 11 = .ok (.iconst 1, 1) := by decide +kernel
theorem d_M_best_12 : decode b_M_best 12 = .ok (.invokestatic 73, 3) := by decide +kernel
theorem d_M_best_15 : decode b_M_best 15 = .ok (.ifCond .ne 6, 3) := by decide +kernel
theorem d_M_best_18 : decode b_M_best 18 = .ok (.ldc 167, 2) := by decide +kernel
theorem d_M_best_20 : decode b_M_best 20 = .ok (.ireturn, 1) := by decide +kernel
theorem d_M_best_21 : decode b_M_best 21 = .ok (.bipush (-2), 2) := by decide +kernel
theorem d_M_best_23 : decode b_M_best 23 = .ok (.istore_n 3, 1) := by decide +kernel
theorem d_M_best_24 : decode b_M_best 24 = .ok (.aload_n 0, 1) := by decide +kernel
theorem d_M_best_25 : decode b_M_best 25 = .ok (.iconst (-1), 1) := by decide +kernel
theorem d_M_best_26 : decode b_M_best 26 = .ok (.iload_n 1, 1) := by decide +kernel
theorem d_M_best_27 : decode b_M_best 27 = .ok (.invokevirtual 307, 3) := by decide +kernel
theorem d_M_best_30 : decode b_M_best 30 = .ok (.istore 4, 2) := by decide +kernel
theorem d_M_best_32 : decode b_M_best 32 = .ok (.iconst 0, 1) := by decide +kernel
theorem d_M_best_33 : decode b_M_best 33 = .ok (.istore 5, 2) := by decide +kernel
theorem d_M_best_35 : decode b_M_best 35 = .ok (.iload 5, 2) := by decide +kernel
theorem d_M_best_37 : decode b_M_best 37 = .ok (.aload_n 0, 1) := by decide +kernel
theorem d_M_best_38 : decode b_M_best 38 = .ok (.getfield 70, 3) := by decide +kernel
theorem d_M_best_41 : decode b_M_best 41 = .ok (.if_icmp .ge 81, 3) := by decide +kernel
theorem d_M_best_44 : decode b_M_best 44 = .ok (.aload_n 0, 1) := by decide +kernel
theorem d_M_best_45 : decode b_M_best 45 = .ok (.getfield 25, 3) := by decide +kernel
theorem d_M_best_48 : decode b_M_best 48 = .ok (.bipush 6, 2) := by decide +kernel
theorem d_M_best_50 : decode b_M_best 50 = .ok (.iaload, 1) := by decide +kernel
theorem d_M_best_51 : decode b_M_best 51 = .ok (.bipush 64, 2) := by decide +kernel
theorem d_M_best_53 : decode b_M_best 53 = .ok (.if_icmp .ge 69, 3) := by decide +kernel
theorem d_M_best_56 : decode b_M_best 56 = .ok (.aload_n 0, 1) := by decide +kernel
theorem d_M_best_57 : decode b_M_best 57 = .ok (.getfield 13, 3) := by decide +kernel
theorem d_M_best_60 : decode b_M_best 60 = .ok (.iload 5, 2) := by decide +kernel
theorem d_M_best_62 : decode b_M_best 62 = .ok (.iaload, 1) := by decide +kernel
theorem d_M_best_63 : decode b_M_best 63 = .ok (.iload_n 1, 1) := by decide +kernel
theorem d_M_best_64 : decode b_M_best 64 = .ok (.if_icmp .ne 52, 3) := by decide +kernel
theorem d_M_best_67 : decode b_M_best 67 = .ok (.aload_n 0, 1) := by decide +kernel
theorem d_M_best_68 : decode b_M_best 68 = .ok (.iload 5, 2) := by decide +kernel
theorem d_M_best_70 : decode b_M_best 70 = .ok (.iconst 1, 1) := by decide +kernel
theorem d_M_best_71 : decode b_M_best 71 = .ok (.invokevirtual 164, 3) := by decide +kernel
theorem d_M_best_74 : decode b_M_best 74 = .ok (.ifCond .eq 42, 3) := by decide +kernel
theorem d_M_best_77 : decode b_M_best 77 = .ok (.aload_n 0, 1) := by decide +kernel
theorem d_M_best_78 : decode b_M_best 78 = .ok (.iload 5, 2) := by decide +kernel
theorem d_M_best_80 : decode b_M_best 80 = .ok (.iload_n 1, 1) := by decide +kernel
theorem d_M_best_81 : decode b_M_best 81 = .ok (.invokevirtual 307, 3) := by decide +kernel
theorem d_M_best_84 : decode b_M_best 84 = .ok (.istore 6, 2) := by decide +kernel
theorem d_M_best_86 : decode b_M_best 86 = .ok (.iload 6, 2) := by decide +kernel
theorem d_M_best_88 : decode b_M_best 88 = .ok (.iload 4, 2) := by decide +kernel
theorem d_M_best_90 : decode b_M_best 90 = .ok (.if_icmp .le 8, 3) := by decide +kernel
theorem d_M_best_93 : decode b_M_best 93 = .ok (.iload 5, 2) := by decide +kernel
theorem d_M_best_95 : decode b_M_best 95 = .ok (.goto 4, 3) := by decide +kernel
theorem d_M_best_98 : decode b_M_best 98 = .ok (.iload_n 3, 1) := by decide +kernel
theorem d_M_best_99 : decode b_M_best 99 = .ok (.istore_n 3, 1) := by decide +kernel
theorem d_M_best_100 : decode b_M_best 100 = .ok (.iload 6, 2) := by decide +kernel
theorem d_M_best_102 : decode b_M_best 102 = .ok (.iload 4, 2) := by decide +kernel
theorem d_M_best_104 : decode b_M_best 104 = .ok (.if_icmp .le 8, 3) := by decide +kernel
theorem d_M_best_107 : decode b_M_best 107 = .ok (.iload 6, 2) := by decide +kernel
theorem d_M_best_109 : decode b_M_best 109 = .ok (.goto 5, 3) := by decide +kernel
theorem d_M_best_112 : decode b_M_best 112 = .ok (.iload 4, 2) := by decide +kernel
theorem d_M_best_114 : decode b_M_best 114 = .ok (.istore 4, 2) := by decide +kernel
theorem d_M_best_116 : decode b_M_best 116 = .ok (.iinc 5 1, 3) := by decide +kernel
theorem d_M_best_119 : decode b_M_best 119 = .ok (.goto (-84), 3) := by decide +kernel
theorem d_M_best_122 : decode b_M_best 122 = .ok (.iload_n 2, 1) := by decide +kernel
theorem d_M_best_123 : decode b_M_best 123 = .ok (.ifCond .ne 7, 3) := by decide +kernel
theorem d_M_best_126 : decode b_M_best 126 = .ok (.iload_n 3, 1) := by decide +kernel
theorem d_M_best_127 : decode b_M_best 127 = .ok (.goto 5, 3) := by decide +kernel
theorem d_M_best_130 : decode b_M_best 130 = .ok (.iload 4, 2) := by decide +kernel
theorem d_M_best_132 : decode b_M_best 132 = .ok (.ireturn, 1) := by decide +kernel
theorem d_M_reach_0 : decode b_M_reach 0 = .ok (.iload_n 2, 1) := by decide +kernel
theorem d_M_reach_1 : decode b_M_reach 1 = .ok (.ifCond .ne 10, 3) := by decide +kernel
theorem d_M_reach_4 : decode b_M_reach 4 = .ok (.aload_n 0, 1) := by decide +kernel
theorem d_M_reach_5 : decode b_M_reach 5 = .ok (.iload 4, 2) := by decide +kernel
theorem d_M_reach_7 : decode b_M_reach 7 = .ok (.invokevirtual 304, 3) := by decide +kernel
theorem d_M_reach_10 : decode b_M_reach 10 = .ok (.ireturn, 1) := by decide +kernel
theorem d_M_reach_11 : decode b_M_reach 11 = .ok (.aload_n 0, 1) := by decide +kernel
theorem d_M_reach_12 : decode b_M_reach 12 = .ok (.getfield 25, 3) := by decide +kernel
theorem d_M_reach_15 : decode b_M_reach 15 = .ok (.aload_n 0, 1) := by decide +kernel
theorem d_M_reach_16 : decode b_M_reach 16 = .ok (.getfield 30, 3) := by decide +kernel
theorem d_M_reach_19 : decode b_M_reach 19 = .ok (.iload_n 1, 1) := by decide +kernel
theorem d_M_reach_20 : decode b_M_reach 20 = .ok (.aaload, 1) := by decide +kernel
theorem d_M_reach_21 : decode b_M_reach 21 = .ok (.invokestatic 300, 3) := by decide +kernel
theorem d_M_reach_24 : decode b_M_reach 24 = .ok (.aload_n 0, 1) := by decide +kernel
theorem d_M_reach_25 : decode b_M_reach 25 = .ok (.invokevirtual 288, 3) := by decide +kernel
theorem d_M_reach_28 : decode b_M_reach 28 = .ok (.pop, 1) := by decide +kernel
theorem d_M_reach_29 : decode b_M_reach 29 = .ok (.aload_n 0, 1) := by decide +kernel
theorem d_M_reach_30 : decode b_M_reach 30 = .ok (.iload_n 1, 1) := by decide +kernel
theorem d_M_reach_31 : decode b_M_reach 31 = .ok (.iconst 1, 1) := by decide +kernel
theorem d_M_reach_32 : decode b_M_reach 32 = .ok (.iadd, 1) := by decide +kernel
theorem d_M_reach_33 : decode b_M_reach 33 = .ok (.iload_n 2, 1) := by decide +kernel
theorem d_M_reach_34 : decode b_M_reach 34 = .ok (.iconst 1, 1) := by decide +kernel
theorem d_M_reach_35 : decode b_M_reach 35 = .ok (.isub, 1) := by decide +kernel
theorem d_M_reach_36 : decode b_M_reach 36 = .ok (.iconst 1, 1) := by decide +kernel
theorem d_M_reach_37 : decode b_M_reach 37 = .ok (.iload_n 3, 1) := by decide +kernel
theorem d_M_reach_38 : decode b_M_reach 38 = .ok (.isub, 1) := by decide +kernel
theorem d_M_reach_39 : decode b_M_reach 39 = .ok (.iload 4, 2) := by decide +kernel
theorem d_M_reach_41 : decode b_M_reach 41 = .ok (.invokevirtual 310, 3) := by decide +kernel
theorem d_M_reach_44 : decode b_M_reach 44 = .ok (.istore 5, 2) := by decide +kernel
theorem d_M_reach_46 : decode b_M_reach 46 = .ok (.aload_n 0, 1) := by decide +kernel
theorem d_M_reach_47 : decode b_M_reach 47 = .ok (.getfield 30, 3) := by decide +kernel
theorem d_M_reach_50 : decode b_M_reach 50 = .ok (.iload_n 1, 1) := by decide +kernel
theorem d_M_reach_51 : decode b_M_reach 51 = .ok (.aaload, 1) := by decide +kernel
theorem d_M_reach_52 : decode b_M_reach 52 = .ok (.aload_n 0, 1) := by decide +kernel
theorem d_M_reach_53 : decode b_M_reach 53 = .ok (.getfield 25, 3) := by decide +kernel
theorem d_M_reach_56 : decode b_M_reach 56 = .ok (.invokestatic 300, 3) := by decide +kernel
theorem d_M_reach_59 : decode b_M_reach 59 = .ok (.iconst 0, 1) := by decide +kernel
theorem d_M_reach_60 : decode b_M_reach 60 = .ok (.istore 6, 2) := by decide +kernel
theorem d_M_reach_62 : decode b_M_reach 62 = .ok (.iconst 0, 1) := by decide +kernel
theorem d_M_reach_63 : decode b_M_reach 63 = .ok (.istore 7, 2) := by decide +kernel
theorem d_M_reach_65 : decode b_M_reach 65 = .ok (.iload 7, 2) := by decide +kernel
theorem d_M_reach_67 : decode b_M_reach 67 = .ok (.aload_n 0, 1) := by decide +kernel
theorem d_M_reach_68 : decode b_M_reach 68 = .ok (.getfield 70, 3) := by decide +kernel
theorem d_M_reach_71 : decode b_M_reach 71 = .ok (.if_icmp .ge 131, 3) := by decide +kernel
theorem d_M_reach_74 : decode b_M_reach 74 = .ok (.iload 6, 2) := by decide +kernel
theorem d_M_reach_76 : decode b_M_reach 76 = .ok (.iconst 3, 1) := by decide +kernel
theorem d_M_reach_77 : decode b_M_reach 77 = .ok (.if_icmp .ge 125, 3) := by decide +kernel
theorem d_M_reach_80 : decode b_M_reach 80 = .ok (.aload_n 0, 1) := by decide +kernel
theorem d_M_reach_81 : decode b_M_reach 81 = .ok (.getfield 25, 3) := by decide +kernel
theorem d_M_reach_84 : decode b_M_reach 84 = .ok (.bipush 6, 2) := by decide +kernel
theorem d_M_reach_86 : decode b_M_reach 86 = .ok (.iaload, 1) := by decide +kernel
theorem d_M_reach_87 : decode b_M_reach 87 = .ok (.bipush 64, 2) := by decide +kernel
theorem d_M_reach_89 : decode b_M_reach 89 = .ok (.if_icmp .ge 113, 3) := by decide +kernel
theorem d_M_reach_92 : decode b_M_reach 92 = .ok (.aload_n 0, 1) := by decide +kernel
theorem d_M_reach_93 : decode b_M_reach 93 = .ok (.getfield 13, 3) := by decide +kernel
theorem d_M_reach_96 : decode b_M_reach 96 = .ok (.iload 7, 2) := by decide +kernel
theorem d_M_reach_98 : decode b_M_reach 98 = .ok (.iaload, 1) := by decide +kernel
theorem d_M_reach_99 : decode b_M_reach 99 = .ok (.iload_n 3, 1) := by decide +kernel
theorem d_M_reach_100 : decode b_M_reach 100 = .ok (.if_icmp .ne 96, 3) := by decide +kernel
theorem d_M_reach_103 : decode b_M_reach 103 = .ok (.aload_n 0, 1) := by decide +kernel
theorem d_M_reach_104 : decode b_M_reach 104 = .ok (.iload 7, 2) := by decide +kernel
theorem d_M_reach_106 : decode b_M_reach 106 = .ok (.iconst 1, 1) := by decide +kernel
theorem d_M_reach_107 : decode b_M_reach 107 = .ok (.invokevirtual 164, 3) := by decide +kernel
theorem d_M_reach_110 : decode b_M_reach 110 = .ok (.ifCond .eq 86, 3) := by decide +kernel
theorem d_M_reach_113 : decode b_M_reach 113 = .ok (.iinc 6 1, 3) := by decide +kernel
theorem d_M_reach_116 : decode b_M_reach 116 = .ok (.aload_n 0, 1) := by decide +kernel
theorem d_M_reach_117 : decode b_M_reach 117 = .ok (.iload 7, 2) := by decide +kernel
theorem d_M_reach_119 : decode b_M_reach 119 = .ok (.invokevirtual 247, 3) := by decide +kernel
theorem d_M_reach_122 : decode b_M_reach 122 = .ok (.aload_n 0, 1) := by decide +kernel
theorem d_M_reach_123 : decode b_M_reach 123 = .ok (.invokevirtual 288, 3) := by decide +kernel
theorem d_M_reach_126 : decode b_M_reach 126 = .ok (.pop, 1) := by decide +kernel
theorem d_M_reach_127 : decode b_M_reach 127 = .ok (.aload_n 0, 1) := by decide +kernel
theorem d_M_reach_128 : decode b_M_reach 128 = .ok (.iload_n 1, 1) := by decide +kernel
theorem d_M_reach_129 : decode b_M_reach 129 = .ok (.iconst 1, 1) := by decide +kernel
theorem d_M_reach_130 : decode b_M_reach 130 = .ok (.iadd, 1) := by decide +kernel
theorem d_M_reach_131 : decode b_M_reach 131 = .ok (.iload_n 2, 1) := by decide +kernel
theorem d_M_reach_132 : decode b_M_reach 132 = .ok (.iconst 1, 1) := by decide +kernel
theorem d_M_reach_133 : decode b_M_reach 133 = .ok (.isub, 1) := by decide +kernel
theorem d_M_reach_134 : decode b_M_reach 134 = .ok (.iconst 1, 1) := by decide +kernel
theorem d_M_reach_135 : decode b_M_reach 135 = .ok (.iload_n 3, 1) := by decide +kernel
theorem d_M_reach_136 : decode b_M_reach 136 = .ok (.isub, 1) := by decide +kernel
theorem d_M_reach_137 : decode b_M_reach 137 = .ok (.iload 4, 2) := by decide +kernel
theorem d_M_reach_139 : decode b_M_reach 139 = .ok (.invokevirtual 310, 3) := by decide +kernel
theorem d_M_reach_142 : decode b_M_reach 142 = .ok (.istore 8, 2) := by decide +kernel
theorem d_M_reach_144 : decode b_M_reach 144 = .ok (.iload_n 3, 1) := by decide +kernel
theorem d_M_reach_145 : decode b_M_reach 145 = .ok (.iload 4, 2) := by decide +kernel
theorem d_M_reach_147 : decode b_M_reach 147 = .ok (.if_icmp .ne 20, 3) := by decide +kernel
theorem d_M_reach_150 : decode b_M_reach 150 = .ok (.iload 8, 2) := by decide +kernel
theorem d_M_reach_152 : decode b_M_reach 152 = .ok (.iload 5, 2) := by decide +kernel
theorem d_M_reach_154 : decode b_M_reach 154 = .ok (.if_icmp .le 8, 3) := by decide +kernel
theorem d_M_reach_157 : decode b_M_reach 157 = .ok (.iload 8, 2) := by decide +kernel
theorem d_M_reach_159 : decode b_M_reach 159 = .ok (.goto 22, 3) := by decide +kernel
theorem d_M_reach_162 : decode b_M_reach 162 = .ok (.iload 5, 2) := by decide +kernel
theorem d_M_reach_164 : decode b_M_reach 164 = .ok (.goto 17, 3) := by decide +kernel
theorem d_M_reach_167 : decode b_M_reach 167 = .ok (.iload 8, 2) := by decide +kernel
theorem d_M_reach_169 : decode b_M_reach 169 = .ok (.iload 5, 2) := by decide +kernel
theorem d_M_reach_171 : decode b_M_reach 171 = .ok (.if_icmp .ge 8, 3) := by decide +kernel
theorem d_M_reach_174 : decode b_M_reach 174 = .ok (.iload 8, 2) := by decide +kernel
theorem d_M_reach_176 : decode b_M_reach 176 = .ok (.goto 5, 3) := by decide +kernel
theorem d_M_reach_179 : decode b_M_reach 179 = .ok (.iload 5, 2) := by decide +kernel
theorem d_M_reach_181 : decode b_M_reach 181 = .ok (.istore 5, 2) := by decide +kernel
theorem d_M_reach_183 : decode b_M_reach 183 = .ok (.aload_n 0, 1) := by decide +kernel
theorem d_M_reach_184 : decode b_M_reach 184 = .ok (.getfield 30, 3) := by decide +kernel
theorem d_M_reach_187 : decode b_M_reach 187 = .ok (.iload_n 1, 1) := by decide +kernel
theorem d_M_reach_188 : decode b_M_reach 188 = .ok (.aaload, 1) := by decide +kernel
theorem d_M_reach_189 : decode b_M_reach 189 = .ok (.aload_n 0, 1) := by decide +kernel
theorem d_M_reach_190 : decode b_M_reach 190 = .ok (.getfield 25, 3) := by decide +kernel
theorem d_M_reach_193 : decode b_M_reach 193 = .ok (.invokestatic 300, 3) := by decide +kernel
theorem d_M_reach_196 : decode b_M_reach 196 = .ok (.iinc 7 1, 3) := by decide +kernel
theorem d_M_reach_199 : decode b_M_reach 199 = .ok (.goto (-134), 3) := by decide +kernel
theorem d_M_reach_202 : decode b_M_reach 202 = .ok (.iload 5, 2) := by decide +kernel
theorem d_M_reach_204 : decode b_M_reach 204 = .ok (.ireturn, 1) := by decide +kernel
theorem d_M_matter_0 : decode b_M_matter 0 = .ok (.aload_n 0, 1) := by decide +kernel
theorem d_M_matter_1 : decode b_M_matter 1 = .ok (.getfield 25, 3) := by decide +kernel
theorem d_M_matter_4 : decode b_M_matter 4 = .ok (.aload_n 0, 1) := by decide +kernel
theorem d_M_matter_5 : decode b_M_matter 5 = .ok (.getfield 30, 3) := by decide +kernel
theorem d_M_matter_8 : decode b_M_matter 8 = .ok (.iconst 0, 1) := by decide +kernel
theorem d_M_matter_9 : decode b_M_matter 9 = .ok (.aaload, 1) := by decide +kernel
theorem d_M_matter_10 : decode b_M_matter 10 = .ok (.invokestatic 300, 3) := by decide +kernel
theorem d_M_matter_13 : decode b_M_matter 13 = .ok (.aload_n 0, 1) := by decide +kernel
theorem d_M_matter_14 : decode b_M_matter 14 = .ok (.invokevirtual 288, 3) := by decide +kernel
theorem d_M_matter_17 : decode b_M_matter 17 = .ok (.pop, 1) := by decide +kernel
theorem d_M_matter_18 : decode b_M_matter 18 = .ok (.aload_n 0, 1) := by decide +kernel
theorem d_M_matter_19 : decode b_M_matter 19 = .ok (.getfield 279, 3) := by decide +kernel
theorem d_M_matter_22 : decode b_M_matter 22 = .ok (.istore_n 1, 1) := by decide +kernel
theorem d_M_matter_23 : decode b_M_matter 23 = .ok (.aload_n 0, 1) := by decide +kernel
theorem d_M_matter_24 : decode b_M_matter 24 = .ok (.getfield 25, 3) := by decide +kernel
theorem d_M_matter_27 : decode b_M_matter 27 = .ok (.iconst 0, 1) := by decide +kernel
theorem d_M_matter_28 : decode b_M_matter 28 = .ok (.iaload, 1) := by decide +kernel
theorem d_M_matter_29 : decode b_M_matter 29 = .ok (.istore_n 2, 1) := by decide +kernel
theorem d_M_matter_30 : decode b_M_matter 30 = .ok (.aload_n 0, 1) := by decide +kernel
theorem d_M_matter_31 : decode b_M_matter 31 = .ok (.getfield 25, 3) := by decide +kernel
theorem d_M_matter_34 : decode b_M_matter 34 = .ok (.iconst 1, 1) := by decide +kernel
theorem d_M_matter_35 : decode b_M_matter 35 = .ok (.iaload, 1) := by decide +kernel
theorem d_M_matter_36 : decode b_M_matter 36 = .ok (.istore_n 3, 1) := by decide +kernel
theorem d_M_matter_37 : decode b_M_matter 37 = .ok (.aload_n 0, 1) := by decide +kernel
theorem d_M_matter_38 : decode b_M_matter 38 = .ok (.getfield 30, 3) := by decide +kernel
theorem d_M_matter_41 : decode b_M_matter 41 = .ok (.iconst 0, 1) := by decide +kernel
theorem d_M_matter_42 : decode b_M_matter 42 = .ok (.aaload, 1) := by decide +kernel
theorem d_M_matter_43 : decode b_M_matter 43 = .ok (.aload_n 0, 1) := by decide +kernel
theorem d_M_matter_44 : decode b_M_matter 44 = .ok (.getfield 25, 3) := by decide +kernel
theorem d_M_matter_47 : decode b_M_matter 47 = .ok (.invokestatic 300, 3) := by decide +kernel
theorem d_M_matter_50 : decode b_M_matter 50 = .ok (.iconst 0, 1) := by decide +kernel
theorem d_M_matter_51 : decode b_M_matter 51 = .ok (.istore 4, 2) := by decide +kernel
theorem d_M_matter_53 : decode b_M_matter 53 = .ok (.iconst 0, 1) := by decide +kernel
theorem d_M_matter_54 : decode b_M_matter 54 = .ok (.istore 5, 2) := by decide +kernel
theorem d_M_matter_56 : decode b_M_matter 56 = .ok (.iload 5, 2) := by decide +kernel
theorem d_M_matter_58 : decode b_M_matter 58 = .ok (.aload_n 0, 1) := by decide +kernel
theorem d_M_matter_59 : decode b_M_matter 59 = .ok (.getfield 70, 3) := by decide +kernel
theorem d_M_matter_62 : decode b_M_matter 62 = .ok (.if_icmp .ge 89, 3) := by decide +kernel
theorem d_M_matter_65 : decode b_M_matter 65 = .ok (.aload_n 0, 1) := by decide +kernel
theorem d_M_matter_66 : decode b_M_matter 66 = .ok (.iload 5, 2) := by decide +kernel
theorem d_M_matter_68 : decode b_M_matter 68 = .ok (.iconst 3, 1) := by decide +kernel
theorem d_M_matter_69 : decode b_M_matter 69 = .ok (.invokevirtual 164, 3) := by decide +kernel
theorem d_M_matter_72 : decode b_M_matter 72 = .ok (.ifCond .eq 73, 3) := by decide +kernel
theorem d_M_matter_75 : decode b_M_matter 75 = .ok (.aload_n 0, 1) := by decide +kernel
theorem d_M_matter_76 : decode b_M_matter 76 = .ok (.getfield 25, 3) := by decide +kernel
theorem d_M_matter_79 : decode b_M_matter 79 = .ok (.bipush 71, 2) := by decide +kernel
theorem d_M_matter_81 : decode b_M_matter 81 = .ok (.iload 5, 2) := by decide +kernel
theorem d_M_matter_83 : decode b_M_matter 83 = .ok (.iadd, 1) := by decide +kernel
theorem d_M_matter_84 : decode b_M_matter 84 = .ok (.iconst 4, 1) := by decide +kernel
theorem d_M_matter_85 : decode b_M_matter 85 = .ok (.iastore, 1) := by decide +kernel
theorem d_M_matter_86 : decode b_M_matter 86 = .ok (.aload_n 0, 1) := by decide +kernel
theorem d_M_matter_87 : decode b_M_matter 87 = .ok (.invokevirtual 288, 3) := by decide +kernel
theorem d_M_matter_90 : decode b_M_matter 90 = .ok (.pop, 1) := by decide +kernel
theorem d_M_matter_91 : decode b_M_matter 91 = .ok (.iload 4, 2) := by decide +kernel
theorem d_M_matter_93 : decode b_M_matter 93 = .ok (.aload_n 0, 1) := by decide +kernel
theorem d_M_matter_94 : decode b_M_matter 94 = .ok (.getfield 279, 3) := by decide +kernel
theorem d_M_matter_97 : decode b_M_matter 97 = .ok (.iload_n 1, 1) := by decide +kernel
theorem d_M_matter_98 : decode b_M_matter 98 = .ok (.if_icmp .ne 23, 3) := by decide +kernel
theorem d_M_matter_101 : decode b_M_matter 101 = .ok (.aload_n 0, 1) := by decide +kernel
theorem d_M_matter_102 : decode b_M_matter 102 = .ok (.getfield 25, 3) := by decide +kernel
theorem d_M_matter_105 : decode b_M_matter 105 = .ok (.iconst 0, 1) := by decide +kernel
theorem d_M_matter_106 : decode b_M_matter 106 = .ok (.iaload, 1) := by decide +kernel
theorem d_M_matter_107 : decode b_M_matter 107 = .ok (.iload_n 2, 1) := by decide +kernel
theorem d_M_matter_108 : decode b_M_matter 108 = .ok (.if_icmp .ne 13, 3) := by decide +kernel
theorem d_M_matter_111 : decode b_M_matter 111 = .ok (.aload_n 0, 1) := by decide +kernel
theorem d_M_matter_112 : decode b_M_matter 112 = .ok (.getfield 25, 3) := by decide +kernel
theorem d_M_matter_115 : decode b_M_matter 115 = .ok (.iconst 1, 1) := by decide +kernel
theorem d_M_matter_116 : decode b_M_matter 116 = .ok (.iaload, 1) := by decide +kernel
theorem d_M_matter_117 : decode b_M_matter 117 = .ok (.iload_n 3, 1) := by decide +kernel
theorem d_M_matter_118 : decode b_M_matter 118 = .ok (.if_icmp .eq 10, 3) := by decide +kernel
theorem d_M_matter_121 : decode b_M_matter 121 = .ok (.iconst 1, 1) := by decide +kernel
theorem d_M_matter_122 : decode b_M_matter 122 = .ok (.iload 5, 2) := by decide +kernel
theorem d_M_matter_124 : decode b_M_matter 124 = .ok (.ishl, 1) := by decide +kernel
theorem d_M_matter_125 : decode b_M_matter 125 = .ok (.goto 4, 3) := by decide +kernel
theorem d_M_matter_128 : decode b_M_matter 128 = .ok (.iconst 0, 1) := by decide +kernel
theorem d_M_matter_129 : decode b_M_matter 129 = .ok (.ior, 1) := by decide +kernel
theorem d_M_matter_130 : decode b_M_matter 130 = .ok (.istore 4, 2) := by decide +kernel
theorem d_M_matter_132 : decode b_M_matter 132 = .ok (.aload_n 0, 1) := by decide +kernel
theorem d_M_matter_133 : decode b_M_matter 133 = .ok (.getfield 30, 3) := by decide +kernel
theorem d_M_matter_136 : decode b_M_matter 136 = .ok (.iconst 0, 1) := by decide +kernel
theorem d_M_matter_137 : decode b_M_matter 137 = .ok (.aaload, 1) := by decide +kernel
theorem d_M_matter_138 : decode b_M_matter 138 = .ok (.aload_n 0, 1) := by decide +kernel
theorem d_M_matter_139 : decode b_M_matter 139 = .ok (.getfield 25, 3) := by decide +kernel
theorem d_M_matter_142 : decode b_M_matter 142 = .ok (.invokestatic 300, 3) := by decide +kernel
theorem d_M_matter_145 : decode b_M_matter 145 = .ok (.iinc 5 1, 3) := by decide +kernel
theorem d_M_matter_148 : decode b_M_matter 148 = .ok (.goto (-92), 3) := by decide +kernel
theorem d_M_matter_151 : decode b_M_matter 151 = .ok (.iload 4, 2) := by decide +kernel
theorem d_M_matter_153 : decode b_M_matter 153 = .ok (.ireturn, 1) := by decide +kernel
theorem d_M_swing_0 : decode b_M_swing 0 = .ok (.aload_n 0, 1) := by decide +kernel
theorem d_M_swing_1 : decode b_M_swing 1 = .ok (.iload_n 1, 1) := by decide +kernel
theorem d_M_swing_2 : decode b_M_swing 2 = .ok (.invokevirtual 160, 3) := by decide +kernel
theorem d_M_swing_5 : decode b_M_swing 5 = .ok (.ifCond .eq 12, 3) := by decide +kernel
theorem d_M_swing_8 : decode b_M_swing 8 = .ok (.aload_n 0, 1) := by decide +kernel
theorem d_M_swing_9 : decode b_M_swing 9 = .ok (.iload_n 1, 1) := by decide +kernel
theorem d_M_swing_10 : decode b_M_swing 10 = .ok (.iconst 3, 1) := by decide +kernel
theorem d_M_swing_11 : decode b_M_swing 11 = .ok (.invokevirtual 164, 3) := by decide +kernel
theorem d_M_swing_14 : decode b_M_swing 14 = .ok (.ifCond .ne 6, 3) := by decide +kernel
theorem d_M_swing_17 : decode b_M_swing 17 = .ok (.ldc 167, 2) := by decide +kernel
theorem d_M_swing_19 : decode b_M_swing 19 = .ok (.ireturn, 1) := by decide +kernel
theorem d_M_swing_20 : decode b_M_swing 20 = .ok (.aload_n 0, 1) := by decide +kernel
theorem d_M_swing_21 : decode b_M_swing 21 = .ok (.iconst (-1), 1) := by decide +kernel
theorem d_M_swing_22 : decode b_M_swing 22 = .ok (.aload_n 0, 1) := by decide +kernel
theorem d_M_swing_23 : decode b_M_swing 23 = .ok (.getfield 13, 3) := by decide +kernel
theorem d_M_swing_26 : decode b_M_swing 26 = .ok (.iload_n 1, 1) := by decide +kernel
theorem d_M_swing_27 : decode b_M_swing 27 = .ok (.iaload, 1) := by decide +kernel
theorem d_M_swing_28 : decode b_M_swing 28 = .ok (.invokevirtual 307, 3) := by decide +kernel
theorem d_M_swing_31 : decode b_M_swing 31 = .ok (.istore_n 2, 1) := by decide +kernel
theorem d_M_swing_32 : decode b_M_swing 32 = .ok (.aload_n 0, 1) := by decide +kernel
theorem d_M_swing_33 : decode b_M_swing 33 = .ok (.getfield 25, 3) := by decide +kernel
theorem d_M_swing_36 : decode b_M_swing 36 = .ok (.bipush 71, 2) := by decide +kernel
theorem d_M_swing_38 : decode b_M_swing 38 = .ok (.iload_n 1, 1) := by decide +kernel
theorem d_M_swing_39 : decode b_M_swing 39 = .ok (.iadd, 1) := by decide +kernel
theorem d_M_swing_40 : decode b_M_swing 40 = .ok (.iconst 4, 1) := by decide +kernel
theorem d_M_swing_41 : decode b_M_swing 41 = .ok (.iastore, 1) := by decide +kernel
theorem d_M_swing_42 : decode b_M_swing 42 = .ok (.aload_n 0, 1) := by decide +kernel
theorem d_M_swing_43 : decode b_M_swing 43 = .ok (.iconst (-1), 1) := by decide +kernel
theorem d_M_swing_44 : decode b_M_swing 44 = .ok (.aload_n 0, 1) := by decide +kernel
theorem d_M_swing_45 : decode b_M_swing 45 = .ok (.getfield 13, 3) := by decide +kernel
theorem d_M_swing_48 : decode b_M_swing 48 = .ok (.iload_n 1, 1) := by decide +kernel
theorem d_M_swing_49 : decode b_M_swing 49 = .ok (.iaload, 1) := by decide +kernel
theorem d_M_swing_50 : decode b_M_swing 50 = .ok (.invokevirtual 307, 3) := by decide +kernel
theorem d_M_swing_53 : decode b_M_swing 53 = .ok (.istore_n 3, 1) := by decide +kernel
theorem d_M_swing_54 : decode b_M_swing 54 = .ok (.aload_n 0, 1) := by decide +kernel
theorem d_M_swing_55 : decode b_M_swing 55 = .ok (.getfield 25, 3) := by decide +kernel
theorem d_M_swing_58 : decode b_M_swing 58 = .ok (.bipush 71, 2) := by decide +kernel
theorem d_M_swing_60 : decode b_M_swing 60 = .ok (.iload_n 1, 1) := by decide +kernel
theorem d_M_swing_61 : decode b_M_swing 61 = .ok (.iadd, 1) := by decide +kernel
theorem d_M_swing_62 : decode b_M_swing 62 = .ok (.iconst 3, 1) := by decide +kernel
theorem d_M_swing_63 : decode b_M_swing 63 = .ok (.iastore, 1) := by decide +kernel
theorem d_M_swing_64 : decode b_M_swing 64 = .ok (.iload_n 2, 1) := by decide +kernel
theorem d_M_swing_65 : decode b_M_swing 65 = .ok (.iload_n 3, 1) := by decide +kernel
theorem d_M_swing_66 : decode b_M_swing 66 = .ok (.isub, 1) := by decide +kernel
theorem d_M_swing_67 : decode b_M_swing 67 = .ok (.ireturn, 1) := by decide +kernel
theorem d_M_next_0 : decode b_M_next 0 = .ok (.iload_n 1, 1) := by decide +kernel
theorem d_M_next_1 : decode b_M_next 1 = .ok (.iconst 0, 1) := by decide +kernel
theorem d_M_next_2 : decode b_M_next 2 = .ok (.iconst 1, 1) := by decide +kernel
theorem d_M_next_3 : decode b_M_next 3 = .ok (.invokestatic 73, 3) := by decide +kernel
theorem d_M_next_6 : decode b_M_next 6 = .ok (.ifCond .ne 5, 3) := by decide +kernel
theorem d_M_next_9 : decode b_M_next 9 = .ok (.iconst (-1), 1) := by decide +kernel
theorem d_M_next_10 : decode b_M_next 10 = .ok (.ireturn, 1) := by decide +kernel
theorem d_M_next_11 : decode b_M_next 11 = .ok (.aload_n 0, 1) := by decide +kernel
theorem d_M_next_12 : decode b_M_next 12 = .ok (.iload_n 1, 1) := by decide +kernel
theorem d_M_next_13 : decode b_M_next 13 = .ok (.iconst 0, 1) := by decide +kernel
theorem d_M_next_14 : decode b_M_next 14 = .ok (.invokevirtual 168, 3) := by decide +kernel
theorem d_M_next_17 : decode b_M_next 17 = .ok (.istore_n 2, 1) := by decide +kernel
theorem d_M_next_18 : decode b_M_next 18 = .ok (.iload_n 2, 1) := by decide +kernel
theorem d_M_next_19 : decode b_M_next 19 = .ok (.ifCond .ne 6, 3) := by decide +kernel
theorem d_M_next_22 : decode b_M_next 22 = .ok (.bipush (-2), 2) := by decide +kernel
theorem d_M_next_24 : decode b_M_next 24 = .ok (.ireturn, 1) := by decide +kernel
theorem d_M_next_25 : decode b_M_next 25 = .ok (.aload_n 0, 1) := by decide +kernel
theorem d_M_next_26 : decode b_M_next 26 = .ok (.getfield 25, 3) := by decide +kernel
theorem d_M_next_29 : decode b_M_next 29 = .ok (.iconst 3, 1) := by decide +kernel
theorem d_M_next_30 : decode b_M_next 30 = .ok (.iaload, 1) := by decide +kernel
theorem d_M_next_31 : decode b_M_next 31 = .ok (.istore_n 3, 1) := by decide +kernel
theorem d_M_next_32 : decode b_M_next 32 = .ok (.aload_n 0, 1) := by decide +kernel
theorem d_M_next_33 : decode b_M_next 33 = .ok (.iload_n 2, 1) := by decide +kernel
theorem d_M_next_34 : decode b_M_next 34 = .ok (.invokevirtual 224, 3) := by decide +kernel
theorem d_M_next_37 : decode b_M_next 37 = .ok (.istore 4, 2) := by decide +kernel
theorem d_M_next_39 : decode b_M_next 39 = .ok (.aload_n 0, 1) := by decide +kernel
theorem d_M_next_40 : decode b_M_next 40 = .ok (.getfield 25, 3) := by decide +kernel
theorem d_M_next_43 : decode b_M_next 43 = .ok (.iconst 3, 1) := by decide +kernel
theorem d_M_next_44 : decode b_M_next 44 = .ok (.iload_n 3, 1) := by decide +kernel
theorem d_M_next_45 : decode b_M_next 45 = .ok (.iastore, 1) := by decide +kernel
theorem d_M_next_46 : decode b_M_next 46 = .ok (.bipush (-2), 2) := by decide +kernel
theorem d_M_next_48 : decode b_M_next 48 = .ok (.istore 5, 2) := by decide +kernel
theorem d_M_next_50 : decode b_M_next 50 = .ok (.iconst 0, 1) := by decide +kernel
theorem d_M_next_51 : decode b_M_next 51 = .ok (.istore 6, 2) := by decide +kernel
theorem d_M_next_53 : decode b_M_next 53 = .ok (.iload 6, 2) := by decide +kernel
theorem d_M_next_55 : decode b_M_next 55 = .ok (.aload_n 0, 1) := by decide +kernel
theorem d_M_next_56 : decode b_M_next 56 = .ok (.getfield 70, 3) := by decide +kernel
theorem d_M_next_59 : decode b_M_next 59 = .ok (.if_icmp .ge 47, 3) := by decide +kernel
theorem d_M_next_62 : decode b_M_next 62 = .ok (.aload_n 0, 1) := by decide +kernel
theorem d_M_next_63 : decode b_M_next 63 = .ok (.getfield 13, 3) := by decide +kernel
theorem d_M_next_66 : decode b_M_next 66 = .ok (.iload 6, 2) := by decide +kernel
theorem d_M_next_68 : decode b_M_next 68 = .ok (.iaload, 1) := by decide +kernel
theorem d_M_next_69 : decode b_M_next 69 = .ok (.iload_n 1, 1) := by decide +kernel
theorem d_M_next_70 : decode b_M_next 70 = .ok (.if_icmp .ne 30, 3) := by decide +kernel
theorem d_M_next_73 : decode b_M_next 73 = .ok (.aload_n 0, 1) := by decide +kernel
theorem d_M_next_74 : decode b_M_next 74 = .ok (.iload 6, 2) := by decide +kernel
theorem d_M_next_76 : decode b_M_next 76 = .ok (.iconst 0, 1) := by decide +kernel
theorem d_M_next_77 : decode b_M_next 77 = .ok (.invokevirtual 164, 3) := by decide +kernel
theorem d_M_next_80 : decode b_M_next 80 = .ok (.ifCond .eq 20, 3) := by decide +kernel
theorem d_M_next_83 : decode b_M_next 83 = .ok (.iload 4, 2) := by decide +kernel
theorem d_M_next_85 : decode b_M_next 85 = .ok (.ifCond .ne 8, 3) := by decide +kernel
theorem d_M_next_88 : decode b_M_next 88 = .ok (.iload 6, 2) := by decide +kernel
theorem d_M_next_90 : decode b_M_next 90 = .ok (.goto 5, 3) := by decide +kernel
theorem d_M_next_93 : decode b_M_next 93 = .ok (.iload 5, 2) := by decide +kernel
theorem d_M_next_95 : decode b_M_next 95 = .ok (.istore 5, 2) := by decide +kernel
theorem d_M_next_97 : decode b_M_next 97 = .ok (.iinc 4 (-1), 3) := by decide +kernel
theorem d_M_next_100 : decode b_M_next 100 = .ok (.iinc 6 1, 3) := by decide +kernel
theorem d_M_next_103 : decode b_M_next 103 = .ok (.goto (-50), 3) := by decide +kernel
theorem d_M_next_106 : decode b_M_next 106 = .ok (.iload 5, 2) := by decide +kernel
theorem d_M_next_108 : decode b_M_next 108 = .ok (.ireturn, 1) := by decide +kernel
theorem d_M_ahead_0 : decode b_M_ahead 0 = .ok (.iload_n 1, 1) := by decide +kernel
theorem d_M_ahead_1 : decode b_M_ahead 1 = .ok (.iconst 1, 1) := by decide +kernel
theorem d_M_ahead_2 : decode b_M_ahead 2 = .ok (.bipush 9, 2) := by decide +kernel
theorem d_M_ahead_4 : decode b_M_ahead 4 = .ok (.invokestatic 73, 3) := by decide +kernel
theorem d_M_ahead_7 : decode b_M_ahead 7 = .ok (.ifCond .eq 12, 3) := by decide +kernel
theorem d_M_ahead_10 : decode b_M_ahead 10 = .ok (.iload_n 2, 1) := by decide +kernel
theorem d_M_ahead_11 : decode b_M_ahead 11 = .ok (.iconst 0, 1) := by decide +kernel
theorem d_M_ahead_12 : decode b_M_ahead 12 = .ok (.iconst 4, 1) := by decide +kernel
theorem d_M_ahead_13 : decode b_M_ahead 13 = .ok (.invokestatic 73, 3) := by decide +kernel
theorem d_M_ahead_16 : decode b_M_ahead 16 = .ok (.ifCond .ne 6, 3) := by decide +kernel
theorem d_M_ahead_19 : decode b_M_ahead 19 = .ok (.ldc 167, 2) := by decide +kernel
theorem d_M_ahead_21 : decode b_M_ahead 21 = .ok (.ireturn, 1) := by decide +kernel
theorem d_M_ahead_22 : decode b_M_ahead 22 = .ok (.aload_n 0, 1) := by decide +kernel
theorem d_M_ahead_23 : decode b_M_ahead 23 = .ok (.getfield 25, 3) := by decide +kernel
theorem d_M_ahead_26 : decode b_M_ahead 26 = .ok (.aload_n 0, 1) := by decide +kernel
theorem d_M_ahead_27 : decode b_M_ahead 27 = .ok (.getfield 30, 3) := by decide +kernel
theorem d_M_ahead_30 : decode b_M_ahead 30 = .ok (.iconst 0, 1) := by decide +kernel
theorem d_M_ahead_31 : decode b_M_ahead 31 = .ok (.aaload, 1) := by decide +kernel
theorem d_M_ahead_32 : decode b_M_ahead 32 = .ok (.invokestatic 300, 3) := by decide +kernel
theorem d_M_ahead_35 : decode b_M_ahead 35 = .ok (.iconst 0, 1) := by decide +kernel
theorem d_M_ahead_36 : decode b_M_ahead 36 = .ok (.istore_n 3, 1) := by decide +kernel
theorem d_M_ahead_37 : decode b_M_ahead 37 = .ok (.iload_n 3, 1) := by decide +kernel
theorem d_M_ahead_38 : decode b_M_ahead 38 = .ok (.iload_n 1, 1) := by decide +kernel
theorem d_M_ahead_39 : decode b_M_ahead 39 = .ok (.if_icmp .ge 35, 3) := by decide +kernel
theorem d_M_ahead_42 : decode b_M_ahead 42 = .ok (.aload_n 0, 1) := by decide +kernel
theorem d_M_ahead_43 : decode b_M_ahead 43 = .ok (.getfield 25, 3) := by decide +kernel
theorem d_M_ahead_46 : decode b_M_ahead 46 = .ok (.bipush 6, 2) := by decide +kernel
theorem d_M_ahead_48 : decode b_M_ahead 48 = .ok (.iaload, 1) := by decide +kernel
theorem d_M_ahead_49 : decode b_M_ahead 49 = .ok (.ifCond .ne 25, 3) := by decide +kernel
theorem d_M_ahead_52 : decode b_M_ahead 52 = .ok (.aload_n 0, 1) := by decide +kernel
theorem d_M_ahead_53 : decode b_M_ahead 53 = .ok (.invokevirtual 275, 3) := by decide +kernel
theorem d_M_ahead_56 : decode b_M_ahead 56 = .ok (.ifCond .ne 18, 3) := by decide +kernel
theorem d_M_ahead_59 : decode b_M_ahead 59 = .ok (.aload_n 0, 1) := by decide +kernel
theorem d_M_ahead_60 : decode b_M_ahead 60 = .ok (.invokevirtual 294, 3) := by decide +kernel
theorem d_M_ahead_63 : decode b_M_ahead 63 = .ok (.aload_n 0, 1) := by decide +kernel
theorem d_M_ahead_64 : decode b_M_ahead 64 = .ok (.invokevirtual 288, 3) := by decide +kernel
theorem d_M_ahead_67 : decode b_M_ahead 67 = .ok (.pop, 1) := by decide +kernel
theorem d_M_ahead_68 : decode b_M_ahead 68 = .ok (.iinc 3 1, 3) := by decide +kernel
theorem d_M_ahead_71 : decode b_M_ahead 71 = .ok (.goto (-34), 3) := by decide +kernel
theorem d_M_ahead_74 : decode b_M_ahead 74 = .ok (.iload_n 2, 1) := by decide +kernel
theorem d_M_ahead_75 : decode b_M_ahead 75 = .ok (.ifCond .ne 7, 3) := by decide +kernel
theorem d_M_ahead_78 : decode b_M_ahead 78 = .ok (.iload_n 3, 1) := by decide +kernel
theorem d_M_ahead_79 : decode b_M_ahead 79 = .ok (.goto 29, 3) := by decide +kernel
theorem d_M_ahead_82 : decode b_M_ahead 82 = .ok (.iload_n 2, 1) := by decide +kernel
theorem d_M_ahead_83 : decode b_M_ahead 83 = .ok (.iconst 3, 1) := by decide +kernel
theorem d_M_ahead_84 : decode b_M_ahead 84 = .ok (.if_icmp .ge 16, 3) := by decide +kernel
theorem d_M_ahead_87 : decode b_M_ahead 87 = .ok (.aload_n 0, 1) := by decide +kernel
theorem d_M_ahead_88 : decode b_M_ahead 88 = .ok (.getfield 25, 3) := by decide +kernel
theorem d_M_ahead_91 : decode b_M_ahead 91 = .ok (.iconst 0, 1) := by decide +kernel
theorem d_M_ahead_92 : decode b_M_ahead 92 = .ok (.iload_n 2, 1) := by decide +kernel
theorem d_M_ahead_93 : decode b_M_ahead 93 = .ok (.iadd, 1) := by decide +kernel
theorem d_M_ahead_94 : decode b_M_ahead 94 = .ok (.iconst 1, 1) := by decide +kernel
theorem d_M_ahead_95 : decode b_M_ahead 95 = .ok (.isub, 1) := by decide +kernel
theorem d_M_ahead_96 : decode b_M_ahead 96 = .ok (.iaload, 1) := by decide +kernel
theorem d_M_ahead_97 : decode b_M_ahead 97 = .ok (.goto 11, 3) := by decide +kernel
theorem d_M_ahead_100 : decode b_M_ahead 100 = .ok (.aload_n 0, 1) := by decide +kernel
theorem d_M_ahead_101 : decode b_M_ahead 101 = .ok (.iload_n 2, 1) := by decide +kernel
theorem d_M_ahead_102 : decode b_M_ahead 102 = .ok (.iconst 3, 1) := by decide +kernel
theorem d_M_ahead_103 : decode b_M_ahead 103 = .ok (.isub, 1) := by decide +kernel
theorem d_M_ahead_104 : decode b_M_ahead 104 = .ok (.iconst 1, 1) := by decide +kernel
theorem d_M_ahead_105 : decode b_M_ahead 105 = .ok (.invokevirtual 168, 3) := by decide +kernel
theorem d_M_ahead_108 : decode b_M_ahead 108 = .ok (.istore 4, 2) := by decide +kernel
theorem d_M_ahead_110 : decode b_M_ahead 110 = .ok (.aload_n 0, 1) := by decide +kernel
theorem d_M_ahead_111 : decode b_M_ahead 111 = .ok (.getfield 30, 3) := by decide +kernel
theorem d_M_ahead_114 : decode b_M_ahead 114 = .ok (.iconst 0, 1) := by decide +kernel
theorem d_M_ahead_115 : decode b_M_ahead 115 = .ok (.aaload, 1) := by decide +kernel
theorem d_M_ahead_116 : decode b_M_ahead 116 = .ok (.aload_n 0, 1) := by decide +kernel
theorem d_M_ahead_117 : decode b_M_ahead 117 = .ok (.getfield 25, 3) := by decide +kernel
theorem d_M_ahead_120 : decode b_M_ahead 120 = .ok (.invokestatic 300, 3) := by decide +kernel
theorem d_M_ahead_123 : decode b_M_ahead 123 = .ok (.iload 4, 2) := by decide +kernel
theorem d_M_ahead_125 : decode b_M_ahead 125 = .ok (.ireturn, 1) := by decide +kernel
theorem d_M_trace_0 : decode b_M_trace 0 = .ok (.iload_n 1, 1) := by decide +kernel
theorem d_M_trace_1 : decode b_M_trace 1 = .ok (.iconst 0, 1) := by decide +kernel
theorem d_M_trace_2 : decode b_M_trace 2 = .ok (.iconst 1, 1) := by decide +kernel
theorem d_M_trace_3 : decode b_M_trace 3 = .ok (.invokestatic 73, 3) := by decide +kernel
theorem d_M_trace_6 : decode b_M_trace 6 = .ok (.ifCond .eq 7, 3) := by decide +kernel
theorem d_M_trace_9 : decode b_M_trace 9 = .ok (.iload_n 2, 1) := by decide +kernel
theorem d_M_trace_10 : decode b_M_trace 10 = .ok (.ifCond .ge 5, 3) := by decide +kernel
theorem d_M_trace_13 : decode b_M_trace 13 = .ok (.iconst (-1), 1) := by decide +kernel
theorem d_M_trace_14 : decode b_M_trace 14 = .ok (.ireturn, 1) := by decide +kernel
theorem d_M_trace_15 : decode b_M_trace 15 = .ok (.iload_n 1, 1) := by decide +kernel
theorem d_M_trace_16 : decode b_M_trace 16 = .ok (.ifCond .ne 10, 3) := by decide +kernel
theorem d_M_trace_19 : decode b_M_trace 19 = .ok (.aload_n 0, 1) := by decide +kernel
theorem d_M_trace_20 : decode b_M_trace 20 = .ok (.getfield 257, 3) := by decide +kernel
theorem d_M_trace_23 : decode b_M_trace 23 = .ok (.goto 7, 3) := by decide +kernel
theorem d_M_trace_26 : decode b_M_trace 26 = .ok (.aload_n 0, 1) := by decide +kernel
theorem d_M_trace_27 : decode b_M_trace 27 = .ok (.getfield 238, 3) := by decide +kernel
theorem d_M_trace_30 : decode b_M_trace 30 = .ok (.istore_n 3, 1) := by decide +kernel
theorem d_M_trace_31 : decode b_M_trace 31 = .ok (.iload_n 2, 1) := by decide +kernel
theorem d_M_trace_32 : decode b_M_trace 32 = .ok (.iload_n 3, 1) := by decide +kernel
theorem d_M_trace_33 : decode b_M_trace 33 = .ok (.if_icmp .lt 8, 3) := by decide +kernel
theorem d_M_trace_36 : decode b_M_trace 36 = .ok (.bipush (-2), 2) := by decide +kernel
theorem d_M_trace_38 : decode b_M_trace 38 = .ok (.goto 22, 3) := by decide +kernel
theorem d_M_trace_41 : decode b_M_trace 41 = .ok (.iload_n 1, 1) := by decide +kernel
theorem d_M_trace_42 : decode b_M_trace 42 = .ok (.ifCond .ne 12, 3) := by decide +kernel
theorem d_M_trace_45 : decode b_M_trace 45 = .ok (.aload_n 0, 1) := by decide +kernel
theorem d_M_trace_46 : decode b_M_trace 46 = .ok (.getfield 64, 3) := by decide +kernel
theorem d_M_trace_49 : decode b_M_trace 49 = .ok (.iload_n 2, 1) := by decide +kernel
theorem d_M_trace_50 : decode b_M_trace 50 = .ok (.iaload, 1) := by decide +kernel
theorem d_M_trace_51 : decode b_M_trace 51 = .ok (.goto 9, 3) := by decide +kernel
theorem d_M_trace_54 : decode b_M_trace 54 = .ok (.aload_n 0, 1) := by decide +kernel
theorem d_M_trace_55 : decode b_M_trace 55 = .ok (.getfield 67, 3) := by decide +kernel
theorem d_M_trace_58 : decode b_M_trace 58 = .ok (.iload_n 2, 1) := by decide +kernel
theorem d_M_trace_59 : decode b_M_trace 59 = .ok (.iaload, 1) := by decide +kernel
theorem d_M_trace_60 : decode b_M_trace 60 = .ok (.ireturn, 1) := by decide +kernel
theorem d_M_byTurns_0 : decode b_M_byTurns 0 = .ok (.iload_n 1, 1) := by decide +kernel
theorem d_M_byTurns_1 : decode b_M_byTurns 1 = .ok (.iconst 1, 1) := by decide +kernel
theorem d_M_byTurns_2 : decode b_M_byTurns 2 = .ok (.iconst 3, 1) := by decide +kernel
theorem d_M_byTurns_3 : decode b_M_byTurns 3 = .ok (.invokestatic 73, 3) := by decide +kernel
theorem d_M_byTurns_6 : decode b_M_byTurns 6 = .ok (.ifCond .eq 24, 3) := by decide +kernel
theorem d_M_byTurns_9 : decode b_M_byTurns 9 = .ok (.aload_n 0, 1) := by decide +kernel
theorem d_M_byTurns_10 : decode b_M_byTurns 10 = .ok (.iconst 1, 1) := by decide +kernel
theorem d_M_byTurns_11 : decode b_M_byTurns 11 = .ok (.iload_n 1, 1) := by decide +kernel
theorem d_M_byTurns_12 : decode b_M_byTurns 12 = .ok (.aload_n 0, 1) := by decide +kernel
theorem d_M_byTurns_13 : decode b_M_byTurns 13 = .ok (.getfield 25, 3) := by decide +kernel
theorem d_M_byTurns_16 : decode b_M_byTurns 16 = .ok (.iconst 4, 1) := by decide +kernel
theorem d_M_byTurns_17 : decode b_M_byTurns 17 = .ok (.iaload, 1) := by decide +kernel
theorem d_M_byTurns_18 : decode b_M_byTurns 18 = .ok (.aload_n 0, 1) := by decide +kernel
theorem d_M_byTurns_19 : decode b_M_byTurns 19 = .ok (.getfield 25, 3) := by decide +kernel
theorem d_M_byTurns_22 : decode b_M_byTurns 22 = .ok (.iconst 4, 1) := by decide +kernel
theorem d_M_byTurns_23 : decode b_M_byTurns 23 = .ok (.iaload, 1) := by decide +kernel
theorem d_M_byTurns_24 : decode b_M_byTurns 24 = .ok (.invokevirtual 310, 3) := by decide +kernel
theorem d_M_byTurns_27 : decode b_M_byTurns 27 = .ok (.goto 5, 3) := by decide +kernel
theorem d_M_byTurns_30 : decode b_M_byTurns 30 = .ok (.ldc 167, 2) := by decide +kernel
theorem d_M_byTurns_32 : decode b_M_byTurns 32 = .ok (.ireturn, 1) := by decide +kernel
theorem d_M_seed_0 : decode b_M_seed 0 = .ok (.aload_n 0, 1) := by decide +kernel
theorem d_M_seed_1 : decode b_M_seed 1 = .ok (.getfield 25, 3) := by decide +kernel
theorem d_M_seed_4 : decode b_M_seed 4 = .ok (.iconst 3, 1) := by decide +kernel
theorem d_M_seed_5 : decode b_M_seed 5 = .ok (.iaload, 1) := by decide +kernel
theorem d_M_seed_6 : decode b_M_seed 6 = .ok (.istore_n 2, 1) := by decide +kernel
theorem d_M_seed_7 : decode b_M_seed 7 = .ok (.aload_n 0, 1) := by decide +kernel
theorem d_M_seed_8 : decode b_M_seed 8 = .ok (.getfield 25, 3) := by decide +kernel
theorem d_M_seed_11 : decode b_M_seed 11 = .ok (.iconst 3, 1) := by decide +kernel
theorem d_M_seed_12 : decode b_M_seed 12 = .ok (.iload_n 1, 1) := by decide +kernel
theorem d_M_seed_13 : decode b_M_seed 13 = .ok (.iastore, 1) := by decide +kernel
theorem d_M_seed_14 : decode b_M_seed 14 = .ok (.iload_n 2, 1) := by decide +kernel
theorem d_M_seed_15 : decode b_M_seed 15 = .ok (.ireturn, 1) := by decide +kernel
theorem d_M_image_0 : decode b_M_image 0 = .ok (.aload_n 0, 1) := by decide +kernel
theorem d_M_image_1 : decode b_M_image 1 = .ok (.getfield 25, 3) := by decide +kernel
theorem d_M_image_4 : decode b_M_image 4 = .ok (.aload_n 0, 1) := by decide +kernel
theorem d_M_image_5 : decode b_M_image 5 = .ok (.getfield 33, 3) := by decide +kernel
theorem d_M_image_8 : decode b_M_image 8 = .ok (.invokestatic 300, 3) := by decide +kernel
theorem d_M_image_11 : decode b_M_image 11 = .ok (.aload_n 0, 1) := by decide +kernel
theorem d_M_image_12 : decode b_M_image 12 = .ok (.aload_n 0, 1) := by decide +kernel
theorem d_M_image_13 : decode b_M_image 13 = .ok (.getfield 70, 3) := by decide +kernel
theorem d_M_image_16 : decode b_M_image 16 = .ok (.putfield 36, 3) := by decide +kernel
theorem d_M_image_19 : decode b_M_image 19 = .ok (.aload_n 0, 1) := by decide +kernel
theorem d_M_image_20 : decode b_M_image 20 = .ok (.getfield 70, 3) := by decide +kernel
theorem d_M_image_23 : decode b_M_image 23 = .ok (.ireturn, 1) := by decide +kernel
theorem d_M_back_0 : decode b_M_back 0 = .ok (.aload_n 0, 1) := by decide +kernel
theorem d_M_back_1 : decode b_M_back 1 = .ok (.getfield 36, 3) := by decide +kernel
theorem d_M_back_4 : decode b_M_back 4 = .ok (.ifCond .ge 6, 3) := by decide +kernel
theorem d_M_back_7 : decode b_M_back 7 = .ok (.bipush (-5), 2) := by decide +kernel
theorem d_M_back_9 : decode b_M_back 9 = .ok (.ireturn, 1) := by decide +kernel
theorem d_M_back_10 : decode b_M_back 10 = .ok (.aload_n 0, 1) := by decide +kernel
theorem d_M_back_11 : decode b_M_back 11 = .ok (.getfield 33, 3) := by decide +kernel
theorem d_M_back_14 : decode b_M_back 14 = .ok (.aload_n 0, 1) := by decide +kernel
theorem d_M_back_15 : decode b_M_back 15 = .ok (.getfield 25, 3) := by decide +kernel
theorem d_M_back_18 : decode b_M_back 18 = .ok (.invokestatic 300, 3) := by decide +kernel
theorem d_M_back_21 : decode b_M_back 21 = .ok (.aload_n 0, 1) := by decide +kernel
theorem d_M_back_22 : decode b_M_back 22 = .ok (.aload_n 0, 1) := by decide +kernel
theorem d_M_back_23 : decode b_M_back 23 = .ok (.getfield 36, 3) := by decide +kernel
theorem d_M_back_26 : decode b_M_back 26 = .ok (.putfield 70, 3) := by decide +kernel
theorem d_M_back_29 : decode b_M_back 29 = .ok (.iconst 0, 1) := by decide +kernel
theorem d_M_back_30 : decode b_M_back 30 = .ok (.istore_n 1, 1) := by decide +kernel
theorem d_M_back_31 : decode b_M_back 31 = .ok (.iload_n 1, 1) := by decide +kernel
theorem d_M_back_32 : decode b_M_back 32 = .ok (.bipush 8, 2) := by decide +kernel
theorem d_M_back_34 : decode b_M_back 34 = .ok (.if_icmp .ge 38, 3) := by decide +kernel
theorem d_M_back_37 : decode b_M_back 37 = .ok (.aload_n 0, 1) := by decide +kernel
theorem d_M_back_38 : decode b_M_back 38 = .ok (.getfield 55, 3) := by decide +kernel
theorem d_M_back_41 : decode b_M_back 41 = .ok (.iload_n 1, 1) := by decide +kernel
theorem d_M_back_42 : decode b_M_back 42 = .ok (.aload_n 0, 1) := by decide +kernel
theorem d_M_back_43 : decode b_M_back 43 = .ok (.getfield 55, 3) := by decide +kernel
theorem d_M_back_46 : decode b_M_back 46 = .ok (.iload_n 1, 1) := by decide +kernel
theorem d_M_back_47 : decode b_M_back 47 = .ok (.iaload, 1) := by decide +kernel
theorem d_M_back_48 : decode b_M_back 48 = .ok (.aload_n 0, 1) := by decide +kernel
theorem d_M_back_49 : decode b_M_back 49 = .ok (.getfield 70, 3) := by decide +kernel
theorem d_M_back_52 : decode b_M_back 52 = .ok (.if_icmp .lt 7, 3) := by decide +kernel
theorem d_M_back_55 : decode b_M_back 55 = .ok (.iconst (-1), 1) := by decide +kernel
theorem d_M_back_56 : decode b_M_back 56 = .ok (.goto 9, 3) := by decide +kernel
theorem d_M_back_59 : decode b_M_back 59 = .ok (.aload_n 0, 1) := by decide +kernel
theorem d_M_back_60 : decode b_M_back 60 = .ok (.getfield 55, 3) := by decide +kernel
theorem d_M_back_63 : decode b_M_back 63 = .ok (.iload_n 1, 1) := by decide +kernel
theorem d_M_back_64 : decode b_M_back 64 = .ok (.iaload, 1) := by decide +kernel
theorem d_M_back_65 : decode b_M_back 65 = .ok (.iastore, 1) := by decide +kernel
theorem d_M_back_66 : decode b_M_back 66 = .ok (.iinc 1 1, 3) := by decide +kernel
theorem d_M_back_69 : decode b_M_back 69 = .ok (.goto (-38), 3) := by decide +kernel
theorem d_M_back_72 : decode b_M_back 72 = .ok (.aload_n 0, 1) := by decide +kernel
theorem d_M_back_73 : decode b_M_back 73 = .ok (.getfield 70, 3) := by decide +kernel
theorem d_M_back_76 : decode b_M_back 76 = .ok (.ireturn, 1) := by decide +kernel
theorem d_M_hold_0 : decode b_M_hold 0 = .ok (.iload_n 1, 1) := by decide +kernel
theorem d_M_hold_1 : decode b_M_hold 1 = .ok (.iconst 0, 1) := by decide +kernel
theorem d_M_hold_2 : decode b_M_hold 2 = .ok (.bipush 7, 2) := by decide +kernel
theorem d_M_hold_4 : decode b_M_hold 4 = .ok (.invokestatic 73, 3) := by decide +kernel
theorem d_M_hold_7 : decode b_M_hold 7 = .ok (.ifCond .eq 16, 3) := by decide +kernel
theorem d_M_hold_10 : decode b_M_hold 10 = .ok (.iload_n 2, 1) := by decide +kernel
theorem d_M_hold_11 : decode b_M_hold 11 = .ok (.iconst (-1), 1) := by decide +kernel
theorem d_M_hold_12 : decode b_M_hold 12 = .ok (.if_icmp .eq 13, 3) := by decide +kernel
theorem d_M_hold_15 : decode b_M_hold 15 = .ok (.aload_n 0, 1) := by decide +kernel
theorem d_M_hold_16 : decode b_M_hold 16 = .ok (.iload_n 2, 1) := by decide +kernel
theorem d_M_hold_17 : decode b_M_hold 17 = .ok (.invokevirtual 160, 3) := by decide +kernel
theorem d_M_hold_20 : decode b_M_hold 20 = .ok (.ifCond .ne 5, 3) := by decide +kernel
theorem d_M_hold_23 : decode b_M_hold 23 = .ok (.iconst (-1), 1) := by decide +kernel
theorem d_M_hold_24 : decode b_M_hold 24 = .ok (.ireturn, 1) := by decide +kernel
theorem d_M_hold_25 : decode b_M_hold 25 = .ok (.aload_n 0, 1) := by decide +kernel
theorem d_M_hold_26 : decode b_M_hold 26 = .ok (.getfield 55, 3) := by decide +kernel
theorem d_M_hold_29 : decode b_M_hold 29 = .ok (.iload_n 1, 1) := by decide +kernel
theorem d_M_hold_30 : decode b_M_hold 30 = .ok (.iload_n 2, 1) := by decide +kernel
theorem d_M_hold_31 : decode b_M_hold 31 = .ok (.iastore, 1) := by decide +kernel
theorem d_M_hold_32 : decode b_M_hold 32 = .ok (.iconst 1, 1) := by decide +kernel
theorem d_M_hold_33 : decode b_M_hold 33 = .ok (.ireturn, 1) := by decide +kernel
theorem d_M_familyOf_0 : decode b_M_familyOf 0 = .ok (.iload_n 0, 1) := by decide +kernel
theorem d_M_familyOf_1 : decode b_M_familyOf 1 = .ok (.iconst 4, 1) := by decide +kernel
theorem d_M_familyOf_2 : decode b_M_familyOf 2 = .ok (.if_icmp .gt 7, 3) := by decide +kernel
theorem d_M_familyOf_5 : decode b_M_familyOf 5 = .ok (.iconst 1, 1) := by decide +kernel
theorem d_M_familyOf_6 : decode b_M_familyOf 6 = .ok (.goto 24, 3) := by decide +kernel
theorem d_M_familyOf_9 : decode b_M_familyOf 9 = .ok (.iload_n 0, 1) := by decide +kernel
theorem d_M_familyOf_10 : decode b_M_familyOf 10 = .ok (.bipush 8, 2) := by decide +kernel
theorem d_M_familyOf_12 : decode b_M_familyOf 12 = .ok (.if_icmp .gt 7, 3) := by decide +kernel
theorem d_M_familyOf_15 : decode b_M_familyOf 15 = .ok (.iconst 2, 1) := by decide +kernel
theorem d_M_familyOf_16 : decode b_M_familyOf 16 = .ok (.goto 14, 3) := by decide +kernel
theorem d_M_familyOf_19 : decode b_M_familyOf 19 = .ok (.iload_n 0, 1) := by decide +kernel
theorem d_M_familyOf_20 : decode b_M_familyOf 20 = .ok (.bipush 13, 2) := by decide +kernel
theorem d_M_familyOf_22 : decode b_M_familyOf 22 = .ok (.if_icmp .gt 7, 3) := by decide +kernel
theorem d_M_familyOf_25 : decode b_M_familyOf 25 = .ok (.iconst 3, 1) := by decide +kernel
theorem d_M_familyOf_26 : decode b_M_familyOf 26 = .ok (.goto 4, 3) := by decide +kernel
theorem d_M_familyOf_29 : decode b_M_familyOf 29 = .ok (.iconst 4, 1) := by decide +kernel
theorem d_M_familyOf_30 : decode b_M_familyOf 30 = .ok (.ireturn, 1) := by decide +kernel
theorem d_M_toldBy_0 : decode b_M_toldBy 0 = .ok (.aload_n 0, 1) := by decide +kernel
theorem d_M_toldBy_1 : decode b_M_toldBy 1 = .ok (.getfield 22, 3) := by decide +kernel
theorem d_M_toldBy_4 : decode b_M_toldBy 4 = .ok (.iload_n 1, 1) := by decide +kernel
theorem d_M_toldBy_5 : decode b_M_toldBy 5 = .ok (.iaload, 1) := by decide +kernel
theorem d_M_toldBy_6 : decode b_M_toldBy 6 = .ok (.istore_n 2, 1) := by decide +kernel
theorem d_M_toldBy_7 : decode b_M_toldBy 7 = .ok (.aload_n 0, 1) := by decide +kernel
theorem d_M_toldBy_8 : decode b_M_toldBy 8 = .ok (.getfield 9, 3) := by decide +kernel
theorem d_M_toldBy_11 : decode b_M_toldBy 11 = .ok (.iload_n 1, 1) := by decide +kernel
theorem d_M_toldBy_12 : decode b_M_toldBy 12 = .ok (.iaload, 1) := by decide +kernel
theorem d_M_toldBy_13 : decode b_M_toldBy 13 = .ok (.tableswitch 120 0 14 #[75, 80, 85, 87, 90, 93, 101, 96, 101, 120, 120, 120, 120, 120, 104], 75) := by decide +kernel
theorem d_M_toldBy_88 : decode b_M_toldBy 88 = .ok (.bipush 10, 2) := by decide +kernel
theorem d_M_toldBy_90 : decode b_M_toldBy 90 = .ok (.iload_n 2, 1) := by decide +kernel
theorem d_M_toldBy_91 : decode b_M_toldBy 91 = .ok (.iadd, 1) := by decide +kernel
theorem d_M_toldBy_92 : decode b_M_toldBy 92 = .ok (.ireturn, 1) := by decide +kernel
theorem d_M_toldBy_93 : decode b_M_toldBy 93 = .ok (.bipush 10, 2) := by decide +kernel
theorem d_M_toldBy_95 : decode b_M_toldBy 95 = .ok (.iload_n 2, 1) := by decide +kernel
theorem d_M_toldBy_96 : decode b_M_toldBy 96 = .ok (.imul, 1) := by decide +kernel
theorem d_M_toldBy_97 : decode b_M_toldBy 97 = .ok (.ireturn, 1) := by decide +kernel
theorem d_M_toldBy_98 : decode b_M_toldBy 98 = .ok (.iload_n 2, 1) := by decide +kernel
theorem d_M_toldBy_99 : decode b_M_toldBy 99 = .ok (.ireturn, 1) := by decide +kernel
theorem d_M_toldBy_100 : decode b_M_toldBy 100 = .ok (.bipush 20, 2) := by decide +kernel
theorem d_M_toldBy_102 : decode b_M_toldBy 102 = .ok (.ireturn, 1) := by decide +kernel
theorem d_M_toldBy_103 : decode b_M_toldBy 103 = .ok (.bipush 30, 2) := by decide +kernel
theorem d_M_toldBy_105 : decode b_M_toldBy 105 = .ok (.ireturn, 1) := by decide +kernel
theorem d_M_toldBy_106 : decode b_M_toldBy 106 = .ok (.bipush 20, 2) := by decide +kernel
theorem d_M_toldBy_108 : decode b_M_toldBy 108 = .ok (.ireturn, 1) := by decide +kernel
theorem d_M_toldBy_109 : decode b_M_toldBy 109 = .ok (.bipush 10, 2) := by decide +kernel
theorem d_M_toldBy_111 : decode b_M_toldBy 111 = .ok (.iload_n 2, 1) := by decide +kernel
theorem d_M_toldBy_112 : decode b_M_toldBy 112 = .ok (.isub, 1) := by decide +kernel
theorem d_M_toldBy_113 : decode b_M_toldBy 113 = .ok (.ireturn, 1) := by decide +kernel
theorem d_M_toldBy_114 : decode b_M_toldBy 114 = .ok (.bipush 10, 2) := by decide +kernel
theorem d_M_toldBy_116 : decode b_M_toldBy 116 = .ok (.ireturn, 1) := by decide +kernel
theorem d_M_toldBy_117 : decode b_M_toldBy 117 = .ok (.iconst 4, 1) := by decide +kernel
theorem d_M_toldBy_118 : decode b_M_toldBy 118 = .ok (.aload_n 0, 1) := by decide +kernel
theorem d_M_toldBy_119 : decode b_M_toldBy 119 = .ok (.getfield 16, 3) := by decide +kernel
theorem d_M_toldBy_122 : decode b_M_toldBy 122 = .ok (.iload_n 1, 1) := by decide +kernel
theorem d_M_toldBy_123 : decode b_M_toldBy 123 = .ok (.iaload, 1) := by decide +kernel
theorem d_M_toldBy_124 : decode b_M_toldBy 124 = .ok (.imul, 1) := by decide +kernel
theorem d_M_toldBy_125 : decode b_M_toldBy 125 = .ok (.aload_n 0, 1) := by decide +kernel
theorem d_M_toldBy_126 : decode b_M_toldBy 126 = .ok (.getfield 19, 3) := by decide +kernel
theorem d_M_toldBy_129 : decode b_M_toldBy 129 = .ok (.iload_n 1, 1) := by decide +kernel
theorem d_M_toldBy_130 : decode b_M_toldBy 130 = .ok (.iaload, 1) := by decide +kernel
theorem d_M_toldBy_131 : decode b_M_toldBy 131 = .ok (.iadd, 1) := by decide +kernel
theorem d_M_toldBy_132 : decode b_M_toldBy 132 = .ok (.ireturn, 1) := by decide +kernel
theorem d_M_toldBy_133 : decode b_M_toldBy 133 = .ok (.iload_n 2, 1) := by decide +kernel
theorem d_M_toldBy_134 : decode b_M_toldBy 134 = .ok (.ireturn, 1) := by decide +kernel
theorem d_M_tells_0 : decode b_M_tells 0 = .ok (.iload_n 1, 1) := by decide +kernel
theorem d_M_tells_1 : decode b_M_tells 1 = .ok (.iconst 0, 1) := by decide +kernel
theorem d_M_tells_2 : decode b_M_tells 2 = .ok (.bipush 7, 2) := by decide +kernel
theorem d_M_tells_4 : decode b_M_tells 4 = .ok (.invokestatic 73, 3) := by decide +kernel
theorem d_M_tells_7 : decode b_M_tells 7 = .ok (.ifCond .eq 12, 3) := by decide +kernel
theorem d_M_tells_10 : decode b_M_tells 10 = .ok (.iload_n 2, 1) := by decide +kernel
theorem d_M_tells_11 : decode b_M_tells 11 = .ok (.iconst 0, 1) := by decide +kernel
theorem d_M_tells_12 : decode b_M_tells 12 = .ok (.iconst 4, 1) := by decide +kernel
theorem d_M_tells_13 : decode b_M_tells 13 = .ok (.invokestatic 73, 3) := by decide +kernel
theorem d_M_tells_16 : decode b_M_tells 16 = .ok (.ifCond .ne 5, 3) := by decide +kernel
theorem d_M_tells_19 : decode b_M_tells 19 = .ok (.iconst (-1), 1) := by decide +kernel
theorem d_M_tells_20 : decode b_M_tells 20 = .ok (.ireturn, 1) := by decide +kernel
theorem d_M_tells_21 : decode b_M_tells 21 = .ok (.aload_n 0, 1) := by decide +kernel
theorem d_M_tells_22 : decode b_M_tells 22 = .ok (.getfield 55, 3) := by decide +kernel
theorem d_M_tells_25 : decode b_M_tells 25 = .ok (.iload_n 1, 1) := by decide +kernel
theorem d_M_tells_26 : decode b_M_tells 26 = .ok (.iaload, 1) := by decide +kernel
theorem d_M_tells_27 : decode b_M_tells 27 = .ok (.istore_n 3, 1) := by decide +kernel
theorem d_M_tells_28 : decode b_M_tells 28 = .ok (.iload_n 3, 1) := by decide +kernel
theorem d_M_tells_29 : decode b_M_tells 29 = .ok (.ifCond .ge 6, 3) := by decide +kernel
theorem d_M_tells_32 : decode b_M_tells 32 = .ok (.bipush (-11), 2) := by decide +kernel
theorem d_M_tells_34 : decode b_M_tells 34 = .ok (.ireturn, 1) := by decide +kernel
theorem d_M_tells_35 : decode b_M_tells 35 = .ok (.iload_n 2, 1) := by decide +kernel
theorem d_M_tells_36 : decode b_M_tells 36 = .ok (.ifCond .eq 19, 3) := by decide +kernel
theorem d_M_tells_39 : decode b_M_tells 39 = .ok (.aload_n 0, 1) := by decide +kernel
theorem d_M_tells_40 : decode b_M_tells 40 = .ok (.getfield 9, 3) := by decide +kernel
theorem d_M_tells_43 : decode b_M_tells 43 = .ok (.iload_n 3, 1) := by decide +kernel
theorem d_M_tells_44 : decode b_M_tells 44 = .ok (.iaload, 1) := by decide +kernel
theorem d_M_tells_45 : decode b_M_tells 45 = .ok (.invokestatic 314, 3) := by decide +kernel
theorem d_M_tells_48 : decode b_M_tells 48 = .ok (.iload_n 2, 1) := by decide +kernel
theorem d_M_tells_49 : decode b_M_tells 49 = .ok (.if_icmp .eq 6, 3) := by decide +kernel
theorem d_M_tells_52 : decode b_M_tells 52 = .ok (.bipush (-12), 2) := by decide +kernel
theorem d_M_tells_54 : decode b_M_tells 54 = .ok (.ireturn, 1) := by decide +kernel
theorem d_M_tells_55 : decode b_M_tells 55 = .ok (.bipush 100, 2) := by decide +kernel
theorem d_M_tells_57 : decode b_M_tells 57 = .ok (.iload_n 2, 1) := by decide +kernel
theorem d_M_tells_58 : decode b_M_tells 58 = .ok (.ifCond .ne 12, 3) := by decide +kernel
theorem d_M_tells_61 : decode b_M_tells 61 = .ok (.aload_n 0, 1) := by decide +kernel
theorem d_M_tells_62 : decode b_M_tells 62 = .ok (.getfield 9, 3) := by decide +kernel
theorem d_M_tells_65 : decode b_M_tells 65 = .ok (.iload_n 3, 1) := by decide +kernel
theorem d_M_tells_66 : decode b_M_tells 66 = .ok (.iaload, 1) := by decide +kernel
theorem d_M_tells_67 : decode b_M_tells 67 = .ok (.goto 8, 3) := by decide +kernel
theorem d_M_tells_70 : decode b_M_tells 70 = .ok (.aload_n 0, 1) := by decide +kernel
theorem d_M_tells_71 : decode b_M_tells 71 = .ok (.iload_n 3, 1) := by decide +kernel
theorem d_M_tells_72 : decode b_M_tells 72 = .ok (.invokevirtual 317, 3) := by decide +kernel
theorem d_M_tells_75 : decode b_M_tells 75 = .ok (.iadd, 1) := by decide +kernel
theorem d_M_tells_76 : decode b_M_tells 76 = .ok (.ireturn, 1) := by decide +kernel
theorem d_M_count_0 : decode b_M_count 0 = .ok (.iload_n 1, 1) := by decide +kernel
theorem d_M_count_1 : decode b_M_count 1 = .ok (.tableswitch 134 0 8 #[51, 56, 64, 71, 78, 83, 90, 97, 104], 51) := by decide +kernel
theorem d_M_count_52 : decode b_M_count 52 = .ok (.aload_n 0, 1) := by decide +kernel
theorem d_M_count_53 : decode b_M_count 53 = .ok (.getfield 70, 3) := by decide +kernel
theorem d_M_count_56 : decode b_M_count 56 = .ok (.ireturn, 1) := by decide +kernel
theorem d_M_count_57 : decode b_M_count 57 = .ok (.aload_n 0, 1) := by decide +kernel
theorem d_M_count_58 : decode b_M_count 58 = .ok (.getfield 25, 3) := by decide +kernel
theorem d_M_count_61 : decode b_M_count 61 = .ok (.bipush 6, 2) := by decide +kernel
theorem d_M_count_63 : decode b_M_count 63 = .ok (.iaload, 1) := by decide +kernel
theorem d_M_count_64 : decode b_M_count 64 = .ok (.ireturn, 1) := by decide +kernel
theorem d_M_count_65 : decode b_M_count 65 = .ok (.aload_n 0, 1) := by decide +kernel
theorem d_M_count_66 : decode b_M_count 66 = .ok (.iconst (-1), 1) := by decide +kernel
theorem d_M_count_67 : decode b_M_count 67 = .ok (.iconst 3, 1) := by decide +kernel
theorem d_M_count_68 : decode b_M_count 68 = .ok (.invokevirtual 168, 3) := by decide +kernel
theorem d_M_count_71 : decode b_M_count 71 = .ok (.ireturn, 1) := by decide +kernel
theorem d_M_count_72 : decode b_M_count 72 = .ok (.aload_n 0, 1) := by decide +kernel
theorem d_M_count_73 : decode b_M_count 73 = .ok (.iconst (-1), 1) := by decide +kernel
theorem d_M_count_74 : decode b_M_count 74 = .ok (.iconst 4, 1) := by decide +kernel
theorem d_M_count_75 : decode b_M_count 75 = .ok (.invokevirtual 168, 3) := by decide +kernel
theorem d_M_count_78 : decode b_M_count 78 = .ok (.ireturn, 1) := by decide +kernel
theorem d_M_count_79 : decode b_M_count 79 = .ok (.aload_n 0, 1) := by decide +kernel
theorem d_M_count_80 : decode b_M_count 80 = .ok (.getfield 81, 3) := by decide +kernel
theorem d_M_count_83 : decode b_M_count 83 = .ok (.ireturn, 1) := by decide +kernel
theorem d_M_count_84 : decode b_M_count 84 = .ok (.aload_n 0, 1) := by decide +kernel
theorem d_M_count_85 : decode b_M_count 85 = .ok (.getfield 25, 3) := by decide +kernel
theorem d_M_count_88 : decode b_M_count 88 = .ok (.iconst 2, 1) := by decide +kernel
theorem d_M_count_89 : decode b_M_count 89 = .ok (.iaload, 1) := by decide +kernel
theorem d_M_count_90 : decode b_M_count 90 = .ok (.ireturn, 1) := by decide +kernel
theorem d_M_count_91 : decode b_M_count 91 = .ok (.aload_n 0, 1) := by decide +kernel
theorem d_M_count_92 : decode b_M_count 92 = .ok (.getfield 25, 3) := by decide +kernel
theorem d_M_count_95 : decode b_M_count 95 = .ok (.iconst 5, 1) := by decide +kernel
theorem d_M_count_96 : decode b_M_count 96 = .ok (.iaload, 1) := by decide +kernel
theorem d_M_count_97 : decode b_M_count 97 = .ok (.ireturn, 1) := by decide +kernel
theorem d_M_count_98 : decode b_M_count 98 = .ok (.aload_n 0, 1) := by decide +kernel
theorem d_M_count_99 : decode b_M_count 99 = .ok (.getfield 25, 3) := by decide +kernel
theorem d_M_count_102 : decode b_M_count 102 = .ok (.iconst 4, 1) := by decide +kernel
theorem d_M_count_103 : decode b_M_count 103 = .ok (.iaload, 1) := by decide +kernel
theorem d_M_count_104 : decode b_M_count 104 = .ok (.ireturn, 1) := by decide +kernel
theorem d_M_count_105 : decode b_M_count 105 = .ok (.aload_n 0, 1) := by decide +kernel
theorem d_M_count_106 : decode b_M_count 106 = .ok (.getfield 25, 3) := by decide +kernel
theorem d_M_count_109 : decode b_M_count 109 = .ok (.iconst 0, 1) := by decide +kernel
theorem d_M_count_110 : decode b_M_count 110 = .ok (.iaload, 1) := by decide +kernel
theorem d_M_count_111 : decode b_M_count 111 = .ok (.ifCond .gt 7, 3) := by decide +kernel
theorem d_M_count_114 : decode b_M_count 114 = .ok (.iconst 1, 1) := by decide +kernel
theorem d_M_count_115 : decode b_M_count 115 = .ok (.goto 4, 3) := by decide +kernel
theorem d_M_count_118 : decode b_M_count 118 = .ok (.iconst 0, 1) := by decide +kernel
theorem d_M_count_119 : decode b_M_count 119 = .ok (.aload_n 0, 1) := by decide +kernel
theorem d_M_count_120 : decode b_M_count 120 = .ok (.getfield 25, 3) := by decide +kernel
theorem d_M_count_123 : decode b_M_count 123 = .ok (.iconst 1, 1) := by decide +kernel
theorem d_M_count_124 : decode b_M_count 124 = .ok (.iaload, 1) := by decide +kernel
theorem d_M_count_125 : decode b_M_count 125 = .ok (.ifCond .gt 7, 3) := by decide +kernel
theorem d_M_count_128 : decode b_M_count 128 = .ok (.iconst 2, 1) := by decide +kernel
theorem d_M_count_129 : decode b_M_count 129 = .ok (.goto 4, 3) := by decide +kernel
theorem d_M_count_132 : decode b_M_count 132 = .ok (.iconst 0, 1) := by decide +kernel
theorem d_M_count_133 : decode b_M_count 133 = .ok (.iadd, 1) := by decide +kernel
theorem d_M_count_134 : decode b_M_count 134 = .ok (.ireturn, 1) := by decide +kernel
theorem d_M_count_135 : decode b_M_count 135 = .ok (.iconst (-1), 1) := by decide +kernel
theorem d_M_count_136 : decode b_M_count 136 = .ok (.ireturn, 1) := by decide +kernel
theorem d_W_0 : decode code 0 = .ok (.new 7, 3) := by decide +kernel
theorem d_W_3 : decode code 3 = .ok (.dup, 1) := by decide +kernel
theorem d_W_4 : decode code 4 = .ok (.invokespecial 9, 3) := by decide +kernel
theorem d_W_7 : decode code 7 = .ok (.astore_n 1, 1) := by decide +kernel
theorem d_W_8 : decode code 8 = .ok (.new 10, 3) := by decide +kernel
theorem d_W_11 : decode code 11 = .ok (.dup, 1) := by decide +kernel
theorem d_W_12 : decode code 12 = .ok (.invokespecial 12, 3) := by decide +kernel
theorem d_W_15 : decode code 15 = .ok (.astore_n 2, 1) := by decide +kernel
theorem d_W_16 : decode code 16 = .ok (.iconst 0, 1) := by decide +kernel
theorem d_W_17 : decode code 17 = .ok (.istore_n 3, 1) := by decide +kernel
theorem d_W_18 : decode code 18 = .ok (.iload_n 3, 1) := by decide +kernel
theorem d_W_19 : decode code 19 = .ok (.aload_n 0, 1) := by decide +kernel
theorem d_W_20 : decode code 20 = .ok (.arraylength, 1) := by decide +kernel
theorem d_W_21 : decode code 21 = .ok (.iconst 5, 1) := by decide +kernel
theorem d_W_22 : decode code 22 = .ok (.isub, 1) := by decide +kernel
theorem d_W_23 : decode code 23 = .ok (.if_icmp .gt 992, 3) := by decide +kernel
theorem d_W_26 : decode code 26 = .ok (.aload_n 0, 1) := by decide +kernel
theorem d_W_27 : decode code 27 = .ok (.iload_n 3, 1) := by decide +kernel
theorem d_W_28 : decode code 28 = .ok (.iaload, 1) := by decide +kernel
theorem d_W_29 : decode code 29 = .ok (.bipush 63, 2) := by decide +kernel
theorem d_W_31 : decode code 31 = .ok (.iand, 1) := by decide +kernel
theorem d_W_32 : decode code 32 = .ok (.tableswitch 977 0 32 #[148, 201, 224, 237, 270, 293, 326, 359, 392, 415, 438, 471, 504, 527, 550, 563, 576, 599, 612, 635, 658, 691, 714, 727, 750, 773, 806, 839, 862, 875, 888, 921, 954], 148) := by decide +kernel
theorem d_W_180 : decode code 180 = .ok (.aload_n 1, 1) := by decide +kernel
theorem d_W_181 : decode code 181 = .ok (.aload_n 0, 1) := by decide +kernel
theorem d_W_182 : decode code 182 = .ok (.iload_n 3, 1) := by decide +kernel
theorem d_W_183 : decode code 183 = .ok (.iconst 1, 1) := by decide +kernel
theorem d_W_184 : decode code 184 = .ok (.iadd, 1) := by decide +kernel
theorem d_W_185 : decode code 185 = .ok (.iaload, 1) := by decide +kernel
theorem d_W_186 : decode code 186 = .ok (.aload_n 0, 1) := by decide +kernel
theorem d_W_187 : decode code 187 = .ok (.iload_n 3, 1) := by decide +kernel
theorem d_W_188 : decode code 188 = .ok (.iconst 2, 1) := by decide +kernel
theorem d_W_189 : decode code 189 = .ok (.iadd, 1) := by decide +kernel
theorem d_W_190 : decode code 190 = .ok (.iaload, 1) := by decide +kernel
theorem d_W_191 : decode code 191 = .ok (.aload_n 0, 1) := by decide +kernel
theorem d_W_192 : decode code 192 = .ok (.iload_n 3, 1) := by decide +kernel
theorem d_W_193 : decode code 193 = .ok (.iconst 3, 1) := by decide +kernel
theorem d_W_194 : decode code 194 = .ok (.iadd, 1) := by decide +kernel
theorem d_W_195 : decode code 195 = .ok (.iaload, 1) := by decide +kernel
theorem d_W_196 : decode code 196 = .ok (.aload_n 0, 1) := by decide +kernel
theorem d_W_197 : decode code 197 = .ok (.iload_n 3, 1) := by decide +kernel
theorem d_W_198 : decode code 198 = .ok (.iconst 4, 1) := by decide +kernel
theorem d_W_199 : decode code 199 = .ok (.iadd, 1) := by decide +kernel
theorem d_W_200 : decode code 200 = .ok (.iaload, 1) := by decide +kernel
theorem d_W_201 : decode code 201 = .ok (.invokevirtual 13, 3) := by decide +kernel
theorem d_W_204 : decode code 204 = .ok (.aload_n 2, 1) := by decide +kernel
theorem d_W_205 : decode code 205 = .ok (.aload_n 0, 1) := by decide +kernel
theorem d_W_206 : decode code 206 = .ok (.iload_n 3, 1) := by decide +kernel
theorem d_W_207 : decode code 207 = .ok (.iconst 1, 1) := by decide +kernel
theorem d_W_208 : decode code 208 = .ok (.iadd, 1) := by decide +kernel
theorem d_W_209 : decode code 209 = .ok (.iaload, 1) := by decide +kernel
theorem d_W_210 : decode code 210 = .ok (.aload_n 0, 1) := by decide +kernel
theorem d_W_211 : decode code 211 = .ok (.iload_n 3, 1) := by decide +kernel
theorem d_W_212 : decode code 212 = .ok (.iconst 2, 1) := by decide +kernel
theorem d_W_213 : decode code 213 = .ok (.iadd, 1) := by decide +kernel
theorem d_W_214 : decode code 214 = .ok (.iaload, 1) := by decide +kernel
theorem d_W_215 : decode code 215 = .ok (.aload_n 0, 1) := by decide +kernel
theorem d_W_216 : decode code 216 = .ok (.iload_n 3, 1) := by decide +kernel
theorem d_W_217 : decode code 217 = .ok (.iconst 3, 1) := by decide +kernel
theorem d_W_218 : decode code 218 = .ok (.iadd, 1) := by decide +kernel
theorem d_W_219 : decode code 219 = .ok (.iaload, 1) := by decide +kernel
theorem d_W_220 : decode code 220 = .ok (.aload_n 0, 1) := by decide +kernel
theorem d_W_221 : decode code 221 = .ok (.iload_n 3, 1) := by decide +kernel
theorem d_W_222 : decode code 222 = .ok (.iconst 4, 1) := by decide +kernel
theorem d_W_223 : decode code 223 = .ok (.iadd, 1) := by decide +kernel
theorem d_W_224 : decode code 224 = .ok (.iaload, 1) := by decide +kernel
theorem d_W_225 : decode code 225 = .ok (.invokevirtual 17, 3) := by decide +kernel
theorem d_W_228 : decode code 228 = .ok (.if_icmp .eq 781, 3) := by decide +kernel
theorem d_W_231 : decode code 231 = .ok (.iconst 0, 1) := by decide +kernel
theorem d_W_232 : decode code 232 = .ok (.ireturn, 1) := by decide +kernel
theorem d_W_233 : decode code 233 = .ok (.aload_n 1, 1) := by decide +kernel
theorem d_W_234 : decode code 234 = .ok (.aload_n 0, 1) := by decide +kernel
theorem d_W_235 : decode code 235 = .ok (.iload_n 3, 1) := by decide +kernel
theorem d_W_236 : decode code 236 = .ok (.iconst 1, 1) := by decide +kernel
theorem d_W_237 : decode code 237 = .ok (.iadd, 1) := by decide +kernel
theorem d_W_238 : decode code 238 = .ok (.iaload, 1) := by decide +kernel
theorem d_W_239 : decode code 239 = .ok (.invokevirtual 18, 3) := by decide +kernel
theorem d_W_242 : decode code 242 = .ok (.aload_n 2, 1) := by decide +kernel
theorem d_W_243 : decode code 243 = .ok (.aload_n 0, 1) := by decide +kernel
theorem d_W_244 : decode code 244 = .ok (.iload_n 3, 1) := by decide +kernel
theorem d_W_245 : decode code 245 = .ok (.iconst 1, 1) := by decide +kernel
theorem d_W_246 : decode code 246 = .ok (.iadd, 1) := by decide +kernel
theorem d_W_247 : decode code 247 = .ok (.iaload, 1) := by decide +kernel
theorem d_W_248 : decode code 248 = .ok (.invokevirtual 22, 3) := by decide +kernel
theorem d_W_251 : decode code 251 = .ok (.if_icmp .eq 758, 3) := by decide +kernel
theorem d_W_254 : decode code 254 = .ok (.iconst 0, 1) := by decide +kernel
theorem d_W_255 : decode code 255 = .ok (.ireturn, 1) := by decide +kernel
theorem d_W_256 : decode code 256 = .ok (.aload_n 1, 1) := by decide +kernel
theorem d_W_257 : decode code 257 = .ok (.invokevirtual 23, 3) := by decide +kernel
theorem d_W_260 : decode code 260 = .ok (.aload_n 2, 1) := by decide +kernel
theorem d_W_261 : decode code 261 = .ok (.invokevirtual 27, 3) := by decide +kernel
theorem d_W_264 : decode code 264 = .ok (.if_icmp .eq 745, 3) := by decide +kernel
theorem d_W_267 : decode code 267 = .ok (.iconst 0, 1) := by decide +kernel
theorem d_W_268 : decode code 268 = .ok (.ireturn, 1) := by decide +kernel
theorem d_W_269 : decode code 269 = .ok (.aload_n 1, 1) := by decide +kernel
theorem d_W_270 : decode code 270 = .ok (.aload_n 0, 1) := by decide +kernel
theorem d_W_271 : decode code 271 = .ok (.iload_n 3, 1) := by decide +kernel
theorem d_W_272 : decode code 272 = .ok (.iconst 1, 1) := by decide +kernel
theorem d_W_273 : decode code 273 = .ok (.iadd, 1) := by decide +kernel
theorem d_W_274 : decode code 274 = .ok (.iaload, 1) := by decide +kernel
theorem d_W_275 : decode code 275 = .ok (.aload_n 0, 1) := by decide +kernel
theorem d_W_276 : decode code 276 = .ok (.iload_n 3, 1) := by decide +kernel
theorem d_W_277 : decode code 277 = .ok (.iconst 2, 1) := by decide +kernel
theorem d_W_278 : decode code 278 = .ok (.iadd, 1) := by decide +kernel
theorem d_W_279 : decode code 279 = .ok (.iaload, 1) := by decide +kernel
theorem d_W_280 : decode code 280 = .ok (.invokevirtual 28, 3) := by decide +kernel
theorem d_W_283 : decode code 283 = .ok (.aload_n 2, 1) := by decide +kernel
theorem d_W_284 : decode code 284 = .ok (.aload_n 0, 1) := by decide +kernel
theorem d_W_285 : decode code 285 = .ok (.iload_n 3, 1) := by decide +kernel
theorem d_W_286 : decode code 286 = .ok (.iconst 1, 1) := by decide +kernel
theorem d_W_287 : decode code 287 = .ok (.iadd, 1) := by decide +kernel
theorem d_W_288 : decode code 288 = .ok (.iaload, 1) := by decide +kernel
theorem d_W_289 : decode code 289 = .ok (.aload_n 0, 1) := by decide +kernel
theorem d_W_290 : decode code 290 = .ok (.iload_n 3, 1) := by decide +kernel
theorem d_W_291 : decode code 291 = .ok (.iconst 2, 1) := by decide +kernel
theorem d_W_292 : decode code 292 = .ok (.iadd, 1) := by decide +kernel
theorem d_W_293 : decode code 293 = .ok (.iaload, 1) := by decide +kernel
theorem d_W_294 : decode code 294 = .ok (.invokevirtual 32, 3) := by decide +kernel
theorem d_W_297 : decode code 297 = .ok (.if_icmp .eq 712, 3) := by decide +kernel
theorem d_W_300 : decode code 300 = .ok (.iconst 0, 1) := by decide +kernel
theorem d_W_301 : decode code 301 = .ok (.ireturn, 1) := by decide +kernel
theorem d_W_302 : decode code 302 = .ok (.aload_n 1, 1) := by decide +kernel
theorem d_W_303 : decode code 303 = .ok (.aload_n 0, 1) := by decide +kernel
theorem d_W_304 : decode code 304 = .ok (.iload_n 3, 1) := by decide +kernel
theorem d_W_305 : decode code 305 = .ok (.iconst 1, 1) := by decide +kernel
theorem d_W_306 : decode code 306 = .ok (.iadd, 1) := by decide +kernel
theorem d_W_307 : decode code 307 = .ok (.iaload, 1) := by decide +kernel
theorem d_W_308 : decode code 308 = .ok (.invokevirtual 33, 3) := by decide +kernel
theorem d_W_311 : decode code 311 = .ok (.aload_n 2, 1) := by decide +kernel
theorem d_W_312 : decode code 312 = .ok (.aload_n 0, 1) := by decide +kernel
theorem d_W_313 : decode code 313 = .ok (.iload_n 3, 1) := by decide +kernel
theorem d_W_314 : decode code 314 = .ok (.iconst 1, 1) := by decide +kernel
theorem d_W_315 : decode code 315 = .ok (.iadd, 1) := by decide +kernel
theorem d_W_316 : decode code 316 = .ok (.iaload, 1) := by decide +kernel
theorem d_W_317 : decode code 317 = .ok (.invokevirtual 36, 3) := by decide +kernel
theorem d_W_320 : decode code 320 = .ok (.if_icmp .eq 689, 3) := by decide +kernel
theorem d_W_323 : decode code 323 = .ok (.iconst 0, 1) := by decide +kernel
theorem d_W_324 : decode code 324 = .ok (.ireturn, 1) := by decide +kernel
theorem d_W_325 : decode code 325 = .ok (.aload_n 1, 1) := by decide +kernel
theorem d_W_326 : decode code 326 = .ok (.aload_n 0, 1) := by decide +kernel
theorem d_W_327 : decode code 327 = .ok (.iload_n 3, 1) := by decide +kernel
theorem d_W_328 : decode code 328 = .ok (.iconst 1, 1) := by decide +kernel
theorem d_W_329 : decode code 329 = .ok (.iadd, 1) := by decide +kernel
theorem d_W_330 : decode code 330 = .ok (.iaload, 1) := by decide +kernel
theorem d_W_331 : decode code 331 = .ok (.aload_n 0, 1) := by decide +kernel
theorem d_W_332 : decode code 332 = .ok (.iload_n 3, 1) := by decide +kernel
theorem d_W_333 : decode code 333 = .ok (.iconst 2, 1) := by decide +kernel
theorem d_W_334 : decode code 334 = .ok (.iadd, 1) := by decide +kernel
theorem d_W_335 : decode code 335 = .ok (.iaload, 1) := by decide +kernel
theorem d_W_336 : decode code 336 = .ok (.invokevirtual 37, 3) := by decide +kernel
theorem d_W_339 : decode code 339 = .ok (.aload_n 2, 1) := by decide +kernel
theorem d_W_340 : decode code 340 = .ok (.aload_n 0, 1) := by decide +kernel
theorem d_W_341 : decode code 341 = .ok (.iload_n 3, 1) := by decide +kernel
theorem d_W_342 : decode code 342 = .ok (.iconst 1, 1) := by decide +kernel
theorem d_W_343 : decode code 343 = .ok (.iadd, 1) := by decide +kernel
theorem d_W_344 : decode code 344 = .ok (.iaload, 1) := by decide +kernel
theorem d_W_345 : decode code 345 = .ok (.aload_n 0, 1) := by decide +kernel
theorem d_W_346 : decode code 346 = .ok (.iload_n 3, 1) := by decide +kernel
theorem d_W_347 : decode code 347 = .ok (.iconst 2, 1) := by decide +kernel
theorem d_W_348 : decode code 348 = .ok (.iadd, 1) := by decide +kernel
theorem d_W_349 : decode code 349 = .ok (.iaload, 1) := by decide +kernel
theorem d_W_350 : decode code 350 = .ok (.invokevirtual 40, 3) := by decide +kernel
theorem d_W_353 : decode code 353 = .ok (.if_icmp .eq 656, 3) := by decide +kernel
theorem d_W_356 : decode code 356 = .ok (.iconst 0, 1) := by decide +kernel
theorem d_W_357 : decode code 357 = .ok (.ireturn, 1) := by decide +kernel
theorem d_W_358 : decode code 358 = .ok (.aload_n 1, 1) := by decide +kernel
theorem d_W_359 : decode code 359 = .ok (.aload_n 0, 1) := by decide +kernel
theorem d_W_360 : decode code 360 = .ok (.iload_n 3, 1) := by decide +kernel
theorem d_W_361 : decode code 361 = .ok (.iconst 1, 1) := by decide +kernel
theorem d_W_362 : decode code 362 = .ok (.iadd, 1) := by decide +kernel
theorem d_W_363 : decode code 363 = .ok (.iaload, 1) := by decide +kernel
theorem d_W_364 : decode code 364 = .ok (.aload_n 0, 1) := by decide +kernel
theorem d_W_365 : decode code 365 = .ok (.iload_n 3, 1) := by decide +kernel
theorem d_W_366 : decode code 366 = .ok (.iconst 2, 1) := by decide +kernel
theorem d_W_367 : decode code 367 = .ok (.iadd, 1) := by decide +kernel
theorem d_W_368 : decode code 368 = .ok (.iaload, 1) := by decide +kernel
theorem d_W_369 : decode code 369 = .ok (.invokevirtual 41, 3) := by decide +kernel
theorem d_W_372 : decode code 372 = .ok (.aload_n 2, 1) := by decide +kernel
theorem d_W_373 : decode code 373 = .ok (.aload_n 0, 1) := by decide +kernel
theorem d_W_374 : decode code 374 = .ok (.iload_n 3, 1) := by decide +kernel
theorem d_W_375 : decode code 375 = .ok (.iconst 1, 1) := by decide +kernel
theorem d_W_376 : decode code 376 = .ok (.iadd, 1) := by decide +kernel
theorem d_W_377 : decode code 377 = .ok (.iaload, 1) := by decide +kernel
theorem d_W_378 : decode code 378 = .ok (.aload_n 0, 1) := by decide +kernel
theorem d_W_379 : decode code 379 = .ok (.iload_n 3, 1) := by decide +kernel
theorem d_W_380 : decode code 380 = .ok (.iconst 2, 1) := by decide +kernel
theorem d_W_381 : decode code 381 = .ok (.iadd, 1) := by decide +kernel
theorem d_W_382 : decode code 382 = .ok (.iaload, 1) := by decide +kernel
theorem d_W_383 : decode code 383 = .ok (.invokevirtual 44, 3) := by decide +kernel
theorem d_W_386 : decode code 386 = .ok (.if_icmp .eq 623, 3) := by decide +kernel
theorem d_W_389 : decode code 389 = .ok (.iconst 0, 1) := by decide +kernel
theorem d_W_390 : decode code 390 = .ok (.ireturn, 1) := by decide +kernel
theorem d_W_391 : decode code 391 = .ok (.aload_n 1, 1) := by decide +kernel
theorem d_W_392 : decode code 392 = .ok (.aload_n 0, 1) := by decide +kernel
theorem d_W_393 : decode code 393 = .ok (.iload_n 3, 1) := by decide +kernel
theorem d_W_394 : decode code 394 = .ok (.iconst 1, 1) := by decide +kernel
theorem d_W_395 : decode code 395 = .ok (.iadd, 1) := by decide +kernel
theorem d_W_396 : decode code 396 = .ok (.iaload, 1) := by decide +kernel
theorem d_W_397 : decode code 397 = .ok (.aload_n 0, 1) := by decide +kernel
theorem d_W_398 : decode code 398 = .ok (.iload_n 3, 1) := by decide +kernel
theorem d_W_399 : decode code 399 = .ok (.iconst 2, 1) := by decide +kernel
theorem d_W_400 : decode code 400 = .ok (.iadd, 1) := by decide +kernel
theorem d_W_401 : decode code 401 = .ok (.iaload, 1) := by decide +kernel
theorem d_W_402 : decode code 402 = .ok (.invokevirtual 45, 3) := by decide +kernel
theorem d_W_405 : decode code 405 = .ok (.aload_n 2, 1) := by decide +kernel
theorem d_W_406 : decode code 406 = .ok (.aload_n 0, 1) := by decide +kernel
theorem d_W_407 : decode code 407 = .ok (.iload_n 3, 1) := by decide +kernel
theorem d_W_408 : decode code 408 = .ok (.iconst 1, 1) := by decide +kernel
theorem d_W_409 : decode code 409 = .ok (.iadd, 1) := by decide +kernel
theorem d_W_410 : decode code 410 = .ok (.iaload, 1) := by decide +kernel
theorem d_W_411 : decode code 411 = .ok (.aload_n 0, 1) := by decide +kernel
theorem d_W_412 : decode code 412 = .ok (.iload_n 3, 1) := by decide +kernel
theorem d_W_413 : decode code 413 = .ok (.iconst 2, 1) := by decide +kernel
theorem d_W_414 : decode code 414 = .ok (.iadd, 1) := by decide +kernel
theorem d_W_415 : decode code 415 = .ok (.iaload, 1) := by decide +kernel
theorem d_W_416 : decode code 416 = .ok (.invokevirtual 48, 3) := by decide +kernel
theorem d_W_419 : decode code 419 = .ok (.if_icmp .eq 590, 3) := by decide +kernel
theorem d_W_422 : decode code 422 = .ok (.iconst 0, 1) := by decide +kernel
theorem d_W_423 : decode code 423 = .ok (.ireturn, 1) := by decide +kernel
theorem d_W_424 : decode code 424 = .ok (.aload_n 1, 1) := by decide +kernel
theorem d_W_425 : decode code 425 = .ok (.aload_n 0, 1) := by decide +kernel
theorem d_W_426 : decode code 426 = .ok (.iload_n 3, 1) := by decide +kernel
theorem d_W_427 : decode code 427 = .ok (.iconst 1, 1) := by decide +kernel
theorem d_W_428 : decode code 428 = .ok (.iadd, 1) := by decide +kernel
theorem d_W_429 : decode code 429 = .ok (.iaload, 1) := by decide +kernel
theorem d_W_430 : decode code 430 = .ok (.invokevirtual 49, 3) := by decide +kernel
theorem d_W_433 : decode code 433 = .ok (.aload_n 2, 1) := by decide +kernel
theorem d_W_434 : decode code 434 = .ok (.aload_n 0, 1) := by decide +kernel
theorem d_W_435 : decode code 435 = .ok (.iload_n 3, 1) := by decide +kernel
theorem d_W_436 : decode code 436 = .ok (.iconst 1, 1) := by decide +kernel
theorem d_W_437 : decode code 437 = .ok (.iadd, 1) := by decide +kernel
theorem d_W_438 : decode code 438 = .ok (.iaload, 1) := by decide +kernel
theorem d_W_439 : decode code 439 = .ok (.invokevirtual 52, 3) := by decide +kernel
theorem d_W_442 : decode code 442 = .ok (.if_icmp .eq 567, 3) := by decide +kernel
theorem d_W_445 : decode code 445 = .ok (.iconst 0, 1) := by decide +kernel
theorem d_W_446 : decode code 446 = .ok (.ireturn, 1) := by decide +kernel
theorem d_W_447 : decode code 447 = .ok (.aload_n 1, 1) := by decide +kernel
theorem d_W_448 : decode code 448 = .ok (.aload_n 0, 1) := by decide +kernel
theorem d_W_449 : decode code 449 = .ok (.iload_n 3, 1) := by decide +kernel
theorem d_W_450 : decode code 450 = .ok (.iconst 1, 1) := by decide +kernel
theorem d_W_451 : decode code 451 = .ok (.iadd, 1) := by decide +kernel
theorem d_W_452 : decode code 452 = .ok (.iaload, 1) := by decide +kernel
theorem d_W_453 : decode code 453 = .ok (.invokevirtual 53, 3) := by decide +kernel
theorem d_W_456 : decode code 456 = .ok (.aload_n 2, 1) := by decide +kernel
theorem d_W_457 : decode code 457 = .ok (.aload_n 0, 1) := by decide +kernel
theorem d_W_458 : decode code 458 = .ok (.iload_n 3, 1) := by decide +kernel
theorem d_W_459 : decode code 459 = .ok (.iconst 1, 1) := by decide +kernel
theorem d_W_460 : decode code 460 = .ok (.iadd, 1) := by decide +kernel
theorem d_W_461 : decode code 461 = .ok (.iaload, 1) := by decide +kernel
theorem d_W_462 : decode code 462 = .ok (.invokevirtual 56, 3) := by decide +kernel
theorem d_W_465 : decode code 465 = .ok (.if_icmp .eq 544, 3) := by decide +kernel
theorem d_W_468 : decode code 468 = .ok (.iconst 0, 1) := by decide +kernel
theorem d_W_469 : decode code 469 = .ok (.ireturn, 1) := by decide +kernel
theorem d_W_470 : decode code 470 = .ok (.aload_n 1, 1) := by decide +kernel
theorem d_W_471 : decode code 471 = .ok (.aload_n 0, 1) := by decide +kernel
theorem d_W_472 : decode code 472 = .ok (.iload_n 3, 1) := by decide +kernel
theorem d_W_473 : decode code 473 = .ok (.iconst 1, 1) := by decide +kernel
theorem d_W_474 : decode code 474 = .ok (.iadd, 1) := by decide +kernel
theorem d_W_475 : decode code 475 = .ok (.iaload, 1) := by decide +kernel
theorem d_W_476 : decode code 476 = .ok (.aload_n 0, 1) := by decide +kernel
theorem d_W_477 : decode code 477 = .ok (.iload_n 3, 1) := by decide +kernel
theorem d_W_478 : decode code 478 = .ok (.iconst 2, 1) := by decide +kernel
theorem d_W_479 : decode code 479 = .ok (.iadd, 1) := by decide +kernel
theorem d_W_480 : decode code 480 = .ok (.iaload, 1) := by decide +kernel
theorem d_W_481 : decode code 481 = .ok (.invokevirtual 57, 3) := by decide +kernel
theorem d_W_484 : decode code 484 = .ok (.aload_n 2, 1) := by decide +kernel
theorem d_W_485 : decode code 485 = .ok (.aload_n 0, 1) := by decide +kernel
theorem d_W_486 : decode code 486 = .ok (.iload_n 3, 1) := by decide +kernel
theorem d_W_487 : decode code 487 = .ok (.iconst 1, 1) := by decide +kernel
theorem d_W_488 : decode code 488 = .ok (.iadd, 1) := by decide +kernel
theorem d_W_489 : decode code 489 = .ok (.iaload, 1) := by decide +kernel
theorem d_W_490 : decode code 490 = .ok (.aload_n 0, 1) := by decide +kernel
theorem d_W_491 : decode code 491 = .ok (.iload_n 3, 1) := by decide +kernel
theorem d_W_492 : decode code 492 = .ok (.iconst 2, 1) := by decide +kernel
theorem d_W_493 : decode code 493 = .ok (.iadd, 1) := by decide +kernel
theorem d_W_494 : decode code 494 = .ok (.iaload, 1) := by decide +kernel
theorem d_W_495 : decode code 495 = .ok (.invokevirtual 60, 3) := by decide +kernel
theorem d_W_498 : decode code 498 = .ok (.if_icmp .eq 511, 3) := by decide +kernel
theorem d_W_501 : decode code 501 = .ok (.iconst 0, 1) := by decide +kernel
theorem d_W_502 : decode code 502 = .ok (.ireturn, 1) := by decide +kernel
theorem d_W_503 : decode code 503 = .ok (.aload_n 1, 1) := by decide +kernel
theorem d_W_504 : decode code 504 = .ok (.aload_n 0, 1) := by decide +kernel
theorem d_W_505 : decode code 505 = .ok (.iload_n 3, 1) := by decide +kernel
theorem d_W_506 : decode code 506 = .ok (.iconst 1, 1) := by decide +kernel
theorem d_W_507 : decode code 507 = .ok (.iadd, 1) := by decide +kernel
theorem d_W_508 : decode code 508 = .ok (.iaload, 1) := by decide +kernel
theorem d_W_509 : decode code 509 = .ok (.aload_n 0, 1) := by decide +kernel
theorem d_W_510 : decode code 510 = .ok (.iload_n 3, 1) := by decide +kernel
theorem d_W_511 : decode code 511 = .ok (.iconst 2, 1) := by decide +kernel
theorem d_W_512 : decode code 512 = .ok (.iadd, 1) := by decide +kernel
theorem d_W_513 : decode code 513 = .ok (.iaload, 1) := by decide +kernel
theorem d_W_514 : decode code 514 = .ok (.invokevirtual 61, 3) := by decide +kernel
theorem d_W_517 : decode code 517 = .ok (.aload_n 2, 1) := by decide +kernel
theorem d_W_518 : decode code 518 = .ok (.aload_n 0, 1) := by decide +kernel
theorem d_W_519 : decode code 519 = .ok (.iload_n 3, 1) := by decide +kernel
theorem d_W_520 : decode code 520 = .ok (.iconst 1, 1) := by decide +kernel
theorem d_W_521 : decode code 521 = .ok (.iadd, 1) := by decide +kernel
theorem d_W_522 : decode code 522 = .ok (.iaload, 1) := by decide +kernel
theorem d_W_523 : decode code 523 = .ok (.aload_n 0, 1) := by decide +kernel
theorem d_W_524 : decode code 524 = .ok (.iload_n 3, 1) := by decide +kernel
theorem d_W_525 : decode code 525 = .ok (.iconst 2, 1) := by decide +kernel
theorem d_W_526 : decode code 526 = .ok (.iadd, 1) := by decide +kernel
theorem d_W_527 : decode code 527 = .ok (.iaload, 1) := by decide +kernel
theorem d_W_528 : decode code 528 = .ok (.invokevirtual 64, 3) := by decide +kernel
theorem d_W_531 : decode code 531 = .ok (.if_icmp .eq 478, 3) := by decide +kernel
theorem d_W_534 : decode code 534 = .ok (.iconst 0, 1) := by decide +kernel
theorem d_W_535 : decode code 535 = .ok (.ireturn, 1) := by decide +kernel
theorem d_W_536 : decode code 536 = .ok (.aload_n 1, 1) := by decide +kernel
theorem d_W_537 : decode code 537 = .ok (.aload_n 0, 1) := by decide +kernel
theorem d_W_538 : decode code 538 = .ok (.iload_n 3, 1) := by decide +kernel
theorem d_W_539 : decode code 539 = .ok (.iconst 1, 1) := by decide +kernel
theorem d_W_540 : decode code 540 = .ok (.iadd, 1) := by decide +kernel
theorem d_W_541 : decode code 541 = .ok (.iaload, 1) := by decide +kernel
theorem d_W_542 : decode code 542 = .ok (.invokevirtual 65, 3) := by decide +kernel
theorem d_W_545 : decode code 545 = .ok (.aload_n 2, 1) := by decide +kernel
theorem d_W_546 : decode code 546 = .ok (.aload_n 0, 1) := by decide +kernel
theorem d_W_547 : decode code 547 = .ok (.iload_n 3, 1) := by decide +kernel
theorem d_W_548 : decode code 548 = .ok (.iconst 1, 1) := by decide +kernel
theorem d_W_549 : decode code 549 = .ok (.iadd, 1) := by decide +kernel
theorem d_W_550 : decode code 550 = .ok (.iaload, 1) := by decide +kernel
theorem d_W_551 : decode code 551 = .ok (.invokevirtual 68, 3) := by decide +kernel
theorem d_W_554 : decode code 554 = .ok (.if_icmp .eq 455, 3) := by decide +kernel
theorem d_W_557 : decode code 557 = .ok (.iconst 0, 1) := by decide +kernel
theorem d_W_558 : decode code 558 = .ok (.ireturn, 1) := by decide +kernel
theorem d_W_559 : decode code 559 = .ok (.aload_n 1, 1) := by decide +kernel
theorem d_W_560 : decode code 560 = .ok (.aload_n 0, 1) := by decide +kernel
theorem d_W_561 : decode code 561 = .ok (.iload_n 3, 1) := by decide +kernel
theorem d_W_562 : decode code 562 = .ok (.iconst 1, 1) := by decide +kernel
theorem d_W_563 : decode code 563 = .ok (.iadd, 1) := by decide +kernel
theorem d_W_564 : decode code 564 = .ok (.iaload, 1) := by decide +kernel
theorem d_W_565 : decode code 565 = .ok (.invokevirtual 69, 3) := by decide +kernel
theorem d_W_568 : decode code 568 = .ok (.aload_n 2, 1) := by decide +kernel
theorem d_W_569 : decode code 569 = .ok (.aload_n 0, 1) := by decide +kernel
theorem d_W_570 : decode code 570 = .ok (.iload_n 3, 1) := by decide +kernel
theorem d_W_571 : decode code 571 = .ok (.iconst 1, 1) := by decide +kernel
theorem d_W_572 : decode code 572 = .ok (.iadd, 1) := by decide +kernel
theorem d_W_573 : decode code 573 = .ok (.iaload, 1) := by decide +kernel
theorem d_W_574 : decode code 574 = .ok (.invokevirtual 72, 3) := by decide +kernel
theorem d_W_577 : decode code 577 = .ok (.if_icmp .eq 432, 3) := by decide +kernel
theorem d_W_580 : decode code 580 = .ok (.iconst 0, 1) := by decide +kernel
theorem d_W_581 : decode code 581 = .ok (.ireturn, 1) := by decide +kernel
theorem d_W_582 : decode code 582 = .ok (.aload_n 1, 1) := by decide +kernel
theorem d_W_583 : decode code 583 = .ok (.invokevirtual 73, 3) := by decide +kernel
theorem d_W_586 : decode code 586 = .ok (.aload_n 2, 1) := by decide +kernel
theorem d_W_587 : decode code 587 = .ok (.invokevirtual 76, 3) := by decide +kernel
theorem d_W_590 : decode code 590 = .ok (.if_icmp .eq 419, 3) := by decide +kernel
theorem d_W_593 : decode code 593 = .ok (.iconst 0, 1) := by decide +kernel
theorem d_W_594 : decode code 594 = .ok (.ireturn, 1) := by decide +kernel
theorem d_W_595 : decode code 595 = .ok (.aload_n 1, 1) := by decide +kernel
theorem d_W_596 : decode code 596 = .ok (.invokevirtual 77, 3) := by decide +kernel
theorem d_W_599 : decode code 599 = .ok (.aload_n 2, 1) := by decide +kernel
theorem d_W_600 : decode code 600 = .ok (.invokevirtual 80, 3) := by decide +kernel
theorem d_W_603 : decode code 603 = .ok (.if_icmp .eq 406, 3) := by decide +kernel
theorem d_W_606 : decode code 606 = .ok (.iconst 0, 1) := by decide +kernel
theorem d_W_607 : decode code 607 = .ok (.ireturn, 1) := by decide +kernel
theorem d_W_608 : decode code 608 = .ok (.aload_n 1, 1) := by decide +kernel
theorem d_W_609 : decode code 609 = .ok (.aload_n 0, 1) := by decide +kernel
theorem d_W_610 : decode code 610 = .ok (.iload_n 3, 1) := by decide +kernel
theorem d_W_611 : decode code 611 = .ok (.iconst 1, 1) := by decide +kernel
theorem d_W_612 : decode code 612 = .ok (.iadd, 1) := by decide +kernel
theorem d_W_613 : decode code 613 = .ok (.iaload, 1) := by decide +kernel
theorem d_W_614 : decode code 614 = .ok (.invokevirtual 81, 3) := by decide +kernel
theorem d_W_617 : decode code 617 = .ok (.aload_n 2, 1) := by decide +kernel
theorem d_W_618 : decode code 618 = .ok (.aload_n 0, 1) := by decide +kernel
theorem d_W_619 : decode code 619 = .ok (.iload_n 3, 1) := by decide +kernel
theorem d_W_620 : decode code 620 = .ok (.iconst 1, 1) := by decide +kernel
theorem d_W_621 : decode code 621 = .ok (.iadd, 1) := by decide +kernel
theorem d_W_622 : decode code 622 = .ok (.iaload, 1) := by decide +kernel
theorem d_W_623 : decode code 623 = .ok (.invokevirtual 84, 3) := by decide +kernel
theorem d_W_626 : decode code 626 = .ok (.if_icmp .eq 383, 3) := by decide +kernel
theorem d_W_629 : decode code 629 = .ok (.iconst 0, 1) := by decide +kernel
theorem d_W_630 : decode code 630 = .ok (.ireturn, 1) := by decide +kernel
theorem d_W_631 : decode code 631 = .ok (.aload_n 1, 1) := by decide +kernel
theorem d_W_632 : decode code 632 = .ok (.invokevirtual 85, 3) := by decide +kernel
theorem d_W_635 : decode code 635 = .ok (.aload_n 2, 1) := by decide +kernel
theorem d_W_636 : decode code 636 = .ok (.invokevirtual 88, 3) := by decide +kernel
theorem d_W_639 : decode code 639 = .ok (.if_icmp .eq 370, 3) := by decide +kernel
theorem d_W_642 : decode code 642 = .ok (.iconst 0, 1) := by decide +kernel
theorem d_W_643 : decode code 643 = .ok (.ireturn, 1) := by decide +kernel
theorem d_W_644 : decode code 644 = .ok (.aload_n 1, 1) := by decide +kernel
theorem d_W_645 : decode code 645 = .ok (.aload_n 0, 1) := by decide +kernel
theorem d_W_646 : decode code 646 = .ok (.iload_n 3, 1) := by decide +kernel
theorem d_W_647 : decode code 647 = .ok (.iconst 1, 1) := by decide +kernel
theorem d_W_648 : decode code 648 = .ok (.iadd, 1) := by decide +kernel
theorem d_W_649 : decode code 649 = .ok (.iaload, 1) := by decide +kernel
theorem d_W_650 : decode code 650 = .ok (.invokevirtual 89, 3) := by decide +kernel
theorem d_W_653 : decode code 653 = .ok (.aload_n 2, 1) := by decide +kernel
theorem d_W_654 : decode code 654 = .ok (.aload_n 0, 1) := by decide +kernel
theorem d_W_655 : decode code 655 = .ok (.iload_n 3, 1) := by decide +kernel
theorem d_W_656 : decode code 656 = .ok (.iconst 1, 1) := by decide +kernel
theorem d_W_657 : decode code 657 = .ok (.iadd, 1) := by decide +kernel
theorem d_W_658 : decode code 658 = .ok (.iaload, 1) := by decide +kernel
theorem d_W_659 : decode code 659 = .ok (.invokevirtual 92, 3) := by decide +kernel
theorem d_W_662 : decode code 662 = .ok (.if_icmp .eq 347, 3) := by decide +kernel
theorem d_W_665 : decode code 665 = .ok (.iconst 0, 1) := by decide +kernel
theorem d_W_666 : decode code 666 = .ok (.ireturn, 1) := by decide +kernel
theorem d_W_667 : decode code 667 = .ok (.aload_n 1, 1) := by decide +kernel
theorem d_W_668 : decode code 668 = .ok (.aload_n 0, 1) := by decide +kernel
theorem d_W_669 : decode code 669 = .ok (.iload_n 3, 1) := by decide +kernel
theorem d_W_670 : decode code 670 = .ok (.iconst 1, 1) := by decide +kernel
theorem d_W_671 : decode code 671 = .ok (.iadd, 1) := by decide +kernel
theorem d_W_672 : decode code 672 = .ok (.iaload, 1) := by decide +kernel
theorem d_W_673 : decode code 673 = .ok (.invokevirtual 93, 3) := by decide +kernel
theorem d_W_676 : decode code 676 = .ok (.aload_n 2, 1) := by decide +kernel
theorem d_W_677 : decode code 677 = .ok (.aload_n 0, 1) := by decide +kernel
theorem d_W_678 : decode code 678 = .ok (.iload_n 3, 1) := by decide +kernel
theorem d_W_679 : decode code 679 = .ok (.iconst 1, 1) := by decide +kernel
theorem d_W_680 : decode code 680 = .ok (.iadd, 1) := by decide +kernel
theorem d_W_681 : decode code 681 = .ok (.iaload, 1) := by decide +kernel
theorem d_W_682 : decode code 682 = .ok (.invokevirtual 96, 3) := by decide +kernel
theorem d_W_685 : decode code 685 = .ok (.if_icmp .eq 324, 3) := by decide +kernel
theorem d_W_688 : decode code 688 = .ok (.iconst 0, 1) := by decide +kernel
theorem d_W_689 : decode code 689 = .ok (.ireturn, 1) := by decide +kernel
theorem d_W_690 : decode code 690 = .ok (.aload_n 1, 1) := by decide +kernel
theorem d_W_691 : decode code 691 = .ok (.aload_n 0, 1) := by decide +kernel
theorem d_W_692 : decode code 692 = .ok (.iload_n 3, 1) := by decide +kernel
theorem d_W_693 : decode code 693 = .ok (.iconst 1, 1) := by decide +kernel
theorem d_W_694 : decode code 694 = .ok (.iadd, 1) := by decide +kernel
theorem d_W_695 : decode code 695 = .ok (.iaload, 1) := by decide +kernel
theorem d_W_696 : decode code 696 = .ok (.aload_n 0, 1) := by decide +kernel
theorem d_W_697 : decode code 697 = .ok (.iload_n 3, 1) := by decide +kernel
theorem d_W_698 : decode code 698 = .ok (.iconst 2, 1) := by decide +kernel
theorem d_W_699 : decode code 699 = .ok (.iadd, 1) := by decide +kernel
theorem d_W_700 : decode code 700 = .ok (.iaload, 1) := by decide +kernel
theorem d_W_701 : decode code 701 = .ok (.invokevirtual 97, 3) := by decide +kernel
theorem d_W_704 : decode code 704 = .ok (.aload_n 2, 1) := by decide +kernel
theorem d_W_705 : decode code 705 = .ok (.aload_n 0, 1) := by decide +kernel
theorem d_W_706 : decode code 706 = .ok (.iload_n 3, 1) := by decide +kernel
theorem d_W_707 : decode code 707 = .ok (.iconst 1, 1) := by decide +kernel
theorem d_W_708 : decode code 708 = .ok (.iadd, 1) := by decide +kernel
theorem d_W_709 : decode code 709 = .ok (.iaload, 1) := by decide +kernel
theorem d_W_710 : decode code 710 = .ok (.aload_n 0, 1) := by decide +kernel
theorem d_W_711 : decode code 711 = .ok (.iload_n 3, 1) := by decide +kernel
theorem d_W_712 : decode code 712 = .ok (.iconst 2, 1) := by decide +kernel
theorem d_W_713 : decode code 713 = .ok (.iadd, 1) := by decide +kernel
theorem d_W_714 : decode code 714 = .ok (.iaload, 1) := by decide +kernel
theorem d_W_715 : decode code 715 = .ok (.invokevirtual 100, 3) := by decide +kernel
theorem d_W_718 : decode code 718 = .ok (.if_icmp .eq 291, 3) := by decide +kernel
theorem d_W_721 : decode code 721 = .ok (.iconst 0, 1) := by decide +kernel
theorem d_W_722 : decode code 722 = .ok (.ireturn, 1) := by decide +kernel
theorem d_W_723 : decode code 723 = .ok (.aload_n 1, 1) := by decide +kernel
theorem d_W_724 : decode code 724 = .ok (.aload_n 0, 1) := by decide +kernel
theorem d_W_725 : decode code 725 = .ok (.iload_n 3, 1) := by decide +kernel
theorem d_W_726 : decode code 726 = .ok (.iconst 1, 1) := by decide +kernel
theorem d_W_727 : decode code 727 = .ok (.iadd, 1) := by decide +kernel
theorem d_W_728 : decode code 728 = .ok (.iaload, 1) := by decide +kernel
theorem d_W_729 : decode code 729 = .ok (.invokevirtual 101, 3) := by decide +kernel
theorem d_W_732 : decode code 732 = .ok (.aload_n 2, 1) := by decide +kernel
theorem d_W_733 : decode code 733 = .ok (.aload_n 0, 1) := by decide +kernel
theorem d_W_734 : decode code 734 = .ok (.iload_n 3, 1) := by decide +kernel
theorem d_W_735 : decode code 735 = .ok (.iconst 1, 1) := by decide +kernel
theorem d_W_736 : decode code 736 = .ok (.iadd, 1) := by decide +kernel
theorem d_W_737 : decode code 737 = .ok (.iaload, 1) := by decide +kernel
theorem d_W_738 : decode code 738 = .ok (.invokevirtual 104, 3) := by decide +kernel
theorem d_W_741 : decode code 741 = .ok (.if_icmp .eq 268, 3) := by decide +kernel
theorem d_W_744 : decode code 744 = .ok (.iconst 0, 1) := by decide +kernel
theorem d_W_745 : decode code 745 = .ok (.ireturn, 1) := by decide +kernel
theorem d_W_746 : decode code 746 = .ok (.aload_n 1, 1) := by decide +kernel
theorem d_W_747 : decode code 747 = .ok (.invokevirtual 105, 3) := by decide +kernel
theorem d_W_750 : decode code 750 = .ok (.aload_n 2, 1) := by decide +kernel
theorem d_W_751 : decode code 751 = .ok (.invokevirtual 108, 3) := by decide +kernel
theorem d_W_754 : decode code 754 = .ok (.if_icmp .eq 255, 3) := by decide +kernel
theorem d_W_757 : decode code 757 = .ok (.iconst 0, 1) := by decide +kernel
theorem d_W_758 : decode code 758 = .ok (.ireturn, 1) := by decide +kernel
theorem d_W_759 : decode code 759 = .ok (.aload_n 1, 1) := by decide +kernel
theorem d_W_760 : decode code 760 = .ok (.aload_n 0, 1) := by decide +kernel
theorem d_W_761 : decode code 761 = .ok (.iload_n 3, 1) := by decide +kernel
theorem d_W_762 : decode code 762 = .ok (.iconst 1, 1) := by decide +kernel
theorem d_W_763 : decode code 763 = .ok (.iadd, 1) := by decide +kernel
theorem d_W_764 : decode code 764 = .ok (.iaload, 1) := by decide +kernel
theorem d_W_765 : decode code 765 = .ok (.invokevirtual 109, 3) := by decide +kernel
theorem d_W_768 : decode code 768 = .ok (.aload_n 2, 1) := by decide +kernel
theorem d_W_769 : decode code 769 = .ok (.aload_n 0, 1) := by decide +kernel
theorem d_W_770 : decode code 770 = .ok (.iload_n 3, 1) := by decide +kernel
theorem d_W_771 : decode code 771 = .ok (.iconst 1, 1) := by decide +kernel
theorem d_W_772 : decode code 772 = .ok (.iadd, 1) := by decide +kernel
theorem d_W_773 : decode code 773 = .ok (.iaload, 1) := by decide +kernel
theorem d_W_774 : decode code 774 = .ok (.invokevirtual 112, 3) := by decide +kernel
theorem d_W_777 : decode code 777 = .ok (.if_icmp .eq 232, 3) := by decide +kernel
theorem d_W_780 : decode code 780 = .ok (.iconst 0, 1) := by decide +kernel
theorem d_W_781 : decode code 781 = .ok (.ireturn, 1) := by decide +kernel
theorem d_W_782 : decode code 782 = .ok (.aload_n 1, 1) := by decide +kernel
theorem d_W_783 : decode code 783 = .ok (.aload_n 0, 1) := by decide +kernel
theorem d_W_784 : decode code 784 = .ok (.iload_n 3, 1) := by decide +kernel
theorem d_W_785 : decode code 785 = .ok (.iconst 1, 1) := by decide +kernel
theorem d_W_786 : decode code 786 = .ok (.iadd, 1) := by decide +kernel
theorem d_W_787 : decode code 787 = .ok (.iaload, 1) := by decide +kernel
theorem d_W_788 : decode code 788 = .ok (.invokevirtual 113, 3) := by decide +kernel
theorem d_W_791 : decode code 791 = .ok (.aload_n 2, 1) := by decide +kernel
theorem d_W_792 : decode code 792 = .ok (.aload_n 0, 1) := by decide +kernel
theorem d_W_793 : decode code 793 = .ok (.iload_n 3, 1) := by decide +kernel
theorem d_W_794 : decode code 794 = .ok (.iconst 1, 1) := by decide +kernel
theorem d_W_795 : decode code 795 = .ok (.iadd, 1) := by decide +kernel
theorem d_W_796 : decode code 796 = .ok (.iaload, 1) := by decide +kernel
theorem d_W_797 : decode code 797 = .ok (.invokevirtual 116, 3) := by decide +kernel
theorem d_W_800 : decode code 800 = .ok (.if_icmp .eq 209, 3) := by decide +kernel
theorem d_W_803 : decode code 803 = .ok (.iconst 0, 1) := by decide +kernel
theorem d_W_804 : decode code 804 = .ok (.ireturn, 1) := by decide +kernel
theorem d_W_805 : decode code 805 = .ok (.aload_n 1, 1) := by decide +kernel
theorem d_W_806 : decode code 806 = .ok (.aload_n 0, 1) := by decide +kernel
theorem d_W_807 : decode code 807 = .ok (.iload_n 3, 1) := by decide +kernel
theorem d_W_808 : decode code 808 = .ok (.iconst 1, 1) := by decide +kernel
theorem d_W_809 : decode code 809 = .ok (.iadd, 1) := by decide +kernel
theorem d_W_810 : decode code 810 = .ok (.iaload, 1) := by decide +kernel
theorem d_W_811 : decode code 811 = .ok (.aload_n 0, 1) := by decide +kernel
theorem d_W_812 : decode code 812 = .ok (.iload_n 3, 1) := by decide +kernel
theorem d_W_813 : decode code 813 = .ok (.iconst 2, 1) := by decide +kernel
theorem d_W_814 : decode code 814 = .ok (.iadd, 1) := by decide +kernel
theorem d_W_815 : decode code 815 = .ok (.iaload, 1) := by decide +kernel
theorem d_W_816 : decode code 816 = .ok (.invokevirtual 117, 3) := by decide +kernel
theorem d_W_819 : decode code 819 = .ok (.aload_n 2, 1) := by decide +kernel
theorem d_W_820 : decode code 820 = .ok (.aload_n 0, 1) := by decide +kernel
theorem d_W_821 : decode code 821 = .ok (.iload_n 3, 1) := by decide +kernel
theorem d_W_822 : decode code 822 = .ok (.iconst 1, 1) := by decide +kernel
theorem d_W_823 : decode code 823 = .ok (.iadd, 1) := by decide +kernel
theorem d_W_824 : decode code 824 = .ok (.iaload, 1) := by decide +kernel
theorem d_W_825 : decode code 825 = .ok (.aload_n 0, 1) := by decide +kernel
theorem d_W_826 : decode code 826 = .ok (.iload_n 3, 1) := by decide +kernel
theorem d_W_827 : decode code 827 = .ok (.iconst 2, 1) := by decide +kernel
theorem d_W_828 : decode code 828 = .ok (.iadd, 1) := by decide +kernel
theorem d_W_829 : decode code 829 = .ok (.iaload, 1) := by decide +kernel
theorem d_W_830 : decode code 830 = .ok (.invokevirtual 120, 3) := by decide +kernel
theorem d_W_833 : decode code 833 = .ok (.if_icmp .eq 176, 3) := by decide +kernel
theorem d_W_836 : decode code 836 = .ok (.iconst 0, 1) := by decide +kernel
theorem d_W_837 : decode code 837 = .ok (.ireturn, 1) := by decide +kernel
theorem d_W_838 : decode code 838 = .ok (.aload_n 1, 1) := by decide +kernel
theorem d_W_839 : decode code 839 = .ok (.aload_n 0, 1) := by decide +kernel
theorem d_W_840 : decode code 840 = .ok (.iload_n 3, 1) := by decide +kernel
theorem d_W_841 : decode code 841 = .ok (.iconst 1, 1) := by decide +kernel
theorem d_W_842 : decode code 842 = .ok (.iadd, 1) := by decide +kernel
theorem d_W_843 : decode code 843 = .ok (.iaload, 1) := by decide +kernel
theorem d_W_844 : decode code 844 = .ok (.aload_n 0, 1) := by decide +kernel
theorem d_W_845 : decode code 845 = .ok (.iload_n 3, 1) := by decide +kernel
theorem d_W_846 : decode code 846 = .ok (.iconst 2, 1) := by decide +kernel
theorem d_W_847 : decode code 847 = .ok (.iadd, 1) := by decide +kernel
theorem d_W_848 : decode code 848 = .ok (.iaload, 1) := by decide +kernel
theorem d_W_849 : decode code 849 = .ok (.invokevirtual 121, 3) := by decide +kernel
theorem d_W_852 : decode code 852 = .ok (.aload_n 2, 1) := by decide +kernel
theorem d_W_853 : decode code 853 = .ok (.aload_n 0, 1) := by decide +kernel
theorem d_W_854 : decode code 854 = .ok (.iload_n 3, 1) := by decide +kernel
theorem d_W_855 : decode code 855 = .ok (.iconst 1, 1) := by decide +kernel
theorem d_W_856 : decode code 856 = .ok (.iadd, 1) := by decide +kernel
theorem d_W_857 : decode code 857 = .ok (.iaload, 1) := by decide +kernel
theorem d_W_858 : decode code 858 = .ok (.aload_n 0, 1) := by decide +kernel
theorem d_W_859 : decode code 859 = .ok (.iload_n 3, 1) := by decide +kernel
theorem d_W_860 : decode code 860 = .ok (.iconst 2, 1) := by decide +kernel
theorem d_W_861 : decode code 861 = .ok (.iadd, 1) := by decide +kernel
theorem d_W_862 : decode code 862 = .ok (.iaload, 1) := by decide +kernel
theorem d_W_863 : decode code 863 = .ok (.invokevirtual 124, 3) := by decide +kernel
theorem d_W_866 : decode code 866 = .ok (.if_icmp .eq 143, 3) := by decide +kernel
theorem d_W_869 : decode code 869 = .ok (.iconst 0, 1) := by decide +kernel
theorem d_W_870 : decode code 870 = .ok (.ireturn, 1) := by decide +kernel
theorem d_W_871 : decode code 871 = .ok (.aload_n 1, 1) := by decide +kernel
theorem d_W_872 : decode code 872 = .ok (.aload_n 0, 1) := by decide +kernel
theorem d_W_873 : decode code 873 = .ok (.iload_n 3, 1) := by decide +kernel
theorem d_W_874 : decode code 874 = .ok (.iconst 1, 1) := by decide +kernel
theorem d_W_875 : decode code 875 = .ok (.iadd, 1) := by decide +kernel
theorem d_W_876 : decode code 876 = .ok (.iaload, 1) := by decide +kernel
theorem d_W_877 : decode code 877 = .ok (.invokevirtual 125, 3) := by decide +kernel
theorem d_W_880 : decode code 880 = .ok (.aload_n 2, 1) := by decide +kernel
theorem d_W_881 : decode code 881 = .ok (.aload_n 0, 1) := by decide +kernel
theorem d_W_882 : decode code 882 = .ok (.iload_n 3, 1) := by decide +kernel
theorem d_W_883 : decode code 883 = .ok (.iconst 1, 1) := by decide +kernel
theorem d_W_884 : decode code 884 = .ok (.iadd, 1) := by decide +kernel
theorem d_W_885 : decode code 885 = .ok (.iaload, 1) := by decide +kernel
theorem d_W_886 : decode code 886 = .ok (.invokevirtual 128, 3) := by decide +kernel
theorem d_W_889 : decode code 889 = .ok (.if_icmp .eq 120, 3) := by decide +kernel
theorem d_W_892 : decode code 892 = .ok (.iconst 0, 1) := by decide +kernel
theorem d_W_893 : decode code 893 = .ok (.ireturn, 1) := by decide +kernel
theorem d_W_894 : decode code 894 = .ok (.aload_n 1, 1) := by decide +kernel
theorem d_W_895 : decode code 895 = .ok (.invokevirtual 129, 3) := by decide +kernel
theorem d_W_898 : decode code 898 = .ok (.aload_n 2, 1) := by decide +kernel
theorem d_W_899 : decode code 899 = .ok (.invokevirtual 132, 3) := by decide +kernel
theorem d_W_902 : decode code 902 = .ok (.if_icmp .eq 107, 3) := by decide +kernel
theorem d_W_905 : decode code 905 = .ok (.iconst 0, 1) := by decide +kernel
theorem d_W_906 : decode code 906 = .ok (.ireturn, 1) := by decide +kernel
theorem d_W_907 : decode code 907 = .ok (.aload_n 1, 1) := by decide +kernel
theorem d_W_908 : decode code 908 = .ok (.invokevirtual 133, 3) := by decide +kernel
theorem d_W_911 : decode code 911 = .ok (.aload_n 2, 1) := by decide +kernel
theorem d_W_912 : decode code 912 = .ok (.invokevirtual 136, 3) := by decide +kernel
theorem d_W_915 : decode code 915 = .ok (.if_icmp .eq 94, 3) := by decide +kernel
theorem d_W_918 : decode code 918 = .ok (.iconst 0, 1) := by decide +kernel
theorem d_W_919 : decode code 919 = .ok (.ireturn, 1) := by decide +kernel
theorem d_W_920 : decode code 920 = .ok (.aload_n 1, 1) := by decide +kernel
theorem d_W_921 : decode code 921 = .ok (.aload_n 0, 1) := by decide +kernel
theorem d_W_922 : decode code 922 = .ok (.iload_n 3, 1) := by decide +kernel
theorem d_W_923 : decode code 923 = .ok (.iconst 1, 1) := by decide +kernel
theorem d_W_924 : decode code 924 = .ok (.iadd, 1) := by decide +kernel
theorem d_W_925 : decode code 925 = .ok (.iaload, 1) := by decide +kernel
theorem d_W_926 : decode code 926 = .ok (.aload_n 0, 1) := by decide +kernel
theorem d_W_927 : decode code 927 = .ok (.iload_n 3, 1) := by decide +kernel
theorem d_W_928 : decode code 928 = .ok (.iconst 2, 1) := by decide +kernel
theorem d_W_929 : decode code 929 = .ok (.iadd, 1) := by decide +kernel
theorem d_W_930 : decode code 930 = .ok (.iaload, 1) := by decide +kernel
theorem d_W_931 : decode code 931 = .ok (.invokevirtual 137, 3) := by decide +kernel
theorem d_W_934 : decode code 934 = .ok (.aload_n 2, 1) := by decide +kernel
theorem d_W_935 : decode code 935 = .ok (.aload_n 0, 1) := by decide +kernel
theorem d_W_936 : decode code 936 = .ok (.iload_n 3, 1) := by decide +kernel
theorem d_W_937 : decode code 937 = .ok (.iconst 1, 1) := by decide +kernel
theorem d_W_938 : decode code 938 = .ok (.iadd, 1) := by decide +kernel
theorem d_W_939 : decode code 939 = .ok (.iaload, 1) := by decide +kernel
theorem d_W_940 : decode code 940 = .ok (.aload_n 0, 1) := by decide +kernel
theorem d_W_941 : decode code 941 = .ok (.iload_n 3, 1) := by decide +kernel
theorem d_W_942 : decode code 942 = .ok (.iconst 2, 1) := by decide +kernel
theorem d_W_943 : decode code 943 = .ok (.iadd, 1) := by decide +kernel
theorem d_W_944 : decode code 944 = .ok (.iaload, 1) := by decide +kernel
theorem d_W_945 : decode code 945 = .ok (.invokevirtual 140, 3) := by decide +kernel
theorem d_W_948 : decode code 948 = .ok (.if_icmp .eq 61, 3) := by decide +kernel
theorem d_W_951 : decode code 951 = .ok (.iconst 0, 1) := by decide +kernel
theorem d_W_952 : decode code 952 = .ok (.ireturn, 1) := by decide +kernel
theorem d_W_953 : decode code 953 = .ok (.aload_n 1, 1) := by decide +kernel
theorem d_W_954 : decode code 954 = .ok (.aload_n 0, 1) := by decide +kernel
theorem d_W_955 : decode code 955 = .ok (.iload_n 3, 1) := by decide +kernel
theorem d_W_956 : decode code 956 = .ok (.iconst 1, 1) := by decide +kernel
theorem d_W_957 : decode code 957 = .ok (.iadd, 1) := by decide +kernel
theorem d_W_958 : decode code 958 = .ok (.iaload, 1) := by decide +kernel
theorem d_W_959 : decode code 959 = .ok (.aload_n 0, 1) := by decide +kernel
theorem d_W_960 : decode code 960 = .ok (.iload_n 3, 1) := by decide +kernel
theorem d_W_961 : decode code 961 = .ok (.iconst 2, 1) := by decide +kernel
theorem d_W_962 : decode code 962 = .ok (.iadd, 1) := by decide +kernel
theorem d_W_963 : decode code 963 = .ok (.iaload, 1) := by decide +kernel
theorem d_W_964 : decode code 964 = .ok (.invokevirtual 141, 3) := by decide +kernel
theorem d_W_967 : decode code 967 = .ok (.aload_n 2, 1) := by decide +kernel
theorem d_W_968 : decode code 968 = .ok (.aload_n 0, 1) := by decide +kernel
theorem d_W_969 : decode code 969 = .ok (.iload_n 3, 1) := by decide +kernel
theorem d_W_970 : decode code 970 = .ok (.iconst 1, 1) := by decide +kernel
theorem d_W_971 : decode code 971 = .ok (.iadd, 1) := by decide +kernel
theorem d_W_972 : decode code 972 = .ok (.iaload, 1) := by decide +kernel
theorem d_W_973 : decode code 973 = .ok (.aload_n 0, 1) := by decide +kernel
theorem d_W_974 : decode code 974 = .ok (.iload_n 3, 1) := by decide +kernel
theorem d_W_975 : decode code 975 = .ok (.iconst 2, 1) := by decide +kernel
theorem d_W_976 : decode code 976 = .ok (.iadd, 1) := by decide +kernel
theorem d_W_977 : decode code 977 = .ok (.iaload, 1) := by decide +kernel
theorem d_W_978 : decode code 978 = .ok (.invokevirtual 144, 3) := by decide +kernel
theorem d_W_981 : decode code 981 = .ok (.if_icmp .eq 28, 3) := by decide +kernel
theorem d_W_984 : decode code 984 = .ok (.iconst 0, 1) := by decide +kernel
theorem d_W_985 : decode code 985 = .ok (.ireturn, 1) := by decide +kernel
theorem d_W_986 : decode code 986 = .ok (.aload_n 1, 1) := by decide +kernel
theorem d_W_987 : decode code 987 = .ok (.aload_n 0, 1) := by decide +kernel
theorem d_W_988 : decode code 988 = .ok (.iload_n 3, 1) := by decide +kernel
theorem d_W_989 : decode code 989 = .ok (.iconst 1, 1) := by decide +kernel
theorem d_W_990 : decode code 990 = .ok (.iadd, 1) := by decide +kernel
theorem d_W_991 : decode code 991 = .ok (.iaload, 1) := by decide +kernel
theorem d_W_992 : decode code 992 = .ok (.invokevirtual 145, 3) := by decide +kernel
theorem d_W_995 : decode code 995 = .ok (.aload_n 2, 1) := by decide +kernel
theorem d_W_996 : decode code 996 = .ok (.aload_n 0, 1) := by decide +kernel
theorem d_W_997 : decode code 997 = .ok (.iload_n 3, 1) := by decide +kernel
theorem d_W_998 : decode code 998 = .ok (.iconst 1, 1) := by decide +kernel
theorem d_W_999 : decode code 999 = .ok (.iadd, 1) := by decide +kernel
theorem d_W_1000 : decode code 1000 = .ok (.iaload, 1) := by decide +kernel
theorem d_W_1001 : decode code 1001 = .ok (.invokevirtual 148, 3) := by decide +kernel
theorem d_W_1004 : decode code 1004 = .ok (.if_icmp .eq 5, 3) := by decide +kernel
theorem d_W_1007 : decode code 1007 = .ok (.iconst 0, 1) := by decide +kernel
theorem d_W_1008 : decode code 1008 = .ok (.ireturn, 1) := by decide +kernel
theorem d_W_1009 : decode code 1009 = .ok (.iinc 3 5, 3) := by decide +kernel
theorem d_W_1012 : decode code 1012 = .ok (.goto (-994), 3) := by decide +kernel
theorem d_W_1015 : decode code 1015 = .ok (.iconst 1, 1) := by decide +kernel
theorem d_W_1016 : decode code 1016 = .ok (.ireturn, 1) := by decide +kernel
