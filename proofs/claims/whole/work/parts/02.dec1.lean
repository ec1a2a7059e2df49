theorem dX0_init_0 : decode cX0_init 0 = .ok (.aload_n 0, 1) := by decide +kernel
theorem dX0_init_1 : decode cX0_init 1 = .ok (.aload_n 1, 1) := by decide +kernel
theorem dX0_init_2 : decode cX0_init 2 = .ok (.invokespecial 3, 3) := by decide +kernel
theorem dX0_init_5 : decode cX0_init 5 = .ok (.return_, 1) := by decide +kernel
theorem dX0_water_0 : decode cX0_water 0 = .ok (.aload_n 0, 1) := by decide +kernel
theorem dX0_water_1 : decode cX0_water 1 = .ok (.getfield 9, 3) := by decide +kernel
theorem dX0_water_4 : decode cX0_water 4 = .ok (.iconst 4, 1) := by decide +kernel
theorem dX0_water_5 : decode cX0_water 5 = .ok (.iconst 0, 1) := by decide +kernel
theorem dX0_water_6 : decode cX0_water 6 = .ok (.invokevirtual 15, 3) := by decide +kernel
theorem dX0_water_9 : decode cX0_water 9 = .ok (.aload_n 0, 1) := by decide +kernel
theorem dX0_water_10 : decode cX0_water 10 = .ok (.iload_n 1, 1) := by decide +kernel
theorem dX0_water_11 : decode cX0_water 11 = .ok (.iload_n 2, 1) := by decide +kernel
theorem dX0_water_12 : decode cX0_water 12 = .ok (.invokespecial 21, 3) := by decide +kernel
theorem dX0_water_15 : decode cX0_water 15 = .ok (.iload_n 2, 1) := by decide +kernel
theorem dX0_water_16 : decode cX0_water 16 = .ok (.imul, 1) := by decide +kernel
theorem dX0_water_17 : decode cX0_water 17 = .ok (.ireturn, 1) := by decide +kernel
theorem dX0_heat_0 : decode cX0_heat 0 = .ok (.aload_n 0, 1) := by decide +kernel
theorem dX0_heat_1 : decode cX0_heat 1 = .ok (.getfield 9, 3) := by decide +kernel
theorem dX0_heat_4 : decode cX0_heat 4 = .ok (.iconst 4, 1) := by decide +kernel
theorem dX0_heat_5 : decode cX0_heat 5 = .ok (.iconst 1, 1) := by decide +kernel
theorem dX0_heat_6 : decode cX0_heat 6 = .ok (.invokevirtual 15, 3) := by decide +kernel
theorem dX0_heat_9 : decode cX0_heat 9 = .ok (.aload_n 0, 1) := by decide +kernel
theorem dX0_heat_10 : decode cX0_heat 10 = .ok (.iload_n 1, 1) := by decide +kernel
theorem dX0_heat_11 : decode cX0_heat 11 = .ok (.iload_n 2, 1) := by decide +kernel
theorem dX0_heat_12 : decode cX0_heat 12 = .ok (.invokespecial 25, 3) := by decide +kernel
theorem dX0_heat_15 : decode cX0_heat 15 = .ok (.iload_n 2, 1) := by decide +kernel
theorem dX0_heat_16 : decode cX0_heat 16 = .ok (.imul, 1) := by decide +kernel
theorem dX0_heat_17 : decode cX0_heat 17 = .ok (.ireturn, 1) := by decide +kernel
theorem dX0_power_0 : decode cX0_power 0 = .ok (.aload_n 0, 1) := by decide +kernel
theorem dX0_power_1 : decode cX0_power 1 = .ok (.getfield 9, 3) := by decide +kernel
theorem dX0_power_4 : decode cX0_power 4 = .ok (.iconst 4, 1) := by decide +kernel
theorem dX0_power_5 : decode cX0_power 5 = .ok (.iconst 2, 1) := by decide +kernel
theorem dX0_power_6 : decode cX0_power 6 = .ok (.invokevirtual 15, 3) := by decide +kernel
theorem dX0_power_9 : decode cX0_power 9 = .ok (.aload_n 0, 1) := by decide +kernel
theorem dX0_power_10 : decode cX0_power 10 = .ok (.iload_n 1, 1) := by decide +kernel
theorem dX0_power_11 : decode cX0_power 11 = .ok (.iload_n 2, 1) := by decide +kernel
theorem dX0_power_12 : decode cX0_power 12 = .ok (.invokespecial 28, 3) := by decide +kernel
theorem dX0_power_15 : decode cX0_power 15 = .ok (.iload_n 2, 1) := by decide +kernel
theorem dX0_power_16 : decode cX0_power 16 = .ok (.iadd, 1) := by decide +kernel
theorem dX0_power_17 : decode cX0_power 17 = .ok (.ireturn, 1) := by decide +kernel
theorem dX1_init_0 : decode cX1_init 0 = .ok (.aload_n 0, 1) := by decide +kernel
theorem dX1_init_1 : decode cX1_init 1 = .ok (.invokespecial 3, 3) := by decide +kernel
theorem dX1_init_4 : decode cX1_init 4 = .ok (.aload_n 0, 1) := by decide +kernel
theorem dX1_init_5 : decode cX1_init 5 = .ok (.sipush 8556, 3) := by decide +kernel
theorem dX1_init_8 : decode cX1_init 8 = .ok (.newarray .int, 2) := by decide +kernel
theorem dX1_init_10 : decode cX1_init 10 = .ok (.putfield 9, 3) := by decide +kernel
theorem dX1_init_13 : decode cX1_init 13 = .ok (.aload_n 0, 1) := by decide +kernel
theorem dX1_init_14 : decode cX1_init 14 = .ok (.sipush 301, 3) := by decide +kernel
theorem dX1_init_17 : decode cX1_init 17 = .ok (.newarray .int, 2) := by decide +kernel
theorem dX1_init_19 : decode cX1_init 19 = .ok (.putfield 15, 3) := by decide +kernel
theorem dX1_init_22 : decode cX1_init 22 = .ok (.aload_n 0, 1) := by decide +kernel
theorem dX1_init_23 : decode cX1_init 23 = .ok (.sipush 2048, 3) := by decide +kernel
theorem dX1_init_26 : decode cX1_init 26 = .ok (.newarray .int, 2) := by decide +kernel
theorem dX1_init_28 : decode cX1_init 28 = .ok (.putfield 18, 3) := by decide +kernel
theorem dX1_init_31 : decode cX1_init 31 = .ok (.aload_n 0, 1) := by decide +kernel
theorem dX1_init_32 : decode cX1_init 32 = .ok (.iconst 0, 1) := by decide +kernel
theorem dX1_init_33 : decode cX1_init 33 = .ok (.putfield 21, 3) := by decide +kernel
theorem dX1_init_36 : decode cX1_init 36 = .ok (.aload_n 0, 1) := by decide +kernel
theorem dX1_init_37 : decode cX1_init 37 = .ok (.iconst 0, 1) := by decide +kernel
theorem dX1_init_38 : decode cX1_init 38 = .ok (.putfield 25, 3) := by decide +kernel
theorem dX1_init_41 : decode cX1_init 41 = .ok (.aload_n 0, 1) := by decide +kernel
theorem dX1_init_42 : decode cX1_init 42 = .ok (.iconst 0, 1) := by decide +kernel
theorem dX1_init_43 : decode cX1_init 43 = .ok (.putfield 28, 3) := by decide +kernel
theorem dX1_init_46 : decode cX1_init 46 = .ok (.aload_n 0, 1) := by decide +kernel
theorem dX1_init_47 : decode cX1_init 47 = .ok (.iconst 0, 1) := by decide +kernel
theorem dX1_init_48 : decode cX1_init 48 = .ok (.putfield 31, 3) := by decide +kernel
theorem dX1_init_51 : decode cX1_init 51 = .ok (.return_, 1) := by decide +kernel
theorem dX1_get_0 : decode cX1_get 0 = .ok (.iload_n 1, 1) := by decide +kernel
theorem dX1_get_1 : decode cX1_get 1 = .ok (.ifCond .lt 12, 3) := by decide +kernel
theorem dX1_get_4 : decode cX1_get 4 = .ok (.iload_n 1, 1) := by decide +kernel
theorem dX1_get_5 : decode cX1_get 5 = .ok (.aload_n 0, 1) := by decide +kernel
theorem dX1_get_6 : decode cX1_get 6 = .ok (.getfield 9, 3) := by decide +kernel
theorem dX1_get_9 : decode cX1_get 9 = .ok (.arraylength, 1) := by decide +kernel
theorem dX1_get_10 : decode cX1_get 10 = .ok (.if_icmp .lt 7, 3) := by decide +kernel
theorem dX1_get_13 : decode cX1_get 13 = .ok (.iconst 0, 1) := by decide +kernel
theorem dX1_get_14 : decode cX1_get 14 = .ok (.goto 9, 3) := by decide +kernel
theorem dX1_get_17 : decode cX1_get 17 = .ok (.aload_n 0, 1) := by decide +kernel
theorem dX1_get_18 : decode cX1_get 18 = .ok (.getfield 9, 3) := by decide +kernel
theorem dX1_get_21 : decode cX1_get 21 = .ok (.iload_n 1, 1) := by decide +kernel
theorem dX1_get_22 : decode cX1_get 22 = .ok (.iaload, 1) := by decide +kernel
theorem dX1_get_23 : decode cX1_get 23 = .ok (.ireturn, 1) := by decide +kernel
theorem dX1_set_0 : decode cX1_set 0 = .ok (.iload_n 1, 1) := by decide +kernel
theorem dX1_set_1 : decode cX1_set 1 = .ok (.ifCond .lt 22, 3) := by decide +kernel
theorem dX1_set_4 : decode cX1_set 4 = .ok (.iload_n 1, 1) := by decide +kernel
theorem dX1_set_5 : decode cX1_set 5 = .ok (.aload_n 0, 1) := by decide +kernel
theorem dX1_set_6 : decode cX1_set 6 = .ok (.getfield 9, 3) := by decide +kernel
theorem dX1_set_9 : decode cX1_set 9 = .ok (.arraylength, 1) := by decide +kernel
theorem dX1_set_10 : decode cX1_set 10 = .ok (.if_icmp .ge 13, 3) := by decide +kernel
theorem dX1_set_13 : decode cX1_set 13 = .ok (.aload_n 0, 1) := by decide +kernel
theorem dX1_set_14 : decode cX1_set 14 = .ok (.getfield 9, 3) := by decide +kernel
theorem dX1_set_17 : decode cX1_set 17 = .ok (.iload_n 1, 1) := by decide +kernel
theorem dX1_set_18 : decode cX1_set 18 = .ok (.iaload, 1) := by decide +kernel
theorem dX1_set_19 : decode cX1_set 19 = .ok (.iload_n 2, 1) := by decide +kernel
theorem dX1_set_20 : decode cX1_set 20 = .ok (.if_icmp .ne 4, 3) := by decide +kernel
theorem dX1_set_23 : decode cX1_set 23 = .ok (.return_, 1) := by decide +kernel
theorem dX1_set_24 : decode cX1_set 24 = .ok (.aload_n 0, 1) := by decide +kernel
theorem dX1_set_25 : decode cX1_set 25 = .ok (.getfield 25, 3) := by decide +kernel
theorem dX1_set_28 : decode cX1_set 28 = .ok (.aload_n 0, 1) := by decide +kernel
theorem dX1_set_29 : decode cX1_set 29 = .ok (.getfield 18, 3) := by decide +kernel
theorem dX1_set_32 : decode cX1_set 32 = .ok (.arraylength, 1) := by decide +kernel
theorem dX1_set_33 : decode cX1_set 33 = .ok (.iconst 2, 1) := by decide +kernel
theorem dX1_set_34 : decode cX1_set 34 = .ok (.isub, 1) := by decide +kernel
theorem dX1_set_35 : decode cX1_set 35 = .ok (.if_icmp .le 7, 3) := by decide +kernel
theorem dX1_set_38 : decode cX1_set 38 = .ok (.aload_n 0, 1) := by decide +kernel
theorem dX1_set_39 : decode cX1_set 39 = .ok (.invokevirtual 34, 3) := by decide +kernel
theorem dX1_set_42 : decode cX1_set 42 = .ok (.aload_n 0, 1) := by decide +kernel
theorem dX1_set_43 : decode cX1_set 43 = .ok (.getfield 25, 3) := by decide +kernel
theorem dX1_set_46 : decode cX1_set 46 = .ok (.aload_n 0, 1) := by decide +kernel
theorem dX1_set_47 : decode cX1_set 47 = .ok (.getfield 18, 3) := by decide +kernel
theorem dX1_set_50 : decode cX1_set 50 = .ok (.arraylength, 1) := by decide +kernel
theorem dX1_set_51 : decode cX1_set 51 = .ok (.iconst 2, 1) := by decide +kernel
theorem dX1_set_52 : decode cX1_set 52 = .ok (.isub, 1) := by decide +kernel
theorem dX1_set_53 : decode cX1_set 53 = .ok (.if_icmp .gt 40, 3) := by decide +kernel
theorem dX1_set_56 : decode cX1_set 56 = .ok (.aload_n 0, 1) := by decide +kernel
theorem dX1_set_57 : decode cX1_set 57 = .ok (.getfield 18, 3) := by decide +kernel
theorem dX1_set_60 : decode cX1_set 60 = .ok (.aload_n 0, 1) := by decide +kernel
theorem dX1_set_61 : decode cX1_set 61 = .ok (.getfield 25, 3) := by decide +kernel
theorem dX1_set_64 : decode cX1_set 64 = .ok (.iload_n 1, 1) := by decide +kernel
theorem dX1_set_65 : decode cX1_set 65 = .ok (.iastore, 1) := by decide +kernel
theorem dX1_set_66 : decode cX1_set 66 = .ok (.aload_n 0, 1) := by decide +kernel
theorem dX1_set_67 : decode cX1_set 67 = .ok (.getfield 18, 3) := by decide +kernel
theorem dX1_set_70 : decode cX1_set 70 = .ok (.aload_n 0, 1) := by decide +kernel
theorem dX1_set_71 : decode cX1_set 71 = .ok (.getfield 25, 3) := by decide +kernel
theorem dX1_set_74 : decode cX1_set 74 = .ok (.iconst 1, 1) := by decide +kernel
theorem dX1_set_75 : decode cX1_set 75 = .ok (.iadd, 1) := by decide +kernel
theorem dX1_set_76 : decode cX1_set 76 = .ok (.aload_n 0, 1) := by decide +kernel
theorem dX1_set_77 : decode cX1_set 77 = .ok (.getfield 9, 3) := by decide +kernel
theorem dX1_set_80 : decode cX1_set 80 = .ok (.iload_n 1, 1) := by decide +kernel
theorem dX1_set_81 : decode cX1_set 81 = .ok (.iaload, 1) := by decide +kernel
theorem dX1_set_82 : decode cX1_set 82 = .ok (.iastore, 1) := by decide +kernel
theorem dX1_set_83 : decode cX1_set 83 = .ok (.aload_n 0, 1) := by decide +kernel
theorem dX1_set_84 : decode cX1_set 84 = .ok (.dup, 1) := by decide +kernel
theorem dX1_set_85 : decode cX1_set 85 = .ok (.getfield 25, 3) := by decide +kernel
theorem dX1_set_88 : decode cX1_set 88 = .ok (.iconst 2, 1) := by decide +kernel
theorem dX1_set_89 : decode cX1_set 89 = .ok (.iadd, 1) := by decide +kernel
theorem dX1_set_90 : decode cX1_set 90 = .ok (.putfield 25, 3) := by decide +kernel
theorem dX1_set_93 : decode cX1_set 93 = .ok (.aload_n 0, 1) := by decide +kernel
theorem dX1_set_94 : decode cX1_set 94 = .ok (.getfield 9, 3) := by decide +kernel
theorem dX1_set_97 : decode cX1_set 97 = .ok (.iload_n 1, 1) := by decide +kernel
theorem dX1_set_98 : decode cX1_set 98 = .ok (.iload_n 2, 1) := by decide +kernel
theorem dX1_set_99 : decode cX1_set 99 = .ok (.iastore, 1) := by decide +kernel
theorem dX1_set_100 : decode cX1_set 100 = .ok (.return_, 1) := by decide +kernel
theorem dX1_add_0 : decode cX1_add 0 = .ok (.aload_n 0, 1) := by decide +kernel
theorem dX1_add_1 : decode cX1_add 1 = .ok (.iload_n 1, 1) := by decide +kernel
theorem dX1_add_2 : decode cX1_add 2 = .ok (.aload_n 0, 1) := by decide +kernel
theorem dX1_add_3 : decode cX1_add 3 = .ok (.iload_n 1, 1) := by decide +kernel
theorem dX1_add_4 : decode cX1_add 4 = .ok (.invokevirtual 37, 3) := by decide +kernel
theorem dX1_add_7 : decode cX1_add 7 = .ok (.iload_n 2, 1) := by decide +kernel
theorem dX1_add_8 : decode cX1_add 8 = .ok (.iadd, 1) := by decide +kernel
theorem dX1_add_9 : decode cX1_add 9 = .ok (.invokevirtual 41, 3) := by decide +kernel
theorem dX1_add_12 : decode cX1_add 12 = .ok (.return_, 1) := by decide +kernel
theorem dX1_time_0 : decode cX1_time 0 = .ok (.aload_n 0, 1) := by decide +kernel
theorem dX1_time_1 : decode cX1_time 1 = .ok (.getfield 28, 3) := by decide +kernel
theorem dX1_time_4 : decode cX1_time 4 = .ok (.ireturn, 1) := by decide +kernel
theorem dX1_keptMinutes_0 : decode cX1_keptMinutes 0 = .ok (.aload_n 0, 1) := by decide +kernel
theorem dX1_keptMinutes_1 : decode cX1_keptMinutes 1 = .ok (.getfield 28, 3) := by decide +kernel
theorem dX1_keptMinutes_4 : decode cX1_keptMinutes 4 = .ok (.aload_n 0, 1) := by decide +kernel
theorem dX1_keptMinutes_5 : decode cX1_keptMinutes 5 = .ok (.getfield 31, 3) := by decide +kernel
theorem dX1_keptMinutes_8 : decode cX1_keptMinutes 8 = .ok (.isub, 1) := by decide +kernel
theorem dX1_keptMinutes_9 : decode cX1_keptMinutes 9 = .ok (.ireturn, 1) := by decide +kernel
theorem dX1_beginMinute_0 : decode cX1_beginMinute 0 = .ok (.aload_n 0, 1) := by decide +kernel
theorem dX1_beginMinute_1 : decode cX1_beginMinute 1 = .ok (.getfield 28, 3) := by decide +kernel
theorem dX1_beginMinute_4 : decode cX1_beginMinute 4 = .ok (.ifCond .ne 25, 3) := by decide +kernel
theorem dX1_beginMinute_7 : decode cX1_beginMinute 7 = .ok (.aload_n 0, 1) := by decide +kernel
theorem dX1_beginMinute_8 : decode cX1_beginMinute 8 = .ok (.iconst 0, 1) := by decide +kernel
theorem dX1_beginMinute_9 : decode cX1_beginMinute 9 = .ok (.putfield 21, 3) := by decide +kernel
theorem dX1_beginMinute_12 : decode cX1_beginMinute 12 = .ok (.aload_n 0, 1) := by decide +kernel
theorem dX1_beginMinute_13 : decode cX1_beginMinute 13 = .ok (.iconst 0, 1) := by decide +kernel
theorem dX1_beginMinute_14 : decode cX1_beginMinute 14 = .ok (.putfield 25, 3) := by decide +kernel
theorem dX1_beginMinute_17 : decode cX1_beginMinute 17 = .ok (.aload_n 0, 1) := by decide +kernel
theorem dX1_beginMinute_18 : decode cX1_beginMinute 18 = .ok (.iconst 0, 1) := by decide +kernel
theorem dX1_beginMinute_19 : decode cX1_beginMinute 19 = .ok (.putfield 31, 3) := by decide +kernel
theorem dX1_beginMinute_22 : decode cX1_beginMinute 22 = .ok (.aload_n 0, 1) := by decide +kernel
theorem dX1_beginMinute_23 : decode cX1_beginMinute 23 = .ok (.getfield 15, 3) := by decide +kernel
theorem dX1_beginMinute_26 : decode cX1_beginMinute 26 = .ok (.iconst 0, 1) := by decide +kernel
theorem dX1_beginMinute_27 : decode cX1_beginMinute 27 = .ok (.iconst 0, 1) := by decide +kernel
theorem dX1_beginMinute_28 : decode cX1_beginMinute 28 = .ok (.iastore, 1) := by decide +kernel
theorem dX1_beginMinute_29 : decode cX1_beginMinute 29 = .ok (.aload_n 0, 1) := by decide +kernel
theorem dX1_beginMinute_30 : decode cX1_beginMinute 30 = .ok (.dup, 1) := by decide +kernel
theorem dX1_beginMinute_31 : decode cX1_beginMinute 31 = .ok (.getfield 28, 3) := by decide +kernel
theorem dX1_beginMinute_34 : decode cX1_beginMinute 34 = .ok (.iconst 1, 1) := by decide +kernel
theorem dX1_beginMinute_35 : decode cX1_beginMinute 35 = .ok (.iadd, 1) := by decide +kernel
theorem dX1_beginMinute_36 : decode cX1_beginMinute 36 = .ok (.putfield 28, 3) := by decide +kernel
theorem dX1_beginMinute_39 : decode cX1_beginMinute 39 = .ok (.return_, 1) := by decide +kernel
theorem dX1_endMinute_0 : decode cX1_endMinute 0 = .ok (.aload_n 0, 1) := by decide +kernel
theorem dX1_endMinute_1 : decode cX1_endMinute 1 = .ok (.aload_n 0, 1) := by decide +kernel
theorem dX1_endMinute_2 : decode cX1_endMinute 2 = .ok (.getfield 31, 3) := by decide +kernel
theorem dX1_endMinute_5 : decode cX1_endMinute 5 = .ok (.aload_n 0, 1) := by decide +kernel
theorem dX1_endMinute_6 : decode cX1_endMinute 6 = .ok (.getfield 28, 3) := by decide +kernel
theorem dX1_endMinute_9 : decode cX1_endMinute 9 = .ok (.sipush 300, 3) := by decide +kernel
theorem dX1_endMinute_12 : decode cX1_endMinute 12 = .ok (.isub, 1) := by decide +kernel
theorem dX1_endMinute_13 : decode cX1_endMinute 13 = .ok (.invokestatic 45, 3) := by decide +kernel
theorem dX1_endMinute_16 : decode cX1_endMinute 16 = .ok (.putfield 31, 3) := by decide +kernel
theorem dX1_endMinute_19 : decode cX1_endMinute 19 = .ok (.aload_n 0, 1) := by decide +kernel
theorem dX1_endMinute_20 : decode cX1_endMinute 20 = .ok (.getfield 15, 3) := by decide +kernel
theorem dX1_endMinute_23 : decode cX1_endMinute 23 = .ok (.aload_n 0, 1) := by decide +kernel
theorem dX1_endMinute_24 : decode cX1_endMinute 24 = .ok (.getfield 28, 3) := by decide +kernel
theorem dX1_endMinute_27 : decode cX1_endMinute 27 = .ok (.invokestatic 51, 3) := by decide +kernel
theorem dX1_endMinute_30 : decode cX1_endMinute 30 = .ok (.aload_n 0, 1) := by decide +kernel
theorem dX1_endMinute_31 : decode cX1_endMinute 31 = .ok (.getfield 25, 3) := by decide +kernel
theorem dX1_endMinute_34 : decode cX1_endMinute 34 = .ok (.iastore, 1) := by decide +kernel
theorem dX1_endMinute_35 : decode cX1_endMinute 35 = .ok (.aload_n 0, 1) := by decide +kernel
theorem dX1_endMinute_36 : decode cX1_endMinute 36 = .ok (.aload_n 0, 1) := by decide +kernel
theorem dX1_endMinute_37 : decode cX1_endMinute 37 = .ok (.getfield 15, 3) := by decide +kernel
theorem dX1_endMinute_40 : decode cX1_endMinute 40 = .ok (.aload_n 0, 1) := by decide +kernel
theorem dX1_endMinute_41 : decode cX1_endMinute 41 = .ok (.getfield 31, 3) := by decide +kernel
theorem dX1_endMinute_44 : decode cX1_endMinute 44 = .ok (.invokestatic 51, 3) := by decide +kernel
theorem dX1_endMinute_47 : decode cX1_endMinute 47 = .ok (.iaload, 1) := by decide +kernel
theorem dX1_endMinute_48 : decode cX1_endMinute 48 = .ok (.putfield 21, 3) := by decide +kernel
theorem dX1_endMinute_51 : decode cX1_endMinute 51 = .ok (.return_, 1) := by decide +kernel
theorem dX1_undoMinutes_0 : decode cX1_undoMinutes 0 = .ok (.aload_n 0, 1) := by decide +kernel
theorem dX1_undoMinutes_1 : decode cX1_undoMinutes 1 = .ok (.dup, 1) := by decide +kernel
theorem dX1_undoMinutes_2 : decode cX1_undoMinutes 2 = .ok (.getfield 28, 3) := by decide +kernel
theorem dX1_undoMinutes_5 : decode cX1_undoMinutes 5 = .ok (.iload_n 1, 1) := by decide +kernel
theorem dX1_undoMinutes_6 : decode cX1_undoMinutes 6 = .ok (.isub, 1) := by decide +kernel
theorem dX1_undoMinutes_7 : decode cX1_undoMinutes 7 = .ok (.putfield 28, 3) := by decide +kernel
theorem dX1_undoMinutes_10 : decode cX1_undoMinutes 10 = .ok (.aload_n 0, 1) := by decide +kernel
theorem dX1_undoMinutes_11 : decode cX1_undoMinutes 11 = .ok (.getfield 15, 3) := by decide +kernel
theorem dX1_undoMinutes_14 : decode cX1_undoMinutes 14 = .ok (.aload_n 0, 1) := by decide +kernel
theorem dX1_undoMinutes_15 : decode cX1_undoMinutes 15 = .ok (.getfield 28, 3) := by decide +kernel
theorem dX1_undoMinutes_18 : decode cX1_undoMinutes 18 = .ok (.invokestatic 51, 3) := by decide +kernel
theorem dX1_undoMinutes_21 : decode cX1_undoMinutes 21 = .ok (.iaload, 1) := by decide +kernel
theorem dX1_undoMinutes_22 : decode cX1_undoMinutes 22 = .ok (.istore_n 2, 1) := by decide +kernel
theorem dX1_undoMinutes_23 : decode cX1_undoMinutes 23 = .ok (.aload_n 0, 1) := by decide +kernel
theorem dX1_undoMinutes_24 : decode cX1_undoMinutes 24 = .ok (.getfield 25, 3) := by decide +kernel
theorem dX1_undoMinutes_27 : decode cX1_undoMinutes 27 = .ok (.iload_n 2, 1) := by decide +kernel
theorem dX1_undoMinutes_28 : decode cX1_undoMinutes 28 = .ok (.if_icmp .le 66, 3) := by decide +kernel
theorem dX1_undoMinutes_31 : decode cX1_undoMinutes 31 = .ok (.aload_n 0, 1) := by decide +kernel
theorem dX1_undoMinutes_32 : decode cX1_undoMinutes 32 = .ok (.getfield 25, 3) := by decide +kernel
theorem dX1_undoMinutes_35 : decode cX1_undoMinutes 35 = .ok (.iconst 2, 1) := by decide +kernel
theorem dX1_undoMinutes_36 : decode cX1_undoMinutes 36 = .ok (.if_icmp .lt 58, 3) := by decide +kernel
theorem dX1_undoMinutes_39 : decode cX1_undoMinutes 39 = .ok (.aload_n 0, 1) := by decide +kernel
theorem dX1_undoMinutes_40 : decode cX1_undoMinutes 40 = .ok (.dup, 1) := by decide +kernel
theorem dX1_undoMinutes_41 : decode cX1_undoMinutes 41 = .ok (.getfield 25, 3) := by decide +kernel
theorem dX1_undoMinutes_44 : decode cX1_undoMinutes 44 = .ok (.iconst 2, 1) := by decide +kernel
theorem dX1_undoMinutes_45 : decode cX1_undoMinutes 45 = .ok (.isub, 1) := by decide +kernel
theorem dX1_undoMinutes_46 : decode cX1_undoMinutes 46 = .ok (.putfield 25, 3) := by decide +kernel
theorem dX1_undoMinutes_49 : decode cX1_undoMinutes 49 = .ok (.aload_n 0, 1) := by decide +kernel
theorem dX1_undoMinutes_50 : decode cX1_undoMinutes 50 = .ok (.getfield 18, 3) := by decide +kernel
theorem dX1_undoMinutes_53 : decode cX1_undoMinutes 53 = .ok (.aload_n 0, 1) := by decide +kernel
theorem dX1_undoMinutes_54 : decode cX1_undoMinutes 54 = .ok (.getfield 25, 3) := by decide +kernel
theorem dX1_undoMinutes_57 : decode cX1_undoMinutes 57 = .ok (.iaload, 1) := by decide +kernel
theorem dX1_undoMinutes_58 : decode cX1_undoMinutes 58 = .ok (.istore_n 3, 1) := by decide +kernel
theorem dX1_undoMinutes_59 : decode cX1_undoMinutes 59 = .ok (.iload_n 3, 1) := by decide +kernel
theorem dX1_undoMinutes_60 : decode cX1_undoMinutes 60 = .ok (.iconst 0, 1) := by decide +kernel
theorem dX1_undoMinutes_61 : decode cX1_undoMinutes 61 = .ok (.aload_n 0, 1) := by decide +kernel
theorem dX1_undoMinutes_62 : decode cX1_undoMinutes 62 = .ok (.getfield 9, 3) := by decide +kernel
theorem dX1_undoMinutes_65 : decode cX1_undoMinutes 65 = .ok (.arraylength, 1) := by decide +kernel
theorem dX1_undoMinutes_66 : decode cX1_undoMinutes 66 = .ok (.iconst 1, 1) := by decide +kernel
theorem dX1_undoMinutes_67 : decode cX1_undoMinutes 67 = .ok (.isub, 1) := by decide +kernel
theorem dX1_undoMinutes_68 : decode cX1_undoMinutes 68 = .ok (.invokestatic 54, 3) := by decide +kernel
theorem dX1_undoMinutes_71 : decode cX1_undoMinutes 71 = .ok (.ifCond .eq 20, 3) := by decide +kernel
theorem dX1_undoMinutes_74 : decode cX1_undoMinutes 74 = .ok (.aload_n 0, 1) := by decide +kernel
theorem dX1_undoMinutes_75 : decode cX1_undoMinutes 75 = .ok (.getfield 9, 3) := by decide +kernel
theorem dX1_undoMinutes_78 : decode cX1_undoMinutes 78 = .ok (.iload_n 3, 1) := by decide +kernel
theorem dX1_undoMinutes_79 : decode cX1_undoMinutes 79 = .ok (.aload_n 0, 1) := by decide +kernel
theorem dX1_undoMinutes_80 : decode cX1_undoMinutes 80 = .ok (.getfield 18, 3) := by decide +kernel
theorem dX1_undoMinutes_83 : decode cX1_undoMinutes 83 = .ok (.aload_n 0, 1) := by decide +kernel
theorem dX1_undoMinutes_84 : decode cX1_undoMinutes 84 = .ok (.getfield 25, 3) := by decide +kernel
theorem dX1_undoMinutes_87 : decode cX1_undoMinutes 87 = .ok (.iconst 1, 1) := by decide +kernel
theorem dX1_undoMinutes_88 : decode cX1_undoMinutes 88 = .ok (.iadd, 1) := by decide +kernel
theorem dX1_undoMinutes_89 : decode cX1_undoMinutes 89 = .ok (.iaload, 1) := by decide +kernel
theorem dX1_undoMinutes_90 : decode cX1_undoMinutes 90 = .ok (.iastore, 1) := by decide +kernel
theorem dX1_undoMinutes_91 : decode cX1_undoMinutes 91 = .ok (.goto (-68), 3) := by decide +kernel
theorem dX1_undoMinutes_94 : decode cX1_undoMinutes 94 = .ok (.return_, 1) := by decide +kernel
theorem dX1_makeRoom_0 : decode cX1_makeRoom 0 = .ok (.aload_n 0, 1) := by decide +kernel
theorem dX1_makeRoom_1 : decode cX1_makeRoom 1 = .ok (.getfield 21, 3) := by decide +kernel
theorem dX1_makeRoom_4 : decode cX1_makeRoom 4 = .ok (.ifCond .le 93, 3) := by decide +kernel
theorem dX1_makeRoom_7 : decode cX1_makeRoom 7 = .ok (.aload_n 0, 1) := by decide +kernel
theorem dX1_makeRoom_8 : decode cX1_makeRoom 8 = .ok (.getfield 21, 3) := by decide +kernel
theorem dX1_makeRoom_11 : decode cX1_makeRoom 11 = .ok (.aload_n 0, 1) := by decide +kernel
theorem dX1_makeRoom_12 : decode cX1_makeRoom 12 = .ok (.getfield 25, 3) := by decide +kernel
theorem dX1_makeRoom_15 : decode cX1_makeRoom 15 = .ok (.if_icmp .gt 82, 3) := by decide +kernel
theorem dX1_makeRoom_18 : decode cX1_makeRoom 18 = .ok (.aload_n 0, 1) := by decide +kernel
theorem dX1_makeRoom_19 : decode cX1_makeRoom 19 = .ok (.getfield 18, 3) := by decide +kernel
theorem dX1_makeRoom_22 : decode cX1_makeRoom 22 = .ok (.aload_n 0, 1) := by decide +kernel
theorem dX1_makeRoom_23 : decode cX1_makeRoom 23 = .ok (.getfield 21, 3) := by decide +kernel
theorem dX1_makeRoom_26 : decode cX1_makeRoom 26 = .ok (.aload_n 0, 1) := by decide +kernel
theorem dX1_makeRoom_27 : decode cX1_makeRoom 27 = .ok (.getfield 18, 3) := by decide +kernel
theorem dX1_makeRoom_30 : decode cX1_makeRoom 30 = .ok (.iconst 0, 1) := by decide +kernel
theorem dX1_makeRoom_31 : decode cX1_makeRoom 31 = .ok (.aload_n 0, 1) := by decide +kernel
theorem dX1_makeRoom_32 : decode cX1_makeRoom 32 = .ok (.getfield 25, 3) := by decide +kernel
theorem dX1_makeRoom_35 : decode cX1_makeRoom 35 = .ok (.aload_n 0, 1) := by decide +kernel
theorem dX1_makeRoom_36 : decode cX1_makeRoom 36 = .ok (.getfield 21, 3) := by decide +kernel
theorem dX1_makeRoom_39 : decode cX1_makeRoom 39 = .ok (.isub, 1) := by decide +kernel
theorem dX1_makeRoom_40 : decode cX1_makeRoom 40 = .ok (.invokestatic 58, 3) := by decide +kernel
theorem dX1_makeRoom_43 : decode cX1_makeRoom 43 = .ok (.iconst 0, 1) := by decide +kernel
theorem dX1_makeRoom_44 : decode cX1_makeRoom 44 = .ok (.istore_n 1, 1) := by decide +kernel
theorem dX1_makeRoom_45 : decode cX1_makeRoom 45 = .ok (.iload_n 1, 1) := by decide +kernel
theorem dX1_makeRoom_46 : decode cX1_makeRoom 46 = .ok (.sipush 301, 3) := by decide +kernel
theorem dX1_makeRoom_49 : decode cX1_makeRoom 49 = .ok (.if_icmp .ge 30, 3) := by decide +kernel
theorem dX1_makeRoom_52 : decode cX1_makeRoom 52 = .ok (.aload_n 0, 1) := by decide +kernel
theorem dX1_makeRoom_53 : decode cX1_makeRoom 53 = .ok (.getfield 15, 3) := by decide +kernel
theorem dX1_makeRoom_56 : decode cX1_makeRoom 56 = .ok (.iload_n 1, 1) := by decide +kernel
theorem dX1_makeRoom_57 : decode cX1_makeRoom 57 = .ok (.iconst 0, 1) := by decide +kernel
theorem dX1_makeRoom_58 : decode cX1_makeRoom 58 = .ok (.aload_n 0, 1) := by decide +kernel
theorem dX1_makeRoom_59 : decode cX1_makeRoom 59 = .ok (.getfield 15, 3) := by decide +kernel
theorem dX1_makeRoom_62 : decode cX1_makeRoom 62 = .ok (.iload_n 1, 1) := by decide +kernel
theorem dX1_makeRoom_63 : decode cX1_makeRoom 63 = .ok (.iaload, 1) := by decide +kernel
theorem dX1_makeRoom_64 : decode cX1_makeRoom 64 = .ok (.aload_n 0, 1) := by decide +kernel
theorem dX1_makeRoom_65 : decode cX1_makeRoom 65 = .ok (.getfield 21, 3) := by decide +kernel
theorem dX1_makeRoom_68 : decode cX1_makeRoom 68 = .ok (.isub, 1) := by decide +kernel
theorem dX1_makeRoom_69 : decode cX1_makeRoom 69 = .ok (.invokestatic 45, 3) := by decide +kernel
theorem dX1_makeRoom_72 : decode cX1_makeRoom 72 = .ok (.iastore, 1) := by decide +kernel
theorem dX1_makeRoom_73 : decode cX1_makeRoom 73 = .ok (.iinc 1 1, 3) := by decide +kernel
theorem dX1_makeRoom_76 : decode cX1_makeRoom 76 = .ok (.goto (-31), 3) := by decide +kernel
theorem dX1_makeRoom_79 : decode cX1_makeRoom 79 = .ok (.aload_n 0, 1) := by decide +kernel
theorem dX1_makeRoom_80 : decode cX1_makeRoom 80 = .ok (.dup, 1) := by decide +kernel
theorem dX1_makeRoom_81 : decode cX1_makeRoom 81 = .ok (.getfield 25, 3) := by decide +kernel
theorem dX1_makeRoom_84 : decode cX1_makeRoom 84 = .ok (.aload_n 0, 1) := by decide +kernel
theorem dX1_makeRoom_85 : decode cX1_makeRoom 85 = .ok (.getfield 21, 3) := by decide +kernel
theorem dX1_makeRoom_88 : decode cX1_makeRoom 88 = .ok (.isub, 1) := by decide +kernel
theorem dX1_makeRoom_89 : decode cX1_makeRoom 89 = .ok (.putfield 25, 3) := by decide +kernel
theorem dX1_makeRoom_92 : decode cX1_makeRoom 92 = .ok (.aload_n 0, 1) := by decide +kernel
theorem dX1_makeRoom_93 : decode cX1_makeRoom 93 = .ok (.iconst 0, 1) := by decide +kernel
theorem dX1_makeRoom_94 : decode cX1_makeRoom 94 = .ok (.putfield 21, 3) := by decide +kernel
theorem dX1_makeRoom_97 : decode cX1_makeRoom 97 = .ok (.aload_n 0, 1) := by decide +kernel
theorem dX1_makeRoom_98 : decode cX1_makeRoom 98 = .ok (.getfield 25, 3) := by decide +kernel
theorem dX1_makeRoom_101 : decode cX1_makeRoom 101 = .ok (.aload_n 0, 1) := by decide +kernel
theorem dX1_makeRoom_102 : decode cX1_makeRoom 102 = .ok (.getfield 18, 3) := by decide +kernel
theorem dX1_makeRoom_105 : decode cX1_makeRoom 105 = .ok (.arraylength, 1) := by decide +kernel
theorem dX1_makeRoom_106 : decode cX1_makeRoom 106 = .ok (.iconst 2, 1) := by decide +kernel
theorem dX1_makeRoom_107 : decode cX1_makeRoom 107 = .ok (.idiv, 1) := by decide +kernel
theorem dX1_makeRoom_108 : decode cX1_makeRoom 108 = .ok (.if_icmp .le 31, 3) := by decide +kernel
theorem dX1_makeRoom_111 : decode cX1_makeRoom 111 = .ok (.aload_n 0, 1) := by decide +kernel
theorem dX1_makeRoom_112 : decode cX1_makeRoom 112 = .ok (.getfield 18, 3) := by decide +kernel
theorem dX1_makeRoom_115 : decode cX1_makeRoom 115 = .ok (.arraylength, 1) := by decide +kernel
theorem dX1_makeRoom_116 : decode cX1_makeRoom 116 = .ok (.ldc 64, 2) := by decide +kernel
theorem dX1_makeRoom_118 : decode cX1_makeRoom 118 = .ok (.if_icmp .ge 21, 3) := by decide +kernel
theorem dX1_makeRoom_121 : decode cX1_makeRoom 121 = .ok (.aload_n 0, 1) := by decide +kernel
theorem dX1_makeRoom_122 : decode cX1_makeRoom 122 = .ok (.aload_n 0, 1) := by decide +kernel
theorem dX1_makeRoom_123 : decode cX1_makeRoom 123 = .ok (.getfield 18, 3) := by decide +kernel
theorem dX1_makeRoom_126 : decode cX1_makeRoom 126 = .ok (.aload_n 0, 1) := by decide +kernel
theorem dX1_makeRoom_127 : decode cX1_makeRoom 127 = .ok (.getfield 18, 3) := by decide +kernel
theorem dX1_makeRoom_130 : decode cX1_makeRoom 130 = .ok (.arraylength, 1) := by decide +kernel
theorem dX1_makeRoom_131 : decode cX1_makeRoom 131 = .ok (.iconst 2, 1) := by decide +kernel
theorem dX1_makeRoom_132 : decode cX1_makeRoom 132 = .ok (.imul, 1) := by decide +kernel
theorem dX1_makeRoom_133 : decode cX1_makeRoom 133 = .ok (.invokestatic 65, 3) := by decide +kernel
theorem dX1_makeRoom_136 : decode cX1_makeRoom 136 = .ok (.putfield 18, 3) := by decide +kernel
theorem dX1_makeRoom_139 : decode cX1_makeRoom 139 = .ok (.return_, 1) := by decide +kernel
theorem dX1_slotOf_0 : decode cX1_slotOf 0 = .ok (.iload_n 0, 1) := by decide +kernel
theorem dX1_slotOf_1 : decode cX1_slotOf 1 = .ok (.sipush 301, 3) := by decide +kernel
theorem dX1_slotOf_4 : decode cX1_slotOf 4 = .ok (.invokestatic 71, 3) := by decide +kernel
theorem dX1_slotOf_7 : decode cX1_slotOf 7 = .ok (.ireturn, 1) := by decide +kernel
theorem dX2_init_0 : decode cX2_init 0 = .ok (.aload_n 0, 1) := by decide +kernel
theorem dX2_init_1 : decode cX2_init 1 = .ok (.aload_n 1, 1) := by decide +kernel
theorem dX2_init_2 : decode cX2_init 2 = .ok (.invokespecial 3, 3) := by decide +kernel
theorem dX2_init_5 : decode cX2_init 5 = .ok (.return_, 1) := by decide +kernel
theorem dX2_turns_0 : decode cX2_turns 0 = .ok (.iconst 1, 1) := by decide +kernel
theorem dX2_turns_1 : decode cX2_turns 1 = .ok (.ireturn, 1) := by decide +kernel
theorem dX2_warms_0 : decode cX2_warms 0 = .ok (.iconst 1, 1) := by decide +kernel
theorem dX2_warms_1 : decode cX2_warms 1 = .ok (.ireturn, 1) := by decide +kernel
theorem dX2_heat_0 : decode cX2_heat 0 = .ok (.aload_n 0, 1) := by decide +kernel
theorem dX2_heat_1 : decode cX2_heat 1 = .ok (.getfield 9, 3) := by decide +kernel
theorem dX2_heat_4 : decode cX2_heat 4 = .ok (.iconst 2, 1) := by decide +kernel
theorem dX2_heat_5 : decode cX2_heat 5 = .ok (.iconst 1, 1) := by decide +kernel
theorem dX2_heat_6 : decode cX2_heat 6 = .ok (.invokevirtual 15, 3) := by decide +kernel
theorem dX2_heat_9 : decode cX2_heat 9 = .ok (.iload_n 1, 1) := by decide +kernel
theorem dX2_heat_10 : decode cX2_heat 10 = .ok (.iconst 2, 1) := by decide +kernel
theorem dX2_heat_11 : decode cX2_heat 11 = .ok (.if_icmp .ne 6, 3) := by decide +kernel
theorem dX2_heat_14 : decode cX2_heat 14 = .ok (.bipush 9, 2) := by decide +kernel
theorem dX2_heat_16 : decode cX2_heat 16 = .ok (.ireturn, 1) := by decide +kernel
theorem dX2_heat_17 : decode cX2_heat 17 = .ok (.iload_n 1, 1) := by decide +kernel
theorem dX2_heat_18 : decode cX2_heat 18 = .ok (.iconst 1, 1) := by decide +kernel
theorem dX2_heat_19 : decode cX2_heat 19 = .ok (.if_icmp .ne 7, 3) := by decide +kernel
theorem dX2_heat_22 : decode cX2_heat 22 = .ok (.iconst 5, 1) := by decide +kernel
theorem dX2_heat_23 : decode cX2_heat 23 = .ok (.goto 9, 3) := by decide +kernel
theorem dX2_heat_26 : decode cX2_heat 26 = .ok (.aload_n 0, 1) := by decide +kernel
theorem dX2_heat_27 : decode cX2_heat 27 = .ok (.iload_n 1, 1) := by decide +kernel
theorem dX2_heat_28 : decode cX2_heat 28 = .ok (.iload_n 2, 1) := by decide +kernel
theorem dX2_heat_29 : decode cX2_heat 29 = .ok (.invokespecial 21, 3) := by decide +kernel
theorem dX2_heat_32 : decode cX2_heat 32 = .ok (.ireturn, 1) := by decide +kernel
theorem dX2_power_0 : decode cX2_power 0 = .ok (.aload_n 0, 1) := by decide +kernel
theorem dX2_power_1 : decode cX2_power 1 = .ok (.getfield 9, 3) := by decide +kernel
theorem dX2_power_4 : decode cX2_power 4 = .ok (.iconst 2, 1) := by decide +kernel
theorem dX2_power_5 : decode cX2_power 5 = .ok (.iconst 2, 1) := by decide +kernel
theorem dX2_power_6 : decode cX2_power 6 = .ok (.invokevirtual 15, 3) := by decide +kernel
theorem dX2_power_9 : decode cX2_power 9 = .ok (.aload_n 0, 1) := by decide +kernel
theorem dX2_power_10 : decode cX2_power 10 = .ok (.iload_n 1, 1) := by decide +kernel
theorem dX2_power_11 : decode cX2_power 11 = .ok (.iload_n 2, 1) := by decide +kernel
theorem dX2_power_12 : decode cX2_power 12 = .ok (.invokespecial 25, 3) := by decide +kernel
theorem dX2_power_15 : decode cX2_power 15 = .ok (.iload_n 1, 1) := by decide +kernel
theorem dX2_power_16 : decode cX2_power 16 = .ok (.iconst 1, 1) := by decide +kernel
theorem dX2_power_17 : decode cX2_power 17 = .ok (.if_icmp .ne 7, 3) := by decide +kernel
theorem dX2_power_20 : decode cX2_power 20 = .ok (.iconst 3, 1) := by decide +kernel
theorem dX2_power_21 : decode cX2_power 21 = .ok (.goto 4, 3) := by decide +kernel
theorem dX2_power_24 : decode cX2_power 24 = .ok (.iconst 0, 1) := by decide +kernel
theorem dX2_power_25 : decode cX2_power 25 = .ok (.iadd, 1) := by decide +kernel
theorem dX2_power_26 : decode cX2_power 26 = .ok (.ireturn, 1) := by decide +kernel
theorem dX2_speed_0 : decode cX2_speed 0 = .ok (.aload_n 0, 1) := by decide +kernel
theorem dX2_speed_1 : decode cX2_speed 1 = .ok (.getfield 9, 3) := by decide +kernel
theorem dX2_speed_4 : decode cX2_speed 4 = .ok (.iconst 2, 1) := by decide +kernel
theorem dX2_speed_5 : decode cX2_speed 5 = .ok (.iconst 3, 1) := by decide +kernel
theorem dX2_speed_6 : decode cX2_speed 6 = .ok (.invokevirtual 15, 3) := by decide +kernel
theorem dX2_speed_9 : decode cX2_speed 9 = .ok (.iconst 1, 1) := by decide +kernel
theorem dX2_speed_10 : decode cX2_speed 10 = .ok (.ireturn, 1) := by decide +kernel
theorem dX3_init_0 : decode cX3_init 0 = .ok (.aload_n 0, 1) := by decide +kernel
theorem dX3_init_1 : decode cX3_init 1 = .ok (.invokespecial 3, 3) := by decide +kernel
theorem dX3_init_4 : decode cX3_init 4 = .ok (.aload_n 0, 1) := by decide +kernel
theorem dX3_init_5 : decode cX3_init 5 = .ok (.aload_n 1, 1) := by decide +kernel
theorem dX3_init_6 : decode cX3_init 6 = .ok (.putfield 9, 3) := by decide +kernel
theorem dX3_init_9 : decode cX3_init 9 = .ok (.return_, 1) := by decide +kernel
theorem dX3_fills_0 : decode cX3_fills 0 = .ok (.iconst 0, 1) := by decide +kernel
theorem dX3_fills_1 : decode cX3_fills 1 = .ok (.ireturn, 1) := by decide +kernel
theorem dX3_turns_0 : decode cX3_turns 0 = .ok (.iconst 0, 1) := by decide +kernel
theorem dX3_turns_1 : decode cX3_turns 1 = .ok (.ireturn, 1) := by decide +kernel
theorem dX3_warms_0 : decode cX3_warms 0 = .ok (.iconst 0, 1) := by decide +kernel
theorem dX3_warms_1 : decode cX3_warms 1 = .ok (.ireturn, 1) := by decide +kernel
theorem dX3_canDo_0 : decode cX3_canDo 0 = .ok (.iload_n 1, 1) := by decide +kernel
theorem dX3_canDo_1 : decode cX3_canDo 1 = .ok (.tableswitch 46 0 3 #[31, 36, 41, 31], 31) := by decide +kernel
theorem dX3_canDo_32 : decode cX3_canDo 32 = .ok (.aload_n 0, 1) := by decide +kernel
theorem dX3_canDo_33 : decode cX3_canDo 33 = .ok (.invokevirtual 15, 3) := by decide +kernel
theorem dX3_canDo_36 : decode cX3_canDo 36 = .ok (.ireturn, 1) := by decide +kernel
theorem dX3_canDo_37 : decode cX3_canDo 37 = .ok (.aload_n 0, 1) := by decide +kernel
theorem dX3_canDo_38 : decode cX3_canDo 38 = .ok (.invokevirtual 19, 3) := by decide +kernel
theorem dX3_canDo_41 : decode cX3_canDo 41 = .ok (.ireturn, 1) := by decide +kernel
theorem dX3_canDo_42 : decode cX3_canDo 42 = .ok (.aload_n 0, 1) := by decide +kernel
theorem dX3_canDo_43 : decode cX3_canDo 43 = .ok (.invokevirtual 22, 3) := by decide +kernel
theorem dX3_canDo_46 : decode cX3_canDo 46 = .ok (.ireturn, 1) := by decide +kernel
theorem dX3_canDo_47 : decode cX3_canDo 47 = .ok (.iconst 1, 1) := by decide +kernel
theorem dX3_canDo_48 : decode cX3_canDo 48 = .ok (.ireturn, 1) := by decide +kernel
theorem dX3_water_0 : decode cX3_water 0 = .ok (.aload_n 0, 1) := by decide +kernel
theorem dX3_water_1 : decode cX3_water 1 = .ok (.getfield 9, 3) := by decide +kernel
theorem dX3_water_4 : decode cX3_water 4 = .ok (.iconst 5, 1) := by decide +kernel
theorem dX3_water_5 : decode cX3_water 5 = .ok (.iconst 0, 1) := by decide +kernel
theorem dX3_water_6 : decode cX3_water 6 = .ok (.invokevirtual 25, 3) := by decide +kernel
theorem dX3_water_9 : decode cX3_water 9 = .ok (.iconst 0, 1) := by decide +kernel
theorem dX3_water_10 : decode cX3_water 10 = .ok (.ireturn, 1) := by decide +kernel
theorem dX3_heat_0 : decode cX3_heat 0 = .ok (.aload_n 0, 1) := by decide +kernel
theorem dX3_heat_1 : decode cX3_heat 1 = .ok (.getfield 9, 3) := by decide +kernel
theorem dX3_heat_4 : decode cX3_heat 4 = .ok (.iconst 5, 1) := by decide +kernel
theorem dX3_heat_5 : decode cX3_heat 5 = .ok (.iconst 1, 1) := by decide +kernel
theorem dX3_heat_6 : decode cX3_heat 6 = .ok (.invokevirtual 25, 3) := by decide +kernel
theorem dX3_heat_9 : decode cX3_heat 9 = .ok (.iconst 0, 1) := by decide +kernel
theorem dX3_heat_10 : decode cX3_heat 10 = .ok (.ireturn, 1) := by decide +kernel
theorem dX3_power_0 : decode cX3_power 0 = .ok (.aload_n 0, 1) := by decide +kernel
theorem dX3_power_1 : decode cX3_power 1 = .ok (.getfield 9, 3) := by decide +kernel
theorem dX3_power_4 : decode cX3_power 4 = .ok (.iconst 5, 1) := by decide +kernel
theorem dX3_power_5 : decode cX3_power 5 = .ok (.iconst 2, 1) := by decide +kernel
theorem dX3_power_6 : decode cX3_power 6 = .ok (.invokevirtual 25, 3) := by decide +kernel
theorem dX3_power_9 : decode cX3_power 9 = .ok (.iconst 1, 1) := by decide +kernel
theorem dX3_power_10 : decode cX3_power 10 = .ok (.ireturn, 1) := by decide +kernel
theorem dX3_wear_0 : decode cX3_wear 0 = .ok (.aload_n 0, 1) := by decide +kernel
theorem dX3_wear_1 : decode cX3_wear 1 = .ok (.getfield 9, 3) := by decide +kernel
theorem dX3_wear_4 : decode cX3_wear 4 = .ok (.bipush 6, 2) := by decide +kernel
theorem dX3_wear_6 : decode cX3_wear 6 = .ok (.iconst 4, 1) := by decide +kernel
theorem dX3_wear_7 : decode cX3_wear 7 = .ok (.invokevirtual 25, 3) := by decide +kernel
theorem dX3_wear_10 : decode cX3_wear 10 = .ok (.iload_n 1, 1) := by decide +kernel
theorem dX3_wear_11 : decode cX3_wear 11 = .ok (.aload_n 0, 1) := by decide +kernel
theorem dX3_wear_12 : decode cX3_wear 12 = .ok (.invokevirtual 31, 3) := by decide +kernel
theorem dX3_wear_15 : decode cX3_wear 15 = .ok (.imul, 1) := by decide +kernel
theorem dX3_wear_16 : decode cX3_wear 16 = .ok (.ireturn, 1) := by decide +kernel
theorem dX4_init_0 : decode cX4_init 0 = .ok (.aload_n 0, 1) := by decide +kernel
theorem dX4_init_1 : decode cX4_init 1 = .ok (.aload_n 1, 1) := by decide +kernel
theorem dX4_init_2 : decode cX4_init 2 = .ok (.invokespecial 3, 3) := by decide +kernel
theorem dX4_init_5 : decode cX4_init 5 = .ok (.return_, 1) := by decide +kernel
theorem dX4_turns_0 : decode cX4_turns 0 = .ok (.iconst 0, 1) := by decide +kernel
theorem dX4_turns_1 : decode cX4_turns 1 = .ok (.ireturn, 1) := by decide +kernel
theorem dX4_heat_0 : decode cX4_heat 0 = .ok (.aload_n 0, 1) := by decide +kernel
theorem dX4_heat_1 : decode cX4_heat 1 = .ok (.getfield 9, 3) := by decide +kernel
theorem dX4_heat_4 : decode cX4_heat 4 = .ok (.iconst 3, 1) := by decide +kernel
theorem dX4_heat_5 : decode cX4_heat 5 = .ok (.iconst 1, 1) := by decide +kernel
theorem dX4_heat_6 : decode cX4_heat 6 = .ok (.invokevirtual 15, 3) := by decide +kernel
theorem dX4_heat_9 : decode cX4_heat 9 = .ok (.iload_n 1, 1) := by decide +kernel
theorem dX4_heat_10 : decode cX4_heat 10 = .ok (.iconst 2, 1) := by decide +kernel
theorem dX4_heat_11 : decode cX4_heat 11 = .ok (.if_icmp .ne 8, 3) := by decide +kernel
theorem dX4_heat_14 : decode cX4_heat 14 = .ok (.bipush 7, 2) := by decide +kernel
theorem dX4_heat_16 : decode cX4_heat 16 = .ok (.goto 9, 3) := by decide +kernel
theorem dX4_heat_19 : decode cX4_heat 19 = .ok (.aload_n 0, 1) := by decide +kernel
theorem dX4_heat_20 : decode cX4_heat 20 = .ok (.iload_n 1, 1) := by decide +kernel
theorem dX4_heat_21 : decode cX4_heat 21 = .ok (.iload_n 2, 1) := by decide +kernel
theorem dX4_heat_22 : decode cX4_heat 22 = .ok (.invokespecial 21, 3) := by decide +kernel
theorem dX4_heat_25 : decode cX4_heat 25 = .ok (.ireturn, 1) := by decide +kernel
theorem dX5_init_0 : decode cX5_init 0 = .ok (.aload_n 0, 1) := by decide +kernel
theorem dX5_init_1 : decode cX5_init 1 = .ok (.aload_n 1, 1) := by decide +kernel
theorem dX5_init_2 : decode cX5_init 2 = .ok (.invokespecial 3, 3) := by decide +kernel
theorem dX5_init_5 : decode cX5_init 5 = .ok (.return_, 1) := by decide +kernel
theorem dX5_heat_0 : decode cX5_heat 0 = .ok (.aload_n 0, 1) := by decide +kernel
theorem dX5_heat_1 : decode cX5_heat 1 = .ok (.getfield 9, 3) := by decide +kernel
theorem dX5_heat_4 : decode cX5_heat 4 = .ok (.iconst 1, 1) := by decide +kernel
theorem dX5_heat_5 : decode cX5_heat 5 = .ok (.iconst 1, 1) := by decide +kernel
theorem dX5_heat_6 : decode cX5_heat 6 = .ok (.invokevirtual 15, 3) := by decide +kernel
theorem dX5_heat_9 : decode cX5_heat 9 = .ok (.aload_n 0, 1) := by decide +kernel
theorem dX5_heat_10 : decode cX5_heat 10 = .ok (.iload_n 1, 1) := by decide +kernel
theorem dX5_heat_11 : decode cX5_heat 11 = .ok (.iload_n 2, 1) := by decide +kernel
theorem dX5_heat_12 : decode cX5_heat 12 = .ok (.invokespecial 21, 3) := by decide +kernel
theorem dX5_heat_15 : decode cX5_heat 15 = .ok (.iconst 2, 1) := by decide +kernel
theorem dX5_heat_16 : decode cX5_heat 16 = .ok (.idiv, 1) := by decide +kernel
theorem dX5_heat_17 : decode cX5_heat 17 = .ok (.ireturn, 1) := by decide +kernel
theorem dX5_power_0 : decode cX5_power 0 = .ok (.aload_n 0, 1) := by decide +kernel
theorem dX5_power_1 : decode cX5_power 1 = .ok (.getfield 9, 3) := by decide +kernel
theorem dX5_power_4 : decode cX5_power 4 = .ok (.iconst 1, 1) := by decide +kernel
theorem dX5_power_5 : decode cX5_power 5 = .ok (.iconst 2, 1) := by decide +kernel
theorem dX5_power_6 : decode cX5_power 6 = .ok (.invokevirtual 15, 3) := by decide +kernel
theorem dX5_power_9 : decode cX5_power 9 = .ok (.iconst 2, 1) := by decide +kernel
theorem dX5_power_10 : decode cX5_power 10 = .ok (.aload_n 0, 1) := by decide +kernel
theorem dX5_power_11 : decode cX5_power 11 = .ok (.iload_n 1, 1) := by decide +kernel
theorem dX5_power_12 : decode cX5_power 12 = .ok (.iload_n 2, 1) := by decide +kernel
theorem dX5_power_13 : decode cX5_power 13 = .ok (.invokespecial 25, 3) := by decide +kernel
theorem dX5_power_16 : decode cX5_power 16 = .ok (.imul, 1) := by decide +kernel
theorem dX5_power_17 : decode cX5_power 17 = .ok (.ireturn, 1) := by decide +kernel
theorem dX5_speed_0 : decode cX5_speed 0 = .ok (.aload_n 0, 1) := by decide +kernel
theorem dX5_speed_1 : decode cX5_speed 1 = .ok (.getfield 9, 3) := by decide +kernel
theorem dX5_speed_4 : decode cX5_speed 4 = .ok (.iconst 1, 1) := by decide +kernel
theorem dX5_speed_5 : decode cX5_speed 5 = .ok (.iconst 3, 1) := by decide +kernel
theorem dX5_speed_6 : decode cX5_speed 6 = .ok (.invokevirtual 15, 3) := by decide +kernel
theorem dX5_speed_9 : decode cX5_speed 9 = .ok (.iconst 3, 1) := by decide +kernel
theorem dX5_speed_10 : decode cX5_speed 10 = .ok (.aload_n 0, 1) := by decide +kernel
theorem dX5_speed_11 : decode cX5_speed 11 = .ok (.invokespecial 28, 3) := by decide +kernel
theorem dX5_speed_14 : decode cX5_speed 14 = .ok (.imul, 1) := by decide +kernel
theorem dX5_speed_15 : decode cX5_speed 15 = .ok (.ireturn, 1) := by decide +kernel
theorem dX6_init_0 : decode cX6_init 0 = .ok (.aload_n 0, 1) := by decide +kernel
theorem dX6_init_1 : decode cX6_init 1 = .ok (.invokespecial 3, 3) := by decide +kernel
theorem dX6_init_4 : decode cX6_init 4 = .ok (.aload_n 0, 1) := by decide +kernel
theorem dX6_init_5 : decode cX6_init 5 = .ok (.bipush 12, 2) := by decide +kernel
theorem dX6_init_7 : decode cX6_init 7 = .ok (.newarray .int, 2) := by decide +kernel
theorem dX6_init_9 : decode cX6_init 9 = .ok (.putfield 9, 3) := by decide +kernel
theorem dX6_init_12 : decode cX6_init 12 = .ok (.aload_n 0, 1) := by decide +kernel
theorem dX6_init_13 : decode cX6_init 13 = .ok (.bipush 12, 2) := by decide +kernel
theorem dX6_init_15 : decode cX6_init 15 = .ok (.newarray .int, 2) := by decide +kernel
theorem dX6_init_17 : decode cX6_init 17 = .ok (.putfield 15, 3) := by decide +kernel
theorem dX6_init_20 : decode cX6_init 20 = .ok (.aload_n 0, 1) := by decide +kernel
theorem dX6_init_21 : decode cX6_init 21 = .ok (.bipush 12, 2) := by decide +kernel
theorem dX6_init_23 : decode cX6_init 23 = .ok (.newarray .int, 2) := by decide +kernel
theorem dX6_init_25 : decode cX6_init 25 = .ok (.putfield 18, 3) := by decide +kernel
theorem dX6_init_28 : decode cX6_init 28 = .ok (.aload_n 0, 1) := by decide +kernel
theorem dX6_init_29 : decode cX6_init 29 = .ok (.bipush 12, 2) := by decide +kernel
theorem dX6_init_31 : decode cX6_init 31 = .ok (.newarray .int, 2) := by decide +kernel
theorem dX6_init_33 : decode cX6_init 33 = .ok (.putfield 21, 3) := by decide +kernel
theorem dX6_init_36 : decode cX6_init 36 = .ok (.aload_n 0, 1) := by decide +kernel
theorem dX6_init_37 : decode cX6_init 37 = .ok (.bipush 13, 2) := by decide +kernel
theorem dX6_init_39 : decode cX6_init 39 = .ok (.sipush 501, 3) := by decide +kernel
theorem dX6_init_42 : decode cX6_init 42 = .ok (.multianewarray 24 2, 4) := by decide +kernel
theorem dX6_init_46 : decode cX6_init 46 = .ok (.putfield 26, 3) := by decide +kernel
theorem dX6_init_49 : decode cX6_init 49 = .ok (.aload_n 0, 1) := by decide +kernel
theorem dX6_init_50 : decode cX6_init 50 = .ok (.aload_n 1, 1) := by decide +kernel
theorem dX6_init_51 : decode cX6_init 51 = .ok (.putfield 29, 3) := by decide +kernel
theorem dX6_init_54 : decode cX6_init 54 = .ok (.return_, 1) := by decide +kernel
theorem dX6_gaveLast_0 : decode cX6_gaveLast 0 = .ok (.iload_n 1, 1) := by decide +kernel
theorem dX6_gaveLast_1 : decode cX6_gaveLast 1 = .ok (.invokestatic 33, 3) := by decide +kernel
theorem dX6_gaveLast_4 : decode cX6_gaveLast 4 = .ok (.ifCond .eq 12, 3) := by decide +kernel
theorem dX6_gaveLast_7 : decode cX6_gaveLast 7 = .ok (.aload_n 0, 1) := by decide +kernel
theorem dX6_gaveLast_8 : decode cX6_gaveLast 8 = .ok (.getfield 21, 3) := by decide +kernel
theorem dX6_gaveLast_11 : decode cX6_gaveLast 11 = .ok (.iload_n 1, 1) := by decide +kernel
theorem dX6_gaveLast_12 : decode cX6_gaveLast 12 = .ok (.iaload, 1) := by decide +kernel
theorem dX6_gaveLast_13 : decode cX6_gaveLast 13 = .ok (.goto 4, 3) := by decide +kernel
theorem dX6_gaveLast_16 : decode cX6_gaveLast 16 = .ok (.iconst (-1), 1) := by decide +kernel
theorem dX6_gaveLast_17 : decode cX6_gaveLast 17 = .ok (.ireturn, 1) := by decide +kernel
theorem dX6_creditOf_0 : decode cX6_creditOf 0 = .ok (.iconst 0, 1) := by decide +kernel
theorem dX6_creditOf_1 : decode cX6_creditOf 1 = .ok (.istore_n 2, 1) := by decide +kernel
theorem dX6_creditOf_2 : decode cX6_creditOf 2 = .ok (.iconst 0, 1) := by decide +kernel
theorem dX6_creditOf_3 : decode cX6_creditOf 3 = .ok (.istore_n 3, 1) := by decide +kernel
theorem dX6_creditOf_4 : decode cX6_creditOf 4 = .ok (.iload_n 3, 1) := by decide +kernel
theorem dX6_creditOf_5 : decode cX6_creditOf 5 = .ok (.bipush 12, 2) := by decide +kernel
theorem dX6_creditOf_7 : decode cX6_creditOf 7 = .ok (.if_icmp .ge 37, 3) := by decide +kernel
theorem dX6_creditOf_10 : decode cX6_creditOf 10 = .ok (.iload_n 2, 1) := by decide +kernel
theorem dX6_creditOf_11 : decode cX6_creditOf 11 = .ok (.aload_n 0, 1) := by decide +kernel
theorem dX6_creditOf_12 : decode cX6_creditOf 12 = .ok (.getfield 29, 3) := by decide +kernel
theorem dX6_creditOf_15 : decode cX6_creditOf 15 = .ok (.iload_n 1, 1) := by decide +kernel
theorem dX6_creditOf_16 : decode cX6_creditOf 16 = .ok (.iload_n 3, 1) := by decide +kernel
theorem dX6_creditOf_17 : decode cX6_creditOf 17 = .ok (.invokestatic 37, 3) := by decide +kernel
theorem dX6_creditOf_20 : decode cX6_creditOf 20 = .ok (.invokevirtual 41, 3) := by decide +kernel
theorem dX6_creditOf_23 : decode cX6_creditOf 23 = .ok (.aload_n 0, 1) := by decide +kernel
theorem dX6_creditOf_24 : decode cX6_creditOf 24 = .ok (.getfield 29, 3) := by decide +kernel
theorem dX6_creditOf_27 : decode cX6_creditOf 27 = .ok (.sipush 8420, 3) := by decide +kernel
theorem dX6_creditOf_30 : decode cX6_creditOf 30 = .ok (.iload_n 3, 1) := by decide +kernel
theorem dX6_creditOf_31 : decode cX6_creditOf 31 = .ok (.iadd, 1) := by decide +kernel
theorem dX6_creditOf_32 : decode cX6_creditOf 32 = .ok (.invokevirtual 41, 3) := by decide +kernel
theorem dX6_creditOf_35 : decode cX6_creditOf 35 = .ok (.imul, 1) := by decide +kernel
theorem dX6_creditOf_36 : decode cX6_creditOf 36 = .ok (.iadd, 1) := by decide +kernel
theorem dX6_creditOf_37 : decode cX6_creditOf 37 = .ok (.istore_n 2, 1) := by decide +kernel
theorem dX6_creditOf_38 : decode cX6_creditOf 38 = .ok (.iinc 3 1, 3) := by decide +kernel
theorem dX6_creditOf_41 : decode cX6_creditOf 41 = .ok (.goto (-37), 3) := by decide +kernel
theorem dX6_creditOf_44 : decode cX6_creditOf 44 = .ok (.iload_n 2, 1) := by decide +kernel
theorem dX6_creditOf_45 : decode cX6_creditOf 45 = .ok (.ireturn, 1) := by decide +kernel
theorem dX6_hasCredit_0 : decode cX6_hasCredit 0 = .ok (.iconst 0, 1) := by decide +kernel
theorem dX6_hasCredit_1 : decode cX6_hasCredit 1 = .ok (.istore_n 1, 1) := by decide +kernel
theorem dX6_hasCredit_2 : decode cX6_hasCredit 2 = .ok (.iload_n 1, 1) := by decide +kernel
theorem dX6_hasCredit_3 : decode cX6_hasCredit 3 = .ok (.bipush 60, 2) := by decide +kernel
theorem dX6_hasCredit_5 : decode cX6_hasCredit 5 = .ok (.if_icmp .ge 19, 3) := by decide +kernel
theorem dX6_hasCredit_8 : decode cX6_hasCredit 8 = .ok (.aload_n 0, 1) := by decide +kernel
theorem dX6_hasCredit_9 : decode cX6_hasCredit 9 = .ok (.iload_n 1, 1) := by decide +kernel
theorem dX6_hasCredit_10 : decode cX6_hasCredit 10 = .ok (.invokevirtual 47, 3) := by decide +kernel
theorem dX6_hasCredit_13 : decode cX6_hasCredit 13 = .ok (.ifCond .le 5, 3) := by decide +kernel
theorem dX6_hasCredit_16 : decode cX6_hasCredit 16 = .ok (.iconst 1, 1) := by decide +kernel
theorem dX6_hasCredit_17 : decode cX6_hasCredit 17 = .ok (.ireturn, 1) := by decide +kernel
theorem dX6_hasCredit_18 : decode cX6_hasCredit 18 = .ok (.iinc 1 1, 3) := by decide +kernel
theorem dX6_hasCredit_21 : decode cX6_hasCredit 21 = .ok (.goto (-19), 3) := by decide +kernel
theorem dX6_hasCredit_24 : decode cX6_hasCredit 24 = .ok (.iconst 0, 1) := by decide +kernel
theorem dX6_hasCredit_25 : decode cX6_hasCredit 25 = .ok (.ireturn, 1) := by decide +kernel
theorem dX6_anotherHas_0 : decode cX6_anotherHas 0 = .ok (.iconst 0, 1) := by decide +kernel
theorem dX6_anotherHas_1 : decode cX6_anotherHas 1 = .ok (.istore_n 3, 1) := by decide +kernel
theorem dX6_anotherHas_2 : decode cX6_anotherHas 2 = .ok (.iload_n 3, 1) := by decide +kernel
theorem dX6_anotherHas_3 : decode cX6_anotherHas 3 = .ok (.bipush 12, 2) := by decide +kernel
theorem dX6_anotherHas_5 : decode cX6_anotherHas 5 = .ok (.if_icmp .ge 32, 3) := by decide +kernel
theorem dX6_anotherHas_8 : decode cX6_anotherHas 8 = .ok (.iload_n 3, 1) := by decide +kernel
theorem dX6_anotherHas_9 : decode cX6_anotherHas 9 = .ok (.iload_n 1, 1) := by decide +kernel
theorem dX6_anotherHas_10 : decode cX6_anotherHas 10 = .ok (.if_icmp .eq 21, 3) := by decide +kernel
theorem dX6_anotherHas_13 : decode cX6_anotherHas 13 = .ok (.aload_n 0, 1) := by decide +kernel
theorem dX6_anotherHas_14 : decode cX6_anotherHas 14 = .ok (.getfield 29, 3) := by decide +kernel
theorem dX6_anotherHas_17 : decode cX6_anotherHas 17 = .ok (.sipush 8420, 3) := by decide +kernel
theorem dX6_anotherHas_20 : decode cX6_anotherHas 20 = .ok (.iload_n 3, 1) := by decide +kernel
theorem dX6_anotherHas_21 : decode cX6_anotherHas 21 = .ok (.iadd, 1) := by decide +kernel
theorem dX6_anotherHas_22 : decode cX6_anotherHas 22 = .ok (.invokevirtual 41, 3) := by decide +kernel
theorem dX6_anotherHas_25 : decode cX6_anotherHas 25 = .ok (.iload_n 2, 1) := by decide +kernel
theorem dX6_anotherHas_26 : decode cX6_anotherHas 26 = .ok (.if_icmp .ne 5, 3) := by decide +kernel
theorem dX6_anotherHas_29 : decode cX6_anotherHas 29 = .ok (.iconst 1, 1) := by decide +kernel
theorem dX6_anotherHas_30 : decode cX6_anotherHas 30 = .ok (.ireturn, 1) := by decide +kernel
theorem dX6_anotherHas_31 : decode cX6_anotherHas 31 = .ok (.iinc 3 1, 3) := by decide +kernel
theorem dX6_anotherHas_34 : decode cX6_anotherHas 34 = .ok (.goto (-32), 3) := by decide +kernel
theorem dX6_anotherHas_37 : decode cX6_anotherHas 37 = .ok (.iconst 0, 1) := by decide +kernel
theorem dX6_anotherHas_38 : decode cX6_anotherHas 38 = .ok (.ireturn, 1) := by decide +kernel
theorem dX6_moneyInside_0 : decode cX6_moneyInside 0 = .ok (.iconst 0, 1) := by decide +kernel
theorem dX6_moneyInside_1 : decode cX6_moneyInside 1 = .ok (.istore_n 1, 1) := by decide +kernel
theorem dX6_moneyInside_2 : decode cX6_moneyInside 2 = .ok (.iconst 0, 1) := by decide +kernel
theorem dX6_moneyInside_3 : decode cX6_moneyInside 3 = .ok (.istore_n 2, 1) := by decide +kernel
theorem dX6_moneyInside_4 : decode cX6_moneyInside 4 = .ok (.iload_n 2, 1) := by decide +kernel
theorem dX6_moneyInside_5 : decode cX6_moneyInside 5 = .ok (.bipush 12, 2) := by decide +kernel
theorem dX6_moneyInside_7 : decode cX6_moneyInside 7 = .ok (.if_icmp .ge 37, 3) := by decide +kernel
theorem dX6_moneyInside_10 : decode cX6_moneyInside 10 = .ok (.iload_n 1, 1) := by decide +kernel
theorem dX6_moneyInside_11 : decode cX6_moneyInside 11 = .ok (.aload_n 0, 1) := by decide +kernel
theorem dX6_moneyInside_12 : decode cX6_moneyInside 12 = .ok (.getfield 29, 3) := by decide +kernel
theorem dX6_moneyInside_15 : decode cX6_moneyInside 15 = .ok (.sipush 8420, 3) := by decide +kernel
theorem dX6_moneyInside_18 : decode cX6_moneyInside 18 = .ok (.iload_n 2, 1) := by decide +kernel
theorem dX6_moneyInside_19 : decode cX6_moneyInside 19 = .ok (.iadd, 1) := by decide +kernel
theorem dX6_moneyInside_20 : decode cX6_moneyInside 20 = .ok (.invokevirtual 41, 3) := by decide +kernel
theorem dX6_moneyInside_23 : decode cX6_moneyInside 23 = .ok (.aload_n 0, 1) := by decide +kernel
theorem dX6_moneyInside_24 : decode cX6_moneyInside 24 = .ok (.getfield 29, 3) := by decide +kernel
theorem dX6_moneyInside_27 : decode cX6_moneyInside 27 = .ok (.sipush 8432, 3) := by decide +kernel
theorem dX6_moneyInside_30 : decode cX6_moneyInside 30 = .ok (.iload_n 2, 1) := by decide +kernel
theorem dX6_moneyInside_31 : decode cX6_moneyInside 31 = .ok (.iadd, 1) := by decide +kernel
theorem dX6_moneyInside_32 : decode cX6_moneyInside 32 = .ok (.invokevirtual 41, 3) := by decide +kernel
theorem dX6_moneyInside_35 : decode cX6_moneyInside 35 = .ok (.imul, 1) := by decide +kernel
theorem dX6_moneyInside_36 : decode cX6_moneyInside 36 = .ok (.iadd, 1) := by decide +kernel
theorem dX6_moneyInside_37 : decode cX6_moneyInside 37 = .ok (.istore_n 1, 1) := by decide +kernel
theorem dX6_moneyInside_38 : decode cX6_moneyInside 38 = .ok (.iinc 2 1, 3) := by decide +kernel
theorem dX6_moneyInside_41 : decode cX6_moneyInside 41 = .ok (.goto (-37), 3) := by decide +kernel
theorem dX6_moneyInside_44 : decode cX6_moneyInside 44 = .ok (.iload_n 1, 1) := by decide +kernel
theorem dX6_moneyInside_45 : decode cX6_moneyInside 45 = .ok (.ireturn, 1) := by decide +kernel
theorem dX6_giveBack_0 : decode cX6_giveBack 0 = .ok (.aload_n 0, 1) := by decide +kernel
theorem dX6_giveBack_1 : decode cX6_giveBack 1 = .ok (.iload_n 1, 1) := by decide +kernel
theorem dX6_giveBack_2 : decode cX6_giveBack 2 = .ok (.invokevirtual 47, 3) := by decide +kernel
theorem dX6_giveBack_5 : decode cX6_giveBack 5 = .ok (.istore_n 2, 1) := by decide +kernel
theorem dX6_giveBack_6 : decode cX6_giveBack 6 = .ok (.iconst 0, 1) := by decide +kernel
theorem dX6_giveBack_7 : decode cX6_giveBack 7 = .ok (.istore_n 3, 1) := by decide +kernel
theorem dX6_giveBack_8 : decode cX6_giveBack 8 = .ok (.iload_n 3, 1) := by decide +kernel
theorem dX6_giveBack_9 : decode cX6_giveBack 9 = .ok (.bipush 12, 2) := by decide +kernel
theorem dX6_giveBack_11 : decode cX6_giveBack 11 = .ok (.if_icmp .ge 39, 3) := by decide +kernel
theorem dX6_giveBack_14 : decode cX6_giveBack 14 = .ok (.aload_n 0, 1) := by decide +kernel
theorem dX6_giveBack_15 : decode cX6_giveBack 15 = .ok (.iload_n 3, 1) := by decide +kernel
theorem dX6_giveBack_16 : decode cX6_giveBack 16 = .ok (.aload_n 0, 1) := by decide +kernel
theorem dX6_giveBack_17 : decode cX6_giveBack 17 = .ok (.getfield 29, 3) := by decide +kernel
theorem dX6_giveBack_20 : decode cX6_giveBack 20 = .ok (.iload_n 1, 1) := by decide +kernel
theorem dX6_giveBack_21 : decode cX6_giveBack 21 = .ok (.iload_n 3, 1) := by decide +kernel
theorem dX6_giveBack_22 : decode cX6_giveBack 22 = .ok (.invokestatic 37, 3) := by decide +kernel
theorem dX6_giveBack_25 : decode cX6_giveBack 25 = .ok (.invokevirtual 41, 3) := by decide +kernel
theorem dX6_giveBack_28 : decode cX6_giveBack 28 = .ok (.invokevirtual 50, 3) := by decide +kernel
theorem dX6_giveBack_31 : decode cX6_giveBack 31 = .ok (.aload_n 0, 1) := by decide +kernel
theorem dX6_giveBack_32 : decode cX6_giveBack 32 = .ok (.getfield 29, 3) := by decide +kernel
theorem dX6_giveBack_35 : decode cX6_giveBack 35 = .ok (.iload_n 1, 1) := by decide +kernel
theorem dX6_giveBack_36 : decode cX6_giveBack 36 = .ok (.iload_n 3, 1) := by decide +kernel
theorem dX6_giveBack_37 : decode cX6_giveBack 37 = .ok (.invokestatic 37, 3) := by decide +kernel
theorem dX6_giveBack_40 : decode cX6_giveBack 40 = .ok (.iconst 0, 1) := by decide +kernel
theorem dX6_giveBack_41 : decode cX6_giveBack 41 = .ok (.invokevirtual 54, 3) := by decide +kernel
theorem dX6_giveBack_44 : decode cX6_giveBack 44 = .ok (.iinc 3 1, 3) := by decide +kernel
theorem dX6_giveBack_47 : decode cX6_giveBack 47 = .ok (.goto (-39), 3) := by decide +kernel
theorem dX6_giveBack_50 : decode cX6_giveBack 50 = .ok (.aload_n 0, 1) := by decide +kernel
theorem dX6_giveBack_51 : decode cX6_giveBack 51 = .ok (.getfield 29, 3) := by decide +kernel
theorem dX6_giveBack_54 : decode cX6_giveBack 54 = .ok (.sipush 8553, 3) := by decide +kernel
theorem dX6_giveBack_57 : decode cX6_giveBack 57 = .ok (.iload_n 2, 1) := by decide +kernel
theorem dX6_giveBack_58 : decode cX6_giveBack 58 = .ok (.invokevirtual 57, 3) := by decide +kernel
theorem dX6_giveBack_61 : decode cX6_giveBack 61 = .ok (.iload_n 2, 1) := by decide +kernel
theorem dX6_giveBack_62 : decode cX6_giveBack 62 = .ok (.ireturn, 1) := by decide +kernel
theorem dX6_giveChange_0 : decode cX6_giveChange 0 = .ok (.iconst 0, 1) := by decide +kernel
theorem dX6_giveChange_1 : decode cX6_giveChange 1 = .ok (.istore_n 3, 1) := by decide +kernel
theorem dX6_giveChange_2 : decode cX6_giveChange 2 = .ok (.iload_n 3, 1) := by decide +kernel
theorem dX6_giveChange_3 : decode cX6_giveChange 3 = .ok (.bipush 12, 2) := by decide +kernel
theorem dX6_giveChange_5 : decode cX6_giveChange 5 = .ok (.if_icmp .ge 45, 3) := by decide +kernel
theorem dX6_giveChange_8 : decode cX6_giveChange 8 = .ok (.aload_n 0, 1) := by decide +kernel
theorem dX6_giveChange_9 : decode cX6_giveChange 9 = .ok (.getfield 29, 3) := by decide +kernel
theorem dX6_giveChange_12 : decode cX6_giveChange 12 = .ok (.iload_n 1, 1) := by decide +kernel
theorem dX6_giveChange_13 : decode cX6_giveChange 13 = .ok (.iload_n 3, 1) := by decide +kernel
theorem dX6_giveChange_14 : decode cX6_giveChange 14 = .ok (.invokestatic 37, 3) := by decide +kernel
theorem dX6_giveChange_17 : decode cX6_giveChange 17 = .ok (.iconst 0, 1) := by decide +kernel
theorem dX6_giveChange_18 : decode cX6_giveChange 18 = .ok (.invokevirtual 54, 3) := by decide +kernel
theorem dX6_giveChange_21 : decode cX6_giveChange 21 = .ok (.aload_n 0, 1) := by decide +kernel
theorem dX6_giveChange_22 : decode cX6_giveChange 22 = .ok (.iload_n 3, 1) := by decide +kernel
theorem dX6_giveChange_23 : decode cX6_giveChange 23 = .ok (.aload_n 0, 1) := by decide +kernel
theorem dX6_giveChange_24 : decode cX6_giveChange 24 = .ok (.getfield 18, 3) := by decide +kernel
theorem dX6_giveChange_27 : decode cX6_giveChange 27 = .ok (.iload_n 3, 1) := by decide +kernel
theorem dX6_giveChange_28 : decode cX6_giveChange 28 = .ok (.iaload, 1) := by decide +kernel
theorem dX6_giveChange_29 : decode cX6_giveChange 29 = .ok (.invokevirtual 50, 3) := by decide +kernel
theorem dX6_giveChange_32 : decode cX6_giveChange 32 = .ok (.aload_n 0, 1) := by decide +kernel
theorem dX6_giveChange_33 : decode cX6_giveChange 33 = .ok (.getfield 21, 3) := by decide +kernel
theorem dX6_giveChange_36 : decode cX6_giveChange 36 = .ok (.iload_n 3, 1) := by decide +kernel
theorem dX6_giveChange_37 : decode cX6_giveChange 37 = .ok (.aload_n 0, 1) := by decide +kernel
theorem dX6_giveChange_38 : decode cX6_giveChange 38 = .ok (.getfield 18, 3) := by decide +kernel
theorem dX6_giveChange_41 : decode cX6_giveChange 41 = .ok (.iload_n 3, 1) := by decide +kernel
theorem dX6_giveChange_42 : decode cX6_giveChange 42 = .ok (.iaload, 1) := by decide +kernel
theorem dX6_giveChange_43 : decode cX6_giveChange 43 = .ok (.iastore, 1) := by decide +kernel
theorem dX6_giveChange_44 : decode cX6_giveChange 44 = .ok (.iinc 3 1, 3) := by decide +kernel
theorem dX6_giveChange_47 : decode cX6_giveChange 47 = .ok (.goto (-45), 3) := by decide +kernel
theorem dX6_giveChange_50 : decode cX6_giveChange 50 = .ok (.aload_n 0, 1) := by decide +kernel
theorem dX6_giveChange_51 : decode cX6_giveChange 51 = .ok (.getfield 29, 3) := by decide +kernel
theorem dX6_giveChange_54 : decode cX6_giveChange 54 = .ok (.sipush 8553, 3) := by decide +kernel
theorem dX6_giveChange_57 : decode cX6_giveChange 57 = .ok (.iload_n 2, 1) := by decide +kernel
theorem dX6_giveChange_58 : decode cX6_giveChange 58 = .ok (.invokevirtual 57, 3) := by decide +kernel
theorem dX6_giveChange_61 : decode cX6_giveChange 61 = .ok (.return_, 1) := by decide +kernel
theorem dX6_findChange_0 : decode cX6_findChange 0 = .ok (.iload_n 2, 1) := by decide +kernel
theorem dX6_findChange_1 : decode cX6_findChange 1 = .ok (.iconst 0, 1) := by decide +kernel
theorem dX6_findChange_2 : decode cX6_findChange 2 = .ok (.sipush 500, 3) := by decide +kernel
theorem dX6_findChange_5 : decode cX6_findChange 5 = .ok (.invokestatic 60, 3) := by decide +kernel
theorem dX6_findChange_8 : decode cX6_findChange 8 = .ok (.ifCond .ne 5, 3) := by decide +kernel
theorem dX6_findChange_11 : decode cX6_findChange 11 = .ok (.iconst 0, 1) := by decide +kernel
theorem dX6_findChange_12 : decode cX6_findChange 12 = .ok (.ireturn, 1) := by decide +kernel
theorem dX6_findChange_13 : decode cX6_findChange 13 = .ok (.aload_n 0, 1) := by decide +kernel
theorem dX6_findChange_14 : decode cX6_findChange 14 = .ok (.invokevirtual 64, 3) := by decide +kernel
theorem dX6_findChange_17 : decode cX6_findChange 17 = .ok (.aload_n 0, 1) := by decide +kernel
theorem dX6_findChange_18 : decode cX6_findChange 18 = .ok (.iload_n 1, 1) := by decide +kernel
theorem dX6_findChange_19 : decode cX6_findChange 19 = .ok (.invokevirtual 67, 3) := by decide +kernel
theorem dX6_findChange_22 : decode cX6_findChange 22 = .ok (.aload_n 0, 1) := by decide +kernel
theorem dX6_findChange_23 : decode cX6_findChange 23 = .ok (.getfield 26, 3) := by decide +kernel
theorem dX6_findChange_26 : decode cX6_findChange 26 = .ok (.iconst 0, 1) := by decide +kernel
theorem dX6_findChange_27 : decode cX6_findChange 27 = .ok (.aaload, 1) := by decide +kernel
theorem dX6_findChange_28 : decode cX6_findChange 28 = .ok (.ldc 71, 2) := by decide +kernel
theorem dX6_findChange_30 : decode cX6_findChange 30 = .ok (.invokestatic 72, 3) := by decide +kernel
theorem dX6_findChange_33 : decode cX6_findChange 33 = .ok (.aload_n 0, 1) := by decide +kernel
theorem dX6_findChange_34 : decode cX6_findChange 34 = .ok (.getfield 26, 3) := by decide +kernel
theorem dX6_findChange_37 : decode cX6_findChange 37 = .ok (.iconst 0, 1) := by decide +kernel
theorem dX6_findChange_38 : decode cX6_findChange 38 = .ok (.aaload, 1) := by decide +kernel
theorem dX6_findChange_39 : decode cX6_findChange 39 = .ok (.iconst 0, 1) := by decide +kernel
theorem dX6_findChange_40 : decode cX6_findChange 40 = .ok (.iconst 0, 1) := by decide +kernel
theorem dX6_findChange_41 : decode cX6_findChange 41 = .ok (.iastore, 1) := by decide +kernel
theorem dX6_findChange_42 : decode cX6_findChange 42 = .ok (.iconst 0, 1) := by decide +kernel
theorem dX6_findChange_43 : decode cX6_findChange 43 = .ok (.istore_n 3, 1) := by decide +kernel
theorem dX6_findChange_44 : decode cX6_findChange 44 = .ok (.iload_n 3, 1) := by decide +kernel
theorem dX6_findChange_45 : decode cX6_findChange 45 = .ok (.bipush 12, 2) := by decide +kernel
theorem dX6_findChange_47 : decode cX6_findChange 47 = .ok (.if_icmp .ge 71, 3) := by decide +kernel
theorem dX6_findChange_50 : decode cX6_findChange 50 = .ok (.aload_n 0, 1) := by decide +kernel
theorem dX6_findChange_51 : decode cX6_findChange 51 = .ok (.getfield 9, 3) := by decide +kernel
theorem dX6_findChange_54 : decode cX6_findChange 54 = .ok (.iload_n 3, 1) := by decide +kernel
theorem dX6_findChange_55 : decode cX6_findChange 55 = .ok (.iaload, 1) := by decide +kernel
theorem dX6_findChange_56 : decode cX6_findChange 56 = .ok (.istore 4, 2) := by decide +kernel
theorem dX6_findChange_58 : decode cX6_findChange 58 = .ok (.aload_n 0, 1) := by decide +kernel
theorem dX6_findChange_59 : decode cX6_findChange 59 = .ok (.getfield 26, 3) := by decide +kernel
theorem dX6_findChange_62 : decode cX6_findChange 62 = .ok (.iload_n 3, 1) := by decide +kernel
theorem dX6_findChange_63 : decode cX6_findChange 63 = .ok (.aaload, 1) := by decide +kernel
theorem dX6_findChange_64 : decode cX6_findChange 64 = .ok (.iconst 0, 1) := by decide +kernel
theorem dX6_findChange_65 : decode cX6_findChange 65 = .ok (.aload_n 0, 1) := by decide +kernel
theorem dX6_findChange_66 : decode cX6_findChange 66 = .ok (.getfield 26, 3) := by decide +kernel
theorem dX6_findChange_69 : decode cX6_findChange 69 = .ok (.iload_n 3, 1) := by decide +kernel
theorem dX6_findChange_70 : decode cX6_findChange 70 = .ok (.iconst 1, 1) := by decide +kernel
theorem dX6_findChange_71 : decode cX6_findChange 71 = .ok (.iadd, 1) := by decide +kernel
theorem dX6_findChange_72 : decode cX6_findChange 72 = .ok (.aaload, 1) := by decide +kernel
theorem dX6_findChange_73 : decode cX6_findChange 73 = .ok (.iconst 0, 1) := by decide +kernel
theorem dX6_findChange_74 : decode cX6_findChange 74 = .ok (.iload_n 2, 1) := by decide +kernel
theorem dX6_findChange_75 : decode cX6_findChange 75 = .ok (.iconst 1, 1) := by decide +kernel
theorem dX6_findChange_76 : decode cX6_findChange 76 = .ok (.iadd, 1) := by decide +kernel
theorem dX6_findChange_77 : decode cX6_findChange 77 = .ok (.invokestatic 78, 3) := by decide +kernel
theorem dX6_findChange_80 : decode cX6_findChange 80 = .ok (.aload_n 0, 1) := by decide +kernel
theorem dX6_findChange_81 : decode cX6_findChange 81 = .ok (.getfield 26, 3) := by decide +kernel
theorem dX6_findChange_84 : decode cX6_findChange 84 = .ok (.iload_n 3, 1) := by decide +kernel
theorem dX6_findChange_85 : decode cX6_findChange 85 = .ok (.iconst 1, 1) := by decide +kernel
theorem dX6_findChange_86 : decode cX6_findChange 86 = .ok (.iadd, 1) := by decide +kernel
theorem dX6_findChange_87 : decode cX6_findChange 87 = .ok (.aaload, 1) := by decide +kernel
theorem dX6_findChange_88 : decode cX6_findChange 88 = .ok (.aload_n 0, 1) := by decide +kernel
theorem dX6_findChange_89 : decode cX6_findChange 89 = .ok (.getfield 29, 3) := by decide +kernel
theorem dX6_findChange_92 : decode cX6_findChange 92 = .ok (.sipush 8420, 3) := by decide +kernel
theorem dX6_findChange_95 : decode cX6_findChange 95 = .ok (.iload 4, 2) := by decide +kernel
theorem dX6_findChange_97 : decode cX6_findChange 97 = .ok (.iadd, 1) := by decide +kernel
theorem dX6_findChange_98 : decode cX6_findChange 98 = .ok (.invokevirtual 41, 3) := by decide +kernel
theorem dX6_findChange_101 : decode cX6_findChange 101 = .ok (.aload_n 0, 1) := by decide +kernel
theorem dX6_findChange_102 : decode cX6_findChange 102 = .ok (.getfield 15, 3) := by decide +kernel
theorem dX6_findChange_105 : decode cX6_findChange 105 = .ok (.iload 4, 2) := by decide +kernel
theorem dX6_findChange_107 : decode cX6_findChange 107 = .ok (.iaload, 1) := by decide +kernel
theorem dX6_findChange_108 : decode cX6_findChange 108 = .ok (.iload_n 2, 1) := by decide +kernel
theorem dX6_findChange_109 : decode cX6_findChange 109 = .ok (.invokestatic 84, 3) := by decide +kernel
theorem dX6_findChange_112 : decode cX6_findChange 112 = .ok (.iinc 3 1, 3) := by decide +kernel
theorem dX6_findChange_115 : decode cX6_findChange 115 = .ok (.goto (-71), 3) := by decide +kernel
theorem dX6_findChange_118 : decode cX6_findChange 118 = .ok (.aload_n 0, 1) := by decide +kernel
theorem dX6_findChange_119 : decode cX6_findChange 119 = .ok (.getfield 26, 3) := by decide +kernel
theorem dX6_findChange_122 : decode cX6_findChange 122 = .ok (.bipush 12, 2) := by decide +kernel
theorem dX6_findChange_124 : decode cX6_findChange 124 = .ok (.aaload, 1) := by decide +kernel
theorem dX6_findChange_125 : decode cX6_findChange 125 = .ok (.iload_n 2, 1) := by decide +kernel
theorem dX6_findChange_126 : decode cX6_findChange 126 = .ok (.iaload, 1) := by decide +kernel
theorem dX6_findChange_127 : decode cX6_findChange 127 = .ok (.ldc 71, 2) := by decide +kernel
theorem dX6_findChange_129 : decode cX6_findChange 129 = .ok (.if_icmp .lt 5, 3) := by decide +kernel
theorem dX6_findChange_132 : decode cX6_findChange 132 = .ok (.iconst 0, 1) := by decide +kernel
theorem dX6_findChange_133 : decode cX6_findChange 133 = .ok (.ireturn, 1) := by decide +kernel
theorem dX6_findChange_134 : decode cX6_findChange 134 = .ok (.aload_n 0, 1) := by decide +kernel
theorem dX6_findChange_135 : decode cX6_findChange 135 = .ok (.iload_n 2, 1) := by decide +kernel
theorem dX6_findChange_136 : decode cX6_findChange 136 = .ok (.invokevirtual 88, 3) := by decide +kernel
theorem dX6_findChange_139 : decode cX6_findChange 139 = .ok (.iconst 1, 1) := by decide +kernel
theorem dX6_findChange_140 : decode cX6_findChange 140 = .ok (.ireturn, 1) := by decide +kernel
theorem dX6_takeOff_0 : decode cX6_takeOff 0 = .ok (.aload_n 0, 1) := by decide +kernel
theorem dX6_takeOff_1 : decode cX6_takeOff 1 = .ok (.getfield 29, 3) := by decide +kernel
theorem dX6_takeOff_4 : decode cX6_takeOff 4 = .ok (.sipush 8432, 3) := by decide +kernel
theorem dX6_takeOff_7 : decode cX6_takeOff 7 = .ok (.iload_n 1, 1) := by decide +kernel
theorem dX6_takeOff_8 : decode cX6_takeOff 8 = .ok (.iadd, 1) := by decide +kernel
theorem dX6_takeOff_9 : decode cX6_takeOff 9 = .ok (.iload_n 2, 1) := by decide +kernel
theorem dX6_takeOff_10 : decode cX6_takeOff 10 = .ok (.ineg, 1) := by decide +kernel
theorem dX6_takeOff_11 : decode cX6_takeOff 11 = .ok (.invokevirtual 57, 3) := by decide +kernel
theorem dX6_takeOff_14 : decode cX6_takeOff 14 = .ok (.return_, 1) := by decide +kernel
theorem dX6_sortByValue_0 : decode cX6_sortByValue 0 = .ok (.iconst 0, 1) := by decide +kernel
theorem dX6_sortByValue_1 : decode cX6_sortByValue 1 = .ok (.istore_n 1, 1) := by decide +kernel
theorem dX6_sortByValue_2 : decode cX6_sortByValue 2 = .ok (.iload_n 1, 1) := by decide +kernel
theorem dX6_sortByValue_3 : decode cX6_sortByValue 3 = .ok (.bipush 12, 2) := by decide +kernel
theorem dX6_sortByValue_5 : decode cX6_sortByValue 5 = .ok (.if_icmp .ge 76, 3) := by decide +kernel
theorem dX6_sortByValue_8 : decode cX6_sortByValue 8 = .ok (.iload_n 1, 1) := by decide +kernel
theorem dX6_sortByValue_9 : decode cX6_sortByValue 9 = .ok (.istore_n 2, 1) := by decide +kernel
theorem dX6_sortByValue_10 : decode cX6_sortByValue 10 = .ok (.iload_n 2, 1) := by decide +kernel
theorem dX6_sortByValue_11 : decode cX6_sortByValue 11 = .ok (.ifCond .le 57, 3) := by decide +kernel
theorem dX6_sortByValue_14 : decode cX6_sortByValue 14 = .ok (.aload_n 0, 1) := by decide +kernel
theorem dX6_sortByValue_15 : decode cX6_sortByValue 15 = .ok (.getfield 29, 3) := by decide +kernel
theorem dX6_sortByValue_18 : decode cX6_sortByValue 18 = .ok (.sipush 8420, 3) := by decide +kernel
theorem dX6_sortByValue_21 : decode cX6_sortByValue 21 = .ok (.aload_n 0, 1) := by decide +kernel
theorem dX6_sortByValue_22 : decode cX6_sortByValue 22 = .ok (.getfield 9, 3) := by decide +kernel
theorem dX6_sortByValue_25 : decode cX6_sortByValue 25 = .ok (.iload_n 2, 1) := by decide +kernel
theorem dX6_sortByValue_26 : decode cX6_sortByValue 26 = .ok (.iconst 1, 1) := by decide +kernel
theorem dX6_sortByValue_27 : decode cX6_sortByValue 27 = .ok (.isub, 1) := by decide +kernel
theorem dX6_sortByValue_28 : decode cX6_sortByValue 28 = .ok (.iaload, 1) := by decide +kernel
theorem dX6_sortByValue_29 : decode cX6_sortByValue 29 = .ok (.iadd, 1) := by decide +kernel
theorem dX6_sortByValue_30 : decode cX6_sortByValue 30 = .ok (.invokevirtual 41, 3) := by decide +kernel
theorem dX6_sortByValue_33 : decode cX6_sortByValue 33 = .ok (.aload_n 0, 1) := by decide +kernel
theorem dX6_sortByValue_34 : decode cX6_sortByValue 34 = .ok (.getfield 29, 3) := by decide +kernel
theorem dX6_sortByValue_37 : decode cX6_sortByValue 37 = .ok (.sipush 8420, 3) := by decide +kernel
theorem dX6_sortByValue_40 : decode cX6_sortByValue 40 = .ok (.iload_n 1, 1) := by decide +kernel
theorem dX6_sortByValue_41 : decode cX6_sortByValue 41 = .ok (.iadd, 1) := by decide +kernel
theorem dX6_sortByValue_42 : decode cX6_sortByValue 42 = .ok (.invokevirtual 41, 3) := by decide +kernel
theorem dX6_sortByValue_45 : decode cX6_sortByValue 45 = .ok (.if_icmp .le 23, 3) := by decide +kernel
theorem dX6_sortByValue_48 : decode cX6_sortByValue 48 = .ok (.aload_n 0, 1) := by decide +kernel
theorem dX6_sortByValue_49 : decode cX6_sortByValue 49 = .ok (.getfield 9, 3) := by decide +kernel
theorem dX6_sortByValue_52 : decode cX6_sortByValue 52 = .ok (.iload_n 2, 1) := by decide +kernel
theorem dX6_sortByValue_53 : decode cX6_sortByValue 53 = .ok (.aload_n 0, 1) := by decide +kernel
theorem dX6_sortByValue_54 : decode cX6_sortByValue 54 = .ok (.getfield 9, 3) := by decide +kernel
theorem dX6_sortByValue_57 : decode cX6_sortByValue 57 = .ok (.iload_n 2, 1) := by decide +kernel
theorem dX6_sortByValue_58 : decode cX6_sortByValue 58 = .ok (.iconst 1, 1) := by decide +kernel
theorem dX6_sortByValue_59 : decode cX6_sortByValue 59 = .ok (.isub, 1) := by decide +kernel
theorem dX6_sortByValue_60 : decode cX6_sortByValue 60 = .ok (.iaload, 1) := by decide +kernel
theorem dX6_sortByValue_61 : decode cX6_sortByValue 61 = .ok (.iastore, 1) := by decide +kernel
theorem dX6_sortByValue_62 : decode cX6_sortByValue 62 = .ok (.iinc 2 (-1), 3) := by decide +kernel
theorem dX6_sortByValue_65 : decode cX6_sortByValue 65 = .ok (.goto (-55), 3) := by decide +kernel
theorem dX6_sortByValue_68 : decode cX6_sortByValue 68 = .ok (.aload_n 0, 1) := by decide +kernel
theorem dX6_sortByValue_69 : decode cX6_sortByValue 69 = .ok (.getfield 9, 3) := by decide +kernel
theorem dX6_sortByValue_72 : decode cX6_sortByValue 72 = .ok (.iload_n 2, 1) := by decide +kernel
theorem dX6_sortByValue_73 : decode cX6_sortByValue 73 = .ok (.iload_n 1, 1) := by decide +kernel
theorem dX6_sortByValue_74 : decode cX6_sortByValue 74 = .ok (.iastore, 1) := by decide +kernel
theorem dX6_sortByValue_75 : decode cX6_sortByValue 75 = .ok (.iinc 1 1, 3) := by decide +kernel
theorem dX6_sortByValue_78 : decode cX6_sortByValue 78 = .ok (.goto (-76), 3) := by decide +kernel
theorem dX6_sortByValue_81 : decode cX6_sortByValue 81 = .ok (.return_, 1) := by decide +kernel
theorem dX6_countSpare_0 : decode cX6_countSpare 0 = .ok (.iconst 0, 1) := by decide +kernel
theorem dX6_countSpare_1 : decode cX6_countSpare 1 = .ok (.istore_n 2, 1) := by decide +kernel
theorem dX6_countSpare_2 : decode cX6_countSpare 2 = .ok (.iload_n 2, 1) := by decide +kernel
theorem dX6_countSpare_3 : decode cX6_countSpare 3 = .ok (.bipush 12, 2) := by decide +kernel
theorem dX6_countSpare_5 : decode cX6_countSpare 5 = .ok (.if_icmp .ge 71, 3) := by decide +kernel
theorem dX6_countSpare_8 : decode cX6_countSpare 8 = .ok (.aload_n 0, 1) := by decide +kernel
theorem dX6_countSpare_9 : decode cX6_countSpare 9 = .ok (.getfield 15, 3) := by decide +kernel
theorem dX6_countSpare_12 : decode cX6_countSpare 12 = .ok (.iload_n 2, 1) := by decide +kernel
theorem dX6_countSpare_13 : decode cX6_countSpare 13 = .ok (.aload_n 0, 1) := by decide +kernel
theorem dX6_countSpare_14 : decode cX6_countSpare 14 = .ok (.getfield 29, 3) := by decide +kernel
theorem dX6_countSpare_17 : decode cX6_countSpare 17 = .ok (.sipush 8432, 3) := by decide +kernel
theorem dX6_countSpare_20 : decode cX6_countSpare 20 = .ok (.iload_n 2, 1) := by decide +kernel
theorem dX6_countSpare_21 : decode cX6_countSpare 21 = .ok (.iadd, 1) := by decide +kernel
theorem dX6_countSpare_22 : decode cX6_countSpare 22 = .ok (.invokevirtual 41, 3) := by decide +kernel
theorem dX6_countSpare_25 : decode cX6_countSpare 25 = .ok (.iastore, 1) := by decide +kernel
theorem dX6_countSpare_26 : decode cX6_countSpare 26 = .ok (.iconst 0, 1) := by decide +kernel
theorem dX6_countSpare_27 : decode cX6_countSpare 27 = .ok (.istore_n 3, 1) := by decide +kernel
theorem dX6_countSpare_28 : decode cX6_countSpare 28 = .ok (.iload_n 3, 1) := by decide +kernel
theorem dX6_countSpare_29 : decode cX6_countSpare 29 = .ok (.bipush 60, 2) := by decide +kernel
theorem dX6_countSpare_31 : decode cX6_countSpare 31 = .ok (.if_icmp .ge 39, 3) := by decide +kernel
theorem dX6_countSpare_34 : decode cX6_countSpare 34 = .ok (.aload_n 0, 1) := by decide +kernel
theorem dX6_countSpare_35 : decode cX6_countSpare 35 = .ok (.getfield 15, 3) := by decide +kernel
theorem dX6_countSpare_38 : decode cX6_countSpare 38 = .ok (.iload_n 2, 1) := by decide +kernel
theorem dX6_countSpare_39 : decode cX6_countSpare 39 = .ok (.dup2, 1) := by decide +kernel
theorem dX6_countSpare_40 : decode cX6_countSpare 40 = .ok (.iaload, 1) := by decide +kernel
theorem dX6_countSpare_41 : decode cX6_countSpare 41 = .ok (.iload_n 3, 1) := by decide +kernel
theorem dX6_countSpare_42 : decode cX6_countSpare 42 = .ok (.iload_n 1, 1) := by decide +kernel
theorem dX6_countSpare_43 : decode cX6_countSpare 43 = .ok (.if_icmp .ne 7, 3) := by decide +kernel
theorem dX6_countSpare_46 : decode cX6_countSpare 46 = .ok (.iconst 0, 1) := by decide +kernel
theorem dX6_countSpare_47 : decode cX6_countSpare 47 = .ok (.goto 15, 3) := by decide +kernel
theorem dX6_countSpare_50 : decode cX6_countSpare 50 = .ok (.aload_n 0, 1) := by decide +kernel
theorem dX6_countSpare_51 : decode cX6_countSpare 51 = .ok (.getfield 29, 3) := by decide +kernel
theorem dX6_countSpare_54 : decode cX6_countSpare 54 = .ok (.iload_n 3, 1) := by decide +kernel
theorem dX6_countSpare_55 : decode cX6_countSpare 55 = .ok (.iload_n 2, 1) := by decide +kernel
theorem dX6_countSpare_56 : decode cX6_countSpare 56 = .ok (.invokestatic 37, 3) := by decide +kernel
theorem dX6_countSpare_59 : decode cX6_countSpare 59 = .ok (.invokevirtual 41, 3) := by decide +kernel
theorem dX6_countSpare_62 : decode cX6_countSpare 62 = .ok (.isub, 1) := by decide +kernel
theorem dX6_countSpare_63 : decode cX6_countSpare 63 = .ok (.iastore, 1) := by decide +kernel
theorem dX6_countSpare_64 : decode cX6_countSpare 64 = .ok (.iinc 3 1, 3) := by decide +kernel
theorem dX6_countSpare_67 : decode cX6_countSpare 67 = .ok (.goto (-39), 3) := by decide +kernel
theorem dX6_countSpare_70 : decode cX6_countSpare 70 = .ok (.iinc 2 1, 3) := by decide +kernel
theorem dX6_countSpare_73 : decode cX6_countSpare 73 = .ok (.goto (-71), 3) := by decide +kernel
theorem dX6_countSpare_76 : decode cX6_countSpare 76 = .ok (.return_, 1) := by decide +kernel
theorem dX6_addTube_0 : decode cX6_addTube 0 = .ok (.iload_n 1, 1) := by decide +kernel
theorem dX6_addTube_1 : decode cX6_addTube 1 = .ok (.iload_n 2, 1) := by decide +kernel
theorem dX6_addTube_2 : decode cX6_addTube 2 = .ok (.iload_n 3, 1) := by decide +kernel
theorem dX6_addTube_3 : decode cX6_addTube 3 = .ok (.invokestatic 91, 3) := by decide +kernel
theorem dX6_addTube_6 : decode cX6_addTube 6 = .ok (.istore 4, 2) := by decide +kernel
theorem dX6_addTube_8 : decode cX6_addTube 8 = .ok (.iconst 1, 1) := by decide +kernel
theorem dX6_addTube_9 : decode cX6_addTube 9 = .ok (.istore 5, 2) := by decide +kernel
theorem dX6_addTube_11 : decode cX6_addTube 11 = .ok (.iload 4, 2) := by decide +kernel
theorem dX6_addTube_13 : decode cX6_addTube 13 = .ok (.ifCond .le 79, 3) := by decide +kernel
theorem dX6_addTube_16 : decode cX6_addTube 16 = .ok (.iload 5, 2) := by decide +kernel
theorem dX6_addTube_18 : decode cX6_addTube 18 = .ok (.sipush 500, 3) := by decide +kernel
theorem dX6_addTube_21 : decode cX6_addTube 21 = .ok (.if_icmp .gt 71, 3) := by decide +kernel
theorem dX6_addTube_24 : decode cX6_addTube 24 = .ok (.iload 5, 2) := by decide +kernel
theorem dX6_addTube_26 : decode cX6_addTube 26 = .ok (.iload 4, 2) := by decide +kernel
theorem dX6_addTube_28 : decode cX6_addTube 28 = .ok (.invokestatic 95, 3) := by decide +kernel
theorem dX6_addTube_31 : decode cX6_addTube 31 = .ok (.istore 6, 2) := by decide +kernel
theorem dX6_addTube_33 : decode cX6_addTube 33 = .ok (.iload 6, 2) := by decide +kernel
theorem dX6_addTube_35 : decode cX6_addTube 35 = .ok (.iload_n 1, 1) := by decide +kernel
theorem dX6_addTube_36 : decode cX6_addTube 36 = .ok (.imul, 1) := by decide +kernel
theorem dX6_addTube_37 : decode cX6_addTube 37 = .ok (.istore 7, 2) := by decide +kernel
theorem dX6_addTube_39 : decode cX6_addTube 39 = .ok (.iload_n 3, 1) := by decide +kernel
theorem dX6_addTube_40 : decode cX6_addTube 40 = .ok (.istore 8, 2) := by decide +kernel
theorem dX6_addTube_42 : decode cX6_addTube 42 = .ok (.iload 8, 2) := by decide +kernel
theorem dX6_addTube_44 : decode cX6_addTube 44 = .ok (.iload 7, 2) := by decide +kernel
theorem dX6_addTube_46 : decode cX6_addTube 46 = .ok (.if_icmp .lt 30, 3) := by decide +kernel
theorem dX6_addTube_49 : decode cX6_addTube 49 = .ok (.aload_n 0, 1) := by decide +kernel
theorem dX6_addTube_50 : decode cX6_addTube 50 = .ok (.iload 8, 2) := by decide +kernel
theorem dX6_addTube_52 : decode cX6_addTube 52 = .ok (.aload_n 0, 1) := by decide +kernel
theorem dX6_addTube_53 : decode cX6_addTube 53 = .ok (.iload 8, 2) := by decide +kernel
theorem dX6_addTube_55 : decode cX6_addTube 55 = .ok (.iaload, 1) := by decide +kernel
theorem dX6_addTube_56 : decode cX6_addTube 56 = .ok (.aload_n 0, 1) := by decide +kernel
theorem dX6_addTube_57 : decode cX6_addTube 57 = .ok (.iload 8, 2) := by decide +kernel
theorem dX6_addTube_59 : decode cX6_addTube 59 = .ok (.iload 7, 2) := by decide +kernel
theorem dX6_addTube_61 : decode cX6_addTube 61 = .ok (.isub, 1) := by decide +kernel
theorem dX6_addTube_62 : decode cX6_addTube 62 = .ok (.iaload, 1) := by decide +kernel
theorem dX6_addTube_63 : decode cX6_addTube 63 = .ok (.iload 6, 2) := by decide +kernel
theorem dX6_addTube_65 : decode cX6_addTube 65 = .ok (.iadd, 1) := by decide +kernel
theorem dX6_addTube_66 : decode cX6_addTube 66 = .ok (.invokestatic 95, 3) := by decide +kernel
theorem dX6_addTube_69 : decode cX6_addTube 69 = .ok (.iastore, 1) := by decide +kernel
theorem dX6_addTube_70 : decode cX6_addTube 70 = .ok (.iinc 8 (-1), 3) := by decide +kernel
theorem dX6_addTube_73 : decode cX6_addTube 73 = .ok (.goto (-31), 3) := by decide +kernel
theorem dX6_addTube_76 : decode cX6_addTube 76 = .ok (.iload 4, 2) := by decide +kernel
theorem dX6_addTube_78 : decode cX6_addTube 78 = .ok (.iload 6, 2) := by decide +kernel
theorem dX6_addTube_80 : decode cX6_addTube 80 = .ok (.isub, 1) := by decide +kernel
theorem dX6_addTube_81 : decode cX6_addTube 81 = .ok (.istore 4, 2) := by decide +kernel
theorem dX6_addTube_83 : decode cX6_addTube 83 = .ok (.iload 5, 2) := by decide +kernel
theorem dX6_addTube_85 : decode cX6_addTube 85 = .ok (.iconst 2, 1) := by decide +kernel
theorem dX6_addTube_86 : decode cX6_addTube 86 = .ok (.imul, 1) := by decide +kernel
theorem dX6_addTube_87 : decode cX6_addTube 87 = .ok (.istore 5, 2) := by decide +kernel
theorem dX6_addTube_89 : decode cX6_addTube 89 = .ok (.goto (-78), 3) := by decide +kernel
theorem dX6_addTube_92 : decode cX6_addTube 92 = .ok (.return_, 1) := by decide +kernel
theorem dX6_pickCoins_0 : decode cX6_pickCoins 0 = .ok (.iload_n 1, 1) := by decide +kernel
theorem dX6_pickCoins_1 : decode cX6_pickCoins 1 = .ok (.istore_n 2, 1) := by decide +kernel
theorem dX6_pickCoins_2 : decode cX6_pickCoins 2 = .ok (.bipush 12, 2) := by decide +kernel
theorem dX6_pickCoins_4 : decode cX6_pickCoins 4 = .ok (.istore_n 3, 1) := by decide +kernel
theorem dX6_pickCoins_5 : decode cX6_pickCoins 5 = .ok (.iload_n 3, 1) := by decide +kernel
theorem dX6_pickCoins_6 : decode cX6_pickCoins 6 = .ok (.ifCond .le 107, 3) := by decide +kernel
theorem dX6_pickCoins_9 : decode cX6_pickCoins 9 = .ok (.aload_n 0, 1) := by decide +kernel
theorem dX6_pickCoins_10 : decode cX6_pickCoins 10 = .ok (.getfield 9, 3) := by decide +kernel
theorem dX6_pickCoins_13 : decode cX6_pickCoins 13 = .ok (.iload_n 3, 1) := by decide +kernel
theorem dX6_pickCoins_14 : decode cX6_pickCoins 14 = .ok (.iconst 1, 1) := by decide +kernel
theorem dX6_pickCoins_15 : decode cX6_pickCoins 15 = .ok (.isub, 1) := by decide +kernel
theorem dX6_pickCoins_16 : decode cX6_pickCoins 16 = .ok (.iaload, 1) := by decide +kernel
theorem dX6_pickCoins_17 : decode cX6_pickCoins 17 = .ok (.istore 4, 2) := by decide +kernel
theorem dX6_pickCoins_19 : decode cX6_pickCoins 19 = .ok (.aload_n 0, 1) := by decide +kernel
theorem dX6_pickCoins_20 : decode cX6_pickCoins 20 = .ok (.getfield 29, 3) := by decide +kernel
theorem dX6_pickCoins_23 : decode cX6_pickCoins 23 = .ok (.sipush 8420, 3) := by decide +kernel
theorem dX6_pickCoins_26 : decode cX6_pickCoins 26 = .ok (.iload 4, 2) := by decide +kernel
theorem dX6_pickCoins_28 : decode cX6_pickCoins 28 = .ok (.iadd, 1) := by decide +kernel
theorem dX6_pickCoins_29 : decode cX6_pickCoins 29 = .ok (.invokevirtual 41, 3) := by decide +kernel
theorem dX6_pickCoins_32 : decode cX6_pickCoins 32 = .ok (.istore 5, 2) := by decide +kernel
theorem dX6_pickCoins_34 : decode cX6_pickCoins 34 = .ok (.iload 5, 2) := by decide +kernel
theorem dX6_pickCoins_36 : decode cX6_pickCoins 36 = .ok (.aload_n 0, 1) := by decide +kernel
theorem dX6_pickCoins_37 : decode cX6_pickCoins 37 = .ok (.getfield 15, 3) := by decide +kernel
theorem dX6_pickCoins_40 : decode cX6_pickCoins 40 = .ok (.iload 4, 2) := by decide +kernel
theorem dX6_pickCoins_42 : decode cX6_pickCoins 42 = .ok (.iaload, 1) := by decide +kernel
theorem dX6_pickCoins_43 : decode cX6_pickCoins 43 = .ok (.iload_n 2, 1) := by decide +kernel
theorem dX6_pickCoins_44 : decode cX6_pickCoins 44 = .ok (.invokestatic 91, 3) := by decide +kernel
theorem dX6_pickCoins_47 : decode cX6_pickCoins 47 = .ok (.istore 6, 2) := by decide +kernel
theorem dX6_pickCoins_49 : decode cX6_pickCoins 49 = .ok (.iload 6, 2) := by decide +kernel
theorem dX6_pickCoins_51 : decode cX6_pickCoins 51 = .ok (.ifCond .le 39, 3) := by decide +kernel
theorem dX6_pickCoins_54 : decode cX6_pickCoins 54 = .ok (.aload_n 0, 1) := by decide +kernel
theorem dX6_pickCoins_55 : decode cX6_pickCoins 55 = .ok (.getfield 26, 3) := by decide +kernel
theorem dX6_pickCoins_58 : decode cX6_pickCoins 58 = .ok (.iload_n 3, 1) := by decide +kernel
theorem dX6_pickCoins_59 : decode cX6_pickCoins 59 = .ok (.iconst 1, 1) := by decide +kernel
theorem dX6_pickCoins_60 : decode cX6_pickCoins 60 = .ok (.isub, 1) := by decide +kernel
theorem dX6_pickCoins_61 : decode cX6_pickCoins 61 = .ok (.aaload, 1) := by decide +kernel
theorem dX6_pickCoins_62 : decode cX6_pickCoins 62 = .ok (.iload_n 2, 1) := by decide +kernel
theorem dX6_pickCoins_63 : decode cX6_pickCoins 63 = .ok (.iload 6, 2) := by decide +kernel
theorem dX6_pickCoins_65 : decode cX6_pickCoins 65 = .ok (.iload 5, 2) := by decide +kernel
theorem dX6_pickCoins_67 : decode cX6_pickCoins 67 = .ok (.imul, 1) := by decide +kernel
theorem dX6_pickCoins_68 : decode cX6_pickCoins 68 = .ok (.isub, 1) := by decide +kernel
theorem dX6_pickCoins_69 : decode cX6_pickCoins 69 = .ok (.iaload, 1) := by decide +kernel
theorem dX6_pickCoins_70 : decode cX6_pickCoins 70 = .ok (.iload 6, 2) := by decide +kernel
theorem dX6_pickCoins_72 : decode cX6_pickCoins 72 = .ok (.iadd, 1) := by decide +kernel
theorem dX6_pickCoins_73 : decode cX6_pickCoins 73 = .ok (.aload_n 0, 1) := by decide +kernel
theorem dX6_pickCoins_74 : decode cX6_pickCoins 74 = .ok (.getfield 26, 3) := by decide +kernel
theorem dX6_pickCoins_77 : decode cX6_pickCoins 77 = .ok (.iload_n 3, 1) := by decide +kernel
theorem dX6_pickCoins_78 : decode cX6_pickCoins 78 = .ok (.aaload, 1) := by decide +kernel
theorem dX6_pickCoins_79 : decode cX6_pickCoins 79 = .ok (.iload_n 2, 1) := by decide +kernel
theorem dX6_pickCoins_80 : decode cX6_pickCoins 80 = .ok (.iaload, 1) := by decide +kernel
theorem dX6_pickCoins_81 : decode cX6_pickCoins 81 = .ok (.if_icmp .eq 9, 3) := by decide +kernel
theorem dX6_pickCoins_84 : decode cX6_pickCoins 84 = .ok (.iinc 6 (-1), 3) := by decide +kernel
theorem dX6_pickCoins_87 : decode cX6_pickCoins 87 = .ok (.goto (-38), 3) := by decide +kernel
theorem dX6_pickCoins_90 : decode cX6_pickCoins 90 = .ok (.aload_n 0, 1) := by decide +kernel
theorem dX6_pickCoins_91 : decode cX6_pickCoins 91 = .ok (.getfield 18, 3) := by decide +kernel
theorem dX6_pickCoins_94 : decode cX6_pickCoins 94 = .ok (.iload 4, 2) := by decide +kernel
theorem dX6_pickCoins_96 : decode cX6_pickCoins 96 = .ok (.iload 6, 2) := by decide +kernel
theorem dX6_pickCoins_98 : decode cX6_pickCoins 98 = .ok (.iastore, 1) := by decide +kernel
theorem dX6_pickCoins_99 : decode cX6_pickCoins 99 = .ok (.iload_n 2, 1) := by decide +kernel
theorem dX6_pickCoins_100 : decode cX6_pickCoins 100 = .ok (.iload 6, 2) := by decide +kernel
theorem dX6_pickCoins_102 : decode cX6_pickCoins 102 = .ok (.iload 5, 2) := by decide +kernel
theorem dX6_pickCoins_104 : decode cX6_pickCoins 104 = .ok (.imul, 1) := by decide +kernel
theorem dX6_pickCoins_105 : decode cX6_pickCoins 105 = .ok (.isub, 1) := by decide +kernel
theorem dX6_pickCoins_106 : decode cX6_pickCoins 106 = .ok (.istore_n 2, 1) := by decide +kernel
theorem dX6_pickCoins_107 : decode cX6_pickCoins 107 = .ok (.iinc 3 (-1), 3) := by decide +kernel
theorem dX6_pickCoins_110 : decode cX6_pickCoins 110 = .ok (.goto (-105), 3) := by decide +kernel
theorem dX6_pickCoins_113 : decode cX6_pickCoins 113 = .ok (.return_, 1) := by decide +kernel
theorem dX6_mostOf_0 : decode cX6_mostOf 0 = .ok (.iload_n 0, 1) := by decide +kernel
theorem dX6_mostOf_1 : decode cX6_mostOf 1 = .ok (.ifCond .gt 7, 3) := by decide +kernel
theorem dX6_mostOf_4 : decode cX6_mostOf 4 = .ok (.iconst 0, 1) := by decide +kernel
theorem dX6_mostOf_5 : decode cX6_mostOf 5 = .ok (.goto 14, 3) := by decide +kernel
theorem dX6_mostOf_8 : decode cX6_mostOf 8 = .ok (.iconst 0, 1) := by decide +kernel
theorem dX6_mostOf_9 : decode cX6_mostOf 9 = .ok (.iload_n 1, 1) := by decide +kernel
theorem dX6_mostOf_10 : decode cX6_mostOf 10 = .ok (.iload_n 2, 1) := by decide +kernel
theorem dX6_mostOf_11 : decode cX6_mostOf 11 = .ok (.iload_n 0, 1) := by decide +kernel
theorem dX6_mostOf_12 : decode cX6_mostOf 12 = .ok (.idiv, 1) := by decide +kernel
theorem dX6_mostOf_13 : decode cX6_mostOf 13 = .ok (.invokestatic 95, 3) := by decide +kernel
theorem dX6_mostOf_16 : decode cX6_mostOf 16 = .ok (.invokestatic 100, 3) := by decide +kernel
theorem dX6_mostOf_19 : decode cX6_mostOf 19 = .ok (.ireturn, 1) := by decide +kernel
theorem dX6_creditCell_0 : decode cX6_creditCell 0 = .ok (.iload_n 0, 1) := by decide +kernel
theorem dX6_creditCell_1 : decode cX6_creditCell 1 = .ok (.bipush 78, 2) := by decide +kernel
theorem dX6_creditCell_3 : decode cX6_creditCell 3 = .ok (.imul, 1) := by decide +kernel
theorem dX6_creditCell_4 : decode cX6_creditCell 4 = .ok (.bipush 36, 2) := by decide +kernel
theorem dX6_creditCell_6 : decode cX6_creditCell 6 = .ok (.iadd, 1) := by decide +kernel
theorem dX6_creditCell_7 : decode cX6_creditCell 7 = .ok (.iload_n 1, 1) := by decide +kernel
theorem dX6_creditCell_8 : decode cX6_creditCell 8 = .ok (.iadd, 1) := by decide +kernel
theorem dX6_creditCell_9 : decode cX6_creditCell 9 = .ok (.ireturn, 1) := by decide +kernel
theorem dX7_init_0 : decode cX7_init 0 = .ok (.aload_n 0, 1) := by decide +kernel
theorem dX7_init_1 : decode cX7_init 1 = .ok (.invokespecial 3, 3) := by decide +kernel
theorem dX7_init_4 : decode cX7_init 4 = .ok (.aload_n 0, 1) := by decide +kernel
theorem dX7_init_5 : decode cX7_init 5 = .ok (.bipush 30, 2) := by decide +kernel
theorem dX7_init_7 : decode cX7_init 7 = .ok (.newarray .int, 2) := by decide +kernel
theorem dX7_init_9 : decode cX7_init 9 = .ok (.putfield 11, 3) := by decide +kernel
theorem dX7_init_12 : decode cX7_init 12 = .ok (.aload_n 0, 1) := by decide +kernel
theorem dX7_init_13 : decode cX7_init 13 = .ok (.iconst 0, 1) := by decide +kernel
theorem dX7_init_14 : decode cX7_init 14 = .ok (.putfield 15, 3) := by decide +kernel
theorem dX7_init_17 : decode cX7_init 17 = .ok (.aload_n 0, 1) := by decide +kernel
theorem dX7_init_18 : decode cX7_init 18 = .ok (.iconst 0, 1) := by decide +kernel
theorem dX7_init_19 : decode cX7_init 19 = .ok (.putfield 19, 3) := by decide +kernel
theorem dX7_init_22 : decode cX7_init 22 = .ok (.return_, 1) := by decide +kernel
theorem dX7_begin_0 : decode cX7_begin 0 = .ok (.aload_n 0, 1) := by decide +kernel
theorem dX7_begin_1 : decode cX7_begin 1 = .ok (.getfield 11, 3) := by decide +kernel
theorem dX7_begin_4 : decode cX7_begin 4 = .ok (.aload_n 0, 1) := by decide +kernel
theorem dX7_begin_5 : decode cX7_begin 5 = .ok (.getfield 19, 3) := by decide +kernel
theorem dX7_begin_8 : decode cX7_begin 8 = .ok (.bipush 10, 2) := by decide +kernel
theorem dX7_begin_10 : decode cX7_begin 10 = .ok (.iload_n 1, 1) := by decide +kernel
theorem dX7_begin_11 : decode cX7_begin 11 = .ok (.imul, 1) := by decide +kernel
theorem dX7_begin_12 : decode cX7_begin 12 = .ok (.iload_n 2, 1) := by decide +kernel
theorem dX7_begin_13 : decode cX7_begin 13 = .ok (.iadd, 1) := by decide +kernel
theorem dX7_begin_14 : decode cX7_begin 14 = .ok (.iastore, 1) := by decide +kernel
theorem dX7_begin_15 : decode cX7_begin 15 = .ok (.aload_n 0, 1) := by decide +kernel
theorem dX7_begin_16 : decode cX7_begin 16 = .ok (.aload_n 0, 1) := by decide +kernel
theorem dX7_begin_17 : decode cX7_begin 17 = .ok (.getfield 19, 3) := by decide +kernel
theorem dX7_begin_20 : decode cX7_begin 20 = .ok (.iconst 1, 1) := by decide +kernel
theorem dX7_begin_21 : decode cX7_begin 21 = .ok (.iadd, 1) := by decide +kernel
theorem dX7_begin_22 : decode cX7_begin 22 = .ok (.bipush 30, 2) := by decide +kernel
theorem dX7_begin_24 : decode cX7_begin 24 = .ok (.irem, 1) := by decide +kernel
theorem dX7_begin_25 : decode cX7_begin 25 = .ok (.putfield 19, 3) := by decide +kernel
theorem dX7_begin_28 : decode cX7_begin 28 = .ok (.aload_n 0, 1) := by decide +kernel
theorem dX7_begin_29 : decode cX7_begin 29 = .ok (.aload_n 0, 1) := by decide +kernel
theorem dX7_begin_30 : decode cX7_begin 30 = .ok (.getfield 15, 3) := by decide +kernel
theorem dX7_begin_33 : decode cX7_begin 33 = .ok (.iconst 1, 1) := by decide +kernel
theorem dX7_begin_34 : decode cX7_begin 34 = .ok (.iadd, 1) := by decide +kernel
theorem dX7_begin_35 : decode cX7_begin 35 = .ok (.bipush 30, 2) := by decide +kernel
theorem dX7_begin_37 : decode cX7_begin 37 = .ok (.invokestatic 22, 3) := by decide +kernel
theorem dX7_begin_40 : decode cX7_begin 40 = .ok (.putfield 15, 3) := by decide +kernel
theorem dX7_begin_43 : decode cX7_begin 43 = .ok (.return_, 1) := by decide +kernel
theorem dX7_latest_0 : decode cX7_latest 0 = .ok (.iload_n 1, 1) := by decide +kernel
theorem dX7_latest_1 : decode cX7_latest 1 = .ok (.iconst 0, 1) := by decide +kernel
theorem dX7_latest_2 : decode cX7_latest 2 = .ok (.aload_n 0, 1) := by decide +kernel
theorem dX7_latest_3 : decode cX7_latest 3 = .ok (.getfield 15, 3) := by decide +kernel
theorem dX7_latest_6 : decode cX7_latest 6 = .ok (.iconst 1, 1) := by decide +kernel
theorem dX7_latest_7 : decode cX7_latest 7 = .ok (.isub, 1) := by decide +kernel
theorem dX7_latest_8 : decode cX7_latest 8 = .ok (.invokestatic 28, 3) := by decide +kernel
theorem dX7_latest_11 : decode cX7_latest 11 = .ok (.ifCond .eq 24, 3) := by decide +kernel
theorem dX7_latest_14 : decode cX7_latest 14 = .ok (.aload_n 0, 1) := by decide +kernel
theorem dX7_latest_15 : decode cX7_latest 15 = .ok (.getfield 11, 3) := by decide +kernel
theorem dX7_latest_18 : decode cX7_latest 18 = .ok (.aload_n 0, 1) := by decide +kernel
theorem dX7_latest_19 : decode cX7_latest 19 = .ok (.getfield 19, 3) := by decide +kernel
theorem dX7_latest_22 : decode cX7_latest 22 = .ok (.iconst 1, 1) := by decide +kernel
theorem dX7_latest_23 : decode cX7_latest 23 = .ok (.isub, 1) := by decide +kernel
theorem dX7_latest_24 : decode cX7_latest 24 = .ok (.iload_n 1, 1) := by decide +kernel
theorem dX7_latest_25 : decode cX7_latest 25 = .ok (.isub, 1) := by decide +kernel
theorem dX7_latest_26 : decode cX7_latest 26 = .ok (.bipush 30, 2) := by decide +kernel
theorem dX7_latest_28 : decode cX7_latest 28 = .ok (.invokestatic 32, 3) := by decide +kernel
theorem dX7_latest_31 : decode cX7_latest 31 = .ok (.iaload, 1) := by decide +kernel
theorem dX7_latest_32 : decode cX7_latest 32 = .ok (.goto 5, 3) := by decide +kernel
theorem dX7_latest_35 : decode cX7_latest 35 = .ok (.bipush (-5), 2) := by decide +kernel
theorem dX7_latest_37 : decode cX7_latest 37 = .ok (.ireturn, 1) := by decide +kernel
theorem dX8_init_0 : decode cX8_init 0 = .ok (.aload_n 0, 1) := by decide +kernel
theorem dX8_init_1 : decode cX8_init 1 = .ok (.aload_n 1, 1) := by decide +kernel
theorem dX8_init_2 : decode cX8_init 2 = .ok (.invokespecial 3, 3) := by decide +kernel
theorem dX8_init_5 : decode cX8_init 5 = .ok (.return_, 1) := by decide +kernel
theorem dX8_fills_0 : decode cX8_fills 0 = .ok (.iconst 1, 1) := by decide +kernel
theorem dX8_fills_1 : decode cX8_fills 1 = .ok (.ireturn, 1) := by decide +kernel
theorem dX8_turns_0 : decode cX8_turns 0 = .ok (.iconst 1, 1) := by decide +kernel
theorem dX8_turns_1 : decode cX8_turns 1 = .ok (.ireturn, 1) := by decide +kernel
theorem dX8_water_0 : decode cX8_water 0 = .ok (.aload_n 0, 1) := by decide +kernel
theorem dX8_water_1 : decode cX8_water 1 = .ok (.getfield 9, 3) := by decide +kernel
theorem dX8_water_4 : decode cX8_water 4 = .ok (.iconst 0, 1) := by decide +kernel
theorem dX8_water_5 : decode cX8_water 5 = .ok (.iconst 0, 1) := by decide +kernel
theorem dX8_water_6 : decode cX8_water 6 = .ok (.invokevirtual 15, 3) := by decide +kernel
theorem dX8_water_9 : decode cX8_water 9 = .ok (.iload_n 1, 1) := by decide +kernel
theorem dX8_water_10 : decode cX8_water 10 = .ok (.ifCond .ne 8, 3) := by decide +kernel
theorem dX8_water_13 : decode cX8_water 13 = .ok (.bipush 10, 2) := by decide +kernel
theorem dX8_water_15 : decode cX8_water 15 = .ok (.goto 9, 3) := by decide +kernel
theorem dX8_water_18 : decode cX8_water 18 = .ok (.aload_n 0, 1) := by decide +kernel
theorem dX8_water_19 : decode cX8_water 19 = .ok (.iload_n 1, 1) := by decide +kernel
theorem dX8_water_20 : decode cX8_water 20 = .ok (.iload_n 2, 1) := by decide +kernel
theorem dX8_water_21 : decode cX8_water 21 = .ok (.invokespecial 21, 3) := by decide +kernel
theorem dX8_water_24 : decode cX8_water 24 = .ok (.ireturn, 1) := by decide +kernel
theorem dX8_heat_0 : decode cX8_heat 0 = .ok (.aload_n 0, 1) := by decide +kernel
theorem dX8_heat_1 : decode cX8_heat 1 = .ok (.getfield 9, 3) := by decide +kernel
theorem dX8_heat_4 : decode cX8_heat 4 = .ok (.iconst 0, 1) := by decide +kernel
theorem dX8_heat_5 : decode cX8_heat 5 = .ok (.iconst 1, 1) := by decide +kernel
theorem dX8_heat_6 : decode cX8_heat 6 = .ok (.invokevirtual 15, 3) := by decide +kernel
theorem dX8_heat_9 : decode cX8_heat 9 = .ok (.iload_n 1, 1) := by decide +kernel
theorem dX8_heat_10 : decode cX8_heat 10 = .ok (.iconst 1, 1) := by decide +kernel
theorem dX8_heat_11 : decode cX8_heat 11 = .ok (.if_icmp .ne 7, 3) := by decide +kernel
theorem dX8_heat_14 : decode cX8_heat 14 = .ok (.iconst 4, 1) := by decide +kernel
theorem dX8_heat_15 : decode cX8_heat 15 = .ok (.goto 9, 3) := by decide +kernel
theorem dX8_heat_18 : decode cX8_heat 18 = .ok (.aload_n 0, 1) := by decide +kernel
theorem dX8_heat_19 : decode cX8_heat 19 = .ok (.iload_n 1, 1) := by decide +kernel
theorem dX8_heat_20 : decode cX8_heat 20 = .ok (.iload_n 2, 1) := by decide +kernel
theorem dX8_heat_21 : decode cX8_heat 21 = .ok (.invokespecial 25, 3) := by decide +kernel
theorem dX8_heat_24 : decode cX8_heat 24 = .ok (.ireturn, 1) := by decide +kernel
theorem dX8_power_0 : decode cX8_power 0 = .ok (.aload_n 0, 1) := by decide +kernel
theorem dX8_power_1 : decode cX8_power 1 = .ok (.getfield 9, 3) := by decide +kernel
theorem dX8_power_4 : decode cX8_power 4 = .ok (.iconst 0, 1) := by decide +kernel
theorem dX8_power_5 : decode cX8_power 5 = .ok (.iconst 2, 1) := by decide +kernel
theorem dX8_power_6 : decode cX8_power 6 = .ok (.invokevirtual 15, 3) := by decide +kernel
theorem dX8_power_9 : decode cX8_power 9 = .ok (.aload_n 0, 1) := by decide +kernel
theorem dX8_power_10 : decode cX8_power 10 = .ok (.iload_n 1, 1) := by decide +kernel
theorem dX8_power_11 : decode cX8_power 11 = .ok (.iload_n 2, 1) := by decide +kernel
theorem dX8_power_12 : decode cX8_power 12 = .ok (.invokespecial 28, 3) := by decide +kernel
theorem dX8_power_15 : decode cX8_power 15 = .ok (.iload_n 1, 1) := by decide +kernel
theorem dX8_power_16 : decode cX8_power 16 = .ok (.iconst 1, 1) := by decide +kernel
theorem dX8_power_17 : decode cX8_power 17 = .ok (.if_icmp .eq 8, 3) := by decide +kernel
theorem dX8_power_20 : decode cX8_power 20 = .ok (.iload_n 1, 1) := by decide +kernel
theorem dX8_power_21 : decode cX8_power 21 = .ok (.iconst 3, 1) := by decide +kernel
theorem dX8_power_22 : decode cX8_power 22 = .ok (.if_icmp .ne 7, 3) := by decide +kernel
theorem dX8_power_25 : decode cX8_power 25 = .ok (.iconst 2, 1) := by decide +kernel
theorem dX8_power_26 : decode cX8_power 26 = .ok (.goto 4, 3) := by decide +kernel
theorem dX8_power_29 : decode cX8_power 29 = .ok (.iconst 0, 1) := by decide +kernel
theorem dX8_power_30 : decode cX8_power 30 = .ok (.iadd, 1) := by decide +kernel
theorem dX8_power_31 : decode cX8_power 31 = .ok (.ireturn, 1) := by decide +kernel
theorem dX8_speed_0 : decode cX8_speed 0 = .ok (.aload_n 0, 1) := by decide +kernel
theorem dX8_speed_1 : decode cX8_speed 1 = .ok (.getfield 9, 3) := by decide +kernel
theorem dX8_speed_4 : decode cX8_speed 4 = .ok (.iconst 0, 1) := by decide +kernel
theorem dX8_speed_5 : decode cX8_speed 5 = .ok (.iconst 3, 1) := by decide +kernel
theorem dX8_speed_6 : decode cX8_speed 6 = .ok (.invokevirtual 15, 3) := by decide +kernel
theorem dX8_speed_9 : decode cX8_speed 9 = .ok (.iconst 2, 1) := by decide +kernel
theorem dX8_speed_10 : decode cX8_speed 10 = .ok (.ireturn, 1) := by decide +kernel
theorem dX9_init_0 : decode cX9_init 0 = .ok (.aload_n 0, 1) := by decide +kernel
theorem dX9_init_1 : decode cX9_init 1 = .ok (.invokespecial 3, 3) := by decide +kernel
theorem dX9_init_4 : decode cX9_init 4 = .ok (.aload_n 0, 1) := by decide +kernel
theorem dX9_init_5 : decode cX9_init 5 = .ok (.new 9, 3) := by decide +kernel
theorem dX9_init_8 : decode cX9_init 8 = .ok (.dup, 1) := by decide +kernel
theorem dX9_init_9 : decode cX9_init 9 = .ok (.invokespecial 11, 3) := by decide +kernel
theorem dX9_init_12 : decode cX9_init 12 = .ok (.putfield 12, 3) := by decide +kernel
theorem dX9_init_15 : decode cX9_init 15 = .ok (.aload_n 0, 1) := by decide +kernel
theorem dX9_init_16 : decode cX9_init 16 = .ok (.new 16, 3) := by decide +kernel
theorem dX9_init_19 : decode cX9_init 19 = .ok (.dup, 1) := by decide +kernel
theorem dX9_init_20 : decode cX9_init 20 = .ok (.aload_n 0, 1) := by decide +kernel
theorem dX9_init_21 : decode cX9_init 21 = .ok (.getfield 12, 3) := by decide +kernel
theorem dX9_init_24 : decode cX9_init 24 = .ok (.invokespecial 18, 3) := by decide +kernel
theorem dX9_init_27 : decode cX9_init 27 = .ok (.putfield 21, 3) := by decide +kernel
theorem dX9_init_30 : decode cX9_init 30 = .ok (.aload_n 0, 1) := by decide +kernel
theorem dX9_init_31 : decode cX9_init 31 = .ok (.new 25, 3) := by decide +kernel
theorem dX9_init_34 : decode cX9_init 34 = .ok (.dup, 1) := by decide +kernel
theorem dX9_init_35 : decode cX9_init 35 = .ok (.invokespecial 27, 3) := by decide +kernel
theorem dX9_init_38 : decode cX9_init 38 = .ok (.putfield 28, 3) := by decide +kernel
theorem dX9_init_41 : decode cX9_init 41 = .ok (.aload_n 0, 1) := by decide +kernel
theorem dX9_init_42 : decode cX9_init 42 = .ok (.iconst 5, 1) := by decide +kernel
theorem dX9_init_43 : decode cX9_init 43 = .ok (.anewarray 32, 3) := by decide +kernel
theorem dX9_init_46 : decode cX9_init 46 = .ok (.dup, 1) := by decide +kernel
theorem dX9_init_47 : decode cX9_init 47 = .ok (.iconst 0, 1) := by decide +kernel
theorem dX9_init_48 : decode cX9_init 48 = .ok (.new 34, 3) := by decide +kernel
theorem dX9_init_51 : decode cX9_init 51 = .ok (.dup, 1) := by decide +kernel
theorem dX9_init_52 : decode cX9_init 52 = .ok (.aload_n 0, 1) := by decide +kernel
theorem dX9_init_53 : decode cX9_init 53 = .ok (.getfield 28, 3) := by decide +kernel
theorem dX9_init_56 : decode cX9_init 56 = .ok (.invokespecial 36, 3) := by decide +kernel
theorem dX9_init_59 : decode cX9_init 59 = .ok (.aastore, 1) := by decide +kernel
theorem dX9_init_60 : decode cX9_init 60 = .ok (.dup, 1) := by decide +kernel
theorem dX9_init_61 : decode cX9_init 61 = .ok (.iconst 1, 1) := by decide +kernel
theorem dX9_init_62 : decode cX9_init 62 = .ok (.new 39, 3) := by decide +kernel
theorem dX9_init_65 : decode cX9_init 65 = .ok (.dup, 1) := by decide +kernel
theorem dX9_init_66 : decode cX9_init 66 = .ok (.aload_n 0, 1) := by decide +kernel
theorem dX9_init_67 : decode cX9_init 67 = .ok (.getfield 28, 3) := by decide +kernel
theorem dX9_init_70 : decode cX9_init 70 = .ok (.invokespecial 41, 3) := by decide +kernel
theorem dX9_init_73 : decode cX9_init 73 = .ok (.aastore, 1) := by decide +kernel
theorem dX9_init_74 : decode cX9_init 74 = .ok (.dup, 1) := by decide +kernel
theorem dX9_init_75 : decode cX9_init 75 = .ok (.iconst 2, 1) := by decide +kernel
theorem dX9_init_76 : decode cX9_init 76 = .ok (.new 42, 3) := by decide +kernel
theorem dX9_init_79 : decode cX9_init 79 = .ok (.dup, 1) := by decide +kernel
theorem dX9_init_80 : decode cX9_init 80 = .ok (.aload_n 0, 1) := by decide +kernel
theorem dX9_init_81 : decode cX9_init 81 = .ok (.getfield 28, 3) := by decide +kernel
theorem dX9_init_84 : decode cX9_init 84 = .ok (.invokespecial 44, 3) := by decide +kernel
theorem dX9_init_87 : decode cX9_init 87 = .ok (.aastore, 1) := by decide +kernel
theorem dX9_init_88 : decode cX9_init 88 = .ok (.dup, 1) := by decide +kernel
theorem dX9_init_89 : decode cX9_init 89 = .ok (.iconst 3, 1) := by decide +kernel
theorem dX9_init_90 : decode cX9_init 90 = .ok (.new 45, 3) := by decide +kernel
theorem dX9_init_93 : decode cX9_init 93 = .ok (.dup, 1) := by decide +kernel
theorem dX9_init_94 : decode cX9_init 94 = .ok (.aload_n 0, 1) := by decide +kernel
theorem dX9_init_95 : decode cX9_init 95 = .ok (.getfield 28, 3) := by decide +kernel
theorem dX9_init_98 : decode cX9_init 98 = .ok (.invokespecial 47, 3) := by decide +kernel
theorem dX9_init_101 : decode cX9_init 101 = .ok (.aastore, 1) := by decide +kernel
theorem dX9_init_102 : decode cX9_init 102 = .ok (.dup, 1) := by decide +kernel
theorem dX9_init_103 : decode cX9_init 103 = .ok (.iconst 4, 1) := by decide +kernel
theorem dX9_init_104 : decode cX9_init 104 = .ok (.new 48, 3) := by decide +kernel
theorem dX9_init_107 : decode cX9_init 107 = .ok (.dup, 1) := by decide +kernel
theorem dX9_init_108 : decode cX9_init 108 = .ok (.aload_n 0, 1) := by decide +kernel
theorem dX9_init_109 : decode cX9_init 109 = .ok (.getfield 28, 3) := by decide +kernel
theorem dX9_init_112 : decode cX9_init 112 = .ok (.invokespecial 50, 3) := by decide +kernel
theorem dX9_init_115 : decode cX9_init 115 = .ok (.aastore, 1) := by decide +kernel
theorem dX9_init_116 : decode cX9_init 116 = .ok (.putfield 51, 3) := by decide +kernel
theorem dX9_init_119 : decode cX9_init 119 = .ok (.aload_n 0, 1) := by decide +kernel
theorem dX9_init_120 : decode cX9_init 120 = .ok (.bipush 60, 2) := by decide +kernel
theorem dX9_init_122 : decode cX9_init 122 = .ok (.newarray .int, 2) := by decide +kernel
theorem dX9_init_124 : decode cX9_init 124 = .ok (.putfield 55, 3) := by decide +kernel
theorem dX9_init_127 : decode cX9_init 127 = .ok (.aload_n 0, 1) := by decide +kernel
theorem dX9_init_128 : decode cX9_init 128 = .ok (.bipush 60, 2) := by decide +kernel
theorem dX9_init_130 : decode cX9_init 130 = .ok (.newarray .int, 2) := by decide +kernel
theorem dX9_init_132 : decode cX9_init 132 = .ok (.putfield 59, 3) := by decide +kernel
theorem dX9_init_135 : decode cX9_init 135 = .ok (.aload_n 0, 1) := by decide +kernel
theorem dX9_init_136 : decode cX9_init 136 = .ok (.bipush 60, 2) := by decide +kernel
theorem dX9_init_138 : decode cX9_init 138 = .ok (.newarray .int, 2) := by decide +kernel
theorem dX9_init_140 : decode cX9_init 140 = .ok (.putfield 62, 3) := by decide +kernel
theorem dX9_init_143 : decode cX9_init 143 = .ok (.aload_n 0, 1) := by decide +kernel
theorem dX9_init_144 : decode cX9_init 144 = .ok (.bipush 60, 2) := by decide +kernel
theorem dX9_init_146 : decode cX9_init 146 = .ok (.newarray .int, 2) := by decide +kernel
theorem dX9_init_148 : decode cX9_init 148 = .ok (.putfield 65, 3) := by decide +kernel
theorem dX9_init_151 : decode cX9_init 151 = .ok (.aload_n 0, 1) := by decide +kernel
theorem dX9_init_152 : decode cX9_init 152 = .ok (.iconst 3, 1) := by decide +kernel
theorem dX9_init_153 : decode cX9_init 153 = .ok (.newarray .int, 2) := by decide +kernel
theorem dX9_init_155 : decode cX9_init 155 = .ok (.putfield 68, 3) := by decide +kernel
theorem dX9_init_158 : decode cX9_init 158 = .ok (.aload_n 0, 1) := by decide +kernel
theorem dX9_init_159 : decode cX9_init 159 = .ok (.iconst 3, 1) := by decide +kernel
theorem dX9_init_160 : decode cX9_init 160 = .ok (.newarray .int, 2) := by decide +kernel
theorem dX9_init_162 : decode cX9_init 162 = .ok (.putfield 71, 3) := by decide +kernel
theorem dX9_init_165 : decode cX9_init 165 = .ok (.aload_n 0, 1) := by decide +kernel
theorem dX9_init_166 : decode cX9_init 166 = .ok (.iconst 0, 1) := by decide +kernel
theorem dX9_init_167 : decode cX9_init 167 = .ok (.putfield 74, 3) := by decide +kernel
theorem dX9_init_170 : decode cX9_init 170 = .ok (.aload_n 0, 1) := by decide +kernel
theorem dX9_init_171 : decode cX9_init 171 = .ok (.iconst 0, 1) := by decide +kernel
theorem dX9_init_172 : decode cX9_init 172 = .ok (.putfield 78, 3) := by decide +kernel
theorem dX9_init_175 : decode cX9_init 175 = .ok (.aload_n 0, 1) := by decide +kernel
theorem dX9_init_176 : decode cX9_init 176 = .ok (.iconst 0, 1) := by decide +kernel
theorem dX9_init_177 : decode cX9_init 177 = .ok (.putfield 81, 3) := by decide +kernel
theorem dX9_init_180 : decode cX9_init 180 = .ok (.iconst 0, 1) := by decide +kernel
theorem dX9_init_181 : decode cX9_init 181 = .ok (.istore_n 1, 1) := by decide +kernel
theorem dX9_init_182 : decode cX9_init 182 = .ok (.iload_n 1, 1) := by decide +kernel
theorem dX9_init_183 : decode cX9_init 183 = .ok (.iconst 2, 1) := by decide +kernel
theorem dX9_init_184 : decode cX9_init 184 = .ok (.if_icmp .gt 23, 3) := by decide +kernel
theorem dX9_init_187 : decode cX9_init 187 = .ok (.aload_n 0, 1) := by decide +kernel
theorem dX9_init_188 : decode cX9_init 188 = .ok (.getfield 12, 3) := by decide +kernel
theorem dX9_init_191 : decode cX9_init 191 = .ok (.sipush 8544, 3) := by decide +kernel
theorem dX9_init_194 : decode cX9_init 194 = .ok (.iload_n 1, 1) := by decide +kernel
theorem dX9_init_195 : decode cX9_init 195 = .ok (.iadd, 1) := by decide +kernel
theorem dX9_init_196 : decode cX9_init 196 = .ok (.bipush 100, 2) := by decide +kernel
theorem dX9_init_198 : decode cX9_init 198 = .ok (.invokevirtual 84, 3) := by decide +kernel
theorem dX9_init_201 : decode cX9_init 201 = .ok (.iinc 1 1, 3) := by decide +kernel
theorem dX9_init_204 : decode cX9_init 204 = .ok (.goto (-22), 3) := by decide +kernel
theorem dX9_init_207 : decode cX9_init 207 = .ok (.return_, 1) := by decide +kernel
theorem dX9_machine_0 : decode cX9_machine 0 = .ok (.iload_n 1, 1) := by decide +kernel
theorem dX9_machine_1 : decode cX9_machine 1 = .ok (.invokestatic 88, 3) := by decide +kernel
theorem dX9_machine_4 : decode cX9_machine 4 = .ok (.ifCond .ne 5, 3) := by decide +kernel
theorem dX9_machine_7 : decode cX9_machine 7 = .ok (.iconst (-1), 1) := by decide +kernel
theorem dX9_machine_8 : decode cX9_machine 8 = .ok (.ireturn, 1) := by decide +kernel
theorem dX9_machine_9 : decode cX9_machine 9 = .ok (.iload_n 2, 1) := by decide +kernel
theorem dX9_machine_10 : decode cX9_machine 10 = .ok (.iconst 4, 1) := by decide +kernel
theorem dX9_machine_11 : decode cX9_machine 11 = .ok (.if_icmp .ne 7, 3) := by decide +kernel
theorem dX9_machine_14 : decode cX9_machine 14 = .ok (.iconst 0, 1) := by decide +kernel
theorem dX9_machine_15 : decode cX9_machine 15 = .ok (.goto 4, 3) := by decide +kernel
theorem dX9_machine_18 : decode cX9_machine 18 = .ok (.iconst 1, 1) := by decide +kernel
theorem dX9_machine_19 : decode cX9_machine 19 = .ok (.istore 5, 2) := by decide +kernel
theorem dX9_machine_21 : decode cX9_machine 21 = .ok (.iload_n 2, 1) := by decide +kernel
theorem dX9_machine_22 : decode cX9_machine 22 = .ok (.iconst 0, 1) := by decide +kernel
theorem dX9_machine_23 : decode cX9_machine 23 = .ok (.iconst 4, 1) := by decide +kernel
theorem dX9_machine_24 : decode cX9_machine 24 = .ok (.invokestatic 92, 3) := by decide +kernel
theorem dX9_machine_27 : decode cX9_machine 27 = .ok (.ifCond .eq 27, 3) := by decide +kernel
theorem dX9_machine_30 : decode cX9_machine 30 = .ok (.iload_n 3, 1) := by decide +kernel
theorem dX9_machine_31 : decode cX9_machine 31 = .ok (.iload 5, 2) := by decide +kernel
theorem dX9_machine_33 : decode cX9_machine 33 = .ok (.sipush 20000, 3) := by decide +kernel
theorem dX9_machine_36 : decode cX9_machine 36 = .ok (.invokestatic 92, 3) := by decide +kernel
theorem dX9_machine_39 : decode cX9_machine 39 = .ok (.ifCond .eq 15, 3) := by decide +kernel
theorem dX9_machine_42 : decode cX9_machine 42 = .ok (.iload 4, 2) := by decide +kernel
theorem dX9_machine_44 : decode cX9_machine 44 = .ok (.iconst 0, 1) := by decide +kernel
theorem dX9_machine_45 : decode cX9_machine 45 = .ok (.sipush 5000, 3) := by decide +kernel
theorem dX9_machine_48 : decode cX9_machine 48 = .ok (.invokestatic 92, 3) := by decide +kernel
theorem dX9_machine_51 : decode cX9_machine 51 = .ok (.ifCond .ne 6, 3) := by decide +kernel
theorem dX9_machine_54 : decode cX9_machine 54 = .ok (.bipush (-2), 2) := by decide +kernel
theorem dX9_machine_56 : decode cX9_machine 56 = .ok (.ireturn, 1) := by decide +kernel
theorem dX9_machine_57 : decode cX9_machine 57 = .ok (.aload_n 0, 1) := by decide +kernel
theorem dX9_machine_58 : decode cX9_machine 58 = .ok (.iload_n 1, 1) := by decide +kernel
theorem dX9_machine_59 : decode cX9_machine 59 = .ok (.invokevirtual 96, 3) := by decide +kernel
theorem dX9_machine_62 : decode cX9_machine 62 = .ok (.ifCond .eq 6, 3) := by decide +kernel
theorem dX9_machine_65 : decode cX9_machine 65 = .ok (.bipush (-3), 2) := by decide +kernel
theorem dX9_machine_67 : decode cX9_machine 67 = .ok (.ireturn, 1) := by decide +kernel
theorem dX9_machine_68 : decode cX9_machine 68 = .ok (.aload_n 0, 1) := by decide +kernel
theorem dX9_machine_69 : decode cX9_machine 69 = .ok (.iload_n 1, 1) := by decide +kernel
theorem dX9_machine_70 : decode cX9_machine 70 = .ok (.iconst 0, 1) := by decide +kernel
theorem dX9_machine_71 : decode cX9_machine 71 = .ok (.iload_n 2, 1) := by decide +kernel
theorem dX9_machine_72 : decode cX9_machine 72 = .ok (.iconst 1, 1) := by decide +kernel
theorem dX9_machine_73 : decode cX9_machine 73 = .ok (.iadd, 1) := by decide +kernel
theorem dX9_machine_74 : decode cX9_machine 74 = .ok (.invokevirtual 99, 3) := by decide +kernel
theorem dX9_machine_77 : decode cX9_machine 77 = .ok (.aload_n 0, 1) := by decide +kernel
theorem dX9_machine_78 : decode cX9_machine 78 = .ok (.iload_n 1, 1) := by decide +kernel
theorem dX9_machine_79 : decode cX9_machine 79 = .ok (.iconst 1, 1) := by decide +kernel
theorem dX9_machine_80 : decode cX9_machine 80 = .ok (.iload 4, 2) := by decide +kernel
theorem dX9_machine_82 : decode cX9_machine 82 = .ok (.invokevirtual 99, 3) := by decide +kernel
theorem dX9_machine_85 : decode cX9_machine 85 = .ok (.aload_n 0, 1) := by decide +kernel
theorem dX9_machine_86 : decode cX9_machine 86 = .ok (.iload_n 1, 1) := by decide +kernel
theorem dX9_machine_87 : decode cX9_machine 87 = .ok (.iconst 2, 1) := by decide +kernel
theorem dX9_machine_88 : decode cX9_machine 88 = .ok (.iconst 1, 1) := by decide +kernel
theorem dX9_machine_89 : decode cX9_machine 89 = .ok (.invokevirtual 99, 3) := by decide +kernel
theorem dX9_machine_92 : decode cX9_machine 92 = .ok (.aload_n 0, 1) := by decide +kernel
theorem dX9_machine_93 : decode cX9_machine 93 = .ok (.iload_n 1, 1) := by decide +kernel
theorem dX9_machine_94 : decode cX9_machine 94 = .ok (.iconst 3, 1) := by decide +kernel
theorem dX9_machine_95 : decode cX9_machine 95 = .ok (.iconst 1, 1) := by decide +kernel
theorem dX9_machine_96 : decode cX9_machine 96 = .ok (.invokevirtual 99, 3) := by decide +kernel
theorem dX9_machine_99 : decode cX9_machine 99 = .ok (.aload_n 0, 1) := by decide +kernel
theorem dX9_machine_100 : decode cX9_machine 100 = .ok (.iload_n 1, 1) := by decide +kernel
theorem dX9_machine_101 : decode cX9_machine 101 = .ok (.bipush 13, 2) := by decide +kernel
theorem dX9_machine_103 : decode cX9_machine 103 = .ok (.iload_n 3, 1) := by decide +kernel
theorem dX9_machine_104 : decode cX9_machine 104 = .ok (.invokevirtual 99, 3) := by decide +kernel
theorem dX9_machine_107 : decode cX9_machine 107 = .ok (.aload_n 0, 1) := by decide +kernel
theorem dX9_machine_108 : decode cX9_machine 108 = .ok (.iload_n 1, 1) := by decide +kernel
theorem dX9_machine_109 : decode cX9_machine 109 = .ok (.bipush 8, 2) := by decide +kernel
theorem dX9_machine_111 : decode cX9_machine 111 = .ok (.iload_n 2, 1) := by decide +kernel
theorem dX9_machine_112 : decode cX9_machine 112 = .ok (.iconst 4, 1) := by decide +kernel
theorem dX9_machine_113 : decode cX9_machine 113 = .ok (.if_icmp .ne 11, 3) := by decide +kernel
theorem dX9_machine_116 : decode cX9_machine 116 = .ok (.iload_n 3, 1) := by decide +kernel
theorem dX9_machine_117 : decode cX9_machine 117 = .ok (.ifCond .le 7, 3) := by decide +kernel
theorem dX9_machine_120 : decode cX9_machine 120 = .ok (.iconst 1, 1) := by decide +kernel
theorem dX9_machine_121 : decode cX9_machine 121 = .ok (.goto 4, 3) := by decide +kernel
theorem dX9_machine_124 : decode cX9_machine 124 = .ok (.iconst 0, 1) := by decide +kernel
theorem dX9_machine_125 : decode cX9_machine 125 = .ok (.invokevirtual 99, 3) := by decide +kernel
theorem dX9_machine_128 : decode cX9_machine 128 = .ok (.iconst 1, 1) := by decide +kernel
theorem dX9_machine_129 : decode cX9_machine 129 = .ok (.ireturn, 1) := by decide +kernel
theorem dX9_drum_0 : decode cX9_drum 0 = .ok (.iload_n 1, 1) := by decide +kernel
theorem dX9_drum_1 : decode cX9_drum 1 = .ok (.invokestatic 88, 3) := by decide +kernel
theorem dX9_drum_4 : decode cX9_drum 4 = .ok (.ifCond .ne 5, 3) := by decide +kernel
theorem dX9_drum_7 : decode cX9_drum 7 = .ok (.iconst (-1), 1) := by decide +kernel
theorem dX9_drum_8 : decode cX9_drum 8 = .ok (.ireturn, 1) := by decide +kernel
theorem dX9_drum_9 : decode cX9_drum 9 = .ok (.iload_n 2, 1) := by decide +kernel
theorem dX9_drum_10 : decode cX9_drum 10 = .ok (.iconst 1, 1) := by decide +kernel
theorem dX9_drum_11 : decode cX9_drum 11 = .ok (.sipush 20000, 3) := by decide +kernel
theorem dX9_drum_14 : decode cX9_drum 14 = .ok (.invokestatic 92, 3) := by decide +kernel
theorem dX9_drum_17 : decode cX9_drum 17 = .ok (.ifCond .ne 6, 3) := by decide +kernel
theorem dX9_drum_20 : decode cX9_drum 20 = .ok (.bipush (-2), 2) := by decide +kernel
theorem dX9_drum_22 : decode cX9_drum 22 = .ok (.ireturn, 1) := by decide +kernel
theorem dX9_drum_23 : decode cX9_drum 23 = .ok (.aload_n 0, 1) := by decide +kernel
theorem dX9_drum_24 : decode cX9_drum 24 = .ok (.iload_n 1, 1) := by decide +kernel
theorem dX9_drum_25 : decode cX9_drum 25 = .ok (.invokevirtual 96, 3) := by decide +kernel
theorem dX9_drum_28 : decode cX9_drum 28 = .ok (.ifCond .ne 9, 3) := by decide +kernel
theorem dX9_drum_31 : decode cX9_drum 31 = .ok (.aload_n 0, 1) := by decide +kernel
theorem dX9_drum_32 : decode cX9_drum 32 = .ok (.iconst 1, 1) := by decide +kernel
theorem dX9_drum_33 : decode cX9_drum 33 = .ok (.invokevirtual 103, 3) := by decide +kernel
theorem dX9_drum_36 : decode cX9_drum 36 = .ok (.ireturn, 1) := by decide +kernel
theorem dX9_drum_37 : decode cX9_drum 37 = .ok (.aload_n 0, 1) := by decide +kernel
theorem dX9_drum_38 : decode cX9_drum 38 = .ok (.iload_n 1, 1) := by decide +kernel
theorem dX9_drum_39 : decode cX9_drum 39 = .ok (.invokevirtual 107, 3) := by decide +kernel
theorem dX9_drum_42 : decode cX9_drum 42 = .ok (.ifCond .ne 9, 3) := by decide +kernel
theorem dX9_drum_45 : decode cX9_drum 45 = .ok (.aload_n 0, 1) := by decide +kernel
theorem dX9_drum_46 : decode cX9_drum 46 = .ok (.iconst 5, 1) := by decide +kernel
theorem dX9_drum_47 : decode cX9_drum 47 = .ok (.invokevirtual 103, 3) := by decide +kernel
theorem dX9_drum_50 : decode cX9_drum 50 = .ok (.ireturn, 1) := by decide +kernel
theorem dX9_drum_51 : decode cX9_drum 51 = .ok (.aload_n 0, 1) := by decide +kernel
theorem dX9_drum_52 : decode cX9_drum 52 = .ok (.iload_n 1, 1) := by decide +kernel
theorem dX9_drum_53 : decode cX9_drum 53 = .ok (.bipush 9, 2) := by decide +kernel
theorem dX9_drum_55 : decode cX9_drum 55 = .ok (.invokevirtual 110, 3) := by decide +kernel
theorem dX9_drum_58 : decode cX9_drum 58 = .ok (.ifCond .gt 11, 3) := by decide +kernel
theorem dX9_drum_61 : decode cX9_drum 61 = .ok (.aload_n 0, 1) := by decide +kernel
theorem dX9_drum_62 : decode cX9_drum 62 = .ok (.iload_n 1, 1) := by decide +kernel
theorem dX9_drum_63 : decode cX9_drum 63 = .ok (.invokevirtual 114, 3) := by decide +kernel
theorem dX9_drum_66 : decode cX9_drum 66 = .ok (.ifCond .eq 10, 3) := by decide +kernel
theorem dX9_drum_69 : decode cX9_drum 69 = .ok (.aload_n 0, 1) := by decide +kernel
theorem dX9_drum_70 : decode cX9_drum 70 = .ok (.bipush 7, 2) := by decide +kernel
theorem dX9_drum_72 : decode cX9_drum 72 = .ok (.invokevirtual 103, 3) := by decide +kernel
theorem dX9_drum_75 : decode cX9_drum 75 = .ok (.ireturn, 1) := by decide +kernel
theorem dX9_drum_76 : decode cX9_drum 76 = .ok (.aload_n 0, 1) := by decide +kernel
theorem dX9_drum_77 : decode cX9_drum 77 = .ok (.iload_n 1, 1) := by decide +kernel
theorem dX9_drum_78 : decode cX9_drum 78 = .ok (.bipush 8, 2) := by decide +kernel
theorem dX9_drum_80 : decode cX9_drum 80 = .ok (.invokevirtual 110, 3) := by decide +kernel
theorem dX9_drum_83 : decode cX9_drum 83 = .ok (.istore_n 3, 1) := by decide +kernel
theorem dX9_drum_84 : decode cX9_drum 84 = .ok (.iload_n 3, 1) := by decide +kernel
theorem dX9_drum_85 : decode cX9_drum 85 = .ok (.bipush 6, 2) := by decide +kernel
theorem dX9_drum_87 : decode cX9_drum 87 = .ok (.if_icmp .lt 6, 3) := by decide +kernel
theorem dX9_drum_90 : decode cX9_drum 90 = .ok (.bipush (-4), 2) := by decide +kernel
theorem dX9_drum_92 : decode cX9_drum 92 = .ok (.ireturn, 1) := by decide +kernel
theorem dX9_drum_93 : decode cX9_drum 93 = .ok (.aload_n 0, 1) := by decide +kernel
theorem dX9_drum_94 : decode cX9_drum 94 = .ok (.iload_n 1, 1) := by decide +kernel
theorem dX9_drum_95 : decode cX9_drum 95 = .ok (.bipush 13, 2) := by decide +kernel
theorem dX9_drum_97 : decode cX9_drum 97 = .ok (.iload_n 3, 1) := by decide +kernel
theorem dX9_drum_98 : decode cX9_drum 98 = .ok (.iadd, 1) := by decide +kernel
theorem dX9_drum_99 : decode cX9_drum 99 = .ok (.iload_n 2, 1) := by decide +kernel
theorem dX9_drum_100 : decode cX9_drum 100 = .ok (.invokevirtual 99, 3) := by decide +kernel
theorem dX9_drum_103 : decode cX9_drum 103 = .ok (.aload_n 0, 1) := by decide +kernel
theorem dX9_drum_104 : decode cX9_drum 104 = .ok (.iload_n 1, 1) := by decide +kernel
theorem dX9_drum_105 : decode cX9_drum 105 = .ok (.bipush 8, 2) := by decide +kernel
theorem dX9_drum_107 : decode cX9_drum 107 = .ok (.iload_n 3, 1) := by decide +kernel
theorem dX9_drum_108 : decode cX9_drum 108 = .ok (.iconst 1, 1) := by decide +kernel
theorem dX9_drum_109 : decode cX9_drum 109 = .ok (.iadd, 1) := by decide +kernel
theorem dX9_drum_110 : decode cX9_drum 110 = .ok (.invokevirtual 99, 3) := by decide +kernel
theorem dX9_drum_113 : decode cX9_drum 113 = .ok (.iload_n 3, 1) := by decide +kernel
theorem dX9_drum_114 : decode cX9_drum 114 = .ok (.iconst 1, 1) := by decide +kernel
theorem dX9_drum_115 : decode cX9_drum 115 = .ok (.iadd, 1) := by decide +kernel
theorem dX9_drum_116 : decode cX9_drum 116 = .ok (.ireturn, 1) := by decide +kernel
theorem dX9_remove_0 : decode cX9_remove 0 = .ok (.iload_n 1, 1) := by decide +kernel
theorem dX9_remove_1 : decode cX9_remove 1 = .ok (.invokestatic 88, 3) := by decide +kernel
theorem dX9_remove_4 : decode cX9_remove 4 = .ok (.ifCond .ne 5, 3) := by decide +kernel
theorem dX9_remove_7 : decode cX9_remove 7 = .ok (.iconst (-1), 1) := by decide +kernel
theorem dX9_remove_8 : decode cX9_remove 8 = .ok (.ireturn, 1) := by decide +kernel
theorem dX9_remove_9 : decode cX9_remove 9 = .ok (.aload_n 0, 1) := by decide +kernel
theorem dX9_remove_10 : decode cX9_remove 10 = .ok (.iload_n 1, 1) := by decide +kernel
theorem dX9_remove_11 : decode cX9_remove 11 = .ok (.invokevirtual 96, 3) := by decide +kernel
theorem dX9_remove_14 : decode cX9_remove 14 = .ok (.ifCond .ne 9, 3) := by decide +kernel
theorem dX9_remove_17 : decode cX9_remove 17 = .ok (.aload_n 0, 1) := by decide +kernel
theorem dX9_remove_18 : decode cX9_remove 18 = .ok (.iconst 1, 1) := by decide +kernel
theorem dX9_remove_19 : decode cX9_remove 19 = .ok (.invokevirtual 103, 3) := by decide +kernel
theorem dX9_remove_22 : decode cX9_remove 22 = .ok (.ireturn, 1) := by decide +kernel
theorem dX9_remove_23 : decode cX9_remove 23 = .ok (.aload_n 0, 1) := by decide +kernel
theorem dX9_remove_24 : decode cX9_remove 24 = .ok (.iload_n 1, 1) := by decide +kernel
theorem dX9_remove_25 : decode cX9_remove 25 = .ok (.bipush 9, 2) := by decide +kernel
theorem dX9_remove_27 : decode cX9_remove 27 = .ok (.invokevirtual 110, 3) := by decide +kernel
theorem dX9_remove_30 : decode cX9_remove 30 = .ok (.ifCond .gt 22, 3) := by decide +kernel
theorem dX9_remove_33 : decode cX9_remove 33 = .ok (.aload_n 0, 1) := by decide +kernel
theorem dX9_remove_34 : decode cX9_remove 34 = .ok (.iload_n 1, 1) := by decide +kernel
theorem dX9_remove_35 : decode cX9_remove 35 = .ok (.invokevirtual 114, 3) := by decide +kernel
theorem dX9_remove_38 : decode cX9_remove 38 = .ok (.ifCond .ne 14, 3) := by decide +kernel
theorem dX9_remove_41 : decode cX9_remove 41 = .ok (.aload_n 0, 1) := by decide +kernel
theorem dX9_remove_42 : decode cX9_remove 42 = .ok (.getfield 21, 3) := by decide +kernel
theorem dX9_remove_45 : decode cX9_remove 45 = .ok (.iload_n 1, 1) := by decide +kernel
theorem dX9_remove_46 : decode cX9_remove 46 = .ok (.invokevirtual 117, 3) := by decide +kernel
theorem dX9_remove_49 : decode cX9_remove 49 = .ok (.ifCond .le 10, 3) := by decide +kernel
theorem dX9_remove_52 : decode cX9_remove 52 = .ok (.aload_n 0, 1) := by decide +kernel
theorem dX9_remove_53 : decode cX9_remove 53 = .ok (.bipush 7, 2) := by decide +kernel
theorem dX9_remove_55 : decode cX9_remove 55 = .ok (.invokevirtual 103, 3) := by decide +kernel
theorem dX9_remove_58 : decode cX9_remove 58 = .ok (.ireturn, 1) := by decide +kernel
theorem dX9_remove_59 : decode cX9_remove 59 = .ok (.aload_n 0, 1) := by decide +kernel
theorem dX9_remove_60 : decode cX9_remove 60 = .ok (.iload_n 1, 1) := by decide +kernel
theorem dX9_remove_61 : decode cX9_remove 61 = .ok (.iconst 0, 1) := by decide +kernel
theorem dX9_remove_62 : decode cX9_remove 62 = .ok (.invokevirtual 110, 3) := by decide +kernel
theorem dX9_remove_65 : decode cX9_remove 65 = .ok (.iconst 1, 1) := by decide +kernel
theorem dX9_remove_66 : decode cX9_remove 66 = .ok (.isub, 1) := by decide +kernel
theorem dX9_remove_67 : decode cX9_remove 67 = .ok (.istore_n 2, 1) := by decide +kernel
theorem dX9_remove_68 : decode cX9_remove 68 = .ok (.iconst 0, 1) := by decide +kernel
theorem dX9_remove_69 : decode cX9_remove 69 = .ok (.istore_n 3, 1) := by decide +kernel
theorem dX9_remove_70 : decode cX9_remove 70 = .ok (.iload_n 3, 1) := by decide +kernel
theorem dX9_remove_71 : decode cX9_remove 71 = .ok (.bipush 78, 2) := by decide +kernel
theorem dX9_remove_73 : decode cX9_remove 73 = .ok (.if_icmp .ge 16, 3) := by decide +kernel
theorem dX9_remove_76 : decode cX9_remove 76 = .ok (.aload_n 0, 1) := by decide +kernel
theorem dX9_remove_77 : decode cX9_remove 77 = .ok (.iload_n 1, 1) := by decide +kernel
theorem dX9_remove_78 : decode cX9_remove 78 = .ok (.iload_n 3, 1) := by decide +kernel
theorem dX9_remove_79 : decode cX9_remove 79 = .ok (.iconst 0, 1) := by decide +kernel
theorem dX9_remove_80 : decode cX9_remove 80 = .ok (.invokevirtual 99, 3) := by decide +kernel
theorem dX9_remove_83 : decode cX9_remove 83 = .ok (.iinc 3 1, 3) := by decide +kernel
theorem dX9_remove_86 : decode cX9_remove 86 = .ok (.goto (-16), 3) := by decide +kernel
theorem dX9_remove_89 : decode cX9_remove 89 = .ok (.iload_n 2, 1) := by decide +kernel
theorem dX9_remove_90 : decode cX9_remove 90 = .ok (.ireturn, 1) := by decide +kernel
theorem dX9_told_0 : decode cX9_told 0 = .ok (.iload_n 1, 1) := by decide +kernel
theorem dX9_told_1 : decode cX9_told 1 = .ok (.invokestatic 88, 3) := by decide +kernel
theorem dX9_told_4 : decode cX9_told 4 = .ok (.ifCond .ne 5, 3) := by decide +kernel
theorem dX9_told_7 : decode cX9_told 7 = .ok (.iconst (-1), 1) := by decide +kernel
theorem dX9_told_8 : decode cX9_told 8 = .ok (.ireturn, 1) := by decide +kernel
theorem dX9_told_9 : decode cX9_told 9 = .ok (.iload_n 2, 1) := by decide +kernel
theorem dX9_told_10 : decode cX9_told 10 = .ok (.iconst 0, 1) := by decide +kernel
theorem dX9_told_11 : decode cX9_told 11 = .ok (.bipush 12, 2) := by decide +kernel
theorem dX9_told_13 : decode cX9_told 13 = .ok (.invokestatic 92, 3) := by decide +kernel
theorem dX9_told_16 : decode cX9_told 16 = .ok (.ifCond .ne 6, 3) := by decide +kernel
theorem dX9_told_19 : decode cX9_told 19 = .ok (.bipush (-2), 2) := by decide +kernel
theorem dX9_told_21 : decode cX9_told 21 = .ok (.ireturn, 1) := by decide +kernel
theorem dX9_told_22 : decode cX9_told 22 = .ok (.aload_n 0, 1) := by decide +kernel
theorem dX9_told_23 : decode cX9_told 23 = .ok (.iload_n 1, 1) := by decide +kernel
theorem dX9_told_24 : decode cX9_told 24 = .ok (.invokevirtual 96, 3) := by decide +kernel
theorem dX9_told_27 : decode cX9_told 27 = .ok (.ifCond .ne 9, 3) := by decide +kernel
theorem dX9_told_30 : decode cX9_told 30 = .ok (.aload_n 0, 1) := by decide +kernel
theorem dX9_told_31 : decode cX9_told 31 = .ok (.iconst 1, 1) := by decide +kernel
theorem dX9_told_32 : decode cX9_told 32 = .ok (.invokevirtual 103, 3) := by decide +kernel
theorem dX9_told_35 : decode cX9_told 35 = .ok (.ireturn, 1) := by decide +kernel
theorem dX9_told_36 : decode cX9_told 36 = .ok (.iload_n 2, 1) := by decide +kernel
theorem dX9_told_37 : decode cX9_told 37 = .ok (.tableswitch 171 0 11 #[63, 72, 78, 85, 92, 99, 106, 114, 121, 129, 137, 154], 63) := by decide +kernel
theorem dX9_told_100 : decode cX9_told 100 = .ok (.aload_n 0, 1) := by decide +kernel
theorem dX9_told_101 : decode cX9_told 101 = .ok (.iload_n 1, 1) := by decide +kernel
theorem dX9_told_102 : decode cX9_told 102 = .ok (.iconst 0, 1) := by decide +kernel
theorem dX9_told_103 : decode cX9_told 103 = .ok (.invokevirtual 110, 3) := by decide +kernel
theorem dX9_told_106 : decode cX9_told 106 = .ok (.iconst 1, 1) := by decide +kernel
theorem dX9_told_107 : decode cX9_told 107 = .ok (.isub, 1) := by decide +kernel
theorem dX9_told_108 : decode cX9_told 108 = .ok (.ireturn, 1) := by decide +kernel
theorem dX9_told_109 : decode cX9_told 109 = .ok (.aload_n 0, 1) := by decide +kernel
theorem dX9_told_110 : decode cX9_told 110 = .ok (.iload_n 1, 1) := by decide +kernel
theorem dX9_told_111 : decode cX9_told 111 = .ok (.invokevirtual 120, 3) := by decide +kernel
theorem dX9_told_114 : decode cX9_told 114 = .ok (.ireturn, 1) := by decide +kernel
theorem dX9_told_115 : decode cX9_told 115 = .ok (.aload_n 0, 1) := by decide +kernel
theorem dX9_told_116 : decode cX9_told 116 = .ok (.iload_n 1, 1) := by decide +kernel
theorem dX9_told_117 : decode cX9_told 117 = .ok (.iconst 1, 1) := by decide +kernel
theorem dX9_told_118 : decode cX9_told 118 = .ok (.invokevirtual 110, 3) := by decide +kernel
theorem dX9_told_121 : decode cX9_told 121 = .ok (.ireturn, 1) := by decide +kernel
theorem dX9_told_122 : decode cX9_told 122 = .ok (.aload_n 0, 1) := by decide +kernel
theorem dX9_told_123 : decode cX9_told 123 = .ok (.iload_n 1, 1) := by decide +kernel
theorem dX9_told_124 : decode cX9_told 124 = .ok (.iconst 2, 1) := by decide +kernel
theorem dX9_told_125 : decode cX9_told 125 = .ok (.invokevirtual 110, 3) := by decide +kernel
theorem dX9_told_128 : decode cX9_told 128 = .ok (.ireturn, 1) := by decide +kernel
theorem dX9_told_129 : decode cX9_told 129 = .ok (.aload_n 0, 1) := by decide +kernel
theorem dX9_told_130 : decode cX9_told 130 = .ok (.iload_n 1, 1) := by decide +kernel
theorem dX9_told_131 : decode cX9_told 131 = .ok (.iconst 3, 1) := by decide +kernel
theorem dX9_told_132 : decode cX9_told 132 = .ok (.invokevirtual 110, 3) := by decide +kernel
theorem dX9_told_135 : decode cX9_told 135 = .ok (.ireturn, 1) := by decide +kernel
theorem dX9_told_136 : decode cX9_told 136 = .ok (.aload_n 0, 1) := by decide +kernel
theorem dX9_told_137 : decode cX9_told 137 = .ok (.iload_n 1, 1) := by decide +kernel
theorem dX9_told_138 : decode cX9_told 138 = .ok (.iconst 4, 1) := by decide +kernel
theorem dX9_told_139 : decode cX9_told 139 = .ok (.invokevirtual 110, 3) := by decide +kernel
theorem dX9_told_142 : decode cX9_told 142 = .ok (.ireturn, 1) := by decide +kernel
theorem dX9_told_143 : decode cX9_told 143 = .ok (.aload_n 0, 1) := by decide +kernel
theorem dX9_told_144 : decode cX9_told 144 = .ok (.iload_n 1, 1) := by decide +kernel
theorem dX9_told_145 : decode cX9_told 145 = .ok (.bipush 9, 2) := by decide +kernel
theorem dX9_told_147 : decode cX9_told 147 = .ok (.invokevirtual 110, 3) := by decide +kernel
theorem dX9_told_150 : decode cX9_told 150 = .ok (.ireturn, 1) := by decide +kernel
theorem dX9_told_151 : decode cX9_told 151 = .ok (.aload_n 0, 1) := by decide +kernel
theorem dX9_told_152 : decode cX9_told 152 = .ok (.iload_n 1, 1) := by decide +kernel
theorem dX9_told_153 : decode cX9_told 153 = .ok (.iconst 5, 1) := by decide +kernel
theorem dX9_told_154 : decode cX9_told 154 = .ok (.invokevirtual 110, 3) := by decide +kernel
theorem dX9_told_157 : decode cX9_told 157 = .ok (.ireturn, 1) := by decide +kernel
theorem dX9_told_158 : decode cX9_told 158 = .ok (.aload_n 0, 1) := by decide +kernel
theorem dX9_told_159 : decode cX9_told 159 = .ok (.iload_n 1, 1) := by decide +kernel
theorem dX9_told_160 : decode cX9_told 160 = .ok (.bipush 8, 2) := by decide +kernel
theorem dX9_told_162 : decode cX9_told 162 = .ok (.invokevirtual 110, 3) := by decide +kernel
theorem dX9_told_165 : decode cX9_told 165 = .ok (.ireturn, 1) := by decide +kernel
theorem dX9_told_166 : decode cX9_told 166 = .ok (.aload_n 0, 1) := by decide +kernel
theorem dX9_told_167 : decode cX9_told 167 = .ok (.iload_n 1, 1) := by decide +kernel
theorem dX9_told_168 : decode cX9_told 168 = .ok (.bipush 6, 2) := by decide +kernel
theorem dX9_told_170 : decode cX9_told 170 = .ok (.invokevirtual 110, 3) := by decide +kernel
theorem dX9_told_173 : decode cX9_told 173 = .ok (.ireturn, 1) := by decide +kernel
theorem dX9_told_174 : decode cX9_told 174 = .ok (.aload_n 0, 1) := by decide +kernel
theorem dX9_told_175 : decode cX9_told 175 = .ok (.iload_n 1, 1) := by decide +kernel
theorem dX9_told_176 : decode cX9_told 176 = .ok (.invokevirtual 123, 3) := by decide +kernel
theorem dX9_told_179 : decode cX9_told 179 = .ok (.invokevirtual 127, 3) := by decide +kernel
theorem dX9_told_182 : decode cX9_told 182 = .ok (.ifCond .eq 7, 3) := by decide +kernel
theorem dX9_told_185 : decode cX9_told 185 = .ok (.iconst 1, 1) := by decide +kernel
theorem dX9_told_186 : decode cX9_told 186 = .ok (.goto 4, 3) := by decide +kernel
theorem dX9_told_189 : decode cX9_told 189 = .ok (.iconst 0, 1) := by decide +kernel
theorem dX9_told_190 : decode cX9_told 190 = .ok (.ireturn, 1) := by decide +kernel
theorem dX9_told_191 : decode cX9_told 191 = .ok (.aload_n 0, 1) := by decide +kernel
theorem dX9_told_192 : decode cX9_told 192 = .ok (.iload_n 1, 1) := by decide +kernel
theorem dX9_told_193 : decode cX9_told 193 = .ok (.invokevirtual 123, 3) := by decide +kernel
theorem dX9_told_196 : decode cX9_told 196 = .ok (.invokevirtual 131, 3) := by decide +kernel
theorem dX9_told_199 : decode cX9_told 199 = .ok (.ifCond .eq 7, 3) := by decide +kernel
theorem dX9_told_202 : decode cX9_told 202 = .ok (.iconst 1, 1) := by decide +kernel
theorem dX9_told_203 : decode cX9_told 203 = .ok (.goto 4, 3) := by decide +kernel
theorem dX9_told_206 : decode cX9_told 206 = .ok (.iconst 0, 1) := by decide +kernel
theorem dX9_told_207 : decode cX9_told 207 = .ok (.ireturn, 1) := by decide +kernel
theorem dX9_told_208 : decode cX9_told 208 = .ok (.aload_n 0, 1) := by decide +kernel
theorem dX9_told_209 : decode cX9_told 209 = .ok (.iload_n 1, 1) := by decide +kernel
theorem dX9_told_210 : decode cX9_told 210 = .ok (.invokevirtual 123, 3) := by decide +kernel
theorem dX9_told_213 : decode cX9_told 213 = .ok (.invokevirtual 134, 3) := by decide +kernel
theorem dX9_told_216 : decode cX9_told 216 = .ok (.ifCond .eq 7, 3) := by decide +kernel
theorem dX9_told_219 : decode cX9_told 219 = .ok (.iconst 1, 1) := by decide +kernel
theorem dX9_told_220 : decode cX9_told 220 = .ok (.goto 4, 3) := by decide +kernel
theorem dX9_told_223 : decode cX9_told 223 = .ok (.iconst 0, 1) := by decide +kernel
theorem dX9_told_224 : decode cX9_told 224 = .ok (.ireturn, 1) := by decide +kernel
theorem dX9_wish_0 : decode cX9_wish 0 = .ok (.iload_n 1, 1) := by decide +kernel
theorem dX9_wish_1 : decode cX9_wish 1 = .ok (.invokestatic 88, 3) := by decide +kernel
theorem dX9_wish_4 : decode cX9_wish 4 = .ok (.ifCond .ne 5, 3) := by decide +kernel
theorem dX9_wish_7 : decode cX9_wish 7 = .ok (.iconst (-1), 1) := by decide +kernel
theorem dX9_wish_8 : decode cX9_wish 8 = .ok (.ireturn, 1) := by decide +kernel
theorem dX9_wish_9 : decode cX9_wish 9 = .ok (.iload_n 2, 1) := by decide +kernel
theorem dX9_wish_10 : decode cX9_wish 10 = .ok (.iload_n 3, 1) := by decide +kernel
theorem dX9_wish_11 : decode cX9_wish 11 = .ok (.invokestatic 137, 3) := by decide +kernel
theorem dX9_wish_14 : decode cX9_wish 14 = .ok (.ifCond .ne 6, 3) := by decide +kernel
theorem dX9_wish_17 : decode cX9_wish 17 = .ok (.bipush (-2), 2) := by decide +kernel
theorem dX9_wish_19 : decode cX9_wish 19 = .ok (.ireturn, 1) := by decide +kernel
theorem dX9_wish_20 : decode cX9_wish 20 = .ok (.aload_n 0, 1) := by decide +kernel
theorem dX9_wish_21 : decode cX9_wish 21 = .ok (.iload_n 1, 1) := by decide +kernel
theorem dX9_wish_22 : decode cX9_wish 22 = .ok (.invokevirtual 96, 3) := by decide +kernel
theorem dX9_wish_25 : decode cX9_wish 25 = .ok (.ifCond .ne 9, 3) := by decide +kernel
theorem dX9_wish_28 : decode cX9_wish 28 = .ok (.aload_n 0, 1) := by decide +kernel
theorem dX9_wish_29 : decode cX9_wish 29 = .ok (.iconst 1, 1) := by decide +kernel
theorem dX9_wish_30 : decode cX9_wish 30 = .ok (.invokevirtual 103, 3) := by decide +kernel
theorem dX9_wish_33 : decode cX9_wish 33 = .ok (.ireturn, 1) := by decide +kernel
theorem dX9_wish_34 : decode cX9_wish 34 = .ok (.aload_n 0, 1) := by decide +kernel
theorem dX9_wish_35 : decode cX9_wish 35 = .ok (.iload_n 1, 1) := by decide +kernel
theorem dX9_wish_36 : decode cX9_wish 36 = .ok (.invokevirtual 123, 3) := by decide +kernel
theorem dX9_wish_39 : decode cX9_wish 39 = .ok (.astore 4, 2) := by decide +kernel
theorem dX9_wish_41 : decode cX9_wish 41 = .ok (.iload_n 2, 1) := by decide +kernel
theorem dX9_wish_42 : decode cX9_wish 42 = .ok (.iconst 3, 1) := by decide +kernel
theorem dX9_wish_43 : decode cX9_wish 43 = .ok (.if_icmp .lt 17, 3) := by decide +kernel
theorem dX9_wish_46 : decode cX9_wish 46 = .ok (.aload 4, 2) := by decide +kernel
theorem dX9_wish_48 : decode cX9_wish 48 = .ok (.invokevirtual 131, 3) := by decide +kernel
theorem dX9_wish_51 : decode cX9_wish 51 = .ok (.ifCond .ne 9, 3) := by decide +kernel
theorem dX9_wish_54 : decode cX9_wish 54 = .ok (.aload_n 0, 1) := by decide +kernel
theorem dX9_wish_55 : decode cX9_wish 55 = .ok (.iconst 5, 1) := by decide +kernel
theorem dX9_wish_56 : decode cX9_wish 56 = .ok (.invokevirtual 103, 3) := by decide +kernel
theorem dX9_wish_59 : decode cX9_wish 59 = .ok (.ireturn, 1) := by decide +kernel
theorem dX9_wish_60 : decode cX9_wish 60 = .ok (.aload_n 0, 1) := by decide +kernel
theorem dX9_wish_61 : decode cX9_wish 61 = .ok (.iload_n 1, 1) := by decide +kernel
theorem dX9_wish_62 : decode cX9_wish 62 = .ok (.bipush 8, 2) := by decide +kernel
theorem dX9_wish_64 : decode cX9_wish 64 = .ok (.invokevirtual 110, 3) := by decide +kernel
theorem dX9_wish_67 : decode cX9_wish 67 = .ok (.istore 5, 2) := by decide +kernel
theorem dX9_wish_69 : decode cX9_wish 69 = .ok (.iload_n 2, 1) := by decide +kernel
theorem dX9_wish_70 : decode cX9_wish 70 = .ok (.tableswitch 63 0 3 #[30, 39, 48, 57], 30) := by decide +kernel
theorem dX9_wish_100 : decode cX9_wish 100 = .ok (.aload 4, 2) := by decide +kernel
theorem dX9_wish_102 : decode cX9_wish 102 = .ok (.iload_n 3, 1) := by decide +kernel
theorem dX9_wish_103 : decode cX9_wish 103 = .ok (.iload 5, 2) := by decide +kernel
theorem dX9_wish_105 : decode cX9_wish 105 = .ok (.invokevirtual 141, 3) := by decide +kernel
theorem dX9_wish_108 : decode cX9_wish 108 = .ok (.ireturn, 1) := by decide +kernel
theorem dX9_wish_109 : decode cX9_wish 109 = .ok (.aload 4, 2) := by decide +kernel
theorem dX9_wish_111 : decode cX9_wish 111 = .ok (.iload_n 3, 1) := by decide +kernel
theorem dX9_wish_112 : decode cX9_wish 112 = .ok (.iload 5, 2) := by decide +kernel
theorem dX9_wish_114 : decode cX9_wish 114 = .ok (.invokevirtual 144, 3) := by decide +kernel
theorem dX9_wish_117 : decode cX9_wish 117 = .ok (.ireturn, 1) := by decide +kernel
theorem dX9_wish_118 : decode cX9_wish 118 = .ok (.aload 4, 2) := by decide +kernel
theorem dX9_wish_120 : decode cX9_wish 120 = .ok (.iload_n 3, 1) := by decide +kernel
theorem dX9_wish_121 : decode cX9_wish 121 = .ok (.iload 5, 2) := by decide +kernel
theorem dX9_wish_123 : decode cX9_wish 123 = .ok (.invokevirtual 147, 3) := by decide +kernel
theorem dX9_wish_126 : decode cX9_wish 126 = .ok (.ireturn, 1) := by decide +kernel
theorem dX9_wish_127 : decode cX9_wish 127 = .ok (.aload 4, 2) := by decide +kernel
theorem dX9_wish_129 : decode cX9_wish 129 = .ok (.invokevirtual 150, 3) := by decide +kernel
theorem dX9_wish_132 : decode cX9_wish 132 = .ok (.ireturn, 1) := by decide +kernel
theorem dX9_wish_133 : decode cX9_wish 133 = .ok (.aload 4, 2) := by decide +kernel
theorem dX9_wish_135 : decode cX9_wish 135 = .ok (.iload_n 3, 1) := by decide +kernel
theorem dX9_wish_136 : decode cX9_wish 136 = .ok (.invokevirtual 154, 3) := by decide +kernel
theorem dX9_wish_139 : decode cX9_wish 139 = .ok (.ireturn, 1) := by decide +kernel
theorem dX9_trace_0 : decode cX9_trace 0 = .ok (.aload_n 0, 1) := by decide +kernel
theorem dX9_trace_1 : decode cX9_trace 1 = .ok (.getfield 28, 3) := by decide +kernel
theorem dX9_trace_4 : decode cX9_trace 4 = .ok (.iload_n 1, 1) := by decide +kernel
theorem dX9_trace_5 : decode cX9_trace 5 = .ok (.invokevirtual 157, 3) := by decide +kernel
theorem dX9_trace_8 : decode cX9_trace 8 = .ok (.ireturn, 1) := by decide +kernel
theorem dX9_touches_0 : decode cX9_touches 0 = .ok (.iload_n 1, 1) := by decide +kernel
theorem dX9_touches_1 : decode cX9_touches 1 = .ok (.invokestatic 88, 3) := by decide +kernel
theorem dX9_touches_4 : decode cX9_touches 4 = .ok (.ifCond .ne 5, 3) := by decide +kernel
theorem dX9_touches_7 : decode cX9_touches 7 = .ok (.iconst (-1), 1) := by decide +kernel
theorem dX9_touches_8 : decode cX9_touches 8 = .ok (.ireturn, 1) := by decide +kernel
theorem dX9_touches_9 : decode cX9_touches 9 = .ok (.iload_n 2, 1) := by decide +kernel
theorem dX9_touches_10 : decode cX9_touches 10 = .ok (.iconst 0, 1) := by decide +kernel
theorem dX9_touches_11 : decode cX9_touches 11 = .ok (.iconst 1, 1) := by decide +kernel
theorem dX9_touches_12 : decode cX9_touches 12 = .ok (.invokestatic 92, 3) := by decide +kernel
theorem dX9_touches_15 : decode cX9_touches 15 = .ok (.ifCond .ne 6, 3) := by decide +kernel
theorem dX9_touches_18 : decode cX9_touches 18 = .ok (.bipush (-2), 2) := by decide +kernel
theorem dX9_touches_20 : decode cX9_touches 20 = .ok (.ireturn, 1) := by decide +kernel
theorem dX9_touches_21 : decode cX9_touches 21 = .ok (.iload_n 2, 1) := by decide +kernel
theorem dX9_touches_22 : decode cX9_touches 22 = .ok (.ifCond .ne 12, 3) := by decide +kernel
theorem dX9_touches_25 : decode cX9_touches 25 = .ok (.aload_n 0, 1) := by decide +kernel
theorem dX9_touches_26 : decode cX9_touches 26 = .ok (.getfield 55, 3) := by decide +kernel
theorem dX9_touches_29 : decode cX9_touches 29 = .ok (.iload_n 1, 1) := by decide +kernel
theorem dX9_touches_30 : decode cX9_touches 30 = .ok (.iaload, 1) := by decide +kernel
theorem dX9_touches_31 : decode cX9_touches 31 = .ok (.goto 9, 3) := by decide +kernel
theorem dX9_touches_34 : decode cX9_touches 34 = .ok (.aload_n 0, 1) := by decide +kernel
theorem dX9_touches_35 : decode cX9_touches 35 = .ok (.getfield 59, 3) := by decide +kernel
theorem dX9_touches_38 : decode cX9_touches 38 = .ok (.iload_n 1, 1) := by decide +kernel
theorem dX9_touches_39 : decode cX9_touches 39 = .ok (.iaload, 1) := by decide +kernel
theorem dX9_touches_40 : decode cX9_touches 40 = .ok (.ireturn, 1) := by decide +kernel
theorem dX9_program_0 : decode cX9_program 0 = .ok (.iload_n 1, 1) := by decide +kernel
theorem dX9_program_1 : decode cX9_program 1 = .ok (.invokestatic 160, 3) := by decide +kernel
theorem dX9_program_4 : decode cX9_program 4 = .ok (.ifCond .ne 5, 3) := by decide +kernel
theorem dX9_program_7 : decode cX9_program 7 = .ok (.iconst (-1), 1) := by decide +kernel
theorem dX9_program_8 : decode cX9_program 8 = .ok (.ireturn, 1) := by decide +kernel
theorem dX9_program_9 : decode cX9_program 9 = .ok (.iload_n 2, 1) := by decide +kernel
theorem dX9_program_10 : decode cX9_program 10 = .ok (.bipush 30, 2) := by decide +kernel
theorem dX9_program_12 : decode cX9_program 12 = .ok (.if_icmp .le 6, 3) := by decide +kernel
theorem dX9_program_15 : decode cX9_program 15 = .ok (.bipush (-2), 2) := by decide +kernel
theorem dX9_program_17 : decode cX9_program 17 = .ok (.ireturn, 1) := by decide +kernel
theorem dX9_program_18 : decode cX9_program 18 = .ok (.iload_n 2, 1) := by decide +kernel
theorem dX9_program_19 : decode cX9_program 19 = .ok (.ifCond .ge 10, 3) := by decide +kernel
theorem dX9_program_22 : decode cX9_program 22 = .ok (.aload_n 0, 1) := by decide +kernel
theorem dX9_program_23 : decode cX9_program 23 = .ok (.bipush 13, 2) := by decide +kernel
theorem dX9_program_25 : decode cX9_program 25 = .ok (.invokevirtual 103, 3) := by decide +kernel
theorem dX9_program_28 : decode cX9_program 28 = .ok (.ireturn, 1) := by decide +kernel
theorem dX9_program_29 : decode cX9_program 29 = .ok (.aload_n 0, 1) := by decide +kernel
theorem dX9_program_30 : decode cX9_program 30 = .ok (.getfield 12, 3) := by decide +kernel
theorem dX9_program_33 : decode cX9_program 33 = .ok (.iload_n 1, 1) := by decide +kernel
theorem dX9_program_34 : decode cX9_program 34 = .ok (.invokestatic 163, 3) := by decide +kernel
theorem dX9_program_37 : decode cX9_program 37 = .ok (.iload_n 2, 1) := by decide +kernel
theorem dX9_program_38 : decode cX9_program 38 = .ok (.iconst 1, 1) := by decide +kernel
theorem dX9_program_39 : decode cX9_program 39 = .ok (.iadd, 1) := by decide +kernel
theorem dX9_program_40 : decode cX9_program 40 = .ok (.invokevirtual 84, 3) := by decide +kernel
theorem dX9_program_43 : decode cX9_program 43 = .ok (.iconst 0, 1) := by decide +kernel
theorem dX9_program_44 : decode cX9_program 44 = .ok (.istore_n 3, 1) := by decide +kernel
theorem dX9_program_45 : decode cX9_program 45 = .ok (.iload_n 3, 1) := by decide +kernel
theorem dX9_program_46 : decode cX9_program 46 = .ok (.iload_n 2, 1) := by decide +kernel
theorem dX9_program_47 : decode cX9_program 47 = .ok (.if_icmp .ge 24, 3) := by decide +kernel
theorem dX9_program_50 : decode cX9_program 50 = .ok (.aload_n 0, 1) := by decide +kernel
theorem dX9_program_51 : decode cX9_program 51 = .ok (.getfield 12, 3) := by decide +kernel
theorem dX9_program_54 : decode cX9_program 54 = .ok (.iload_n 1, 1) := by decide +kernel
theorem dX9_program_55 : decode cX9_program 55 = .ok (.iload_n 3, 1) := by decide +kernel
theorem dX9_program_56 : decode cX9_program 56 = .ok (.invokestatic 166, 3) := by decide +kernel
theorem dX9_program_59 : decode cX9_program 59 = .ok (.sipush 4001, 3) := by decide +kernel
theorem dX9_program_62 : decode cX9_program 62 = .ok (.invokevirtual 84, 3) := by decide +kernel
theorem dX9_program_65 : decode cX9_program 65 = .ok (.iinc 3 1, 3) := by decide +kernel
theorem dX9_program_68 : decode cX9_program 68 = .ok (.goto (-23), 3) := by decide +kernel
theorem dX9_program_71 : decode cX9_program 71 = .ok (.iconst 1, 1) := by decide +kernel
theorem dX9_program_72 : decode cX9_program 72 = .ok (.ireturn, 1) := by decide +kernel
theorem dX9_takeOut_0 : decode cX9_takeOut 0 = .ok (.iload_n 1, 1) := by decide +kernel
theorem dX9_takeOut_1 : decode cX9_takeOut 1 = .ok (.invokestatic 160, 3) := by decide +kernel
theorem dX9_takeOut_4 : decode cX9_takeOut 4 = .ok (.ifCond .ne 5, 3) := by decide +kernel
theorem dX9_takeOut_7 : decode cX9_takeOut 7 = .ok (.iconst (-1), 1) := by decide +kernel
theorem dX9_takeOut_8 : decode cX9_takeOut 8 = .ok (.ireturn, 1) := by decide +kernel
theorem dX9_takeOut_9 : decode cX9_takeOut 9 = .ok (.aload_n 0, 1) := by decide +kernel
theorem dX9_takeOut_10 : decode cX9_takeOut 10 = .ok (.iload_n 1, 1) := by decide +kernel
theorem dX9_takeOut_11 : decode cX9_takeOut 11 = .ok (.invokevirtual 169, 3) := by decide +kernel
theorem dX9_takeOut_14 : decode cX9_takeOut 14 = .ok (.ifCond .ne 5, 3) := by decide +kernel
theorem dX9_takeOut_17 : decode cX9_takeOut 17 = .ok (.iconst 0, 1) := by decide +kernel
theorem dX9_takeOut_18 : decode cX9_takeOut 18 = .ok (.ireturn, 1) := by decide +kernel
theorem dX9_takeOut_19 : decode cX9_takeOut 19 = .ok (.aload_n 0, 1) := by decide +kernel
theorem dX9_takeOut_20 : decode cX9_takeOut 20 = .ok (.getfield 12, 3) := by decide +kernel
theorem dX9_takeOut_23 : decode cX9_takeOut 23 = .ok (.iload_n 1, 1) := by decide +kernel
theorem dX9_takeOut_24 : decode cX9_takeOut 24 = .ok (.invokestatic 163, 3) := by decide +kernel
theorem dX9_takeOut_27 : decode cX9_takeOut 27 = .ok (.iconst 0, 1) := by decide +kernel
theorem dX9_takeOut_28 : decode cX9_takeOut 28 = .ok (.invokevirtual 84, 3) := by decide +kernel
theorem dX9_takeOut_31 : decode cX9_takeOut 31 = .ok (.iconst 1, 1) := by decide +kernel
theorem dX9_takeOut_32 : decode cX9_takeOut 32 = .ok (.ireturn, 1) := by decide +kernel
theorem dX9_step_0 : decode cX9_step 0 = .ok (.iload_n 1, 1) := by decide +kernel
theorem dX9_step_1 : decode cX9_step 1 = .ok (.invokestatic 160, 3) := by decide +kernel
theorem dX9_step_4 : decode cX9_step 4 = .ok (.ifCond .ne 5, 3) := by decide +kernel
theorem dX9_step_7 : decode cX9_step 7 = .ok (.iconst (-1), 1) := by decide +kernel
theorem dX9_step_8 : decode cX9_step 8 = .ok (.ireturn, 1) := by decide +kernel
theorem dX9_step_9 : decode cX9_step 9 = .ok (.iload_n 3, 1) := by decide +kernel
theorem dX9_step_10 : decode cX9_step 10 = .ok (.iconst 0, 1) := by decide +kernel
theorem dX9_step_11 : decode cX9_step 11 = .ok (.iconst 4, 1) := by decide +kernel
theorem dX9_step_12 : decode cX9_step 12 = .ok (.invokestatic 92, 3) := by decide +kernel
theorem dX9_step_15 : decode cX9_step 15 = .ok (.ifCond .eq 15, 3) := by decide +kernel
theorem dX9_step_18 : decode cX9_step 18 = .ok (.iload 4, 2) := by decide +kernel
theorem dX9_step_20 : decode cX9_step 20 = .ok (.iconst 1, 1) := by decide +kernel
theorem dX9_step_21 : decode cX9_step 21 = .ok (.sipush 200, 3) := by decide +kernel
theorem dX9_step_24 : decode cX9_step 24 = .ok (.invokestatic 92, 3) := by decide +kernel
theorem dX9_step_27 : decode cX9_step 27 = .ok (.ifCond .ne 6, 3) := by decide +kernel
theorem dX9_step_30 : decode cX9_step 30 = .ok (.bipush (-2), 2) := by decide +kernel
theorem dX9_step_32 : decode cX9_step 32 = .ok (.ireturn, 1) := by decide +kernel
theorem dX9_step_33 : decode cX9_step 33 = .ok (.aload_n 0, 1) := by decide +kernel
theorem dX9_step_34 : decode cX9_step 34 = .ok (.iload_n 1, 1) := by decide +kernel
theorem dX9_step_35 : decode cX9_step 35 = .ok (.invokevirtual 169, 3) := by decide +kernel
theorem dX9_step_38 : decode cX9_step 38 = .ok (.ifCond .ne 9, 3) := by decide +kernel
theorem dX9_step_41 : decode cX9_step 41 = .ok (.aload_n 0, 1) := by decide +kernel
theorem dX9_step_42 : decode cX9_step 42 = .ok (.iconst 3, 1) := by decide +kernel
theorem dX9_step_43 : decode cX9_step 43 = .ok (.invokevirtual 103, 3) := by decide +kernel
theorem dX9_step_46 : decode cX9_step 46 = .ok (.ireturn, 1) := by decide +kernel
theorem dX9_step_47 : decode cX9_step 47 = .ok (.iload_n 2, 1) := by decide +kernel
theorem dX9_step_48 : decode cX9_step 48 = .ok (.iconst 0, 1) := by decide +kernel
theorem dX9_step_49 : decode cX9_step 49 = .ok (.aload_n 0, 1) := by decide +kernel
theorem dX9_step_50 : decode cX9_step 50 = .ok (.iload_n 1, 1) := by decide +kernel
theorem dX9_step_51 : decode cX9_step 51 = .ok (.invokevirtual 172, 3) := by decide +kernel
theorem dX9_step_54 : decode cX9_step 54 = .ok (.iconst 1, 1) := by decide +kernel
theorem dX9_step_55 : decode cX9_step 55 = .ok (.isub, 1) := by decide +kernel
theorem dX9_step_56 : decode cX9_step 56 = .ok (.invokestatic 92, 3) := by decide +kernel
theorem dX9_step_59 : decode cX9_step 59 = .ok (.ifCond .ne 9, 3) := by decide +kernel
theorem dX9_step_62 : decode cX9_step 62 = .ok (.aload_n 0, 1) := by decide +kernel
theorem dX9_step_63 : decode cX9_step 63 = .ok (.iconst 4, 1) := by decide +kernel
theorem dX9_step_64 : decode cX9_step 64 = .ok (.invokevirtual 103, 3) := by decide +kernel
theorem dX9_step_67 : decode cX9_step 67 = .ok (.ireturn, 1) := by decide +kernel
theorem dX9_step_68 : decode cX9_step 68 = .ok (.aload_n 0, 1) := by decide +kernel
theorem dX9_step_69 : decode cX9_step 69 = .ok (.getfield 12, 3) := by decide +kernel
theorem dX9_step_72 : decode cX9_step 72 = .ok (.iload_n 1, 1) := by decide +kernel
theorem dX9_step_73 : decode cX9_step 73 = .ok (.iload_n 2, 1) := by decide +kernel
theorem dX9_step_74 : decode cX9_step 74 = .ok (.invokestatic 166, 3) := by decide +kernel
theorem dX9_step_77 : decode cX9_step 77 = .ok (.iload_n 3, 1) := by decide +kernel
theorem dX9_step_78 : decode cX9_step 78 = .ok (.sipush 1000, 3) := by decide +kernel
theorem dX9_step_81 : decode cX9_step 81 = .ok (.imul, 1) := by decide +kernel
theorem dX9_step_82 : decode cX9_step 82 = .ok (.iload 4, 2) := by decide +kernel
theorem dX9_step_84 : decode cX9_step 84 = .ok (.iadd, 1) := by decide +kernel
theorem dX9_step_85 : decode cX9_step 85 = .ok (.invokevirtual 84, 3) := by decide +kernel
theorem dX9_step_88 : decode cX9_step 88 = .ok (.iconst 1, 1) := by decide +kernel
theorem dX9_step_89 : decode cX9_step 89 = .ok (.ireturn, 1) := by decide +kernel
theorem dX9_minutes_0 : decode cX9_minutes 0 = .ok (.iload_n 1, 1) := by decide +kernel
theorem dX9_minutes_1 : decode cX9_minutes 1 = .ok (.invokestatic 160, 3) := by decide +kernel
theorem dX9_minutes_4 : decode cX9_minutes 4 = .ok (.ifCond .ne 5, 3) := by decide +kernel
theorem dX9_minutes_7 : decode cX9_minutes 7 = .ok (.iconst (-1), 1) := by decide +kernel
theorem dX9_minutes_8 : decode cX9_minutes 8 = .ok (.ireturn, 1) := by decide +kernel
theorem dX9_minutes_9 : decode cX9_minutes 9 = .ok (.aload_n 0, 1) := by decide +kernel
theorem dX9_minutes_10 : decode cX9_minutes 10 = .ok (.iload_n 1, 1) := by decide +kernel
theorem dX9_minutes_11 : decode cX9_minutes 11 = .ok (.invokevirtual 169, 3) := by decide +kernel
theorem dX9_minutes_14 : decode cX9_minutes 14 = .ok (.ifCond .ne 9, 3) := by decide +kernel
theorem dX9_minutes_17 : decode cX9_minutes 17 = .ok (.aload_n 0, 1) := by decide +kernel
theorem dX9_minutes_18 : decode cX9_minutes 18 = .ok (.iconst 3, 1) := by decide +kernel
theorem dX9_minutes_19 : decode cX9_minutes 19 = .ok (.invokevirtual 103, 3) := by decide +kernel
theorem dX9_minutes_22 : decode cX9_minutes 22 = .ok (.ireturn, 1) := by decide +kernel
theorem dX9_minutes_23 : decode cX9_minutes 23 = .ok (.iconst 0, 1) := by decide +kernel
theorem dX9_minutes_24 : decode cX9_minutes 24 = .ok (.istore_n 2, 1) := by decide +kernel
theorem dX9_minutes_25 : decode cX9_minutes 25 = .ok (.aload_n 0, 1) := by decide +kernel
theorem dX9_minutes_26 : decode cX9_minutes 26 = .ok (.iload_n 1, 1) := by decide +kernel
theorem dX9_minutes_27 : decode cX9_minutes 27 = .ok (.invokevirtual 172, 3) := by decide +kernel
theorem dX9_minutes_30 : decode cX9_minutes 30 = .ok (.istore_n 3, 1) := by decide +kernel
theorem dX9_minutes_31 : decode cX9_minutes 31 = .ok (.iconst 0, 1) := by decide +kernel
theorem dX9_minutes_32 : decode cX9_minutes 32 = .ok (.istore 4, 2) := by decide +kernel
theorem dX9_minutes_34 : decode cX9_minutes 34 = .ok (.iload 4, 2) := by decide +kernel
theorem dX9_minutes_36 : decode cX9_minutes 36 = .ok (.iload_n 3, 1) := by decide +kernel
theorem dX9_minutes_37 : decode cX9_minutes 37 = .ok (.if_icmp .ge 28, 3) := by decide +kernel
theorem dX9_minutes_40 : decode cX9_minutes 40 = .ok (.iload_n 2, 1) := by decide +kernel
theorem dX9_minutes_41 : decode cX9_minutes 41 = .ok (.aload_n 0, 1) := by decide +kernel
theorem dX9_minutes_42 : decode cX9_minutes 42 = .ok (.getfield 12, 3) := by decide +kernel
theorem dX9_minutes_45 : decode cX9_minutes 45 = .ok (.iload_n 1, 1) := by decide +kernel
theorem dX9_minutes_46 : decode cX9_minutes 46 = .ok (.iload 4, 2) := by decide +kernel
theorem dX9_minutes_48 : decode cX9_minutes 48 = .ok (.invokestatic 166, 3) := by decide +kernel
theorem dX9_minutes_51 : decode cX9_minutes 51 = .ok (.invokevirtual 175, 3) := by decide +kernel
theorem dX9_minutes_54 : decode cX9_minutes 54 = .ok (.invokestatic 178, 3) := by decide +kernel
theorem dX9_minutes_57 : decode cX9_minutes 57 = .ok (.iadd, 1) := by decide +kernel
theorem dX9_minutes_58 : decode cX9_minutes 58 = .ok (.istore_n 2, 1) := by decide +kernel
theorem dX9_minutes_59 : decode cX9_minutes 59 = .ok (.iinc 4 1, 3) := by decide +kernel
theorem dX9_minutes_62 : decode cX9_minutes 62 = .ok (.goto (-28), 3) := by decide +kernel
theorem dX9_minutes_65 : decode cX9_minutes 65 = .ok (.iload_n 2, 1) := by decide +kernel
theorem dX9_minutes_66 : decode cX9_minutes 66 = .ok (.ireturn, 1) := by decide +kernel
theorem dX9_tube_0 : decode cX9_tube 0 = .ok (.iload_n 1, 1) := by decide +kernel
theorem dX9_tube_1 : decode cX9_tube 1 = .ok (.invokestatic 181, 3) := by decide +kernel
theorem dX9_tube_4 : decode cX9_tube 4 = .ok (.ifCond .ne 5, 3) := by decide +kernel
theorem dX9_tube_7 : decode cX9_tube 7 = .ok (.iconst (-1), 1) := by decide +kernel
theorem dX9_tube_8 : decode cX9_tube 8 = .ok (.ireturn, 1) := by decide +kernel
theorem dX9_tube_9 : decode cX9_tube 9 = .ok (.iload_n 2, 1) := by decide +kernel
theorem dX9_tube_10 : decode cX9_tube 10 = .ok (.iconst 1, 1) := by decide +kernel
theorem dX9_tube_11 : decode cX9_tube 11 = .ok (.sipush 5000, 3) := by decide +kernel
theorem dX9_tube_14 : decode cX9_tube 14 = .ok (.invokestatic 92, 3) := by decide +kernel
theorem dX9_tube_17 : decode cX9_tube 17 = .ok (.ifCond .eq 14, 3) := by decide +kernel
theorem dX9_tube_20 : decode cX9_tube 20 = .ok (.iload_n 3, 1) := by decide +kernel
theorem dX9_tube_21 : decode cX9_tube 21 = .ok (.iconst 0, 1) := by decide +kernel
theorem dX9_tube_22 : decode cX9_tube 22 = .ok (.sipush 1000, 3) := by decide +kernel
theorem dX9_tube_25 : decode cX9_tube 25 = .ok (.invokestatic 92, 3) := by decide +kernel
theorem dX9_tube_28 : decode cX9_tube 28 = .ok (.ifCond .ne 6, 3) := by decide +kernel
theorem dX9_tube_31 : decode cX9_tube 31 = .ok (.bipush (-2), 2) := by decide +kernel
theorem dX9_tube_33 : decode cX9_tube 33 = .ok (.ireturn, 1) := by decide +kernel
theorem dX9_tube_34 : decode cX9_tube 34 = .ok (.aload_n 0, 1) := by decide +kernel
theorem dX9_tube_35 : decode cX9_tube 35 = .ok (.getfield 21, 3) := by decide +kernel
theorem dX9_tube_38 : decode cX9_tube 38 = .ok (.iload_n 1, 1) := by decide +kernel
theorem dX9_tube_39 : decode cX9_tube 39 = .ok (.iload_n 2, 1) := by decide +kernel
theorem dX9_tube_40 : decode cX9_tube 40 = .ok (.invokevirtual 184, 3) := by decide +kernel
theorem dX9_tube_43 : decode cX9_tube 43 = .ok (.ifCond .ne 13, 3) := by decide +kernel
theorem dX9_tube_46 : decode cX9_tube 46 = .ok (.aload_n 0, 1) := by decide +kernel
theorem dX9_tube_47 : decode cX9_tube 47 = .ok (.getfield 21, 3) := by decide +kernel
theorem dX9_tube_50 : decode cX9_tube 50 = .ok (.invokevirtual 187, 3) := by decide +kernel
theorem dX9_tube_53 : decode cX9_tube 53 = .ok (.ifCond .eq 6, 3) := by decide +kernel
theorem dX9_tube_56 : decode cX9_tube 56 = .ok (.bipush (-3), 2) := by decide +kernel
theorem dX9_tube_58 : decode cX9_tube 58 = .ok (.ireturn, 1) := by decide +kernel
theorem dX9_tube_59 : decode cX9_tube 59 = .ok (.aload_n 0, 1) := by decide +kernel
theorem dX9_tube_60 : decode cX9_tube 60 = .ok (.getfield 12, 3) := by decide +kernel
theorem dX9_tube_63 : decode cX9_tube 63 = .ok (.sipush 8420, 3) := by decide +kernel
theorem dX9_tube_66 : decode cX9_tube 66 = .ok (.iload_n 1, 1) := by decide +kernel
theorem dX9_tube_67 : decode cX9_tube 67 = .ok (.iadd, 1) := by decide +kernel
theorem dX9_tube_68 : decode cX9_tube 68 = .ok (.iload_n 2, 1) := by decide +kernel
theorem dX9_tube_69 : decode cX9_tube 69 = .ok (.invokevirtual 84, 3) := by decide +kernel
theorem dX9_tube_72 : decode cX9_tube 72 = .ok (.aload_n 0, 1) := by decide +kernel
theorem dX9_tube_73 : decode cX9_tube 73 = .ok (.getfield 12, 3) := by decide +kernel
theorem dX9_tube_76 : decode cX9_tube 76 = .ok (.sipush 8432, 3) := by decide +kernel
theorem dX9_tube_79 : decode cX9_tube 79 = .ok (.iload_n 1, 1) := by decide +kernel
theorem dX9_tube_80 : decode cX9_tube 80 = .ok (.iadd, 1) := by decide +kernel
theorem dX9_tube_81 : decode cX9_tube 81 = .ok (.iload_n 3, 1) := by decide +kernel
theorem dX9_tube_82 : decode cX9_tube 82 = .ok (.invokevirtual 84, 3) := by decide +kernel
theorem dX9_tube_85 : decode cX9_tube 85 = .ok (.iconst 1, 1) := by decide +kernel
theorem dX9_tube_86 : decode cX9_tube 86 = .ok (.ireturn, 1) := by decide +kernel
theorem dX9_coin_0 : decode cX9_coin 0 = .ok (.iload_n 1, 1) := by decide +kernel
theorem dX9_coin_1 : decode cX9_coin 1 = .ok (.invokestatic 88, 3) := by decide +kernel
theorem dX9_coin_4 : decode cX9_coin 4 = .ok (.ifCond .eq 10, 3) := by decide +kernel
theorem dX9_coin_7 : decode cX9_coin 7 = .ok (.iload_n 2, 1) := by decide +kernel
theorem dX9_coin_8 : decode cX9_coin 8 = .ok (.invokestatic 181, 3) := by decide +kernel
theorem dX9_coin_11 : decode cX9_coin 11 = .ok (.ifCond .ne 5, 3) := by decide +kernel
theorem dX9_coin_14 : decode cX9_coin 14 = .ok (.iconst (-1), 1) := by decide +kernel
theorem dX9_coin_15 : decode cX9_coin 15 = .ok (.ireturn, 1) := by decide +kernel
theorem dX9_coin_16 : decode cX9_coin 16 = .ok (.iload_n 3, 1) := by decide +kernel
theorem dX9_coin_17 : decode cX9_coin 17 = .ok (.iconst 1, 1) := by decide +kernel
theorem dX9_coin_18 : decode cX9_coin 18 = .ok (.bipush 50, 2) := by decide +kernel
theorem dX9_coin_20 : decode cX9_coin 20 = .ok (.invokestatic 92, 3) := by decide +kernel
theorem dX9_coin_23 : decode cX9_coin 23 = .ok (.ifCond .ne 6, 3) := by decide +kernel
theorem dX9_coin_26 : decode cX9_coin 26 = .ok (.bipush (-2), 2) := by decide +kernel
theorem dX9_coin_28 : decode cX9_coin 28 = .ok (.ireturn, 1) := by decide +kernel
theorem dX9_coin_29 : decode cX9_coin 29 = .ok (.aload_n 0, 1) := by decide +kernel
theorem dX9_coin_30 : decode cX9_coin 30 = .ok (.getfield 12, 3) := by decide +kernel
theorem dX9_coin_33 : decode cX9_coin 33 = .ok (.sipush 8420, 3) := by decide +kernel
theorem dX9_coin_36 : decode cX9_coin 36 = .ok (.iload_n 2, 1) := by decide +kernel
theorem dX9_coin_37 : decode cX9_coin 37 = .ok (.iadd, 1) := by decide +kernel
theorem dX9_coin_38 : decode cX9_coin 38 = .ok (.invokevirtual 175, 3) := by decide +kernel
theorem dX9_coin_41 : decode cX9_coin 41 = .ok (.istore 4, 2) := by decide +kernel
theorem dX9_coin_43 : decode cX9_coin 43 = .ok (.iload 4, 2) := by decide +kernel
theorem dX9_coin_45 : decode cX9_coin 45 = .ok (.ifCond .ne 6, 3) := by decide +kernel
theorem dX9_coin_48 : decode cX9_coin 48 = .ok (.bipush (-3), 2) := by decide +kernel
theorem dX9_coin_50 : decode cX9_coin 50 = .ok (.ireturn, 1) := by decide +kernel
theorem dX9_coin_51 : decode cX9_coin 51 = .ok (.aload_n 0, 1) := by decide +kernel
theorem dX9_coin_52 : decode cX9_coin 52 = .ok (.iload_n 1, 1) := by decide +kernel
theorem dX9_coin_53 : decode cX9_coin 53 = .ok (.invokevirtual 96, 3) := by decide +kernel
theorem dX9_coin_56 : decode cX9_coin 56 = .ok (.ifCond .ne 9, 3) := by decide +kernel
theorem dX9_coin_59 : decode cX9_coin 59 = .ok (.aload_n 0, 1) := by decide +kernel
theorem dX9_coin_60 : decode cX9_coin 60 = .ok (.iconst 1, 1) := by decide +kernel
theorem dX9_coin_61 : decode cX9_coin 61 = .ok (.invokevirtual 103, 3) := by decide +kernel
theorem dX9_coin_64 : decode cX9_coin 64 = .ok (.ireturn, 1) := by decide +kernel
theorem dX9_coin_65 : decode cX9_coin 65 = .ok (.aload_n 0, 1) := by decide +kernel
theorem dX9_coin_66 : decode cX9_coin 66 = .ok (.getfield 12, 3) := by decide +kernel
theorem dX9_coin_69 : decode cX9_coin 69 = .ok (.sipush 8432, 3) := by decide +kernel
theorem dX9_coin_72 : decode cX9_coin 72 = .ok (.iload_n 2, 1) := by decide +kernel
theorem dX9_coin_73 : decode cX9_coin 73 = .ok (.iadd, 1) := by decide +kernel
theorem dX9_coin_74 : decode cX9_coin 74 = .ok (.invokevirtual 175, 3) := by decide +kernel
theorem dX9_coin_77 : decode cX9_coin 77 = .ok (.iload_n 3, 1) := by decide +kernel
theorem dX9_coin_78 : decode cX9_coin 78 = .ok (.iadd, 1) := by decide +kernel
theorem dX9_coin_79 : decode cX9_coin 79 = .ok (.istore 5, 2) := by decide +kernel
theorem dX9_coin_81 : decode cX9_coin 81 = .ok (.iload 5, 2) := by decide +kernel
theorem dX9_coin_83 : decode cX9_coin 83 = .ok (.sipush 1000, 3) := by decide +kernel
theorem dX9_coin_86 : decode cX9_coin 86 = .ok (.if_icmp .le 6, 3) := by decide +kernel
theorem dX9_coin_89 : decode cX9_coin 89 = .ok (.bipush (-4), 2) := by decide +kernel
theorem dX9_coin_91 : decode cX9_coin 91 = .ok (.ireturn, 1) := by decide +kernel
theorem dX9_coin_92 : decode cX9_coin 92 = .ok (.aload_n 0, 1) := by decide +kernel
theorem dX9_coin_93 : decode cX9_coin 93 = .ok (.getfield 12, 3) := by decide +kernel
theorem dX9_coin_96 : decode cX9_coin 96 = .ok (.sipush 8432, 3) := by decide +kernel
theorem dX9_coin_99 : decode cX9_coin 99 = .ok (.iload_n 2, 1) := by decide +kernel
theorem dX9_coin_100 : decode cX9_coin 100 = .ok (.iadd, 1) := by decide +kernel
theorem dX9_coin_101 : decode cX9_coin 101 = .ok (.iload 5, 2) := by decide +kernel
theorem dX9_coin_103 : decode cX9_coin 103 = .ok (.invokevirtual 84, 3) := by decide +kernel
theorem dX9_coin_106 : decode cX9_coin 106 = .ok (.aload_n 0, 1) := by decide +kernel
theorem dX9_coin_107 : decode cX9_coin 107 = .ok (.iload_n 1, 1) := by decide +kernel
theorem dX9_coin_108 : decode cX9_coin 108 = .ok (.bipush 36, 2) := by decide +kernel
theorem dX9_coin_110 : decode cX9_coin 110 = .ok (.iload_n 2, 1) := by decide +kernel
theorem dX9_coin_111 : decode cX9_coin 111 = .ok (.iadd, 1) := by decide +kernel
theorem dX9_coin_112 : decode cX9_coin 112 = .ok (.iload_n 3, 1) := by decide +kernel
theorem dX9_coin_113 : decode cX9_coin 113 = .ok (.invokevirtual 190, 3) := by decide +kernel
theorem dX9_coin_116 : decode cX9_coin 116 = .ok (.aload_n 0, 1) := by decide +kernel
theorem dX9_coin_117 : decode cX9_coin 117 = .ok (.getfield 12, 3) := by decide +kernel
theorem dX9_coin_120 : decode cX9_coin 120 = .ok (.sipush 8552, 3) := by decide +kernel
theorem dX9_coin_123 : decode cX9_coin 123 = .ok (.iload_n 3, 1) := by decide +kernel
theorem dX9_coin_124 : decode cX9_coin 124 = .ok (.iload 4, 2) := by decide +kernel
theorem dX9_coin_126 : decode cX9_coin 126 = .ok (.imul, 1) := by decide +kernel
theorem dX9_coin_127 : decode cX9_coin 127 = .ok (.invokevirtual 193, 3) := by decide +kernel
theorem dX9_coin_130 : decode cX9_coin 130 = .ok (.aload_n 0, 1) := by decide +kernel
theorem dX9_coin_131 : decode cX9_coin 131 = .ok (.getfield 21, 3) := by decide +kernel
theorem dX9_coin_134 : decode cX9_coin 134 = .ok (.iload_n 1, 1) := by decide +kernel
theorem dX9_coin_135 : decode cX9_coin 135 = .ok (.invokevirtual 117, 3) := by decide +kernel
theorem dX9_coin_138 : decode cX9_coin 138 = .ok (.ireturn, 1) := by decide +kernel
theorem dX9_pay_0 : decode cX9_pay 0 = .ok (.iload_n 1, 1) := by decide +kernel
theorem dX9_pay_1 : decode cX9_pay 1 = .ok (.invokestatic 88, 3) := by decide +kernel
theorem dX9_pay_4 : decode cX9_pay 4 = .ok (.ifCond .ne 5, 3) := by decide +kernel
theorem dX9_pay_7 : decode cX9_pay 7 = .ok (.iconst (-1), 1) := by decide +kernel
theorem dX9_pay_8 : decode cX9_pay 8 = .ok (.ireturn, 1) := by decide +kernel
theorem dX9_pay_9 : decode cX9_pay 9 = .ok (.aload_n 0, 1) := by decide +kernel
theorem dX9_pay_10 : decode cX9_pay 10 = .ok (.iload_n 1, 1) := by decide +kernel
theorem dX9_pay_11 : decode cX9_pay 11 = .ok (.invokevirtual 96, 3) := by decide +kernel
theorem dX9_pay_14 : decode cX9_pay 14 = .ok (.ifCond .ne 9, 3) := by decide +kernel
theorem dX9_pay_17 : decode cX9_pay 17 = .ok (.aload_n 0, 1) := by decide +kernel
theorem dX9_pay_18 : decode cX9_pay 18 = .ok (.iconst 1, 1) := by decide +kernel
theorem dX9_pay_19 : decode cX9_pay 19 = .ok (.invokevirtual 103, 3) := by decide +kernel
theorem dX9_pay_22 : decode cX9_pay 22 = .ok (.ireturn, 1) := by decide +kernel
theorem dX9_pay_23 : decode cX9_pay 23 = .ok (.aload_n 0, 1) := by decide +kernel
theorem dX9_pay_24 : decode cX9_pay 24 = .ok (.iload_n 1, 1) := by decide +kernel
theorem dX9_pay_25 : decode cX9_pay 25 = .ok (.invokevirtual 196, 3) := by decide +kernel
theorem dX9_pay_28 : decode cX9_pay 28 = .ok (.aload_n 0, 1) := by decide +kernel
theorem dX9_pay_29 : decode cX9_pay 29 = .ok (.iload_n 1, 1) := by decide +kernel
theorem dX9_pay_30 : decode cX9_pay 30 = .ok (.invokevirtual 200, 3) := by decide +kernel
theorem dX9_pay_33 : decode cX9_pay 33 = .ok (.istore_n 2, 1) := by decide +kernel
theorem dX9_pay_34 : decode cX9_pay 34 = .ok (.aload_n 0, 1) := by decide +kernel
theorem dX9_pay_35 : decode cX9_pay 35 = .ok (.iload_n 1, 1) := by decide +kernel
theorem dX9_pay_36 : decode cX9_pay 36 = .ok (.invokevirtual 203, 3) := by decide +kernel
theorem dX9_pay_39 : decode cX9_pay 39 = .ok (.iload_n 2, 1) := by decide +kernel
theorem dX9_pay_40 : decode cX9_pay 40 = .ok (.ireturn, 1) := by decide +kernel
theorem dX9_payPrice_0 : decode cX9_payPrice 0 = .ok (.aload_n 0, 1) := by decide +kernel
theorem dX9_payPrice_1 : decode cX9_payPrice 1 = .ok (.iload_n 1, 1) := by decide +kernel
theorem dX9_payPrice_2 : decode cX9_payPrice 2 = .ok (.iconst 5, 1) := by decide +kernel
theorem dX9_payPrice_3 : decode cX9_payPrice 3 = .ok (.invokevirtual 110, 3) := by decide +kernel
theorem dX9_payPrice_6 : decode cX9_payPrice 6 = .ok (.iconst 1, 1) := by decide +kernel
theorem dX9_payPrice_7 : decode cX9_payPrice 7 = .ok (.if_icmp .ne 6, 3) := by decide +kernel
theorem dX9_payPrice_10 : decode cX9_payPrice 10 = .ok (.bipush (-3), 2) := by decide +kernel
theorem dX9_payPrice_12 : decode cX9_payPrice 12 = .ok (.ireturn, 1) := by decide +kernel
theorem dX9_payPrice_13 : decode cX9_payPrice 13 = .ok (.aload_n 0, 1) := by decide +kernel
theorem dX9_payPrice_14 : decode cX9_payPrice 14 = .ok (.iload_n 1, 1) := by decide +kernel
theorem dX9_payPrice_15 : decode cX9_payPrice 15 = .ok (.iconst 1, 1) := by decide +kernel
theorem dX9_payPrice_16 : decode cX9_payPrice 16 = .ok (.invokevirtual 110, 3) := by decide +kernel
theorem dX9_payPrice_19 : decode cX9_payPrice 19 = .ok (.istore_n 2, 1) := by decide +kernel
theorem dX9_payPrice_20 : decode cX9_payPrice 20 = .ok (.aload_n 0, 1) := by decide +kernel
theorem dX9_payPrice_21 : decode cX9_payPrice 21 = .ok (.getfield 21, 3) := by decide +kernel
theorem dX9_payPrice_24 : decode cX9_payPrice 24 = .ok (.iload_n 1, 1) := by decide +kernel
theorem dX9_payPrice_25 : decode cX9_payPrice 25 = .ok (.invokevirtual 117, 3) := by decide +kernel
theorem dX9_payPrice_28 : decode cX9_payPrice 28 = .ok (.iload_n 2, 1) := by decide +kernel
theorem dX9_payPrice_29 : decode cX9_payPrice 29 = .ok (.isub, 1) := by decide +kernel
theorem dX9_payPrice_30 : decode cX9_payPrice 30 = .ok (.istore_n 3, 1) := by decide +kernel
theorem dX9_payPrice_31 : decode cX9_payPrice 31 = .ok (.iload_n 3, 1) := by decide +kernel
theorem dX9_payPrice_32 : decode cX9_payPrice 32 = .ok (.ifCond .ge 10, 3) := by decide +kernel
theorem dX9_payPrice_35 : decode cX9_payPrice 35 = .ok (.aload_n 0, 1) := by decide +kernel
theorem dX9_payPrice_36 : decode cX9_payPrice 36 = .ok (.bipush 8, 2) := by decide +kernel
theorem dX9_payPrice_38 : decode cX9_payPrice 38 = .ok (.invokevirtual 103, 3) := by decide +kernel
theorem dX9_payPrice_41 : decode cX9_payPrice 41 = .ok (.ireturn, 1) := by decide +kernel
theorem dX9_payPrice_42 : decode cX9_payPrice 42 = .ok (.aload_n 0, 1) := by decide +kernel
theorem dX9_payPrice_43 : decode cX9_payPrice 43 = .ok (.getfield 21, 3) := by decide +kernel
theorem dX9_payPrice_46 : decode cX9_payPrice 46 = .ok (.iload_n 1, 1) := by decide +kernel
theorem dX9_payPrice_47 : decode cX9_payPrice 47 = .ok (.iload_n 3, 1) := by decide +kernel
theorem dX9_payPrice_48 : decode cX9_payPrice 48 = .ok (.invokevirtual 206, 3) := by decide +kernel
theorem dX9_payPrice_51 : decode cX9_payPrice 51 = .ok (.ifCond .ne 19, 3) := by decide +kernel
theorem dX9_payPrice_54 : decode cX9_payPrice 54 = .ok (.aload_n 0, 1) := by decide +kernel
theorem dX9_payPrice_55 : decode cX9_payPrice 55 = .ok (.getfield 21, 3) := by decide +kernel
theorem dX9_payPrice_58 : decode cX9_payPrice 58 = .ok (.iload_n 1, 1) := by decide +kernel
theorem dX9_payPrice_59 : decode cX9_payPrice 59 = .ok (.invokevirtual 209, 3) := by decide +kernel
theorem dX9_payPrice_62 : decode cX9_payPrice 62 = .ok (.pop, 1) := by decide +kernel
theorem dX9_payPrice_63 : decode cX9_payPrice 63 = .ok (.aload_n 0, 1) := by decide +kernel
theorem dX9_payPrice_64 : decode cX9_payPrice 64 = .ok (.bipush 9, 2) := by decide +kernel
theorem dX9_payPrice_66 : decode cX9_payPrice 66 = .ok (.invokevirtual 103, 3) := by decide +kernel
theorem dX9_payPrice_69 : decode cX9_payPrice 69 = .ok (.ireturn, 1) := by decide +kernel
theorem dX9_payPrice_70 : decode cX9_payPrice 70 = .ok (.aload_n 0, 1) := by decide +kernel
theorem dX9_payPrice_71 : decode cX9_payPrice 71 = .ok (.getfield 21, 3) := by decide +kernel
theorem dX9_payPrice_74 : decode cX9_payPrice 74 = .ok (.iload_n 1, 1) := by decide +kernel
theorem dX9_payPrice_75 : decode cX9_payPrice 75 = .ok (.iload_n 3, 1) := by decide +kernel
theorem dX9_payPrice_76 : decode cX9_payPrice 76 = .ok (.invokevirtual 212, 3) := by decide +kernel
theorem dX9_payPrice_79 : decode cX9_payPrice 79 = .ok (.aload_n 0, 1) := by decide +kernel
theorem dX9_payPrice_80 : decode cX9_payPrice 80 = .ok (.iload_n 1, 1) := by decide +kernel
theorem dX9_payPrice_81 : decode cX9_payPrice 81 = .ok (.iconst 5, 1) := by decide +kernel
theorem dX9_payPrice_82 : decode cX9_payPrice 82 = .ok (.iconst 1, 1) := by decide +kernel
theorem dX9_payPrice_83 : decode cX9_payPrice 83 = .ok (.invokevirtual 99, 3) := by decide +kernel
theorem dX9_payPrice_86 : decode cX9_payPrice 86 = .ok (.aload_n 0, 1) := by decide +kernel
theorem dX9_payPrice_87 : decode cX9_payPrice 87 = .ok (.iload_n 1, 1) := by decide +kernel
theorem dX9_payPrice_88 : decode cX9_payPrice 88 = .ok (.bipush 35, 2) := by decide +kernel
theorem dX9_payPrice_90 : decode cX9_payPrice 90 = .ok (.iload_n 2, 1) := by decide +kernel
theorem dX9_payPrice_91 : decode cX9_payPrice 91 = .ok (.invokevirtual 190, 3) := by decide +kernel
theorem dX9_payPrice_94 : decode cX9_payPrice 94 = .ok (.aload_n 0, 1) := by decide +kernel
theorem dX9_payPrice_95 : decode cX9_payPrice 95 = .ok (.getfield 12, 3) := by decide +kernel
theorem dX9_payPrice_98 : decode cX9_payPrice 98 = .ok (.sipush 8554, 3) := by decide +kernel
theorem dX9_payPrice_101 : decode cX9_payPrice 101 = .ok (.iload_n 2, 1) := by decide +kernel
theorem dX9_payPrice_102 : decode cX9_payPrice 102 = .ok (.invokevirtual 193, 3) := by decide +kernel
theorem dX9_payPrice_105 : decode cX9_payPrice 105 = .ok (.iload_n 3, 1) := by decide +kernel
theorem dX9_payPrice_106 : decode cX9_payPrice 106 = .ok (.ireturn, 1) := by decide +kernel
theorem dX9_refund_0 : decode cX9_refund 0 = .ok (.iload_n 1, 1) := by decide +kernel
theorem dX9_refund_1 : decode cX9_refund 1 = .ok (.invokestatic 88, 3) := by decide +kernel
theorem dX9_refund_4 : decode cX9_refund 4 = .ok (.ifCond .ne 5, 3) := by decide +kernel
theorem dX9_refund_7 : decode cX9_refund 7 = .ok (.iconst (-1), 1) := by decide +kernel
theorem dX9_refund_8 : decode cX9_refund 8 = .ok (.ireturn, 1) := by decide +kernel
theorem dX9_refund_9 : decode cX9_refund 9 = .ok (.aload_n 0, 1) := by decide +kernel
theorem dX9_refund_10 : decode cX9_refund 10 = .ok (.iload_n 1, 1) := by decide +kernel
theorem dX9_refund_11 : decode cX9_refund 11 = .ok (.invokevirtual 96, 3) := by decide +kernel
theorem dX9_refund_14 : decode cX9_refund 14 = .ok (.ifCond .ne 9, 3) := by decide +kernel
theorem dX9_refund_17 : decode cX9_refund 17 = .ok (.aload_n 0, 1) := by decide +kernel
theorem dX9_refund_18 : decode cX9_refund 18 = .ok (.iconst 1, 1) := by decide +kernel
theorem dX9_refund_19 : decode cX9_refund 19 = .ok (.invokevirtual 103, 3) := by decide +kernel
theorem dX9_refund_22 : decode cX9_refund 22 = .ok (.ireturn, 1) := by decide +kernel
theorem dX9_refund_23 : decode cX9_refund 23 = .ok (.aload_n 0, 1) := by decide +kernel
theorem dX9_refund_24 : decode cX9_refund 24 = .ok (.getfield 21, 3) := by decide +kernel
theorem dX9_refund_27 : decode cX9_refund 27 = .ok (.iload_n 1, 1) := by decide +kernel
theorem dX9_refund_28 : decode cX9_refund 28 = .ok (.invokevirtual 209, 3) := by decide +kernel
theorem dX9_refund_31 : decode cX9_refund 31 = .ok (.ireturn, 1) := by decide +kernel
theorem dX9_given_0 : decode cX9_given 0 = .ok (.aload_n 0, 1) := by decide +kernel
theorem dX9_given_1 : decode cX9_given 1 = .ok (.getfield 21, 3) := by decide +kernel
theorem dX9_given_4 : decode cX9_given 4 = .ok (.iload_n 1, 1) := by decide +kernel
theorem dX9_given_5 : decode cX9_given 5 = .ok (.invokevirtual 215, 3) := by decide +kernel
theorem dX9_given_8 : decode cX9_given 8 = .ok (.ireturn, 1) := by decide +kernel
theorem dX9_coins_0 : decode cX9_coins 0 = .ok (.iload_n 1, 1) := by decide +kernel
theorem dX9_coins_1 : decode cX9_coins 1 = .ok (.invokestatic 181, 3) := by decide +kernel
theorem dX9_coins_4 : decode cX9_coins 4 = .ok (.ifCond .ne 5, 3) := by decide +kernel
theorem dX9_coins_7 : decode cX9_coins 7 = .ok (.iconst (-1), 1) := by decide +kernel
theorem dX9_coins_8 : decode cX9_coins 8 = .ok (.ireturn, 1) := by decide +kernel
theorem dX9_coins_9 : decode cX9_coins 9 = .ok (.iload_n 2, 1) := by decide +kernel
theorem dX9_coins_10 : decode cX9_coins 10 = .ok (.iconst 0, 1) := by decide +kernel
theorem dX9_coins_11 : decode cX9_coins 11 = .ok (.iconst 1, 1) := by decide +kernel
theorem dX9_coins_12 : decode cX9_coins 12 = .ok (.invokestatic 92, 3) := by decide +kernel
theorem dX9_coins_15 : decode cX9_coins 15 = .ok (.ifCond .ne 6, 3) := by decide +kernel
theorem dX9_coins_18 : decode cX9_coins 18 = .ok (.bipush (-2), 2) := by decide +kernel
theorem dX9_coins_20 : decode cX9_coins 20 = .ok (.ireturn, 1) := by decide +kernel
theorem dX9_coins_21 : decode cX9_coins 21 = .ok (.aload_n 0, 1) := by decide +kernel
theorem dX9_coins_22 : decode cX9_coins 22 = .ok (.getfield 12, 3) := by decide +kernel
theorem dX9_coins_25 : decode cX9_coins 25 = .ok (.iload_n 2, 1) := by decide +kernel
theorem dX9_coins_26 : decode cX9_coins 26 = .ok (.ifCond .ne 9, 3) := by decide +kernel
theorem dX9_coins_29 : decode cX9_coins 29 = .ok (.sipush 8420, 3) := by decide +kernel
theorem dX9_coins_32 : decode cX9_coins 32 = .ok (.goto 6, 3) := by decide +kernel
theorem dX9_coins_35 : decode cX9_coins 35 = .ok (.sipush 8432, 3) := by decide +kernel
theorem dX9_coins_38 : decode cX9_coins 38 = .ok (.iload_n 1, 1) := by decide +kernel
theorem dX9_coins_39 : decode cX9_coins 39 = .ok (.iadd, 1) := by decide +kernel
theorem dX9_coins_40 : decode cX9_coins 40 = .ok (.invokevirtual 175, 3) := by decide +kernel
theorem dX9_coins_43 : decode cX9_coins 43 = .ok (.ireturn, 1) := by decide +kernel
theorem dX9_credit_0 : decode cX9_credit 0 = .ok (.iload_n 1, 1) := by decide +kernel
theorem dX9_credit_1 : decode cX9_credit 1 = .ok (.invokestatic 88, 3) := by decide +kernel
theorem dX9_credit_4 : decode cX9_credit 4 = .ok (.ifCond .eq 14, 3) := by decide +kernel
theorem dX9_credit_7 : decode cX9_credit 7 = .ok (.aload_n 0, 1) := by decide +kernel
theorem dX9_credit_8 : decode cX9_credit 8 = .ok (.getfield 21, 3) := by decide +kernel
theorem dX9_credit_11 : decode cX9_credit 11 = .ok (.iload_n 1, 1) := by decide +kernel
theorem dX9_credit_12 : decode cX9_credit 12 = .ok (.invokevirtual 117, 3) := by decide +kernel
theorem dX9_credit_15 : decode cX9_credit 15 = .ok (.goto 4, 3) := by decide +kernel
theorem dX9_credit_18 : decode cX9_credit 18 = .ok (.iconst (-1), 1) := by decide +kernel
theorem dX9_credit_19 : decode cX9_credit 19 = .ok (.ireturn, 1) := by decide +kernel
theorem dX9_load_0 : decode cX9_load 0 = .ok (.iload_n 1, 1) := by decide +kernel
theorem dX9_load_1 : decode cX9_load 1 = .ok (.iconst 0, 1) := by decide +kernel
theorem dX9_load_2 : decode cX9_load 2 = .ok (.bipush 9, 2) := by decide +kernel
theorem dX9_load_4 : decode cX9_load 4 = .ok (.invokestatic 92, 3) := by decide +kernel
theorem dX9_load_7 : decode cX9_load 7 = .ok (.ifCond .eq 21, 3) := by decide +kernel
theorem dX9_load_10 : decode cX9_load 10 = .ok (.iload_n 2, 1) := by decide +kernel
theorem dX9_load_11 : decode cX9_load 11 = .ok (.iconst 1, 1) := by decide +kernel
theorem dX9_load_12 : decode cX9_load 12 = .ok (.sipush 20000, 3) := by decide +kernel
theorem dX9_load_15 : decode cX9_load 15 = .ok (.invokestatic 92, 3) := by decide +kernel
theorem dX9_load_18 : decode cX9_load 18 = .ok (.ifCond .eq 10, 3) := by decide +kernel
theorem dX9_load_21 : decode cX9_load 21 = .ok (.iload_n 3, 1) := by decide +kernel
theorem dX9_load_22 : decode cX9_load 22 = .ok (.invokestatic 218, 3) := by decide +kernel
theorem dX9_load_25 : decode cX9_load 25 = .ok (.ifCond .ne 6, 3) := by decide +kernel
theorem dX9_load_28 : decode cX9_load 28 = .ok (.bipush (-2), 2) := by decide +kernel
theorem dX9_load_30 : decode cX9_load 30 = .ok (.ireturn, 1) := by decide +kernel
theorem dX9_load_31 : decode cX9_load 31 = .ok (.aload_n 0, 1) := by decide +kernel
theorem dX9_load_32 : decode cX9_load 32 = .ok (.getfield 12, 3) := by decide +kernel
theorem dX9_load_35 : decode cX9_load 35 = .ok (.sipush 8550, 3) := by decide +kernel
theorem dX9_load_38 : decode cX9_load 38 = .ok (.invokevirtual 175, 3) := by decide +kernel
theorem dX9_load_41 : decode cX9_load 41 = .ok (.istore 4, 2) := by decide +kernel
theorem dX9_load_43 : decode cX9_load 43 = .ok (.iload 4, 2) := by decide +kernel
theorem dX9_load_45 : decode cX9_load 45 = .ok (.sipush 500, 3) := by decide +kernel
theorem dX9_load_48 : decode cX9_load 48 = .ok (.if_icmp .lt 6, 3) := by decide +kernel
theorem dX9_load_51 : decode cX9_load 51 = .ok (.bipush (-4), 2) := by decide +kernel
theorem dX9_load_53 : decode cX9_load 53 = .ok (.ireturn, 1) := by decide +kernel
theorem dX9_load_54 : decode cX9_load 54 = .ok (.aload_n 0, 1) := by decide +kernel
theorem dX9_load_55 : decode cX9_load 55 = .ok (.dup, 1) := by decide +kernel
theorem dX9_load_56 : decode cX9_load 56 = .ok (.getfield 74, 3) := by decide +kernel
theorem dX9_load_59 : decode cX9_load 59 = .ok (.iconst 1, 1) := by decide +kernel
theorem dX9_load_60 : decode cX9_load 60 = .ok (.iadd, 1) := by decide +kernel
theorem dX9_load_61 : decode cX9_load 61 = .ok (.putfield 74, 3) := by decide +kernel
theorem dX9_load_64 : decode cX9_load 64 = .ok (.aload_n 0, 1) := by decide +kernel
theorem dX9_load_65 : decode cX9_load 65 = .ok (.getfield 12, 3) := by decide +kernel
theorem dX9_load_68 : decode cX9_load 68 = .ok (.iload 4, 2) := by decide +kernel
theorem dX9_load_70 : decode cX9_load 70 = .ok (.iconst 0, 1) := by decide +kernel
theorem dX9_load_71 : decode cX9_load 71 = .ok (.invokestatic 221, 3) := by decide +kernel
theorem dX9_load_74 : decode cX9_load 74 = .ok (.iload_n 1, 1) := by decide +kernel
theorem dX9_load_75 : decode cX9_load 75 = .ok (.invokevirtual 84, 3) := by decide +kernel
theorem dX9_load_78 : decode cX9_load 78 = .ok (.aload_n 0, 1) := by decide +kernel
theorem dX9_load_79 : decode cX9_load 79 = .ok (.getfield 12, 3) := by decide +kernel
theorem dX9_load_82 : decode cX9_load 82 = .ok (.iload 4, 2) := by decide +kernel
theorem dX9_load_84 : decode cX9_load 84 = .ok (.iconst 1, 1) := by decide +kernel
theorem dX9_load_85 : decode cX9_load 85 = .ok (.invokestatic 221, 3) := by decide +kernel
theorem dX9_load_88 : decode cX9_load 88 = .ok (.iload_n 2, 1) := by decide +kernel
theorem dX9_load_89 : decode cX9_load 89 = .ok (.invokevirtual 84, 3) := by decide +kernel
theorem dX9_load_92 : decode cX9_load 92 = .ok (.aload_n 0, 1) := by decide +kernel
theorem dX9_load_93 : decode cX9_load 93 = .ok (.getfield 12, 3) := by decide +kernel
theorem dX9_load_96 : decode cX9_load 96 = .ok (.iload 4, 2) := by decide +kernel
theorem dX9_load_98 : decode cX9_load 98 = .ok (.iconst 2, 1) := by decide +kernel
theorem dX9_load_99 : decode cX9_load 99 = .ok (.invokestatic 221, 3) := by decide +kernel
theorem dX9_load_102 : decode cX9_load 102 = .ok (.iload_n 3, 1) := by decide +kernel
theorem dX9_load_103 : decode cX9_load 103 = .ok (.invokevirtual 84, 3) := by decide +kernel
theorem dX9_load_106 : decode cX9_load 106 = .ok (.aload_n 0, 1) := by decide +kernel
theorem dX9_load_107 : decode cX9_load 107 = .ok (.getfield 12, 3) := by decide +kernel
theorem dX9_load_110 : decode cX9_load 110 = .ok (.iload 4, 2) := by decide +kernel
theorem dX9_load_112 : decode cX9_load 112 = .ok (.iconst 3, 1) := by decide +kernel
theorem dX9_load_113 : decode cX9_load 113 = .ok (.invokestatic 221, 3) := by decide +kernel
theorem dX9_load_116 : decode cX9_load 116 = .ok (.iconst (-1), 1) := by decide +kernel
theorem dX9_load_117 : decode cX9_load 117 = .ok (.invokevirtual 84, 3) := by decide +kernel
theorem dX9_load_120 : decode cX9_load 120 = .ok (.aload_n 0, 1) := by decide +kernel
theorem dX9_load_121 : decode cX9_load 121 = .ok (.getfield 12, 3) := by decide +kernel
theorem dX9_load_124 : decode cX9_load 124 = .ok (.iload 4, 2) := by decide +kernel
theorem dX9_load_126 : decode cX9_load 126 = .ok (.iconst 4, 1) := by decide +kernel
theorem dX9_load_127 : decode cX9_load 127 = .ok (.invokestatic 221, 3) := by decide +kernel
theorem dX9_load_130 : decode cX9_load 130 = .ok (.aload_n 0, 1) := by decide +kernel
theorem dX9_load_131 : decode cX9_load 131 = .ok (.getfield 74, 3) := by decide +kernel
theorem dX9_load_134 : decode cX9_load 134 = .ok (.invokevirtual 84, 3) := by decide +kernel
theorem dX9_load_137 : decode cX9_load 137 = .ok (.aload_n 0, 1) := by decide +kernel
theorem dX9_load_138 : decode cX9_load 138 = .ok (.getfield 12, 3) := by decide +kernel
theorem dX9_load_141 : decode cX9_load 141 = .ok (.sipush 8550, 3) := by decide +kernel
theorem dX9_load_144 : decode cX9_load 144 = .ok (.iload 4, 2) := by decide +kernel
theorem dX9_load_146 : decode cX9_load 146 = .ok (.iconst 1, 1) := by decide +kernel
theorem dX9_load_147 : decode cX9_load 147 = .ok (.iadd, 1) := by decide +kernel
theorem dX9_load_148 : decode cX9_load 148 = .ok (.invokevirtual 84, 3) := by decide +kernel
theorem dX9_load_151 : decode cX9_load 151 = .ok (.iload 4, 2) := by decide +kernel
theorem dX9_load_153 : decode cX9_load 153 = .ok (.ireturn, 1) := by decide +kernel
theorem dX9_mix_0 : decode cX9_mix 0 = .ok (.iload_n 1, 1) := by decide +kernel
theorem dX9_mix_1 : decode cX9_mix 1 = .ok (.invokestatic 218, 3) := by decide +kernel
theorem dX9_mix_4 : decode cX9_mix 4 = .ok (.ifCond .eq 15, 3) := by decide +kernel
theorem dX9_mix_7 : decode cX9_mix 7 = .ok (.iload_n 2, 1) := by decide +kernel
theorem dX9_mix_8 : decode cX9_mix 8 = .ok (.invokestatic 218, 3) := by decide +kernel
theorem dX9_mix_11 : decode cX9_mix 11 = .ok (.ifCond .eq 8, 3) := by decide +kernel
theorem dX9_mix_14 : decode cX9_mix 14 = .ok (.iload_n 1, 1) := by decide +kernel
theorem dX9_mix_15 : decode cX9_mix 15 = .ok (.iload_n 2, 1) := by decide +kernel
theorem dX9_mix_16 : decode cX9_mix 16 = .ok (.if_icmp .ne 6, 3) := by decide +kernel
theorem dX9_mix_19 : decode cX9_mix 19 = .ok (.bipush (-2), 2) := by decide +kernel
theorem dX9_mix_21 : decode cX9_mix 21 = .ok (.ireturn, 1) := by decide +kernel
theorem dX9_mix_22 : decode cX9_mix 22 = .ok (.aload_n 0, 1) := by decide +kernel
theorem dX9_mix_23 : decode cX9_mix 23 = .ok (.iload_n 1, 1) := by decide +kernel
theorem dX9_mix_24 : decode cX9_mix 24 = .ok (.iload_n 2, 1) := by decide +kernel
theorem dX9_mix_25 : decode cX9_mix 25 = .ok (.invokevirtual 224, 3) := by decide +kernel
theorem dX9_mix_28 : decode cX9_mix 28 = .ok (.ifCond .eq 7, 3) := by decide +kernel
theorem dX9_mix_31 : decode cX9_mix 31 = .ok (.iconst 1, 1) := by decide +kernel
theorem dX9_mix_32 : decode cX9_mix 32 = .ok (.goto 4, 3) := by decide +kernel
theorem dX9_mix_35 : decode cX9_mix 35 = .ok (.iconst 0, 1) := by decide +kernel
theorem dX9_mix_36 : decode cX9_mix 36 = .ok (.istore 4, 2) := by decide +kernel
theorem dX9_mix_38 : decode cX9_mix 38 = .ok (.iload_n 3, 1) := by decide +kernel
theorem dX9_mix_39 : decode cX9_mix 39 = .ok (.ifCond .eq 7, 3) := by decide +kernel
theorem dX9_mix_42 : decode cX9_mix 42 = .ok (.iconst 0, 1) := by decide +kernel
theorem dX9_mix_43 : decode cX9_mix 43 = .ok (.goto 4, 3) := by decide +kernel
theorem dX9_mix_46 : decode cX9_mix 46 = .ok (.iconst 1, 1) := by decide +kernel
theorem dX9_mix_47 : decode cX9_mix 47 = .ok (.istore 5, 2) := by decide +kernel
theorem dX9_mix_49 : decode cX9_mix 49 = .ok (.aload_n 0, 1) := by decide +kernel
theorem dX9_mix_50 : decode cX9_mix 50 = .ok (.getfield 12, 3) := by decide +kernel
theorem dX9_mix_53 : decode cX9_mix 53 = .ok (.iload_n 1, 1) := by decide +kernel
theorem dX9_mix_54 : decode cX9_mix 54 = .ok (.iload_n 2, 1) := by decide +kernel
theorem dX9_mix_55 : decode cX9_mix 55 = .ok (.invokestatic 227, 3) := by decide +kernel
theorem dX9_mix_58 : decode cX9_mix 58 = .ok (.iload 5, 2) := by decide +kernel
theorem dX9_mix_60 : decode cX9_mix 60 = .ok (.invokevirtual 84, 3) := by decide +kernel
theorem dX9_mix_63 : decode cX9_mix 63 = .ok (.aload_n 0, 1) := by decide +kernel
theorem dX9_mix_64 : decode cX9_mix 64 = .ok (.getfield 12, 3) := by decide +kernel
theorem dX9_mix_67 : decode cX9_mix 67 = .ok (.iload_n 2, 1) := by decide +kernel
theorem dX9_mix_68 : decode cX9_mix 68 = .ok (.iload_n 1, 1) := by decide +kernel
theorem dX9_mix_69 : decode cX9_mix 69 = .ok (.invokestatic 227, 3) := by decide +kernel
theorem dX9_mix_72 : decode cX9_mix 72 = .ok (.iload 5, 2) := by decide +kernel
theorem dX9_mix_74 : decode cX9_mix 74 = .ok (.invokevirtual 84, 3) := by decide +kernel
theorem dX9_mix_77 : decode cX9_mix 77 = .ok (.iload 4, 2) := by decide +kernel
theorem dX9_mix_79 : decode cX9_mix 79 = .ok (.ireturn, 1) := by decide +kernel
theorem dX9_put_0 : decode cX9_put 0 = .ok (.iload_n 1, 1) := by decide +kernel
theorem dX9_put_1 : decode cX9_put 1 = .ok (.invokestatic 88, 3) := by decide +kernel
theorem dX9_put_4 : decode cX9_put 4 = .ok (.ifCond .eq 11, 3) := by decide +kernel
theorem dX9_put_7 : decode cX9_put 7 = .ok (.aload_n 0, 1) := by decide +kernel
theorem dX9_put_8 : decode cX9_put 8 = .ok (.iload_n 2, 1) := by decide +kernel
theorem dX9_put_9 : decode cX9_put 9 = .ok (.invokevirtual 230, 3) := by decide +kernel
theorem dX9_put_12 : decode cX9_put 12 = .ok (.ifCond .ne 5, 3) := by decide +kernel
theorem dX9_put_15 : decode cX9_put 15 = .ok (.iconst (-1), 1) := by decide +kernel
theorem dX9_put_16 : decode cX9_put 16 = .ok (.ireturn, 1) := by decide +kernel
theorem dX9_put_17 : decode cX9_put 17 = .ok (.aload_n 0, 1) := by decide +kernel
theorem dX9_put_18 : decode cX9_put 18 = .ok (.iload_n 1, 1) := by decide +kernel
theorem dX9_put_19 : decode cX9_put 19 = .ok (.invokevirtual 96, 3) := by decide +kernel
theorem dX9_put_22 : decode cX9_put 22 = .ok (.ifCond .ne 9, 3) := by decide +kernel
theorem dX9_put_25 : decode cX9_put 25 = .ok (.aload_n 0, 1) := by decide +kernel
theorem dX9_put_26 : decode cX9_put 26 = .ok (.iconst 1, 1) := by decide +kernel
theorem dX9_put_27 : decode cX9_put 27 = .ok (.invokevirtual 103, 3) := by decide +kernel
theorem dX9_put_30 : decode cX9_put 30 = .ok (.ireturn, 1) := by decide +kernel
theorem dX9_put_31 : decode cX9_put 31 = .ok (.aload_n 0, 1) := by decide +kernel
theorem dX9_put_32 : decode cX9_put 32 = .ok (.iload_n 1, 1) := by decide +kernel
theorem dX9_put_33 : decode cX9_put 33 = .ok (.invokevirtual 196, 3) := by decide +kernel
theorem dX9_put_36 : decode cX9_put 36 = .ok (.aload_n 0, 1) := by decide +kernel
theorem dX9_put_37 : decode cX9_put 37 = .ok (.iload_n 1, 1) := by decide +kernel
theorem dX9_put_38 : decode cX9_put 38 = .ok (.iload_n 2, 1) := by decide +kernel
theorem dX9_put_39 : decode cX9_put 39 = .ok (.invokevirtual 233, 3) := by decide +kernel
theorem dX9_put_42 : decode cX9_put 42 = .ok (.istore_n 3, 1) := by decide +kernel
theorem dX9_put_43 : decode cX9_put 43 = .ok (.aload_n 0, 1) := by decide +kernel
theorem dX9_put_44 : decode cX9_put 44 = .ok (.iload_n 1, 1) := by decide +kernel
theorem dX9_put_45 : decode cX9_put 45 = .ok (.invokevirtual 203, 3) := by decide +kernel
theorem dX9_put_48 : decode cX9_put 48 = .ok (.iload_n 3, 1) := by decide +kernel
theorem dX9_put_49 : decode cX9_put 49 = .ok (.ireturn, 1) := by decide +kernel
theorem dX9_putInside_0 : decode cX9_putInside 0 = .ok (.aload_n 0, 1) := by decide +kernel
theorem dX9_putInside_1 : decode cX9_putInside 1 = .ok (.getfield 12, 3) := by decide +kernel
theorem dX9_putInside_4 : decode cX9_putInside 4 = .ok (.iload_n 2, 1) := by decide +kernel
theorem dX9_putInside_5 : decode cX9_putInside 5 = .ok (.iconst 3, 1) := by decide +kernel
theorem dX9_putInside_6 : decode cX9_putInside 6 = .ok (.invokestatic 221, 3) := by decide +kernel
theorem dX9_putInside_9 : decode cX9_putInside 9 = .ok (.invokevirtual 175, 3) := by decide +kernel
theorem dX9_putInside_12 : decode cX9_putInside 12 = .ok (.iconst (-1), 1) := by decide +kernel
theorem dX9_putInside_13 : decode cX9_putInside 13 = .ok (.if_icmp .eq 9, 3) := by decide +kernel
theorem dX9_putInside_16 : decode cX9_putInside 16 = .ok (.aload_n 0, 1) := by decide +kernel
theorem dX9_putInside_17 : decode cX9_putInside 17 = .ok (.iconst 2, 1) := by decide +kernel
theorem dX9_putInside_18 : decode cX9_putInside 18 = .ok (.invokevirtual 103, 3) := by decide +kernel
theorem dX9_putInside_21 : decode cX9_putInside 21 = .ok (.ireturn, 1) := by decide +kernel
theorem dX9_putInside_22 : decode cX9_putInside 22 = .ok (.aload_n 0, 1) := by decide +kernel
theorem dX9_putInside_23 : decode cX9_putInside 23 = .ok (.iload_n 1, 1) := by decide +kernel
theorem dX9_putInside_24 : decode cX9_putInside 24 = .ok (.invokevirtual 236, 3) := by decide +kernel
theorem dX9_putInside_27 : decode cX9_putInside 27 = .ok (.ifCond .eq 10, 3) := by decide +kernel
theorem dX9_putInside_30 : decode cX9_putInside 30 = .ok (.aload_n 0, 1) := by decide +kernel
theorem dX9_putInside_31 : decode cX9_putInside 31 = .ok (.bipush 7, 2) := by decide +kernel
theorem dX9_putInside_33 : decode cX9_putInside 33 = .ok (.invokevirtual 103, 3) := by decide +kernel
theorem dX9_putInside_36 : decode cX9_putInside 36 = .ok (.ireturn, 1) := by decide +kernel
theorem dX9_putInside_37 : decode cX9_putInside 37 = .ok (.aload_n 0, 1) := by decide +kernel
theorem dX9_putInside_38 : decode cX9_putInside 38 = .ok (.iload_n 1, 1) := by decide +kernel
theorem dX9_putInside_39 : decode cX9_putInside 39 = .ok (.invokevirtual 107, 3) := by decide +kernel
theorem dX9_putInside_42 : decode cX9_putInside 42 = .ok (.ifCond .eq 20, 3) := by decide +kernel
theorem dX9_putInside_45 : decode cX9_putInside 45 = .ok (.aload_n 0, 1) := by decide +kernel
theorem dX9_putInside_46 : decode cX9_putInside 46 = .ok (.iload_n 1, 1) := by decide +kernel
theorem dX9_putInside_47 : decode cX9_putInside 47 = .ok (.bipush 8, 2) := by decide +kernel
theorem dX9_putInside_49 : decode cX9_putInside 49 = .ok (.invokevirtual 110, 3) := by decide +kernel
theorem dX9_putInside_52 : decode cX9_putInside 52 = .ok (.ifCond .ne 10, 3) := by decide +kernel
theorem dX9_putInside_55 : decode cX9_putInside 55 = .ok (.aload_n 0, 1) := by decide +kernel
theorem dX9_putInside_56 : decode cX9_putInside 56 = .ok (.bipush 6, 2) := by decide +kernel
theorem dX9_putInside_58 : decode cX9_putInside 58 = .ok (.invokevirtual 103, 3) := by decide +kernel
theorem dX9_putInside_61 : decode cX9_putInside 61 = .ok (.ireturn, 1) := by decide +kernel
theorem dX9_putInside_62 : decode cX9_putInside 62 = .ok (.aload_n 0, 1) := by decide +kernel
theorem dX9_putInside_63 : decode cX9_putInside 63 = .ok (.iload_n 1, 1) := by decide +kernel
theorem dX9_putInside_64 : decode cX9_putInside 64 = .ok (.invokevirtual 239, 3) := by decide +kernel
theorem dX9_putInside_67 : decode cX9_putInside 67 = .ok (.aload_n 0, 1) := by decide +kernel
theorem dX9_putInside_68 : decode cX9_putInside 68 = .ok (.getfield 12, 3) := by decide +kernel
theorem dX9_putInside_71 : decode cX9_putInside 71 = .ok (.iload_n 2, 1) := by decide +kernel
theorem dX9_putInside_72 : decode cX9_putInside 72 = .ok (.iconst 1, 1) := by decide +kernel
theorem dX9_putInside_73 : decode cX9_putInside 73 = .ok (.invokestatic 221, 3) := by decide +kernel
theorem dX9_putInside_76 : decode cX9_putInside 76 = .ok (.invokevirtual 175, 3) := by decide +kernel
theorem dX9_putInside_79 : decode cX9_putInside 79 = .ok (.iadd, 1) := by decide +kernel
theorem dX9_putInside_80 : decode cX9_putInside 80 = .ok (.aload_n 0, 1) := by decide +kernel
theorem dX9_putInside_81 : decode cX9_putInside 81 = .ok (.iload_n 1, 1) := by decide +kernel
theorem dX9_putInside_82 : decode cX9_putInside 82 = .ok (.invokevirtual 120, 3) := by decide +kernel
theorem dX9_putInside_85 : decode cX9_putInside 85 = .ok (.if_icmp .le 10, 3) := by decide +kernel
theorem dX9_putInside_88 : decode cX9_putInside 88 = .ok (.aload_n 0, 1) := by decide +kernel
theorem dX9_putInside_89 : decode cX9_putInside 89 = .ok (.bipush 11, 2) := by decide +kernel
theorem dX9_putInside_91 : decode cX9_putInside 91 = .ok (.invokevirtual 103, 3) := by decide +kernel
theorem dX9_putInside_94 : decode cX9_putInside 94 = .ok (.ireturn, 1) := by decide +kernel
theorem dX9_putInside_95 : decode cX9_putInside 95 = .ok (.aload_n 0, 1) := by decide +kernel
theorem dX9_putInside_96 : decode cX9_putInside 96 = .ok (.iload_n 1, 1) := by decide +kernel
theorem dX9_putInside_97 : decode cX9_putInside 97 = .ok (.aload_n 0, 1) := by decide +kernel
theorem dX9_putInside_98 : decode cX9_putInside 98 = .ok (.getfield 12, 3) := by decide +kernel
theorem dX9_putInside_101 : decode cX9_putInside 101 = .ok (.iload_n 2, 1) := by decide +kernel
theorem dX9_putInside_102 : decode cX9_putInside 102 = .ok (.iconst 2, 1) := by decide +kernel
theorem dX9_putInside_103 : decode cX9_putInside 103 = .ok (.invokestatic 221, 3) := by decide +kernel
theorem dX9_putInside_106 : decode cX9_putInside 106 = .ok (.invokevirtual 175, 3) := by decide +kernel
theorem dX9_putInside_109 : decode cX9_putInside 109 = .ok (.invokevirtual 242, 3) := by decide +kernel
theorem dX9_putInside_112 : decode cX9_putInside 112 = .ok (.ifCond .ne 10, 3) := by decide +kernel
theorem dX9_putInside_115 : decode cX9_putInside 115 = .ok (.aload_n 0, 1) := by decide +kernel
theorem dX9_putInside_116 : decode cX9_putInside 116 = .ok (.bipush 10, 2) := by decide +kernel
theorem dX9_putInside_118 : decode cX9_putInside 118 = .ok (.invokevirtual 103, 3) := by decide +kernel
theorem dX9_putInside_121 : decode cX9_putInside 121 = .ok (.ireturn, 1) := by decide +kernel
theorem dX9_putInside_122 : decode cX9_putInside 122 = .ok (.aload_n 0, 1) := by decide +kernel
theorem dX9_putInside_123 : decode cX9_putInside 123 = .ok (.iload_n 1, 1) := by decide +kernel
theorem dX9_putInside_124 : decode cX9_putInside 124 = .ok (.bipush 9, 2) := by decide +kernel
theorem dX9_putInside_126 : decode cX9_putInside 126 = .ok (.invokevirtual 110, 3) := by decide +kernel
theorem dX9_putInside_129 : decode cX9_putInside 129 = .ok (.istore_n 3, 1) := by decide +kernel
theorem dX9_putInside_130 : decode cX9_putInside 130 = .ok (.iload_n 3, 1) := by decide +kernel
theorem dX9_putInside_131 : decode cX9_putInside 131 = .ok (.bipush 8, 2) := by decide +kernel
theorem dX9_putInside_133 : decode cX9_putInside 133 = .ok (.if_icmp .lt 6, 3) := by decide +kernel
theorem dX9_putInside_136 : decode cX9_putInside 136 = .ok (.bipush (-4), 2) := by decide +kernel
theorem dX9_putInside_138 : decode cX9_putInside 138 = .ok (.ireturn, 1) := by decide +kernel
theorem dX9_putInside_139 : decode cX9_putInside 139 = .ok (.aload_n 0, 1) := by decide +kernel
theorem dX9_putInside_140 : decode cX9_putInside 140 = .ok (.iload_n 1, 1) := by decide +kernel
theorem dX9_putInside_141 : decode cX9_putInside 141 = .ok (.bipush 19, 2) := by decide +kernel
theorem dX9_putInside_143 : decode cX9_putInside 143 = .ok (.iload_n 3, 1) := by decide +kernel
theorem dX9_putInside_144 : decode cX9_putInside 144 = .ok (.iadd, 1) := by decide +kernel
theorem dX9_putInside_145 : decode cX9_putInside 145 = .ok (.iload_n 2, 1) := by decide +kernel
theorem dX9_putInside_146 : decode cX9_putInside 146 = .ok (.invokevirtual 99, 3) := by decide +kernel
theorem dX9_putInside_149 : decode cX9_putInside 149 = .ok (.aload_n 0, 1) := by decide +kernel
theorem dX9_putInside_150 : decode cX9_putInside 150 = .ok (.iload_n 1, 1) := by decide +kernel
theorem dX9_putInside_151 : decode cX9_putInside 151 = .ok (.bipush 9, 2) := by decide +kernel
theorem dX9_putInside_153 : decode cX9_putInside 153 = .ok (.iload_n 3, 1) := by decide +kernel
theorem dX9_putInside_154 : decode cX9_putInside 154 = .ok (.iconst 1, 1) := by decide +kernel
theorem dX9_putInside_155 : decode cX9_putInside 155 = .ok (.iadd, 1) := by decide +kernel
theorem dX9_putInside_156 : decode cX9_putInside 156 = .ok (.invokevirtual 99, 3) := by decide +kernel
theorem dX9_putInside_159 : decode cX9_putInside 159 = .ok (.aload_n 0, 1) := by decide +kernel
theorem dX9_putInside_160 : decode cX9_putInside 160 = .ok (.getfield 12, 3) := by decide +kernel
theorem dX9_putInside_163 : decode cX9_putInside 163 = .ok (.iload_n 2, 1) := by decide +kernel
theorem dX9_putInside_164 : decode cX9_putInside 164 = .ok (.iconst 3, 1) := by decide +kernel
theorem dX9_putInside_165 : decode cX9_putInside 165 = .ok (.invokestatic 221, 3) := by decide +kernel
theorem dX9_putInside_168 : decode cX9_putInside 168 = .ok (.iload_n 1, 1) := by decide +kernel
theorem dX9_putInside_169 : decode cX9_putInside 169 = .ok (.invokevirtual 84, 3) := by decide +kernel
theorem dX9_putInside_172 : decode cX9_putInside 172 = .ok (.iload_n 3, 1) := by decide +kernel
theorem dX9_putInside_173 : decode cX9_putInside 173 = .ok (.iconst 1, 1) := by decide +kernel
theorem dX9_putInside_174 : decode cX9_putInside 174 = .ok (.iadd, 1) := by decide +kernel
theorem dX9_putInside_175 : decode cX9_putInside 175 = .ok (.ireturn, 1) := by decide +kernel
theorem dX9_fetch_0 : decode cX9_fetch 0 = .ok (.aload_n 0, 1) := by decide +kernel
theorem dX9_fetch_1 : decode cX9_fetch 1 = .ok (.iload_n 1, 1) := by decide +kernel
theorem dX9_fetch_2 : decode cX9_fetch 2 = .ok (.invokevirtual 230, 3) := by decide +kernel
theorem dX9_fetch_5 : decode cX9_fetch 5 = .ok (.ifCond .ne 5, 3) := by decide +kernel
theorem dX9_fetch_8 : decode cX9_fetch 8 = .ok (.iconst (-1), 1) := by decide +kernel
theorem dX9_fetch_9 : decode cX9_fetch 9 = .ok (.ireturn, 1) := by decide +kernel
theorem dX9_fetch_10 : decode cX9_fetch 10 = .ok (.aload_n 0, 1) := by decide +kernel
theorem dX9_fetch_11 : decode cX9_fetch 11 = .ok (.getfield 12, 3) := by decide +kernel
theorem dX9_fetch_14 : decode cX9_fetch 14 = .ok (.iload_n 1, 1) := by decide +kernel
theorem dX9_fetch_15 : decode cX9_fetch 15 = .ok (.iconst 3, 1) := by decide +kernel
theorem dX9_fetch_16 : decode cX9_fetch 16 = .ok (.invokestatic 221, 3) := by decide +kernel
theorem dX9_fetch_19 : decode cX9_fetch 19 = .ok (.invokevirtual 175, 3) := by decide +kernel
theorem dX9_fetch_22 : decode cX9_fetch 22 = .ok (.istore_n 2, 1) := by decide +kernel
theorem dX9_fetch_23 : decode cX9_fetch 23 = .ok (.iload_n 2, 1) := by decide +kernel
theorem dX9_fetch_24 : decode cX9_fetch 24 = .ok (.invokestatic 88, 3) := by decide +kernel
theorem dX9_fetch_27 : decode cX9_fetch 27 = .ok (.ifCond .ne 9, 3) := by decide +kernel
theorem dX9_fetch_30 : decode cX9_fetch 30 = .ok (.aload_n 0, 1) := by decide +kernel
theorem dX9_fetch_31 : decode cX9_fetch 31 = .ok (.iconst 2, 1) := by decide +kernel
theorem dX9_fetch_32 : decode cX9_fetch 32 = .ok (.invokevirtual 103, 3) := by decide +kernel
theorem dX9_fetch_35 : decode cX9_fetch 35 = .ok (.ireturn, 1) := by decide +kernel
theorem dX9_fetch_36 : decode cX9_fetch 36 = .ok (.aload_n 0, 1) := by decide +kernel
theorem dX9_fetch_37 : decode cX9_fetch 37 = .ok (.iload_n 2, 1) := by decide +kernel
theorem dX9_fetch_38 : decode cX9_fetch 38 = .ok (.invokevirtual 196, 3) := by decide +kernel
theorem dX9_fetch_41 : decode cX9_fetch 41 = .ok (.aload_n 0, 1) := by decide +kernel
theorem dX9_fetch_42 : decode cX9_fetch 42 = .ok (.iload_n 2, 1) := by decide +kernel
theorem dX9_fetch_43 : decode cX9_fetch 43 = .ok (.iload_n 1, 1) := by decide +kernel
theorem dX9_fetch_44 : decode cX9_fetch 44 = .ok (.invokevirtual 245, 3) := by decide +kernel
theorem dX9_fetch_47 : decode cX9_fetch 47 = .ok (.istore_n 3, 1) := by decide +kernel
theorem dX9_fetch_48 : decode cX9_fetch 48 = .ok (.aload_n 0, 1) := by decide +kernel
theorem dX9_fetch_49 : decode cX9_fetch 49 = .ok (.iload_n 2, 1) := by decide +kernel
theorem dX9_fetch_50 : decode cX9_fetch 50 = .ok (.invokevirtual 203, 3) := by decide +kernel
theorem dX9_fetch_53 : decode cX9_fetch 53 = .ok (.iload_n 3, 1) := by decide +kernel
theorem dX9_fetch_54 : decode cX9_fetch 54 = .ok (.ireturn, 1) := by decide +kernel
theorem dX9_takeFrom_0 : decode cX9_takeFrom 0 = .ok (.aload_n 0, 1) := by decide +kernel
theorem dX9_takeFrom_1 : decode cX9_takeFrom 1 = .ok (.iload_n 1, 1) := by decide +kernel
theorem dX9_takeFrom_2 : decode cX9_takeFrom 2 = .ok (.invokevirtual 114, 3) := by decide +kernel
theorem dX9_takeFrom_5 : decode cX9_takeFrom 5 = .ok (.ifCond .eq 10, 3) := by decide +kernel
theorem dX9_takeFrom_8 : decode cX9_takeFrom 8 = .ok (.aload_n 0, 1) := by decide +kernel
theorem dX9_takeFrom_9 : decode cX9_takeFrom 9 = .ok (.bipush 7, 2) := by decide +kernel
theorem dX9_takeFrom_11 : decode cX9_takeFrom 11 = .ok (.invokevirtual 103, 3) := by decide +kernel
theorem dX9_takeFrom_14 : decode cX9_takeFrom 14 = .ok (.ireturn, 1) := by decide +kernel
theorem dX9_takeFrom_15 : decode cX9_takeFrom 15 = .ok (.aload_n 0, 1) := by decide +kernel
theorem dX9_takeFrom_16 : decode cX9_takeFrom 16 = .ok (.iload_n 1, 1) := by decide +kernel
theorem dX9_takeFrom_17 : decode cX9_takeFrom 17 = .ok (.bipush 9, 2) := by decide +kernel
theorem dX9_takeFrom_19 : decode cX9_takeFrom 19 = .ok (.invokevirtual 110, 3) := by decide +kernel
theorem dX9_takeFrom_22 : decode cX9_takeFrom 22 = .ok (.iconst 1, 1) := by decide +kernel
theorem dX9_takeFrom_23 : decode cX9_takeFrom 23 = .ok (.isub, 1) := by decide +kernel
theorem dX9_takeFrom_24 : decode cX9_takeFrom 24 = .ok (.istore_n 3, 1) := by decide +kernel
theorem dX9_takeFrom_25 : decode cX9_takeFrom 25 = .ok (.iconst 0, 1) := by decide +kernel
theorem dX9_takeFrom_26 : decode cX9_takeFrom 26 = .ok (.istore 4, 2) := by decide +kernel
theorem dX9_takeFrom_28 : decode cX9_takeFrom 28 = .ok (.iload 4, 2) := by decide +kernel
theorem dX9_takeFrom_30 : decode cX9_takeFrom 30 = .ok (.iload_n 3, 1) := by decide +kernel
theorem dX9_takeFrom_31 : decode cX9_takeFrom 31 = .ok (.if_icmp .ge 42, 3) := by decide +kernel
theorem dX9_takeFrom_34 : decode cX9_takeFrom 34 = .ok (.aload_n 0, 1) := by decide +kernel
theorem dX9_takeFrom_35 : decode cX9_takeFrom 35 = .ok (.iload_n 1, 1) := by decide +kernel
theorem dX9_takeFrom_36 : decode cX9_takeFrom 36 = .ok (.bipush 19, 2) := by decide +kernel
theorem dX9_takeFrom_38 : decode cX9_takeFrom 38 = .ok (.iload 4, 2) := by decide +kernel
theorem dX9_takeFrom_40 : decode cX9_takeFrom 40 = .ok (.iadd, 1) := by decide +kernel
theorem dX9_takeFrom_41 : decode cX9_takeFrom 41 = .ok (.invokevirtual 110, 3) := by decide +kernel
theorem dX9_takeFrom_44 : decode cX9_takeFrom 44 = .ok (.iload_n 2, 1) := by decide +kernel
theorem dX9_takeFrom_45 : decode cX9_takeFrom 45 = .ok (.if_icmp .ne 22, 3) := by decide +kernel
theorem dX9_takeFrom_48 : decode cX9_takeFrom 48 = .ok (.aload_n 0, 1) := by decide +kernel
theorem dX9_takeFrom_49 : decode cX9_takeFrom 49 = .ok (.iload_n 1, 1) := by decide +kernel
theorem dX9_takeFrom_50 : decode cX9_takeFrom 50 = .ok (.bipush 19, 2) := by decide +kernel
theorem dX9_takeFrom_52 : decode cX9_takeFrom 52 = .ok (.iload 4, 2) := by decide +kernel
theorem dX9_takeFrom_54 : decode cX9_takeFrom 54 = .ok (.iadd, 1) := by decide +kernel
theorem dX9_takeFrom_55 : decode cX9_takeFrom 55 = .ok (.aload_n 0, 1) := by decide +kernel
theorem dX9_takeFrom_56 : decode cX9_takeFrom 56 = .ok (.iload_n 1, 1) := by decide +kernel
theorem dX9_takeFrom_57 : decode cX9_takeFrom 57 = .ok (.bipush 19, 2) := by decide +kernel
theorem dX9_takeFrom_59 : decode cX9_takeFrom 59 = .ok (.iload_n 3, 1) := by decide +kernel
theorem dX9_takeFrom_60 : decode cX9_takeFrom 60 = .ok (.iadd, 1) := by decide +kernel
theorem dX9_takeFrom_61 : decode cX9_takeFrom 61 = .ok (.invokevirtual 110, 3) := by decide +kernel
theorem dX9_takeFrom_64 : decode cX9_takeFrom 64 = .ok (.invokevirtual 99, 3) := by decide +kernel
theorem dX9_takeFrom_67 : decode cX9_takeFrom 67 = .ok (.iinc 4 1, 3) := by decide +kernel
theorem dX9_takeFrom_70 : decode cX9_takeFrom 70 = .ok (.goto (-42), 3) := by decide +kernel
theorem dX9_takeFrom_73 : decode cX9_takeFrom 73 = .ok (.aload_n 0, 1) := by decide +kernel
theorem dX9_takeFrom_74 : decode cX9_takeFrom 74 = .ok (.iload_n 1, 1) := by decide +kernel
theorem dX9_takeFrom_75 : decode cX9_takeFrom 75 = .ok (.bipush 9, 2) := by decide +kernel
theorem dX9_takeFrom_77 : decode cX9_takeFrom 77 = .ok (.iload_n 3, 1) := by decide +kernel
theorem dX9_takeFrom_78 : decode cX9_takeFrom 78 = .ok (.invokevirtual 99, 3) := by decide +kernel
theorem dX9_takeFrom_81 : decode cX9_takeFrom 81 = .ok (.aload_n 0, 1) := by decide +kernel
theorem dX9_takeFrom_82 : decode cX9_takeFrom 82 = .ok (.getfield 12, 3) := by decide +kernel
theorem dX9_takeFrom_85 : decode cX9_takeFrom 85 = .ok (.iload_n 2, 1) := by decide +kernel
theorem dX9_takeFrom_86 : decode cX9_takeFrom 86 = .ok (.iconst 3, 1) := by decide +kernel
theorem dX9_takeFrom_87 : decode cX9_takeFrom 87 = .ok (.invokestatic 221, 3) := by decide +kernel
theorem dX9_takeFrom_90 : decode cX9_takeFrom 90 = .ok (.bipush (-2), 2) := by decide +kernel
theorem dX9_takeFrom_92 : decode cX9_takeFrom 92 = .ok (.invokevirtual 84, 3) := by decide +kernel
theorem dX9_takeFrom_95 : decode cX9_takeFrom 95 = .ok (.iload_n 1, 1) := by decide +kernel
theorem dX9_takeFrom_96 : decode cX9_takeFrom 96 = .ok (.ireturn, 1) := by decide +kernel
theorem dX9_about_0 : decode cX9_about 0 = .ok (.aload_n 0, 1) := by decide +kernel
theorem dX9_about_1 : decode cX9_about 1 = .ok (.iload_n 1, 1) := by decide +kernel
theorem dX9_about_2 : decode cX9_about 2 = .ok (.invokevirtual 230, 3) := by decide +kernel
theorem dX9_about_5 : decode cX9_about 5 = .ok (.ifCond .ne 5, 3) := by decide +kernel
theorem dX9_about_8 : decode cX9_about 8 = .ok (.iconst (-1), 1) := by decide +kernel
theorem dX9_about_9 : decode cX9_about 9 = .ok (.ireturn, 1) := by decide +kernel
theorem dX9_about_10 : decode cX9_about 10 = .ok (.iload_n 2, 1) := by decide +kernel
theorem dX9_about_11 : decode cX9_about 11 = .ok (.iconst 0, 1) := by decide +kernel
theorem dX9_about_12 : decode cX9_about 12 = .ok (.iconst 4, 1) := by decide +kernel
theorem dX9_about_13 : decode cX9_about 13 = .ok (.invokestatic 92, 3) := by decide +kernel
theorem dX9_about_16 : decode cX9_about 16 = .ok (.ifCond .ne 6, 3) := by decide +kernel
theorem dX9_about_19 : decode cX9_about 19 = .ok (.bipush (-2), 2) := by decide +kernel
theorem dX9_about_21 : decode cX9_about 21 = .ok (.ireturn, 1) := by decide +kernel
theorem dX9_about_22 : decode cX9_about 22 = .ok (.aload_n 0, 1) := by decide +kernel
theorem dX9_about_23 : decode cX9_about 23 = .ok (.getfield 12, 3) := by decide +kernel
theorem dX9_about_26 : decode cX9_about 26 = .ok (.iload_n 1, 1) := by decide +kernel
theorem dX9_about_27 : decode cX9_about 27 = .ok (.iload_n 2, 1) := by decide +kernel
theorem dX9_about_28 : decode cX9_about 28 = .ok (.invokestatic 221, 3) := by decide +kernel
theorem dX9_about_31 : decode cX9_about 31 = .ok (.invokevirtual 175, 3) := by decide +kernel
theorem dX9_about_34 : decode cX9_about 34 = .ok (.ireturn, 1) := by decide +kernel
theorem dX9_share_0 : decode cX9_share 0 = .ok (.aload_n 0, 1) := by decide +kernel
theorem dX9_share_1 : decode cX9_share 1 = .ok (.iload_n 1, 1) := by decide +kernel
theorem dX9_share_2 : decode cX9_share 2 = .ok (.invokevirtual 230, 3) := by decide +kernel
theorem dX9_share_5 : decode cX9_share 5 = .ok (.ifCond .ne 5, 3) := by decide +kernel
theorem dX9_share_8 : decode cX9_share 8 = .ok (.iconst (-1), 1) := by decide +kernel
theorem dX9_share_9 : decode cX9_share 9 = .ok (.ireturn, 1) := by decide +kernel
theorem dX9_share_10 : decode cX9_share 10 = .ok (.aload_n 0, 1) := by decide +kernel
theorem dX9_share_11 : decode cX9_share 11 = .ok (.getfield 12, 3) := by decide +kernel
theorem dX9_share_14 : decode cX9_share 14 = .ok (.iload_n 1, 1) := by decide +kernel
theorem dX9_share_15 : decode cX9_share 15 = .ok (.iconst 3, 1) := by decide +kernel
theorem dX9_share_16 : decode cX9_share 16 = .ok (.invokestatic 221, 3) := by decide +kernel
theorem dX9_share_19 : decode cX9_share 19 = .ok (.invokevirtual 175, 3) := by decide +kernel
theorem dX9_share_22 : decode cX9_share 22 = .ok (.istore_n 3, 1) := by decide +kernel
theorem dX9_share_23 : decode cX9_share 23 = .ok (.iload_n 3, 1) := by decide +kernel
theorem dX9_share_24 : decode cX9_share 24 = .ok (.invokestatic 88, 3) := by decide +kernel
theorem dX9_share_27 : decode cX9_share 27 = .ok (.ifCond .ne 9, 3) := by decide +kernel
theorem dX9_share_30 : decode cX9_share 30 = .ok (.aload_n 0, 1) := by decide +kernel
theorem dX9_share_31 : decode cX9_share 31 = .ok (.iconst 2, 1) := by decide +kernel
theorem dX9_share_32 : decode cX9_share 32 = .ok (.invokevirtual 103, 3) := by decide +kernel
theorem dX9_share_35 : decode cX9_share 35 = .ok (.ireturn, 1) := by decide +kernel
theorem dX9_share_36 : decode cX9_share 36 = .ok (.aload_n 0, 1) := by decide +kernel
theorem dX9_share_37 : decode cX9_share 37 = .ok (.iload_n 3, 1) := by decide +kernel
theorem dX9_share_38 : decode cX9_share 38 = .ok (.invokevirtual 107, 3) := by decide +kernel
theorem dX9_share_41 : decode cX9_share 41 = .ok (.ifCond .ne 9, 3) := by decide +kernel
theorem dX9_share_44 : decode cX9_share 44 = .ok (.aload_n 0, 1) := by decide +kernel
theorem dX9_share_45 : decode cX9_share 45 = .ok (.iconst 5, 1) := by decide +kernel
theorem dX9_share_46 : decode cX9_share 46 = .ok (.invokevirtual 103, 3) := by decide +kernel
theorem dX9_share_49 : decode cX9_share 49 = .ok (.ireturn, 1) := by decide +kernel
theorem dX9_share_50 : decode cX9_share 50 = .ok (.aload_n 0, 1) := by decide +kernel
theorem dX9_share_51 : decode cX9_share 51 = .ok (.iload_n 3, 1) := by decide +kernel
theorem dX9_share_52 : decode cX9_share 52 = .ok (.bipush 8, 2) := by decide +kernel
theorem dX9_share_54 : decode cX9_share 54 = .ok (.invokevirtual 110, 3) := by decide +kernel
theorem dX9_share_57 : decode cX9_share 57 = .ok (.istore 4, 2) := by decide +kernel
theorem dX9_share_59 : decode cX9_share 59 = .ok (.iload_n 2, 1) := by decide +kernel
theorem dX9_share_60 : decode cX9_share 60 = .ok (.iconst 0, 1) := by decide +kernel
theorem dX9_share_61 : decode cX9_share 61 = .ok (.iload 4, 2) := by decide +kernel
theorem dX9_share_63 : decode cX9_share 63 = .ok (.iconst 1, 1) := by decide +kernel
theorem dX9_share_64 : decode cX9_share 64 = .ok (.isub, 1) := by decide +kernel
theorem dX9_share_65 : decode cX9_share 65 = .ok (.invokestatic 92, 3) := by decide +kernel
theorem dX9_share_68 : decode cX9_share 68 = .ok (.ifCond .ne 9, 3) := by decide +kernel
theorem dX9_share_71 : decode cX9_share 71 = .ok (.aload_n 0, 1) := by decide +kernel
theorem dX9_share_72 : decode cX9_share 72 = .ok (.iconst 4, 1) := by decide +kernel
theorem dX9_share_73 : decode cX9_share 73 = .ok (.invokevirtual 103, 3) := by decide +kernel
theorem dX9_share_76 : decode cX9_share 76 = .ok (.ireturn, 1) := by decide +kernel
theorem dX9_share_77 : decode cX9_share 77 = .ok (.aload_n 0, 1) := by decide +kernel
theorem dX9_share_78 : decode cX9_share 78 = .ok (.getfield 65, 3) := by decide +kernel
theorem dX9_share_81 : decode cX9_share 81 = .ok (.iconst 0, 1) := by decide +kernel
theorem dX9_share_82 : decode cX9_share 82 = .ok (.invokestatic 248, 3) := by decide +kernel
theorem dX9_share_85 : decode cX9_share 85 = .ok (.iconst 0, 1) := by decide +kernel
theorem dX9_share_86 : decode cX9_share 86 = .ok (.istore 5, 2) := by decide +kernel
theorem dX9_share_88 : decode cX9_share 88 = .ok (.iload 5, 2) := by decide +kernel
theorem dX9_share_90 : decode cX9_share 90 = .ok (.iload 4, 2) := by decide +kernel
theorem dX9_share_92 : decode cX9_share 92 = .ok (.if_icmp .ge 33, 3) := by decide +kernel
theorem dX9_share_95 : decode cX9_share 95 = .ok (.iload 5, 2) := by decide +kernel
theorem dX9_share_97 : decode cX9_share 97 = .ok (.bipush 6, 2) := by decide +kernel
theorem dX9_share_99 : decode cX9_share 99 = .ok (.if_icmp .ge 26, 3) := by decide +kernel
theorem dX9_share_102 : decode cX9_share 102 = .ok (.aload_n 0, 1) := by decide +kernel
theorem dX9_share_103 : decode cX9_share 103 = .ok (.getfield 65, 3) := by decide +kernel
theorem dX9_share_106 : decode cX9_share 106 = .ok (.iload 5, 2) := by decide +kernel
theorem dX9_share_108 : decode cX9_share 108 = .ok (.aload_n 0, 1) := by decide +kernel
theorem dX9_share_109 : decode cX9_share 109 = .ok (.iload_n 3, 1) := by decide +kernel
theorem dX9_share_110 : decode cX9_share 110 = .ok (.bipush 13, 2) := by decide +kernel
theorem dX9_share_112 : decode cX9_share 112 = .ok (.iload 5, 2) := by decide +kernel
theorem dX9_share_114 : decode cX9_share 114 = .ok (.iadd, 1) := by decide +kernel
theorem dX9_share_115 : decode cX9_share 115 = .ok (.invokevirtual 110, 3) := by decide +kernel
theorem dX9_share_118 : decode cX9_share 118 = .ok (.iastore, 1) := by decide +kernel
theorem dX9_share_119 : decode cX9_share 119 = .ok (.iinc 5 1, 3) := by decide +kernel
theorem dX9_share_122 : decode cX9_share 122 = .ok (.goto (-34), 3) := by decide +kernel
theorem dX9_share_125 : decode cX9_share 125 = .ok (.aload_n 0, 1) := by decide +kernel
theorem dX9_share_126 : decode cX9_share 126 = .ok (.aload_n 0, 1) := by decide +kernel
theorem dX9_share_127 : decode cX9_share 127 = .ok (.getfield 12, 3) := by decide +kernel
theorem dX9_share_130 : decode cX9_share 130 = .ok (.iload_n 1, 1) := by decide +kernel
theorem dX9_share_131 : decode cX9_share 131 = .ok (.iconst 1, 1) := by decide +kernel
theorem dX9_share_132 : decode cX9_share 132 = .ok (.invokestatic 221, 3) := by decide +kernel
theorem dX9_share_135 : decode cX9_share 135 = .ok (.invokevirtual 175, 3) := by decide +kernel
theorem dX9_share_138 : decode cX9_share 138 = .ok (.iload_n 2, 1) := by decide +kernel
theorem dX9_share_139 : decode cX9_share 139 = .ok (.invokevirtual 254, 3) := by decide +kernel
theorem dX9_share_142 : decode cX9_share 142 = .ok (.ireturn, 1) := by decide +kernel
theorem dX9_start_0 : decode cX9_start 0 = .ok (.iload_n 1, 1) := by decide +kernel
theorem dX9_start_1 : decode cX9_start 1 = .ok (.invokestatic 88, 3) := by decide +kernel
theorem dX9_start_4 : decode cX9_start 4 = .ok (.ifCond .eq 10, 3) := by decide +kernel
theorem dX9_start_7 : decode cX9_start 7 = .ok (.iload_n 2, 1) := by decide +kernel
theorem dX9_start_8 : decode cX9_start 8 = .ok (.invokestatic 160, 3) := by decide +kernel
theorem dX9_start_11 : decode cX9_start 11 = .ok (.ifCond .ne 5, 3) := by decide +kernel
theorem dX9_start_14 : decode cX9_start 14 = .ok (.iconst (-1), 1) := by decide +kernel
theorem dX9_start_15 : decode cX9_start 15 = .ok (.ireturn, 1) := by decide +kernel
theorem dX9_start_16 : decode cX9_start 16 = .ok (.aload_n 0, 1) := by decide +kernel
theorem dX9_start_17 : decode cX9_start 17 = .ok (.iload_n 1, 1) := by decide +kernel
theorem dX9_start_18 : decode cX9_start 18 = .ok (.invokevirtual 96, 3) := by decide +kernel
theorem dX9_start_21 : decode cX9_start 21 = .ok (.ifCond .ne 9, 3) := by decide +kernel
theorem dX9_start_24 : decode cX9_start 24 = .ok (.aload_n 0, 1) := by decide +kernel
theorem dX9_start_25 : decode cX9_start 25 = .ok (.iconst 1, 1) := by decide +kernel
theorem dX9_start_26 : decode cX9_start 26 = .ok (.invokevirtual 103, 3) := by decide +kernel
theorem dX9_start_29 : decode cX9_start 29 = .ok (.ireturn, 1) := by decide +kernel
theorem dX9_start_30 : decode cX9_start 30 = .ok (.aload_n 0, 1) := by decide +kernel
theorem dX9_start_31 : decode cX9_start 31 = .ok (.iload_n 1, 1) := by decide +kernel
theorem dX9_start_32 : decode cX9_start 32 = .ok (.invokevirtual 196, 3) := by decide +kernel
theorem dX9_start_35 : decode cX9_start 35 = .ok (.aload_n 0, 1) := by decide +kernel
theorem dX9_start_36 : decode cX9_start 36 = .ok (.iload_n 1, 1) := by decide +kernel
theorem dX9_start_37 : decode cX9_start 37 = .ok (.iload_n 2, 1) := by decide +kernel
theorem dX9_start_38 : decode cX9_start 38 = .ok (.invokevirtual 257, 3) := by decide +kernel
theorem dX9_start_41 : decode cX9_start 41 = .ok (.istore_n 3, 1) := by decide +kernel
theorem dX9_start_42 : decode cX9_start 42 = .ok (.iload_n 3, 1) := by decide +kernel
theorem dX9_start_43 : decode cX9_start 43 = .ok (.ifCond .ne 9, 3) := by decide +kernel
theorem dX9_start_46 : decode cX9_start 46 = .ok (.aload_n 0, 1) := by decide +kernel
theorem dX9_start_47 : decode cX9_start 47 = .ok (.iload_n 1, 1) := by decide +kernel
theorem dX9_start_48 : decode cX9_start 48 = .ok (.iload_n 2, 1) := by decide +kernel
theorem dX9_start_49 : decode cX9_start 49 = .ok (.invokevirtual 260, 3) := by decide +kernel
theorem dX9_start_52 : decode cX9_start 52 = .ok (.aload_n 0, 1) := by decide +kernel
theorem dX9_start_53 : decode cX9_start 53 = .ok (.iload_n 1, 1) := by decide +kernel
theorem dX9_start_54 : decode cX9_start 54 = .ok (.invokevirtual 203, 3) := by decide +kernel
theorem dX9_start_57 : decode cX9_start 57 = .ok (.iload_n 3, 1) := by decide +kernel
theorem dX9_start_58 : decode cX9_start 58 = .ok (.ifCond .ne 7, 3) := by decide +kernel
theorem dX9_start_61 : decode cX9_start 61 = .ok (.iconst 1, 1) := by decide +kernel
theorem dX9_start_62 : decode cX9_start 62 = .ok (.goto 8, 3) := by decide +kernel
theorem dX9_start_65 : decode cX9_start 65 = .ok (.aload_n 0, 1) := by decide +kernel
theorem dX9_start_66 : decode cX9_start 66 = .ok (.iload_n 3, 1) := by decide +kernel
theorem dX9_start_67 : decode cX9_start 67 = .ok (.invokevirtual 103, 3) := by decide +kernel
theorem dX9_start_70 : decode cX9_start 70 = .ok (.ireturn, 1) := by decide +kernel
theorem dX9_whyNoRun_0 : decode cX9_whyNoRun 0 = .ok (.aload_n 0, 1) := by decide +kernel
theorem dX9_whyNoRun_1 : decode cX9_whyNoRun 1 = .ok (.iload_n 1, 1) := by decide +kernel
theorem dX9_whyNoRun_2 : decode cX9_whyNoRun 2 = .ok (.invokevirtual 236, 3) := by decide +kernel
theorem dX9_whyNoRun_5 : decode cX9_whyNoRun 5 = .ok (.ifCond .eq 6, 3) := by decide +kernel
theorem dX9_whyNoRun_8 : decode cX9_whyNoRun 8 = .ok (.bipush 7, 2) := by decide +kernel
theorem dX9_whyNoRun_10 : decode cX9_whyNoRun 10 = .ok (.ireturn, 1) := by decide +kernel
theorem dX9_whyNoRun_11 : decode cX9_whyNoRun 11 = .ok (.aload_n 0, 1) := by decide +kernel
theorem dX9_whyNoRun_12 : decode cX9_whyNoRun 12 = .ok (.iload_n 2, 1) := by decide +kernel
theorem dX9_whyNoRun_13 : decode cX9_whyNoRun 13 = .ok (.invokevirtual 169, 3) := by decide +kernel
theorem dX9_whyNoRun_16 : decode cX9_whyNoRun 16 = .ok (.ifCond .ne 5, 3) := by decide +kernel
theorem dX9_whyNoRun_19 : decode cX9_whyNoRun 19 = .ok (.iconst 3, 1) := by decide +kernel
theorem dX9_whyNoRun_20 : decode cX9_whyNoRun 20 = .ok (.ireturn, 1) := by decide +kernel
theorem dX9_whyNoRun_21 : decode cX9_whyNoRun 21 = .ok (.aload_n 0, 1) := by decide +kernel
theorem dX9_whyNoRun_22 : decode cX9_whyNoRun 22 = .ok (.iload_n 1, 1) := by decide +kernel
theorem dX9_whyNoRun_23 : decode cX9_whyNoRun 23 = .ok (.bipush 9, 2) := by decide +kernel
theorem dX9_whyNoRun_25 : decode cX9_whyNoRun 25 = .ok (.invokevirtual 110, 3) := by decide +kernel
theorem dX9_whyNoRun_28 : decode cX9_whyNoRun 28 = .ok (.ifCond .ne 5, 3) := by decide +kernel
theorem dX9_whyNoRun_31 : decode cX9_whyNoRun 31 = .ok (.iconst 2, 1) := by decide +kernel
theorem dX9_whyNoRun_32 : decode cX9_whyNoRun 32 = .ok (.ireturn, 1) := by decide +kernel
theorem dX9_whyNoRun_33 : decode cX9_whyNoRun 33 = .ok (.aload_n 0, 1) := by decide +kernel
theorem dX9_whyNoRun_34 : decode cX9_whyNoRun 34 = .ok (.iload_n 1, 1) := by decide +kernel
theorem dX9_whyNoRun_35 : decode cX9_whyNoRun 35 = .ok (.iconst 5, 1) := by decide +kernel
theorem dX9_whyNoRun_36 : decode cX9_whyNoRun 36 = .ok (.invokevirtual 110, 3) := by decide +kernel
theorem dX9_whyNoRun_39 : decode cX9_whyNoRun 39 = .ok (.ifCond .ne 6, 3) := by decide +kernel
theorem dX9_whyNoRun_42 : decode cX9_whyNoRun 42 = .ok (.bipush 8, 2) := by decide +kernel
theorem dX9_whyNoRun_44 : decode cX9_whyNoRun 44 = .ok (.ireturn, 1) := by decide +kernel
theorem dX9_whyNoRun_45 : decode cX9_whyNoRun 45 = .ok (.aload_n 0, 1) := by decide +kernel
theorem dX9_whyNoRun_46 : decode cX9_whyNoRun 46 = .ok (.getfield 71, 3) := by decide +kernel
theorem dX9_whyNoRun_49 : decode cX9_whyNoRun 49 = .ok (.iconst 0, 1) := by decide +kernel
theorem dX9_whyNoRun_50 : decode cX9_whyNoRun 50 = .ok (.invokestatic 248, 3) := by decide +kernel
theorem dX9_whyNoRun_53 : decode cX9_whyNoRun 53 = .ok (.aload_n 0, 1) := by decide +kernel
theorem dX9_whyNoRun_54 : decode cX9_whyNoRun 54 = .ok (.iload_n 2, 1) := by decide +kernel
theorem dX9_whyNoRun_55 : decode cX9_whyNoRun 55 = .ok (.invokevirtual 172, 3) := by decide +kernel
theorem dX9_whyNoRun_58 : decode cX9_whyNoRun 58 = .ok (.istore_n 3, 1) := by decide +kernel
theorem dX9_whyNoRun_59 : decode cX9_whyNoRun 59 = .ok (.iconst 0, 1) := by decide +kernel
theorem dX9_whyNoRun_60 : decode cX9_whyNoRun 60 = .ok (.istore 4, 2) := by decide +kernel
theorem dX9_whyNoRun_62 : decode cX9_whyNoRun 62 = .ok (.iload 4, 2) := by decide +kernel
theorem dX9_whyNoRun_64 : decode cX9_whyNoRun 64 = .ok (.iload_n 3, 1) := by decide +kernel
theorem dX9_whyNoRun_65 : decode cX9_whyNoRun 65 = .ok (.if_icmp .ge 59, 3) := by decide +kernel
theorem dX9_whyNoRun_68 : decode cX9_whyNoRun 68 = .ok (.aload_n 0, 1) := by decide +kernel
theorem dX9_whyNoRun_69 : decode cX9_whyNoRun 69 = .ok (.getfield 12, 3) := by decide +kernel
theorem dX9_whyNoRun_72 : decode cX9_whyNoRun 72 = .ok (.iload_n 2, 1) := by decide +kernel
theorem dX9_whyNoRun_73 : decode cX9_whyNoRun 73 = .ok (.iload 4, 2) := by decide +kernel
theorem dX9_whyNoRun_75 : decode cX9_whyNoRun 75 = .ok (.invokestatic 166, 3) := by decide +kernel
theorem dX9_whyNoRun_78 : decode cX9_whyNoRun 78 = .ok (.invokevirtual 175, 3) := by decide +kernel
theorem dX9_whyNoRun_81 : decode cX9_whyNoRun 81 = .ok (.invokestatic 263, 3) := by decide +kernel
theorem dX9_whyNoRun_84 : decode cX9_whyNoRun 84 = .ok (.istore 5, 2) := by decide +kernel
theorem dX9_whyNoRun_86 : decode cX9_whyNoRun 86 = .ok (.aload_n 0, 1) := by decide +kernel
theorem dX9_whyNoRun_87 : decode cX9_whyNoRun 87 = .ok (.iload_n 1, 1) := by decide +kernel
theorem dX9_whyNoRun_88 : decode cX9_whyNoRun 88 = .ok (.invokevirtual 123, 3) := by decide +kernel
theorem dX9_whyNoRun_91 : decode cX9_whyNoRun 91 = .ok (.iload 5, 2) := by decide +kernel
theorem dX9_whyNoRun_93 : decode cX9_whyNoRun 93 = .ok (.invokevirtual 266, 3) := by decide +kernel
theorem dX9_whyNoRun_96 : decode cX9_whyNoRun 96 = .ok (.ifCond .ne 5, 3) := by decide +kernel
theorem dX9_whyNoRun_99 : decode cX9_whyNoRun 99 = .ok (.iconst 5, 1) := by decide +kernel
theorem dX9_whyNoRun_100 : decode cX9_whyNoRun 100 = .ok (.ireturn, 1) := by decide +kernel
theorem dX9_whyNoRun_101 : decode cX9_whyNoRun 101 = .ok (.aload_n 0, 1) := by decide +kernel
theorem dX9_whyNoRun_102 : decode cX9_whyNoRun 102 = .ok (.iload_n 1, 1) := by decide +kernel
theorem dX9_whyNoRun_103 : decode cX9_whyNoRun 103 = .ok (.iload 5, 2) := by decide +kernel
theorem dX9_whyNoRun_105 : decode cX9_whyNoRun 105 = .ok (.invokevirtual 269, 3) := by decide +kernel
theorem dX9_whyNoRun_108 : decode cX9_whyNoRun 108 = .ok (.aload_n 0, 1) := by decide +kernel
theorem dX9_whyNoRun_109 : decode cX9_whyNoRun 109 = .ok (.invokevirtual 272, 3) := by decide +kernel
theorem dX9_whyNoRun_112 : decode cX9_whyNoRun 112 = .ok (.ifCond .ne 6, 3) := by decide +kernel
theorem dX9_whyNoRun_115 : decode cX9_whyNoRun 115 = .ok (.bipush 12, 2) := by decide +kernel
theorem dX9_whyNoRun_117 : decode cX9_whyNoRun 117 = .ok (.ireturn, 1) := by decide +kernel
theorem dX9_whyNoRun_118 : decode cX9_whyNoRun 118 = .ok (.iinc 4 1, 3) := by decide +kernel
theorem dX9_whyNoRun_121 : decode cX9_whyNoRun 121 = .ok (.goto (-59), 3) := by decide +kernel
theorem dX9_whyNoRun_124 : decode cX9_whyNoRun 124 = .ok (.iconst 0, 1) := by decide +kernel
theorem dX9_whyNoRun_125 : decode cX9_whyNoRun 125 = .ok (.ireturn, 1) := by decide +kernel
theorem dX9_beginRun_0 : decode cX9_beginRun 0 = .ok (.aload_n 0, 1) := by decide +kernel
theorem dX9_beginRun_1 : decode cX9_beginRun 1 = .ok (.iload_n 2, 1) := by decide +kernel
theorem dX9_beginRun_2 : decode cX9_beginRun 2 = .ok (.invokevirtual 172, 3) := by decide +kernel
theorem dX9_beginRun_5 : decode cX9_beginRun 5 = .ok (.istore_n 3, 1) := by decide +kernel
theorem dX9_beginRun_6 : decode cX9_beginRun 6 = .ok (.iconst 0, 1) := by decide +kernel
theorem dX9_beginRun_7 : decode cX9_beginRun 7 = .ok (.istore 4, 2) := by decide +kernel
theorem dX9_beginRun_9 : decode cX9_beginRun 9 = .ok (.iload 4, 2) := by decide +kernel
theorem dX9_beginRun_11 : decode cX9_beginRun 11 = .ok (.iload_n 3, 1) := by decide +kernel
theorem dX9_beginRun_12 : decode cX9_beginRun 12 = .ok (.if_icmp .ge 32, 3) := by decide +kernel
theorem dX9_beginRun_15 : decode cX9_beginRun 15 = .ok (.aload_n 0, 1) := by decide +kernel
theorem dX9_beginRun_16 : decode cX9_beginRun 16 = .ok (.iload_n 1, 1) := by decide +kernel
theorem dX9_beginRun_17 : decode cX9_beginRun 17 = .ok (.bipush 48, 2) := by decide +kernel
theorem dX9_beginRun_19 : decode cX9_beginRun 19 = .ok (.iload 4, 2) := by decide +kernel
theorem dX9_beginRun_21 : decode cX9_beginRun 21 = .ok (.iadd, 1) := by decide +kernel
theorem dX9_beginRun_22 : decode cX9_beginRun 22 = .ok (.aload_n 0, 1) := by decide +kernel
theorem dX9_beginRun_23 : decode cX9_beginRun 23 = .ok (.getfield 12, 3) := by decide +kernel
theorem dX9_beginRun_26 : decode cX9_beginRun 26 = .ok (.iload_n 2, 1) := by decide +kernel
theorem dX9_beginRun_27 : decode cX9_beginRun 27 = .ok (.iload 4, 2) := by decide +kernel
theorem dX9_beginRun_29 : decode cX9_beginRun 29 = .ok (.invokestatic 166, 3) := by decide +kernel
theorem dX9_beginRun_32 : decode cX9_beginRun 32 = .ok (.invokevirtual 175, 3) := by decide +kernel
theorem dX9_beginRun_35 : decode cX9_beginRun 35 = .ok (.invokevirtual 99, 3) := by decide +kernel
theorem dX9_beginRun_38 : decode cX9_beginRun 38 = .ok (.iinc 4 1, 3) := by decide +kernel
theorem dX9_beginRun_41 : decode cX9_beginRun 41 = .ok (.goto (-32), 3) := by decide +kernel
theorem dX9_beginRun_44 : decode cX9_beginRun 44 = .ok (.aload_n 0, 1) := by decide +kernel
theorem dX9_beginRun_45 : decode cX9_beginRun 45 = .ok (.iload_n 1, 1) := by decide +kernel
theorem dX9_beginRun_46 : decode cX9_beginRun 46 = .ok (.bipush 10, 2) := by decide +kernel
theorem dX9_beginRun_48 : decode cX9_beginRun 48 = .ok (.iload_n 3, 1) := by decide +kernel
theorem dX9_beginRun_49 : decode cX9_beginRun 49 = .ok (.invokevirtual 99, 3) := by decide +kernel
theorem dX9_beginRun_52 : decode cX9_beginRun 52 = .ok (.aload_n 0, 1) := by decide +kernel
theorem dX9_beginRun_53 : decode cX9_beginRun 53 = .ok (.iload_n 1, 1) := by decide +kernel
theorem dX9_beginRun_54 : decode cX9_beginRun 54 = .ok (.bipush 12, 2) := by decide +kernel
theorem dX9_beginRun_56 : decode cX9_beginRun 56 = .ok (.iload_n 3, 1) := by decide +kernel
theorem dX9_beginRun_57 : decode cX9_beginRun 57 = .ok (.ifCond .ne 7, 3) := by decide +kernel
theorem dX9_beginRun_60 : decode cX9_beginRun 60 = .ok (.iconst 0, 1) := by decide +kernel
theorem dX9_beginRun_61 : decode cX9_beginRun 61 = .ok (.goto 13, 3) := by decide +kernel
theorem dX9_beginRun_64 : decode cX9_beginRun 64 = .ok (.aload_n 0, 1) := by decide +kernel
theorem dX9_beginRun_65 : decode cX9_beginRun 65 = .ok (.iload_n 1, 1) := by decide +kernel
theorem dX9_beginRun_66 : decode cX9_beginRun 66 = .ok (.bipush 48, 2) := by decide +kernel
theorem dX9_beginRun_68 : decode cX9_beginRun 68 = .ok (.invokevirtual 110, 3) := by decide +kernel
theorem dX9_beginRun_71 : decode cX9_beginRun 71 = .ok (.invokestatic 178, 3) := by decide +kernel
theorem dX9_beginRun_74 : decode cX9_beginRun 74 = .ok (.invokevirtual 99, 3) := by decide +kernel
theorem dX9_beginRun_77 : decode cX9_beginRun 77 = .ok (.aload_n 0, 1) := by decide +kernel
theorem dX9_beginRun_78 : decode cX9_beginRun 78 = .ok (.iload_n 1, 1) := by decide +kernel
theorem dX9_beginRun_79 : decode cX9_beginRun 79 = .ok (.iconst 2, 1) := by decide +kernel
theorem dX9_beginRun_80 : decode cX9_beginRun 80 = .ok (.iconst 0, 1) := by decide +kernel
theorem dX9_beginRun_81 : decode cX9_beginRun 81 = .ok (.invokevirtual 99, 3) := by decide +kernel
theorem dX9_beginRun_84 : decode cX9_beginRun 84 = .ok (.aload_n 0, 1) := by decide +kernel
theorem dX9_beginRun_85 : decode cX9_beginRun 85 = .ok (.iload_n 1, 1) := by decide +kernel
theorem dX9_beginRun_86 : decode cX9_beginRun 86 = .ok (.iconst 3, 1) := by decide +kernel
theorem dX9_beginRun_87 : decode cX9_beginRun 87 = .ok (.iconst 2, 1) := by decide +kernel
theorem dX9_beginRun_88 : decode cX9_beginRun 88 = .ok (.invokevirtual 99, 3) := by decide +kernel
theorem dX9_beginRun_91 : decode cX9_beginRun 91 = .ok (.aload_n 0, 1) := by decide +kernel
theorem dX9_beginRun_92 : decode cX9_beginRun 92 = .ok (.iload_n 1, 1) := by decide +kernel
theorem dX9_beginRun_93 : decode cX9_beginRun 93 = .ok (.bipush 33, 2) := by decide +kernel
theorem dX9_beginRun_95 : decode cX9_beginRun 95 = .ok (.iconst 1, 1) := by decide +kernel
theorem dX9_beginRun_96 : decode cX9_beginRun 96 = .ok (.invokevirtual 190, 3) := by decide +kernel
theorem dX9_beginRun_99 : decode cX9_beginRun 99 = .ok (.aload_n 0, 1) := by decide +kernel
theorem dX9_beginRun_100 : decode cX9_beginRun 100 = .ok (.getfield 12, 3) := by decide +kernel
theorem dX9_beginRun_103 : decode cX9_beginRun 103 = .ok (.sipush 8551, 3) := by decide +kernel
theorem dX9_beginRun_106 : decode cX9_beginRun 106 = .ok (.iconst 1, 1) := by decide +kernel
theorem dX9_beginRun_107 : decode cX9_beginRun 107 = .ok (.invokevirtual 84, 3) := by decide +kernel
theorem dX9_beginRun_110 : decode cX9_beginRun 110 = .ok (.iload_n 3, 1) := by decide +kernel
theorem dX9_beginRun_111 : decode cX9_beginRun 111 = .ok (.ifCond .ne 8, 3) := by decide +kernel
theorem dX9_beginRun_114 : decode cX9_beginRun 114 = .ok (.aload_n 0, 1) := by decide +kernel
theorem dX9_beginRun_115 : decode cX9_beginRun 115 = .ok (.iload_n 1, 1) := by decide +kernel
theorem dX9_beginRun_116 : decode cX9_beginRun 116 = .ok (.invokevirtual 275, 3) := by decide +kernel
theorem dX9_beginRun_119 : decode cX9_beginRun 119 = .ok (.return_, 1) := by decide +kernel
theorem dX9_minute_0 : decode cX9_minute 0 = .ok (.iload_n 1, 1) := by decide +kernel
theorem dX9_minute_1 : decode cX9_minute 1 = .ok (.iconst 1, 1) := by decide +kernel
theorem dX9_minute_2 : decode cX9_minute 2 = .ok (.bipush 60, 2) := by decide +kernel
theorem dX9_minute_4 : decode cX9_minute 4 = .ok (.invokestatic 92, 3) := by decide +kernel
theorem dX9_minute_7 : decode cX9_minute 7 = .ok (.ifCond .ne 6, 3) := by decide +kernel
theorem dX9_minute_10 : decode cX9_minute 10 = .ok (.bipush (-2), 2) := by decide +kernel
theorem dX9_minute_12 : decode cX9_minute 12 = .ok (.ireturn, 1) := by decide +kernel
theorem dX9_minute_13 : decode cX9_minute 13 = .ok (.iconst 0, 1) := by decide +kernel
theorem dX9_minute_14 : decode cX9_minute 14 = .ok (.istore_n 2, 1) := by decide +kernel
theorem dX9_minute_15 : decode cX9_minute 15 = .ok (.iload_n 2, 1) := by decide +kernel
theorem dX9_minute_16 : decode cX9_minute 16 = .ok (.iload_n 1, 1) := by decide +kernel
theorem dX9_minute_17 : decode cX9_minute 17 = .ok (.if_icmp .ge 31, 3) := by decide +kernel
theorem dX9_minute_20 : decode cX9_minute 20 = .ok (.aload_n 0, 1) := by decide +kernel
theorem dX9_minute_21 : decode cX9_minute 21 = .ok (.getfield 12, 3) := by decide +kernel
theorem dX9_minute_24 : decode cX9_minute 24 = .ok (.invokevirtual 278, 3) := by decide +kernel
theorem dX9_minute_27 : decode cX9_minute 27 = .ok (.aload_n 0, 1) := by decide +kernel
theorem dX9_minute_28 : decode cX9_minute 28 = .ok (.invokevirtual 281, 3) := by decide +kernel
theorem dX9_minute_31 : decode cX9_minute 31 = .ok (.aload_n 0, 1) := by decide +kernel
theorem dX9_minute_32 : decode cX9_minute 32 = .ok (.invokevirtual 284, 3) := by decide +kernel
theorem dX9_minute_35 : decode cX9_minute 35 = .ok (.aload_n 0, 1) := by decide +kernel
theorem dX9_minute_36 : decode cX9_minute 36 = .ok (.getfield 12, 3) := by decide +kernel
theorem dX9_minute_39 : decode cX9_minute 39 = .ok (.invokevirtual 287, 3) := by decide +kernel
theorem dX9_minute_42 : decode cX9_minute 42 = .ok (.iinc 2 1, 3) := by decide +kernel
theorem dX9_minute_45 : decode cX9_minute 45 = .ok (.goto (-30), 3) := by decide +kernel
theorem dX9_minute_48 : decode cX9_minute 48 = .ok (.aload_n 0, 1) := by decide +kernel
theorem dX9_minute_49 : decode cX9_minute 49 = .ok (.getfield 12, 3) := by decide +kernel
theorem dX9_minute_52 : decode cX9_minute 52 = .ok (.invokevirtual 290, 3) := by decide +kernel
theorem dX9_minute_55 : decode cX9_minute 55 = .ok (.ireturn, 1) := by decide +kernel
theorem dX9_breakDown_0 : decode cX9_breakDown 0 = .ok (.iconst 0, 1) := by decide +kernel
theorem dX9_breakDown_1 : decode cX9_breakDown 1 = .ok (.istore_n 1, 1) := by decide +kernel
theorem dX9_breakDown_2 : decode cX9_breakDown 2 = .ok (.iload_n 1, 1) := by decide +kernel
theorem dX9_breakDown_3 : decode cX9_breakDown 3 = .ok (.bipush 60, 2) := by decide +kernel
theorem dX9_breakDown_5 : decode cX9_breakDown 5 = .ok (.if_icmp .ge 72, 3) := by decide +kernel
theorem dX9_breakDown_8 : decode cX9_breakDown 8 = .ok (.aload_n 0, 1) := by decide +kernel
theorem dX9_breakDown_9 : decode cX9_breakDown 9 = .ok (.iload_n 1, 1) := by decide +kernel
theorem dX9_breakDown_10 : decode cX9_breakDown 10 = .ok (.bipush 7, 2) := by decide +kernel
theorem dX9_breakDown_12 : decode cX9_breakDown 12 = .ok (.invokevirtual 110, 3) := by decide +kernel
theorem dX9_breakDown_15 : decode cX9_breakDown 15 = .ok (.aload_n 0, 1) := by decide +kernel
theorem dX9_breakDown_16 : decode cX9_breakDown 16 = .ok (.getfield 12, 3) := by decide +kernel
theorem dX9_breakDown_19 : decode cX9_breakDown 19 = .ok (.invokevirtual 290, 3) := by decide +kernel
theorem dX9_breakDown_22 : decode cX9_breakDown 22 = .ok (.if_icmp .ne 49, 3) := by decide +kernel
theorem dX9_breakDown_25 : decode cX9_breakDown 25 = .ok (.aload_n 0, 1) := by decide +kernel
theorem dX9_breakDown_26 : decode cX9_breakDown 26 = .ok (.iload_n 1, 1) := by decide +kernel
theorem dX9_breakDown_27 : decode cX9_breakDown 27 = .ok (.invokevirtual 196, 3) := by decide +kernel
theorem dX9_breakDown_30 : decode cX9_breakDown 30 = .ok (.aload_n 0, 1) := by decide +kernel
theorem dX9_breakDown_31 : decode cX9_breakDown 31 = .ok (.iload_n 1, 1) := by decide +kernel
theorem dX9_breakDown_32 : decode cX9_breakDown 32 = .ok (.invokevirtual 114, 3) := by decide +kernel
theorem dX9_breakDown_35 : decode cX9_breakDown 35 = .ok (.ifCond .eq 16, 3) := by decide +kernel
theorem dX9_breakDown_38 : decode cX9_breakDown 38 = .ok (.aload_n 0, 1) := by decide +kernel
theorem dX9_breakDown_39 : decode cX9_breakDown 39 = .ok (.iload_n 1, 1) := by decide +kernel
theorem dX9_breakDown_40 : decode cX9_breakDown 40 = .ok (.bipush 34, 2) := by decide +kernel
theorem dX9_breakDown_42 : decode cX9_breakDown 42 = .ok (.iconst 1, 1) := by decide +kernel
theorem dX9_breakDown_43 : decode cX9_breakDown 43 = .ok (.invokevirtual 190, 3) := by decide +kernel
theorem dX9_breakDown_46 : decode cX9_breakDown 46 = .ok (.aload_n 0, 1) := by decide +kernel
theorem dX9_breakDown_47 : decode cX9_breakDown 47 = .ok (.iload_n 1, 1) := by decide +kernel
theorem dX9_breakDown_48 : decode cX9_breakDown 48 = .ok (.invokevirtual 275, 3) := by decide +kernel
theorem dX9_breakDown_51 : decode cX9_breakDown 51 = .ok (.aload_n 0, 1) := by decide +kernel
theorem dX9_breakDown_52 : decode cX9_breakDown 52 = .ok (.iload_n 1, 1) := by decide +kernel
theorem dX9_breakDown_53 : decode cX9_breakDown 53 = .ok (.iconst 3, 1) := by decide +kernel
theorem dX9_breakDown_54 : decode cX9_breakDown 54 = .ok (.iconst 4, 1) := by decide +kernel
theorem dX9_breakDown_55 : decode cX9_breakDown 55 = .ok (.invokevirtual 99, 3) := by decide +kernel
theorem dX9_breakDown_58 : decode cX9_breakDown 58 = .ok (.aload_n 0, 1) := by decide +kernel
theorem dX9_breakDown_59 : decode cX9_breakDown 59 = .ok (.iload_n 1, 1) := by decide +kernel
theorem dX9_breakDown_60 : decode cX9_breakDown 60 = .ok (.bipush 7, 2) := by decide +kernel
theorem dX9_breakDown_62 : decode cX9_breakDown 62 = .ok (.iconst 0, 1) := by decide +kernel
theorem dX9_breakDown_63 : decode cX9_breakDown 63 = .ok (.invokevirtual 99, 3) := by decide +kernel
theorem dX9_breakDown_66 : decode cX9_breakDown 66 = .ok (.aload_n 0, 1) := by decide +kernel
theorem dX9_breakDown_67 : decode cX9_breakDown 67 = .ok (.iload_n 1, 1) := by decide +kernel
theorem dX9_breakDown_68 : decode cX9_breakDown 68 = .ok (.invokevirtual 203, 3) := by decide +kernel
theorem dX9_breakDown_71 : decode cX9_breakDown 71 = .ok (.iinc 1 1, 3) := by decide +kernel
theorem dX9_breakDown_74 : decode cX9_breakDown 74 = .ok (.goto (-72), 3) := by decide +kernel
theorem dX9_breakDown_77 : decode cX9_breakDown 77 = .ok (.return_, 1) := by decide +kernel
theorem dX9_serveRuns_0 : decode cX9_serveRuns 0 = .ok (.aload_n 0, 1) := by decide +kernel
theorem dX9_serveRuns_1 : decode cX9_serveRuns 1 = .ok (.invokevirtual 293, 3) := by decide +kernel
theorem dX9_serveRuns_4 : decode cX9_serveRuns 4 = .ok (.istore_n 1, 1) := by decide +kernel
theorem dX9_serveRuns_5 : decode cX9_serveRuns 5 = .ok (.aload_n 0, 1) := by decide +kernel
theorem dX9_serveRuns_6 : decode cX9_serveRuns 6 = .ok (.getfield 71, 3) := by decide +kernel
theorem dX9_serveRuns_9 : decode cX9_serveRuns 9 = .ok (.iconst 0, 1) := by decide +kernel
theorem dX9_serveRuns_10 : decode cX9_serveRuns 10 = .ok (.invokestatic 248, 3) := by decide +kernel
theorem dX9_serveRuns_13 : decode cX9_serveRuns 13 = .ok (.iconst 0, 1) := by decide +kernel
theorem dX9_serveRuns_14 : decode cX9_serveRuns 14 = .ok (.istore_n 2, 1) := by decide +kernel
theorem dX9_serveRuns_15 : decode cX9_serveRuns 15 = .ok (.iload_n 2, 1) := by decide +kernel
theorem dX9_serveRuns_16 : decode cX9_serveRuns 16 = .ok (.iload_n 1, 1) := by decide +kernel
theorem dX9_serveRuns_17 : decode cX9_serveRuns 17 = .ok (.if_icmp .ge 88, 3) := by decide +kernel
theorem dX9_serveRuns_20 : decode cX9_serveRuns 20 = .ok (.aload_n 0, 1) := by decide +kernel
theorem dX9_serveRuns_21 : decode cX9_serveRuns 21 = .ok (.getfield 62, 3) := by decide +kernel
theorem dX9_serveRuns_24 : decode cX9_serveRuns 24 = .ok (.iload_n 2, 1) := by decide +kernel
theorem dX9_serveRuns_25 : decode cX9_serveRuns 25 = .ok (.iaload, 1) := by decide +kernel
theorem dX9_serveRuns_26 : decode cX9_serveRuns 26 = .ok (.istore_n 3, 1) := by decide +kernel
theorem dX9_serveRuns_27 : decode cX9_serveRuns 27 = .ok (.aload_n 0, 1) := by decide +kernel
theorem dX9_serveRuns_28 : decode cX9_serveRuns 28 = .ok (.iload_n 3, 1) := by decide +kernel
theorem dX9_serveRuns_29 : decode cX9_serveRuns 29 = .ok (.bipush 48, 2) := by decide +kernel
theorem dX9_serveRuns_31 : decode cX9_serveRuns 31 = .ok (.aload_n 0, 1) := by decide +kernel
theorem dX9_serveRuns_32 : decode cX9_serveRuns 32 = .ok (.iload_n 3, 1) := by decide +kernel
theorem dX9_serveRuns_33 : decode cX9_serveRuns 33 = .ok (.bipush 11, 2) := by decide +kernel
theorem dX9_serveRuns_35 : decode cX9_serveRuns 35 = .ok (.invokevirtual 110, 3) := by decide +kernel
theorem dX9_serveRuns_38 : decode cX9_serveRuns 38 = .ok (.iadd, 1) := by decide +kernel
theorem dX9_serveRuns_39 : decode cX9_serveRuns 39 = .ok (.invokevirtual 110, 3) := by decide +kernel
theorem dX9_serveRuns_42 : decode cX9_serveRuns 42 = .ok (.invokestatic 263, 3) := by decide +kernel
theorem dX9_serveRuns_45 : decode cX9_serveRuns 45 = .ok (.istore 4, 2) := by decide +kernel
theorem dX9_serveRuns_47 : decode cX9_serveRuns 47 = .ok (.aload_n 0, 1) := by decide +kernel
theorem dX9_serveRuns_48 : decode cX9_serveRuns 48 = .ok (.iload_n 3, 1) := by decide +kernel
theorem dX9_serveRuns_49 : decode cX9_serveRuns 49 = .ok (.invokevirtual 196, 3) := by decide +kernel
theorem dX9_serveRuns_52 : decode cX9_serveRuns 52 = .ok (.aload_n 0, 1) := by decide +kernel
theorem dX9_serveRuns_53 : decode cX9_serveRuns 53 = .ok (.iload_n 3, 1) := by decide +kernel
theorem dX9_serveRuns_54 : decode cX9_serveRuns 54 = .ok (.iload 4, 2) := by decide +kernel
theorem dX9_serveRuns_56 : decode cX9_serveRuns 56 = .ok (.invokevirtual 269, 3) := by decide +kernel
theorem dX9_serveRuns_59 : decode cX9_serveRuns 59 = .ok (.aload_n 0, 1) := by decide +kernel
theorem dX9_serveRuns_60 : decode cX9_serveRuns 60 = .ok (.invokevirtual 272, 3) := by decide +kernel
theorem dX9_serveRuns_63 : decode cX9_serveRuns 63 = .ok (.ifCond .eq 13, 3) := by decide +kernel
theorem dX9_serveRuns_66 : decode cX9_serveRuns 66 = .ok (.aload_n 0, 1) := by decide +kernel
theorem dX9_serveRuns_67 : decode cX9_serveRuns 67 = .ok (.iload_n 3, 1) := by decide +kernel
theorem dX9_serveRuns_68 : decode cX9_serveRuns 68 = .ok (.iload 4, 2) := by decide +kernel
theorem dX9_serveRuns_70 : decode cX9_serveRuns 70 = .ok (.invokevirtual 296, 3) := by decide +kernel
theorem dX9_serveRuns_73 : decode cX9_serveRuns 73 = .ok (.goto 8, 3) := by decide +kernel
theorem dX9_serveRuns_76 : decode cX9_serveRuns 76 = .ok (.aload_n 0, 1) := by decide +kernel
theorem dX9_serveRuns_77 : decode cX9_serveRuns 77 = .ok (.iload_n 3, 1) := by decide +kernel
theorem dX9_serveRuns_78 : decode cX9_serveRuns 78 = .ok (.invokevirtual 299, 3) := by decide +kernel
theorem dX9_serveRuns_81 : decode cX9_serveRuns 81 = .ok (.aload_n 0, 1) := by decide +kernel
theorem dX9_serveRuns_82 : decode cX9_serveRuns 82 = .ok (.iload_n 3, 1) := by decide +kernel
theorem dX9_serveRuns_83 : decode cX9_serveRuns 83 = .ok (.invokevirtual 114, 3) := by decide +kernel
theorem dX9_serveRuns_86 : decode cX9_serveRuns 86 = .ok (.ifCond .ne 8, 3) := by decide +kernel
theorem dX9_serveRuns_89 : decode cX9_serveRuns 89 = .ok (.aload_n 0, 1) := by decide +kernel
theorem dX9_serveRuns_90 : decode cX9_serveRuns 90 = .ok (.iload_n 3, 1) := by decide +kernel
theorem dX9_serveRuns_91 : decode cX9_serveRuns 91 = .ok (.invokevirtual 275, 3) := by decide +kernel
theorem dX9_serveRuns_94 : decode cX9_serveRuns 94 = .ok (.aload_n 0, 1) := by decide +kernel
theorem dX9_serveRuns_95 : decode cX9_serveRuns 95 = .ok (.iload_n 3, 1) := by decide +kernel
theorem dX9_serveRuns_96 : decode cX9_serveRuns 96 = .ok (.invokevirtual 203, 3) := by decide +kernel
theorem dX9_serveRuns_99 : decode cX9_serveRuns 99 = .ok (.iinc 2 1, 3) := by decide +kernel
theorem dX9_serveRuns_102 : decode cX9_serveRuns 102 = .ok (.goto (-87), 3) := by decide +kernel
theorem dX9_serveRuns_105 : decode cX9_serveRuns 105 = .ok (.iconst 0, 1) := by decide +kernel
theorem dX9_serveRuns_106 : decode cX9_serveRuns 106 = .ok (.istore_n 2, 1) := by decide +kernel
theorem dX9_serveRuns_107 : decode cX9_serveRuns 107 = .ok (.iload_n 2, 1) := by decide +kernel
theorem dX9_serveRuns_108 : decode cX9_serveRuns 108 = .ok (.iconst 2, 1) := by decide +kernel
theorem dX9_serveRuns_109 : decode cX9_serveRuns 109 = .ok (.if_icmp .gt 27, 3) := by decide +kernel
theorem dX9_serveRuns_112 : decode cX9_serveRuns 112 = .ok (.aload_n 0, 1) := by decide +kernel
theorem dX9_serveRuns_113 : decode cX9_serveRuns 113 = .ok (.getfield 12, 3) := by decide +kernel
theorem dX9_serveRuns_116 : decode cX9_serveRuns 116 = .ok (.sipush 8547, 3) := by decide +kernel
theorem dX9_serveRuns_119 : decode cX9_serveRuns 119 = .ok (.iload_n 2, 1) := by decide +kernel
theorem dX9_serveRuns_120 : decode cX9_serveRuns 120 = .ok (.iadd, 1) := by decide +kernel
theorem dX9_serveRuns_121 : decode cX9_serveRuns 121 = .ok (.aload_n 0, 1) := by decide +kernel
theorem dX9_serveRuns_122 : decode cX9_serveRuns 122 = .ok (.getfield 71, 3) := by decide +kernel
theorem dX9_serveRuns_125 : decode cX9_serveRuns 125 = .ok (.iload_n 2, 1) := by decide +kernel
theorem dX9_serveRuns_126 : decode cX9_serveRuns 126 = .ok (.iaload, 1) := by decide +kernel
theorem dX9_serveRuns_127 : decode cX9_serveRuns 127 = .ok (.invokevirtual 84, 3) := by decide +kernel
theorem dX9_serveRuns_130 : decode cX9_serveRuns 130 = .ok (.iinc 2 1, 3) := by decide +kernel
theorem dX9_serveRuns_133 : decode cX9_serveRuns 133 = .ok (.goto (-26), 3) := by decide +kernel
theorem dX9_serveRuns_136 : decode cX9_serveRuns 136 = .ok (.return_, 1) := by decide +kernel
theorem dX9_lineUpRuns_0 : decode cX9_lineUpRuns 0 = .ok (.iconst 0, 1) := by decide +kernel
theorem dX9_lineUpRuns_1 : decode cX9_lineUpRuns 1 = .ok (.istore_n 1, 1) := by decide +kernel
theorem dX9_lineUpRuns_2 : decode cX9_lineUpRuns 2 = .ok (.iconst 0, 1) := by decide +kernel
theorem dX9_lineUpRuns_3 : decode cX9_lineUpRuns 3 = .ok (.istore_n 2, 1) := by decide +kernel
theorem dX9_lineUpRuns_4 : decode cX9_lineUpRuns 4 = .ok (.iload_n 2, 1) := by decide +kernel
theorem dX9_lineUpRuns_5 : decode cX9_lineUpRuns 5 = .ok (.bipush 60, 2) := by decide +kernel
theorem dX9_lineUpRuns_7 : decode cX9_lineUpRuns 7 = .ok (.if_icmp .ge 85, 3) := by decide +kernel
theorem dX9_lineUpRuns_10 : decode cX9_lineUpRuns 10 = .ok (.aload_n 0, 1) := by decide +kernel
theorem dX9_lineUpRuns_11 : decode cX9_lineUpRuns 11 = .ok (.iload_n 2, 1) := by decide +kernel
theorem dX9_lineUpRuns_12 : decode cX9_lineUpRuns 12 = .ok (.invokevirtual 114, 3) := by decide +kernel
theorem dX9_lineUpRuns_15 : decode cX9_lineUpRuns 15 = .ok (.ifCond .eq 71, 3) := by decide +kernel
theorem dX9_lineUpRuns_18 : decode cX9_lineUpRuns 18 = .ok (.aload_n 0, 1) := by decide +kernel
theorem dX9_lineUpRuns_19 : decode cX9_lineUpRuns 19 = .ok (.iload_n 2, 1) := by decide +kernel
theorem dX9_lineUpRuns_20 : decode cX9_lineUpRuns 20 = .ok (.bipush 6, 2) := by decide +kernel
theorem dX9_lineUpRuns_22 : decode cX9_lineUpRuns 22 = .ok (.invokevirtual 110, 3) := by decide +kernel
theorem dX9_lineUpRuns_25 : decode cX9_lineUpRuns 25 = .ok (.istore_n 3, 1) := by decide +kernel
theorem dX9_lineUpRuns_26 : decode cX9_lineUpRuns 26 = .ok (.iload_n 1, 1) := by decide +kernel
theorem dX9_lineUpRuns_27 : decode cX9_lineUpRuns 27 = .ok (.istore 4, 2) := by decide +kernel
theorem dX9_lineUpRuns_29 : decode cX9_lineUpRuns 29 = .ok (.iload 4, 2) := by decide +kernel
theorem dX9_lineUpRuns_31 : decode cX9_lineUpRuns 31 = .ok (.ifCond .le 44, 3) := by decide +kernel
theorem dX9_lineUpRuns_34 : decode cX9_lineUpRuns 34 = .ok (.aload_n 0, 1) := by decide +kernel
theorem dX9_lineUpRuns_35 : decode cX9_lineUpRuns 35 = .ok (.aload_n 0, 1) := by decide +kernel
theorem dX9_lineUpRuns_36 : decode cX9_lineUpRuns 36 = .ok (.getfield 62, 3) := by decide +kernel
theorem dX9_lineUpRuns_39 : decode cX9_lineUpRuns 39 = .ok (.iload 4, 2) := by decide +kernel
theorem dX9_lineUpRuns_41 : decode cX9_lineUpRuns 41 = .ok (.iconst 1, 1) := by decide +kernel
theorem dX9_lineUpRuns_42 : decode cX9_lineUpRuns 42 = .ok (.isub, 1) := by decide +kernel
theorem dX9_lineUpRuns_43 : decode cX9_lineUpRuns 43 = .ok (.iaload, 1) := by decide +kernel
theorem dX9_lineUpRuns_44 : decode cX9_lineUpRuns 44 = .ok (.bipush 6, 2) := by decide +kernel
theorem dX9_lineUpRuns_46 : decode cX9_lineUpRuns 46 = .ok (.invokevirtual 110, 3) := by decide +kernel
theorem dX9_lineUpRuns_49 : decode cX9_lineUpRuns 49 = .ok (.iload_n 3, 1) := by decide +kernel
theorem dX9_lineUpRuns_50 : decode cX9_lineUpRuns 50 = .ok (.if_icmp .ge 25, 3) := by decide +kernel
theorem dX9_lineUpRuns_53 : decode cX9_lineUpRuns 53 = .ok (.aload_n 0, 1) := by decide +kernel
theorem dX9_lineUpRuns_54 : decode cX9_lineUpRuns 54 = .ok (.getfield 62, 3) := by decide +kernel
theorem dX9_lineUpRuns_57 : decode cX9_lineUpRuns 57 = .ok (.iload 4, 2) := by decide +kernel
theorem dX9_lineUpRuns_59 : decode cX9_lineUpRuns 59 = .ok (.aload_n 0, 1) := by decide +kernel
theorem dX9_lineUpRuns_60 : decode cX9_lineUpRuns 60 = .ok (.getfield 62, 3) := by decide +kernel
theorem dX9_lineUpRuns_63 : decode cX9_lineUpRuns 63 = .ok (.iload 4, 2) := by decide +kernel
theorem dX9_lineUpRuns_65 : decode cX9_lineUpRuns 65 = .ok (.iconst 1, 1) := by decide +kernel
theorem dX9_lineUpRuns_66 : decode cX9_lineUpRuns 66 = .ok (.isub, 1) := by decide +kernel
theorem dX9_lineUpRuns_67 : decode cX9_lineUpRuns 67 = .ok (.iaload, 1) := by decide +kernel
theorem dX9_lineUpRuns_68 : decode cX9_lineUpRuns 68 = .ok (.iastore, 1) := by decide +kernel
theorem dX9_lineUpRuns_69 : decode cX9_lineUpRuns 69 = .ok (.iinc 4 (-1), 3) := by decide +kernel
theorem dX9_lineUpRuns_72 : decode cX9_lineUpRuns 72 = .ok (.goto (-43), 3) := by decide +kernel
theorem dX9_lineUpRuns_75 : decode cX9_lineUpRuns 75 = .ok (.aload_n 0, 1) := by decide +kernel
theorem dX9_lineUpRuns_76 : decode cX9_lineUpRuns 76 = .ok (.getfield 62, 3) := by decide +kernel
theorem dX9_lineUpRuns_79 : decode cX9_lineUpRuns 79 = .ok (.iload 4, 2) := by decide +kernel
theorem dX9_lineUpRuns_81 : decode cX9_lineUpRuns 81 = .ok (.iload_n 2, 1) := by decide +kernel
theorem dX9_lineUpRuns_82 : decode cX9_lineUpRuns 82 = .ok (.iastore, 1) := by decide +kernel
theorem dX9_lineUpRuns_83 : decode cX9_lineUpRuns 83 = .ok (.iinc 1 1, 3) := by decide +kernel
theorem dX9_lineUpRuns_86 : decode cX9_lineUpRuns 86 = .ok (.iinc 2 1, 3) := by decide +kernel
theorem dX9_lineUpRuns_89 : decode cX9_lineUpRuns 89 = .ok (.goto (-85), 3) := by decide +kernel
theorem dX9_lineUpRuns_92 : decode cX9_lineUpRuns 92 = .ok (.iload_n 1, 1) := by decide +kernel
theorem dX9_lineUpRuns_93 : decode cX9_lineUpRuns 93 = .ok (.ireturn, 1) := by decide +kernel
theorem dX9_goOn_0 : decode cX9_goOn 0 = .ok (.iconst 0, 1) := by decide +kernel
theorem dX9_goOn_1 : decode cX9_goOn 1 = .ok (.istore_n 3, 1) := by decide +kernel
theorem dX9_goOn_2 : decode cX9_goOn 2 = .ok (.iload_n 3, 1) := by decide +kernel
theorem dX9_goOn_3 : decode cX9_goOn 3 = .ok (.iconst 2, 1) := by decide +kernel
theorem dX9_goOn_4 : decode cX9_goOn 4 = .ok (.if_icmp .gt 39, 3) := by decide +kernel
theorem dX9_goOn_7 : decode cX9_goOn 7 = .ok (.aload_n 0, 1) := by decide +kernel
theorem dX9_goOn_8 : decode cX9_goOn 8 = .ok (.getfield 71, 3) := by decide +kernel
theorem dX9_goOn_11 : decode cX9_goOn 11 = .ok (.iload_n 3, 1) := by decide +kernel
theorem dX9_goOn_12 : decode cX9_goOn 12 = .ok (.dup2, 1) := by decide +kernel
theorem dX9_goOn_13 : decode cX9_goOn 13 = .ok (.iaload, 1) := by decide +kernel
theorem dX9_goOn_14 : decode cX9_goOn 14 = .ok (.aload_n 0, 1) := by decide +kernel
theorem dX9_goOn_15 : decode cX9_goOn 15 = .ok (.getfield 68, 3) := by decide +kernel
theorem dX9_goOn_18 : decode cX9_goOn 18 = .ok (.iload_n 3, 1) := by decide +kernel
theorem dX9_goOn_19 : decode cX9_goOn 19 = .ok (.iaload, 1) := by decide +kernel
theorem dX9_goOn_20 : decode cX9_goOn 20 = .ok (.iadd, 1) := by decide +kernel
theorem dX9_goOn_21 : decode cX9_goOn 21 = .ok (.iastore, 1) := by decide +kernel
theorem dX9_goOn_22 : decode cX9_goOn 22 = .ok (.aload_n 0, 1) := by decide +kernel
theorem dX9_goOn_23 : decode cX9_goOn 23 = .ok (.iload_n 1, 1) := by decide +kernel
theorem dX9_goOn_24 : decode cX9_goOn 24 = .ok (.bipush 29, 2) := by decide +kernel
theorem dX9_goOn_26 : decode cX9_goOn 26 = .ok (.iload_n 3, 1) := by decide +kernel
theorem dX9_goOn_27 : decode cX9_goOn 27 = .ok (.iadd, 1) := by decide +kernel
theorem dX9_goOn_28 : decode cX9_goOn 28 = .ok (.aload_n 0, 1) := by decide +kernel
theorem dX9_goOn_29 : decode cX9_goOn 29 = .ok (.getfield 68, 3) := by decide +kernel
theorem dX9_goOn_32 : decode cX9_goOn 32 = .ok (.iload_n 3, 1) := by decide +kernel
theorem dX9_goOn_33 : decode cX9_goOn 33 = .ok (.iaload, 1) := by decide +kernel
theorem dX9_goOn_34 : decode cX9_goOn 34 = .ok (.invokevirtual 190, 3) := by decide +kernel
theorem dX9_goOn_37 : decode cX9_goOn 37 = .ok (.iinc 3 1, 3) := by decide +kernel
theorem dX9_goOn_40 : decode cX9_goOn 40 = .ok (.goto (-38), 3) := by decide +kernel
theorem dX9_goOn_43 : decode cX9_goOn 43 = .ok (.aload_n 0, 1) := by decide +kernel
theorem dX9_goOn_44 : decode cX9_goOn 44 = .ok (.iload_n 1, 1) := by decide +kernel
theorem dX9_goOn_45 : decode cX9_goOn 45 = .ok (.iconst 4, 1) := by decide +kernel
theorem dX9_goOn_46 : decode cX9_goOn 46 = .ok (.aload_n 0, 1) := by decide +kernel
theorem dX9_goOn_47 : decode cX9_goOn 47 = .ok (.getfield 68, 3) := by decide +kernel
theorem dX9_goOn_50 : decode cX9_goOn 50 = .ok (.iconst 0, 1) := by decide +kernel
theorem dX9_goOn_51 : decode cX9_goOn 51 = .ok (.iaload, 1) := by decide +kernel
theorem dX9_goOn_52 : decode cX9_goOn 52 = .ok (.invokevirtual 190, 3) := by decide +kernel
theorem dX9_goOn_55 : decode cX9_goOn 55 = .ok (.iload_n 2, 1) := by decide +kernel
theorem dX9_goOn_56 : decode cX9_goOn 56 = .ok (.iconst 3, 1) := by decide +kernel
theorem dX9_goOn_57 : decode cX9_goOn 57 = .ok (.if_icmp .ne 8, 3) := by decide +kernel
theorem dX9_goOn_60 : decode cX9_goOn 60 = .ok (.aload_n 0, 1) := by decide +kernel
theorem dX9_goOn_61 : decode cX9_goOn 61 = .ok (.iload_n 1, 1) := by decide +kernel
theorem dX9_goOn_62 : decode cX9_goOn 62 = .ok (.invokevirtual 302, 3) := by decide +kernel
theorem dX9_goOn_65 : decode cX9_goOn 65 = .ok (.iload_n 2, 1) := by decide +kernel
theorem dX9_goOn_66 : decode cX9_goOn 66 = .ok (.iconst 1, 1) := by decide +kernel
theorem dX9_goOn_67 : decode cX9_goOn 67 = .ok (.if_icmp .ne 19, 3) := by decide +kernel
theorem dX9_goOn_70 : decode cX9_goOn 70 = .ok (.aload_n 0, 1) := by decide +kernel
theorem dX9_goOn_71 : decode cX9_goOn 71 = .ok (.iload_n 1, 1) := by decide +kernel
theorem dX9_goOn_72 : decode cX9_goOn 72 = .ok (.bipush 32, 2) := by decide +kernel
theorem dX9_goOn_74 : decode cX9_goOn 74 = .ok (.aload_n 0, 1) := by decide +kernel
theorem dX9_goOn_75 : decode cX9_goOn 75 = .ok (.iload_n 1, 1) := by decide +kernel
theorem dX9_goOn_76 : decode cX9_goOn 76 = .ok (.invokevirtual 123, 3) := by decide +kernel
theorem dX9_goOn_79 : decode cX9_goOn 79 = .ok (.iconst 1, 1) := by decide +kernel
theorem dX9_goOn_80 : decode cX9_goOn 80 = .ok (.invokevirtual 154, 3) := by decide +kernel
theorem dX9_goOn_83 : decode cX9_goOn 83 = .ok (.invokevirtual 190, 3) := by decide +kernel
theorem dX9_goOn_86 : decode cX9_goOn 86 = .ok (.aload_n 0, 1) := by decide +kernel
theorem dX9_goOn_87 : decode cX9_goOn 87 = .ok (.iload_n 1, 1) := by decide +kernel
theorem dX9_goOn_88 : decode cX9_goOn 88 = .ok (.bipush 27, 2) := by decide +kernel
theorem dX9_goOn_90 : decode cX9_goOn 90 = .ok (.iconst 1, 1) := by decide +kernel
theorem dX9_goOn_91 : decode cX9_goOn 91 = .ok (.invokevirtual 190, 3) := by decide +kernel
theorem dX9_goOn_94 : decode cX9_goOn 94 = .ok (.aload_n 0, 1) := by decide +kernel
theorem dX9_goOn_95 : decode cX9_goOn 95 = .ok (.iload_n 1, 1) := by decide +kernel
theorem dX9_goOn_96 : decode cX9_goOn 96 = .ok (.bipush 6, 2) := by decide +kernel
theorem dX9_goOn_98 : decode cX9_goOn 98 = .ok (.iconst 0, 1) := by decide +kernel
theorem dX9_goOn_99 : decode cX9_goOn 99 = .ok (.invokevirtual 99, 3) := by decide +kernel
theorem dX9_goOn_102 : decode cX9_goOn 102 = .ok (.aload_n 0, 1) := by decide +kernel
theorem dX9_goOn_103 : decode cX9_goOn 103 = .ok (.iload_n 1, 1) := by decide +kernel
theorem dX9_goOn_104 : decode cX9_goOn 104 = .ok (.iconst 3, 1) := by decide +kernel
theorem dX9_goOn_105 : decode cX9_goOn 105 = .ok (.iconst 2, 1) := by decide +kernel
theorem dX9_goOn_106 : decode cX9_goOn 106 = .ok (.invokevirtual 99, 3) := by decide +kernel
theorem dX9_goOn_109 : decode cX9_goOn 109 = .ok (.aload_n 0, 1) := by decide +kernel
theorem dX9_goOn_110 : decode cX9_goOn 110 = .ok (.iload_n 1, 1) := by decide +kernel
theorem dX9_goOn_111 : decode cX9_goOn 111 = .ok (.bipush 12, 2) := by decide +kernel
theorem dX9_goOn_113 : decode cX9_goOn 113 = .ok (.iconst (-1), 1) := by decide +kernel
theorem dX9_goOn_114 : decode cX9_goOn 114 = .ok (.invokevirtual 190, 3) := by decide +kernel
theorem dX9_goOn_117 : decode cX9_goOn 117 = .ok (.aload_n 0, 1) := by decide +kernel
theorem dX9_goOn_118 : decode cX9_goOn 118 = .ok (.iload_n 1, 1) := by decide +kernel
theorem dX9_goOn_119 : decode cX9_goOn 119 = .ok (.bipush 11, 2) := by decide +kernel
theorem dX9_goOn_121 : decode cX9_goOn 121 = .ok (.invokevirtual 110, 3) := by decide +kernel
theorem dX9_goOn_124 : decode cX9_goOn 124 = .ok (.iconst 1, 1) := by decide +kernel
theorem dX9_goOn_125 : decode cX9_goOn 125 = .ok (.iadd, 1) := by decide +kernel
theorem dX9_goOn_126 : decode cX9_goOn 126 = .ok (.istore_n 3, 1) := by decide +kernel
theorem dX9_goOn_127 : decode cX9_goOn 127 = .ok (.aload_n 0, 1) := by decide +kernel
theorem dX9_goOn_128 : decode cX9_goOn 128 = .ok (.iload_n 1, 1) := by decide +kernel
theorem dX9_goOn_129 : decode cX9_goOn 129 = .ok (.bipush 12, 2) := by decide +kernel
theorem dX9_goOn_131 : decode cX9_goOn 131 = .ok (.invokevirtual 110, 3) := by decide +kernel
theorem dX9_goOn_134 : decode cX9_goOn 134 = .ok (.ifCond .ne 41, 3) := by decide +kernel
theorem dX9_goOn_137 : decode cX9_goOn 137 = .ok (.iload_n 3, 1) := by decide +kernel
theorem dX9_goOn_138 : decode cX9_goOn 138 = .ok (.aload_n 0, 1) := by decide +kernel
theorem dX9_goOn_139 : decode cX9_goOn 139 = .ok (.iload_n 1, 1) := by decide +kernel
theorem dX9_goOn_140 : decode cX9_goOn 140 = .ok (.bipush 10, 2) := by decide +kernel
theorem dX9_goOn_142 : decode cX9_goOn 142 = .ok (.invokevirtual 110, 3) := by decide +kernel
theorem dX9_goOn_145 : decode cX9_goOn 145 = .ok (.if_icmp .ge 30, 3) := by decide +kernel
theorem dX9_goOn_148 : decode cX9_goOn 148 = .ok (.aload_n 0, 1) := by decide +kernel
theorem dX9_goOn_149 : decode cX9_goOn 149 = .ok (.iload_n 1, 1) := by decide +kernel
theorem dX9_goOn_150 : decode cX9_goOn 150 = .ok (.bipush 11, 2) := by decide +kernel
theorem dX9_goOn_152 : decode cX9_goOn 152 = .ok (.iload_n 3, 1) := by decide +kernel
theorem dX9_goOn_153 : decode cX9_goOn 153 = .ok (.invokevirtual 99, 3) := by decide +kernel
theorem dX9_goOn_156 : decode cX9_goOn 156 = .ok (.aload_n 0, 1) := by decide +kernel
theorem dX9_goOn_157 : decode cX9_goOn 157 = .ok (.iload_n 1, 1) := by decide +kernel
theorem dX9_goOn_158 : decode cX9_goOn 158 = .ok (.bipush 12, 2) := by decide +kernel
theorem dX9_goOn_160 : decode cX9_goOn 160 = .ok (.aload_n 0, 1) := by decide +kernel
theorem dX9_goOn_161 : decode cX9_goOn 161 = .ok (.iload_n 1, 1) := by decide +kernel
theorem dX9_goOn_162 : decode cX9_goOn 162 = .ok (.bipush 48, 2) := by decide +kernel
theorem dX9_goOn_164 : decode cX9_goOn 164 = .ok (.iload_n 3, 1) := by decide +kernel
theorem dX9_goOn_165 : decode cX9_goOn 165 = .ok (.iadd, 1) := by decide +kernel
theorem dX9_goOn_166 : decode cX9_goOn 166 = .ok (.invokevirtual 110, 3) := by decide +kernel
theorem dX9_goOn_169 : decode cX9_goOn 169 = .ok (.invokestatic 178, 3) := by decide +kernel
theorem dX9_goOn_172 : decode cX9_goOn 172 = .ok (.invokevirtual 99, 3) := by decide +kernel
theorem dX9_goOn_175 : decode cX9_goOn 175 = .ok (.return_, 1) := by decide +kernel
theorem dX9_waitOn_0 : decode cX9_waitOn 0 = .ok (.aload_n 0, 1) := by decide +kernel
theorem dX9_waitOn_1 : decode cX9_waitOn 1 = .ok (.iload_n 1, 1) := by decide +kernel
theorem dX9_waitOn_2 : decode cX9_waitOn 2 = .ok (.bipush 6, 2) := by decide +kernel
theorem dX9_waitOn_4 : decode cX9_waitOn 4 = .ok (.iconst 1, 1) := by decide +kernel
theorem dX9_waitOn_5 : decode cX9_waitOn 5 = .ok (.invokevirtual 190, 3) := by decide +kernel
theorem dX9_waitOn_8 : decode cX9_waitOn 8 = .ok (.aload_n 0, 1) := by decide +kernel
theorem dX9_waitOn_9 : decode cX9_waitOn 9 = .ok (.iload_n 1, 1) := by decide +kernel
theorem dX9_waitOn_10 : decode cX9_waitOn 10 = .ok (.bipush 28, 2) := by decide +kernel
theorem dX9_waitOn_12 : decode cX9_waitOn 12 = .ok (.iconst 1, 1) := by decide +kernel
theorem dX9_waitOn_13 : decode cX9_waitOn 13 = .ok (.invokevirtual 190, 3) := by decide +kernel
theorem dX9_waitOn_16 : decode cX9_waitOn 16 = .ok (.aload_n 0, 1) := by decide +kernel
theorem dX9_waitOn_17 : decode cX9_waitOn 17 = .ok (.iload_n 1, 1) := by decide +kernel
theorem dX9_waitOn_18 : decode cX9_waitOn 18 = .ok (.iconst 3, 1) := by decide +kernel
theorem dX9_waitOn_19 : decode cX9_waitOn 19 = .ok (.iconst 3, 1) := by decide +kernel
theorem dX9_waitOn_20 : decode cX9_waitOn 20 = .ok (.invokevirtual 99, 3) := by decide +kernel
theorem dX9_waitOn_23 : decode cX9_waitOn 23 = .ok (.return_, 1) := by decide +kernel
theorem dX9_endRun_0 : decode cX9_endRun 0 = .ok (.aload_n 0, 1) := by decide +kernel
theorem dX9_endRun_1 : decode cX9_endRun 1 = .ok (.iload_n 1, 1) := by decide +kernel
theorem dX9_endRun_2 : decode cX9_endRun 2 = .ok (.invokevirtual 302, 3) := by decide +kernel
theorem dX9_endRun_5 : decode cX9_endRun 5 = .ok (.aload_n 0, 1) := by decide +kernel
theorem dX9_endRun_6 : decode cX9_endRun 6 = .ok (.iload_n 1, 1) := by decide +kernel
theorem dX9_endRun_7 : decode cX9_endRun 7 = .ok (.iconst 2, 1) := by decide +kernel
theorem dX9_endRun_8 : decode cX9_endRun 8 = .ok (.iconst 1, 1) := by decide +kernel
theorem dX9_endRun_9 : decode cX9_endRun 9 = .ok (.invokevirtual 99, 3) := by decide +kernel
theorem dX9_endRun_12 : decode cX9_endRun 12 = .ok (.aload_n 0, 1) := by decide +kernel
theorem dX9_endRun_13 : decode cX9_endRun 13 = .ok (.iload_n 1, 1) := by decide +kernel
theorem dX9_endRun_14 : decode cX9_endRun 14 = .ok (.iconst 3, 1) := by decide +kernel
theorem dX9_endRun_15 : decode cX9_endRun 15 = .ok (.iconst 1, 1) := by decide +kernel
theorem dX9_endRun_16 : decode cX9_endRun 16 = .ok (.invokevirtual 99, 3) := by decide +kernel
theorem dX9_endRun_19 : decode cX9_endRun 19 = .ok (.aload_n 0, 1) := by decide +kernel
theorem dX9_endRun_20 : decode cX9_endRun 20 = .ok (.iload_n 1, 1) := by decide +kernel
theorem dX9_endRun_21 : decode cX9_endRun 21 = .ok (.iconst 5, 1) := by decide +kernel
theorem dX9_endRun_22 : decode cX9_endRun 22 = .ok (.iconst 0, 1) := by decide +kernel
theorem dX9_endRun_23 : decode cX9_endRun 23 = .ok (.invokevirtual 99, 3) := by decide +kernel
theorem dX9_endRun_26 : decode cX9_endRun 26 = .ok (.aload_n 0, 1) := by decide +kernel
theorem dX9_endRun_27 : decode cX9_endRun 27 = .ok (.iload_n 1, 1) := by decide +kernel
theorem dX9_endRun_28 : decode cX9_endRun 28 = .ok (.bipush 6, 2) := by decide +kernel
theorem dX9_endRun_30 : decode cX9_endRun 30 = .ok (.iconst 0, 1) := by decide +kernel
theorem dX9_endRun_31 : decode cX9_endRun 31 = .ok (.invokevirtual 99, 3) := by decide +kernel
theorem dX9_endRun_34 : decode cX9_endRun 34 = .ok (.aload_n 0, 1) := by decide +kernel
theorem dX9_endRun_35 : decode cX9_endRun 35 = .ok (.iload_n 1, 1) := by decide +kernel
theorem dX9_endRun_36 : decode cX9_endRun 36 = .ok (.bipush 10, 2) := by decide +kernel
theorem dX9_endRun_38 : decode cX9_endRun 38 = .ok (.iconst 0, 1) := by decide +kernel
theorem dX9_endRun_39 : decode cX9_endRun 39 = .ok (.invokevirtual 99, 3) := by decide +kernel
theorem dX9_endRun_42 : decode cX9_endRun 42 = .ok (.aload_n 0, 1) := by decide +kernel
theorem dX9_endRun_43 : decode cX9_endRun 43 = .ok (.iload_n 1, 1) := by decide +kernel
theorem dX9_endRun_44 : decode cX9_endRun 44 = .ok (.bipush 11, 2) := by decide +kernel
theorem dX9_endRun_46 : decode cX9_endRun 46 = .ok (.iconst 0, 1) := by decide +kernel
theorem dX9_endRun_47 : decode cX9_endRun 47 = .ok (.invokevirtual 99, 3) := by decide +kernel
theorem dX9_endRun_50 : decode cX9_endRun 50 = .ok (.aload_n 0, 1) := by decide +kernel
theorem dX9_endRun_51 : decode cX9_endRun 51 = .ok (.iload_n 1, 1) := by decide +kernel
theorem dX9_endRun_52 : decode cX9_endRun 52 = .ok (.bipush 12, 2) := by decide +kernel
theorem dX9_endRun_54 : decode cX9_endRun 54 = .ok (.iconst 0, 1) := by decide +kernel
theorem dX9_endRun_55 : decode cX9_endRun 55 = .ok (.invokevirtual 99, 3) := by decide +kernel
theorem dX9_endRun_58 : decode cX9_endRun 58 = .ok (.return_, 1) := by decide +kernel
theorem dX9_drainOff_0 : decode cX9_drainOff 0 = .ok (.aload_n 0, 1) := by decide +kernel
theorem dX9_drainOff_1 : decode cX9_drainOff 1 = .ok (.getfield 12, 3) := by decide +kernel
theorem dX9_drainOff_4 : decode cX9_drainOff 4 = .ok (.sipush 8555, 3) := by decide +kernel
theorem dX9_drainOff_7 : decode cX9_drainOff 7 = .ok (.aload_n 0, 1) := by decide +kernel
theorem dX9_drainOff_8 : decode cX9_drainOff 8 = .ok (.iload_n 1, 1) := by decide +kernel
theorem dX9_drainOff_9 : decode cX9_drainOff 9 = .ok (.iconst 4, 1) := by decide +kernel
theorem dX9_drainOff_10 : decode cX9_drainOff 10 = .ok (.invokevirtual 110, 3) := by decide +kernel
theorem dX9_drainOff_13 : decode cX9_drainOff 13 = .ok (.invokevirtual 193, 3) := by decide +kernel
theorem dX9_drainOff_16 : decode cX9_drainOff 16 = .ok (.aload_n 0, 1) := by decide +kernel
theorem dX9_drainOff_17 : decode cX9_drainOff 17 = .ok (.iload_n 1, 1) := by decide +kernel
theorem dX9_drainOff_18 : decode cX9_drainOff 18 = .ok (.iconst 4, 1) := by decide +kernel
theorem dX9_drainOff_19 : decode cX9_drainOff 19 = .ok (.iconst 0, 1) := by decide +kernel
theorem dX9_drainOff_20 : decode cX9_drainOff 20 = .ok (.invokevirtual 99, 3) := by decide +kernel
theorem dX9_drainOff_23 : decode cX9_drainOff 23 = .ok (.return_, 1) := by decide +kernel
theorem dX9_left_0 : decode cX9_left 0 = .ok (.iload_n 1, 1) := by decide +kernel
theorem dX9_left_1 : decode cX9_left 1 = .ok (.invokestatic 88, 3) := by decide +kernel
theorem dX9_left_4 : decode cX9_left 4 = .ok (.ifCond .ne 5, 3) := by decide +kernel
theorem dX9_left_7 : decode cX9_left 7 = .ok (.iconst (-1), 1) := by decide +kernel
theorem dX9_left_8 : decode cX9_left 8 = .ok (.ireturn, 1) := by decide +kernel
theorem dX9_left_9 : decode cX9_left 9 = .ok (.aload_n 0, 1) := by decide +kernel
theorem dX9_left_10 : decode cX9_left 10 = .ok (.iload_n 1, 1) := by decide +kernel
theorem dX9_left_11 : decode cX9_left 11 = .ok (.invokevirtual 96, 3) := by decide +kernel
theorem dX9_left_14 : decode cX9_left 14 = .ok (.ifCond .eq 11, 3) := by decide +kernel
theorem dX9_left_17 : decode cX9_left 17 = .ok (.aload_n 0, 1) := by decide +kernel
theorem dX9_left_18 : decode cX9_left 18 = .ok (.iload_n 1, 1) := by decide +kernel
theorem dX9_left_19 : decode cX9_left 19 = .ok (.invokevirtual 305, 3) := by decide +kernel
theorem dX9_left_22 : decode cX9_left 22 = .ok (.goto 8, 3) := by decide +kernel
theorem dX9_left_25 : decode cX9_left 25 = .ok (.aload_n 0, 1) := by decide +kernel
theorem dX9_left_26 : decode cX9_left 26 = .ok (.iconst 1, 1) := by decide +kernel
theorem dX9_left_27 : decode cX9_left 27 = .ok (.invokevirtual 103, 3) := by decide +kernel
theorem dX9_left_30 : decode cX9_left 30 = .ok (.ireturn, 1) := by decide +kernel
theorem dX9_stop_0 : decode cX9_stop 0 = .ok (.iload_n 1, 1) := by decide +kernel
theorem dX9_stop_1 : decode cX9_stop 1 = .ok (.invokestatic 88, 3) := by decide +kernel
theorem dX9_stop_4 : decode cX9_stop 4 = .ok (.ifCond .ne 5, 3) := by decide +kernel
theorem dX9_stop_7 : decode cX9_stop 7 = .ok (.iconst (-1), 1) := by decide +kernel
theorem dX9_stop_8 : decode cX9_stop 8 = .ok (.ireturn, 1) := by decide +kernel
theorem dX9_stop_9 : decode cX9_stop 9 = .ok (.aload_n 0, 1) := by decide +kernel
theorem dX9_stop_10 : decode cX9_stop 10 = .ok (.iload_n 1, 1) := by decide +kernel
theorem dX9_stop_11 : decode cX9_stop 11 = .ok (.invokevirtual 96, 3) := by decide +kernel
theorem dX9_stop_14 : decode cX9_stop 14 = .ok (.ifCond .ne 9, 3) := by decide +kernel
