theorem dL_piece_0 : decode cL_piece 0 = .ok (.aload 4, 2) := by decide +kernel
theorem dL_piece_2 : decode cL_piece 2 = .ok (.iconst 0, 1) := by decide +kernel
theorem dL_piece_3 : decode cL_piece 3 = .ok (.aload_n 0, 1) := by decide +kernel
theorem dL_piece_4 : decode cL_piece 4 = .ok (.iload_n 1, 1) := by decide +kernel
theorem dL_piece_5 : decode cL_piece 5 = .ok (.iload_n 2, 1) := by decide +kernel
theorem dL_piece_6 : decode cL_piece 6 = .ok (.iload_n 3, 1) := by decide +kernel
theorem dL_piece_7 : decode cL_piece 7 = .ok (.invokevirtual 7, 3) := by decide +kernel
theorem dL_piece_10 : decode cL_piece 10 = .ok (.i2l, 1) := by decide +kernel
theorem dL_piece_11 : decode cL_piece 11 = .ok (.lastore, 1) := by decide +kernel
theorem dL_piece_12 : decode cL_piece 12 = .ok (.goto 11, 3) := by decide +kernel
theorem dL_piece_15 : decode cL_piece 15 = .ok (.astore 5, 2) := by decide +kernel
theorem dL_piece_17 : decode cL_piece 17 = .ok (.iconst 1, 1) := by decide +kernel
theorem dL_piece_18 : decode cL_piece 18 = .ok (.ireturn, 1) := by decide +kernel
theorem dL_piece_19 : decode cL_piece 19 = .ok (.astore 5, 2) := by decide +kernel
theorem dL_piece_21 : decode cL_piece 21 = .ok (.iconst 2, 1) := by decide +kernel
theorem dL_piece_22 : decode cL_piece 22 = .ok (.ireturn, 1) := by decide +kernel
theorem dL_piece_23 : decode cL_piece 23 = .ok (.iconst 0, 1) := by decide +kernel
theorem dL_piece_24 : decode cL_piece 24 = .ok (.ireturn, 1) := by decide +kernel
theorem dL_weather_0 : decode cL_weather 0 = .ok (.aload_n 2, 1) := by decide +kernel
theorem dL_weather_1 : decode cL_weather 1 = .ok (.iconst 0, 1) := by decide +kernel
theorem dL_weather_2 : decode cL_weather 2 = .ok (.aload_n 0, 1) := by decide +kernel
theorem dL_weather_3 : decode cL_weather 3 = .ok (.iload_n 1, 1) := by decide +kernel
theorem dL_weather_4 : decode cL_weather 4 = .ok (.invokevirtual 17, 3) := by decide +kernel
theorem dL_weather_7 : decode cL_weather 7 = .ok (.i2l, 1) := by decide +kernel
theorem dL_weather_8 : decode cL_weather 8 = .ok (.lastore, 1) := by decide +kernel
theorem dL_weather_9 : decode cL_weather 9 = .ok (.goto 6, 3) := by decide +kernel
theorem dL_weather_12 : decode cL_weather 12 = .ok (.astore_n 3, 1) := by decide +kernel
theorem dL_weather_13 : decode cL_weather 13 = .ok (.iconst 1, 1) := by decide +kernel
theorem dL_weather_14 : decode cL_weather 14 = .ok (.ireturn, 1) := by decide +kernel
theorem dL_weather_15 : decode cL_weather 15 = .ok (.iconst 0, 1) := by decide +kernel
theorem dL_weather_16 : decode cL_weather 16 = .ok (.ireturn, 1) := by decide +kernel
theorem dL_snow_0 : decode cL_snow 0 = .ok (.aload_n 2, 1) := by decide +kernel
theorem dL_snow_1 : decode cL_snow 1 = .ok (.iconst 0, 1) := by decide +kernel
theorem dL_snow_2 : decode cL_snow 2 = .ok (.aload_n 0, 1) := by decide +kernel
theorem dL_snow_3 : decode cL_snow 3 = .ok (.iload_n 1, 1) := by decide +kernel
theorem dL_snow_4 : decode cL_snow 4 = .ok (.invokevirtual 21, 3) := by decide +kernel
theorem dL_snow_7 : decode cL_snow 7 = .ok (.i2l, 1) := by decide +kernel
theorem dL_snow_8 : decode cL_snow 8 = .ok (.lastore, 1) := by decide +kernel
theorem dL_snow_9 : decode cL_snow 9 = .ok (.goto 6, 3) := by decide +kernel
theorem dL_snow_12 : decode cL_snow 12 = .ok (.astore_n 3, 1) := by decide +kernel
theorem dL_snow_13 : decode cL_snow 13 = .ok (.iconst 1, 1) := by decide +kernel
theorem dL_snow_14 : decode cL_snow 14 = .ok (.ireturn, 1) := by decide +kernel
theorem dL_snow_15 : decode cL_snow 15 = .ok (.iconst 0, 1) := by decide +kernel
theorem dL_snow_16 : decode cL_snow 16 = .ok (.ireturn, 1) := by decide +kernel
theorem dL_plough_0 : decode cL_plough 0 = .ok (.aload_n 2, 1) := by decide +kernel
theorem dL_plough_1 : decode cL_plough 1 = .ok (.iconst 0, 1) := by decide +kernel
theorem dL_plough_2 : decode cL_plough 2 = .ok (.aload_n 0, 1) := by decide +kernel
theorem dL_plough_3 : decode cL_plough 3 = .ok (.iload_n 1, 1) := by decide +kernel
theorem dL_plough_4 : decode cL_plough 4 = .ok (.invokevirtual 24, 3) := by decide +kernel
theorem dL_plough_7 : decode cL_plough 7 = .ok (.i2l, 1) := by decide +kernel
theorem dL_plough_8 : decode cL_plough 8 = .ok (.lastore, 1) := by decide +kernel
theorem dL_plough_9 : decode cL_plough 9 = .ok (.goto 6, 3) := by decide +kernel
theorem dL_plough_12 : decode cL_plough 12 = .ok (.astore_n 3, 1) := by decide +kernel
theorem dL_plough_13 : decode cL_plough 13 = .ok (.iconst 1, 1) := by decide +kernel
theorem dL_plough_14 : decode cL_plough 14 = .ok (.ireturn, 1) := by decide +kernel
theorem dL_plough_15 : decode cL_plough 15 = .ok (.iconst 0, 1) := by decide +kernel
theorem dL_plough_16 : decode cL_plough 16 = .ok (.ireturn, 1) := by decide +kernel
theorem dL_flood_0 : decode cL_flood 0 = .ok (.aload_n 3, 1) := by decide +kernel
theorem dL_flood_1 : decode cL_flood 1 = .ok (.iconst 0, 1) := by decide +kernel
theorem dL_flood_2 : decode cL_flood 2 = .ok (.aload_n 0, 1) := by decide +kernel
theorem dL_flood_3 : decode cL_flood 3 = .ok (.iload_n 1, 1) := by decide +kernel
theorem dL_flood_4 : decode cL_flood 4 = .ok (.iload_n 2, 1) := by decide +kernel
theorem dL_flood_5 : decode cL_flood 5 = .ok (.invokevirtual 29, 3) := by decide +kernel
theorem dL_flood_8 : decode cL_flood 8 = .ok (.i2l, 1) := by decide +kernel
theorem dL_flood_9 : decode cL_flood 9 = .ok (.lastore, 1) := by decide +kernel
theorem dL_flood_10 : decode cL_flood 10 = .ok (.goto 15, 3) := by decide +kernel
theorem dL_flood_13 : decode cL_flood 13 = .ok (.astore 4, 2) := by decide +kernel
theorem dL_flood_15 : decode cL_flood 15 = .ok (.iconst 1, 1) := by decide +kernel
theorem dL_flood_16 : decode cL_flood 16 = .ok (.ireturn, 1) := by decide +kernel
theorem dL_flood_17 : decode cL_flood 17 = .ok (.astore 4, 2) := by decide +kernel
theorem dL_flood_19 : decode cL_flood 19 = .ok (.iconst 2, 1) := by decide +kernel
theorem dL_flood_20 : decode cL_flood 20 = .ok (.ireturn, 1) := by decide +kernel
theorem dL_flood_21 : decode cL_flood 21 = .ok (.astore 4, 2) := by decide +kernel
theorem dL_flood_23 : decode cL_flood 23 = .ok (.iconst 3, 1) := by decide +kernel
theorem dL_flood_24 : decode cL_flood 24 = .ok (.ireturn, 1) := by decide +kernel
theorem dL_flood_25 : decode cL_flood 25 = .ok (.iconst 0, 1) := by decide +kernel
theorem dL_flood_26 : decode cL_flood 26 = .ok (.ireturn, 1) := by decide +kernel
theorem dL_drill_0 : decode cL_drill 0 = .ok (.aload_n 2, 1) := by decide +kernel
theorem dL_drill_1 : decode cL_drill 1 = .ok (.iconst 0, 1) := by decide +kernel
theorem dL_drill_2 : decode cL_drill 2 = .ok (.aload_n 0, 1) := by decide +kernel
theorem dL_drill_3 : decode cL_drill 3 = .ok (.iload_n 1, 1) := by decide +kernel
theorem dL_drill_4 : decode cL_drill 4 = .ok (.invokevirtual 33, 3) := by decide +kernel
theorem dL_drill_7 : decode cL_drill 7 = .ok (.dastore, 1) := by decide +kernel
theorem dL_drill_8 : decode cL_drill 8 = .ok (.goto 6, 3) := by decide +kernel
theorem dL_drill_11 : decode cL_drill 11 = .ok (.astore_n 3, 1) := by decide +kernel
theorem dL_drill_12 : decode cL_drill 12 = .ok (.iconst 1, 1) := by decide +kernel
theorem dL_drill_13 : decode cL_drill 13 = .ok (.ireturn, 1) := by decide +kernel
theorem dL_drill_14 : decode cL_drill 14 = .ok (.iconst 0, 1) := by decide +kernel
theorem dL_drill_15 : decode cL_drill 15 = .ok (.ireturn, 1) := by decide +kernel
theorem dL_open_0 : decode cL_open 0 = .ok (.aload_n 3, 1) := by decide +kernel
theorem dL_open_1 : decode cL_open 1 = .ok (.iconst 0, 1) := by decide +kernel
theorem dL_open_2 : decode cL_open 2 = .ok (.aload_n 0, 1) := by decide +kernel
theorem dL_open_3 : decode cL_open 3 = .ok (.iload_n 1, 1) := by decide +kernel
theorem dL_open_4 : decode cL_open 4 = .ok (.iload_n 2, 1) := by decide +kernel
theorem dL_open_5 : decode cL_open 5 = .ok (.invokevirtual 37, 3) := by decide +kernel
theorem dL_open_8 : decode cL_open 8 = .ok (.i2l, 1) := by decide +kernel
theorem dL_open_9 : decode cL_open 9 = .ok (.lastore, 1) := by decide +kernel
theorem dL_open_10 : decode cL_open 10 = .ok (.goto 11, 3) := by decide +kernel
theorem dL_open_13 : decode cL_open 13 = .ok (.astore 4, 2) := by decide +kernel
theorem dL_open_15 : decode cL_open 15 = .ok (.iconst 1, 1) := by decide +kernel
theorem dL_open_16 : decode cL_open 16 = .ok (.ireturn, 1) := by decide +kernel
theorem dL_open_17 : decode cL_open 17 = .ok (.astore 4, 2) := by decide +kernel
theorem dL_open_19 : decode cL_open 19 = .ok (.iconst 2, 1) := by decide +kernel
theorem dL_open_20 : decode cL_open 20 = .ok (.ireturn, 1) := by decide +kernel
theorem dL_open_21 : decode cL_open 21 = .ok (.iconst 0, 1) := by decide +kernel
theorem dL_open_22 : decode cL_open 22 = .ok (.ireturn, 1) := by decide +kernel
theorem dL_limit_0 : decode cL_limit 0 = .ok (.aload_n 3, 1) := by decide +kernel
theorem dL_limit_1 : decode cL_limit 1 = .ok (.iconst 0, 1) := by decide +kernel
theorem dL_limit_2 : decode cL_limit 2 = .ok (.aload_n 0, 1) := by decide +kernel
theorem dL_limit_3 : decode cL_limit 3 = .ok (.iload_n 1, 1) := by decide +kernel
theorem dL_limit_4 : decode cL_limit 4 = .ok (.iload_n 2, 1) := by decide +kernel
theorem dL_limit_5 : decode cL_limit 5 = .ok (.invokevirtual 40, 3) := by decide +kernel
theorem dL_limit_8 : decode cL_limit 8 = .ok (.i2l, 1) := by decide +kernel
theorem dL_limit_9 : decode cL_limit 9 = .ok (.lastore, 1) := by decide +kernel
theorem dL_limit_10 : decode cL_limit 10 = .ok (.goto 11, 3) := by decide +kernel
theorem dL_limit_13 : decode cL_limit 13 = .ok (.astore 4, 2) := by decide +kernel
theorem dL_limit_15 : decode cL_limit 15 = .ok (.iconst 1, 1) := by decide +kernel
theorem dL_limit_16 : decode cL_limit 16 = .ok (.ireturn, 1) := by decide +kernel
theorem dL_limit_17 : decode cL_limit 17 = .ok (.astore 4, 2) := by decide +kernel
theorem dL_limit_19 : decode cL_limit 19 = .ok (.iconst 2, 1) := by decide +kernel
theorem dL_limit_20 : decode cL_limit 20 = .ok (.ireturn, 1) := by decide +kernel
theorem dL_limit_21 : decode cL_limit 21 = .ok (.iconst 0, 1) := by decide +kernel
theorem dL_limit_22 : decode cL_limit 22 = .ok (.ireturn, 1) := by decide +kernel
theorem dL_gap_0 : decode cL_gap 0 = .ok (.aload_n 2, 1) := by decide +kernel
theorem dL_gap_1 : decode cL_gap 1 = .ok (.iconst 0, 1) := by decide +kernel
theorem dL_gap_2 : decode cL_gap 2 = .ok (.aload_n 0, 1) := by decide +kernel
theorem dL_gap_3 : decode cL_gap 3 = .ok (.iload_n 1, 1) := by decide +kernel
theorem dL_gap_4 : decode cL_gap 4 = .ok (.invokevirtual 43, 3) := by decide +kernel
theorem dL_gap_7 : decode cL_gap 7 = .ok (.i2l, 1) := by decide +kernel
theorem dL_gap_8 : decode cL_gap 8 = .ok (.lastore, 1) := by decide +kernel
theorem dL_gap_9 : decode cL_gap 9 = .ok (.goto 6, 3) := by decide +kernel
theorem dL_gap_12 : decode cL_gap 12 = .ok (.astore_n 3, 1) := by decide +kernel
theorem dL_gap_13 : decode cL_gap 13 = .ok (.iconst 1, 1) := by decide +kernel
theorem dL_gap_14 : decode cL_gap 14 = .ok (.ireturn, 1) := by decide +kernel
theorem dL_gap_15 : decode cL_gap 15 = .ok (.iconst 0, 1) := by decide +kernel
theorem dL_gap_16 : decode cL_gap 16 = .ok (.ireturn, 1) := by decide +kernel
theorem dL_vehicle_0 : decode cL_vehicle 0 = .ok (.aload 4, 2) := by decide +kernel
theorem dL_vehicle_2 : decode cL_vehicle 2 = .ok (.iconst 0, 1) := by decide +kernel
theorem dL_vehicle_3 : decode cL_vehicle 3 = .ok (.aload_n 0, 1) := by decide +kernel
theorem dL_vehicle_4 : decode cL_vehicle 4 = .ok (.iload_n 1, 1) := by decide +kernel
theorem dL_vehicle_5 : decode cL_vehicle 5 = .ok (.iload_n 2, 1) := by decide +kernel
theorem dL_vehicle_6 : decode cL_vehicle 6 = .ok (.iload_n 3, 1) := by decide +kernel
theorem dL_vehicle_7 : decode cL_vehicle 7 = .ok (.invokevirtual 46, 3) := by decide +kernel
theorem dL_vehicle_10 : decode cL_vehicle 10 = .ok (.i2l, 1) := by decide +kernel
theorem dL_vehicle_11 : decode cL_vehicle 11 = .ok (.lastore, 1) := by decide +kernel
theorem dL_vehicle_12 : decode cL_vehicle 12 = .ok (.goto 11, 3) := by decide +kernel
theorem dL_vehicle_15 : decode cL_vehicle 15 = .ok (.astore 5, 2) := by decide +kernel
theorem dL_vehicle_17 : decode cL_vehicle 17 = .ok (.iconst 1, 1) := by decide +kernel
theorem dL_vehicle_18 : decode cL_vehicle 18 = .ok (.ireturn, 1) := by decide +kernel
theorem dL_vehicle_19 : decode cL_vehicle 19 = .ok (.astore 5, 2) := by decide +kernel
theorem dL_vehicle_21 : decode cL_vehicle 21 = .ok (.iconst 2, 1) := by decide +kernel
theorem dL_vehicle_22 : decode cL_vehicle 22 = .ok (.ireturn, 1) := by decide +kernel
theorem dL_vehicle_23 : decode cL_vehicle 23 = .ok (.iconst 0, 1) := by decide +kernel
theorem dL_vehicle_24 : decode cL_vehicle 24 = .ok (.ireturn, 1) := by decide +kernel
theorem dL_load_0 : decode cL_load 0 = .ok (.aload 4, 2) := by decide +kernel
theorem dL_load_2 : decode cL_load 2 = .ok (.iconst 0, 1) := by decide +kernel
theorem dL_load_3 : decode cL_load 3 = .ok (.aload_n 0, 1) := by decide +kernel
theorem dL_load_4 : decode cL_load 4 = .ok (.iload_n 1, 1) := by decide +kernel
theorem dL_load_5 : decode cL_load 5 = .ok (.iload_n 2, 1) := by decide +kernel
theorem dL_load_6 : decode cL_load 6 = .ok (.iload_n 3, 1) := by decide +kernel
theorem dL_load_7 : decode cL_load 7 = .ok (.invokevirtual 49, 3) := by decide +kernel
theorem dL_load_10 : decode cL_load 10 = .ok (.i2l, 1) := by decide +kernel
theorem dL_load_11 : decode cL_load 11 = .ok (.lastore, 1) := by decide +kernel
theorem dL_load_12 : decode cL_load 12 = .ok (.goto 15, 3) := by decide +kernel
theorem dL_load_15 : decode cL_load 15 = .ok (.astore 5, 2) := by decide +kernel
theorem dL_load_17 : decode cL_load 17 = .ok (.iconst 1, 1) := by decide +kernel
theorem dL_load_18 : decode cL_load 18 = .ok (.ireturn, 1) := by decide +kernel
theorem dL_load_19 : decode cL_load 19 = .ok (.astore 5, 2) := by decide +kernel
theorem dL_load_21 : decode cL_load 21 = .ok (.iconst 2, 1) := by decide +kernel
theorem dL_load_22 : decode cL_load 22 = .ok (.ireturn, 1) := by decide +kernel
theorem dL_load_23 : decode cL_load 23 = .ok (.astore 5, 2) := by decide +kernel
theorem dL_load_25 : decode cL_load 25 = .ok (.iconst 3, 1) := by decide +kernel
theorem dL_load_26 : decode cL_load 26 = .ok (.ireturn, 1) := by decide +kernel
theorem dL_load_27 : decode cL_load 27 = .ok (.iconst 0, 1) := by decide +kernel
theorem dL_load_28 : decode cL_load 28 = .ok (.ireturn, 1) := by decide +kernel
theorem dL_go_0 : decode cL_go 0 = .ok (.aload_n 2, 1) := by decide +kernel
theorem dL_go_1 : decode cL_go 1 = .ok (.iconst 0, 1) := by decide +kernel
theorem dL_go_2 : decode cL_go 2 = .ok (.aload_n 0, 1) := by decide +kernel
theorem dL_go_3 : decode cL_go 3 = .ok (.iload_n 1, 1) := by decide +kernel
theorem dL_go_4 : decode cL_go 4 = .ok (.invokevirtual 52, 3) := by decide +kernel
theorem dL_go_7 : decode cL_go 7 = .ok (.ifCond .eq 7, 3) := by decide +kernel
theorem dL_go_10 : decode cL_go 10 = .ok (.lconst 1, 1) := by decide +kernel
theorem dL_go_11 : decode cL_go 11 = .ok (.goto 4, 3) := by decide +kernel
theorem dL_go_14 : decode cL_go 14 = .ok (.lconst 0, 1) := by decide +kernel
theorem dL_go_15 : decode cL_go 15 = .ok (.lastore, 1) := by decide +kernel
theorem dL_go_16 : decode cL_go 16 = .ok (.goto 9, 3) := by decide +kernel
theorem dL_go_19 : decode cL_go 19 = .ok (.astore_n 3, 1) := by decide +kernel
theorem dL_go_20 : decode cL_go 20 = .ok (.iconst 1, 1) := by decide +kernel
theorem dL_go_21 : decode cL_go 21 = .ok (.ireturn, 1) := by decide +kernel
theorem dL_go_22 : decode cL_go 22 = .ok (.astore_n 3, 1) := by decide +kernel
theorem dL_go_23 : decode cL_go 23 = .ok (.iconst 2, 1) := by decide +kernel
theorem dL_go_24 : decode cL_go 24 = .ok (.ireturn, 1) := by decide +kernel
theorem dL_go_25 : decode cL_go 25 = .ok (.iconst 0, 1) := by decide +kernel
theorem dL_go_26 : decode cL_go 26 = .ok (.ireturn, 1) := by decide +kernel
theorem dL_turn_0 : decode cL_turn 0 = .ok (.aload_n 2, 1) := by decide +kernel
theorem dL_turn_1 : decode cL_turn 1 = .ok (.iconst 0, 1) := by decide +kernel
theorem dL_turn_2 : decode cL_turn 2 = .ok (.aload_n 0, 1) := by decide +kernel
theorem dL_turn_3 : decode cL_turn 3 = .ok (.iload_n 1, 1) := by decide +kernel
theorem dL_turn_4 : decode cL_turn 4 = .ok (.invokevirtual 56, 3) := by decide +kernel
theorem dL_turn_7 : decode cL_turn 7 = .ok (.ifCond .eq 7, 3) := by decide +kernel
theorem dL_turn_10 : decode cL_turn 10 = .ok (.lconst 1, 1) := by decide +kernel
theorem dL_turn_11 : decode cL_turn 11 = .ok (.goto 4, 3) := by decide +kernel
theorem dL_turn_14 : decode cL_turn 14 = .ok (.lconst 0, 1) := by decide +kernel
theorem dL_turn_15 : decode cL_turn 15 = .ok (.lastore, 1) := by decide +kernel
theorem dL_turn_16 : decode cL_turn 16 = .ok (.goto 9, 3) := by decide +kernel
theorem dL_turn_19 : decode cL_turn 19 = .ok (.astore_n 3, 1) := by decide +kernel
theorem dL_turn_20 : decode cL_turn 20 = .ok (.iconst 1, 1) := by decide +kernel
theorem dL_turn_21 : decode cL_turn 21 = .ok (.ireturn, 1) := by decide +kernel
theorem dL_turn_22 : decode cL_turn 22 = .ok (.astore_n 3, 1) := by decide +kernel
theorem dL_turn_23 : decode cL_turn 23 = .ok (.iconst 2, 1) := by decide +kernel
theorem dL_turn_24 : decode cL_turn 24 = .ok (.ireturn, 1) := by decide +kernel
theorem dL_turn_25 : decode cL_turn 25 = .ok (.iconst 0, 1) := by decide +kernel
theorem dL_turn_26 : decode cL_turn 26 = .ok (.ireturn, 1) := by decide +kernel
theorem dL_order_0 : decode cL_order 0 = .ok (.aload_n 3, 1) := by decide +kernel
theorem dL_order_1 : decode cL_order 1 = .ok (.iconst 0, 1) := by decide +kernel
theorem dL_order_2 : decode cL_order 2 = .ok (.aload_n 0, 1) := by decide +kernel
theorem dL_order_3 : decode cL_order 3 = .ok (.iload_n 1, 1) := by decide +kernel
theorem dL_order_4 : decode cL_order 4 = .ok (.iload_n 2, 1) := by decide +kernel
theorem dL_order_5 : decode cL_order 5 = .ok (.invokevirtual 59, 3) := by decide +kernel
theorem dL_order_8 : decode cL_order 8 = .ok (.i2l, 1) := by decide +kernel
theorem dL_order_9 : decode cL_order 9 = .ok (.lastore, 1) := by decide +kernel
theorem dL_order_10 : decode cL_order 10 = .ok (.goto 15, 3) := by decide +kernel
theorem dL_order_13 : decode cL_order 13 = .ok (.astore 4, 2) := by decide +kernel
theorem dL_order_15 : decode cL_order 15 = .ok (.iconst 1, 1) := by decide +kernel
theorem dL_order_16 : decode cL_order 16 = .ok (.ireturn, 1) := by decide +kernel
theorem dL_order_17 : decode cL_order 17 = .ok (.astore 4, 2) := by decide +kernel
theorem dL_order_19 : decode cL_order 19 = .ok (.iconst 2, 1) := by decide +kernel
theorem dL_order_20 : decode cL_order 20 = .ok (.ireturn, 1) := by decide +kernel
theorem dL_order_21 : decode cL_order 21 = .ok (.astore 4, 2) := by decide +kernel
theorem dL_order_23 : decode cL_order 23 = .ok (.iconst 3, 1) := by decide +kernel
theorem dL_order_24 : decode cL_order 24 = .ok (.ireturn, 1) := by decide +kernel
theorem dL_order_25 : decode cL_order 25 = .ok (.iconst 0, 1) := by decide +kernel
theorem dL_order_26 : decode cL_order 26 = .ok (.ireturn, 1) := by decide +kernel
theorem dL_pass_0 : decode cL_pass 0 = .ok (.aload_n 2, 1) := by decide +kernel
theorem dL_pass_1 : decode cL_pass 1 = .ok (.iconst 0, 1) := by decide +kernel
theorem dL_pass_2 : decode cL_pass 2 = .ok (.aload_n 0, 1) := by decide +kernel
theorem dL_pass_3 : decode cL_pass 3 = .ok (.iload_n 1, 1) := by decide +kernel
theorem dL_pass_4 : decode cL_pass 4 = .ok (.invokevirtual 62, 3) := by decide +kernel
theorem dL_pass_7 : decode cL_pass 7 = .ok (.i2l, 1) := by decide +kernel
theorem dL_pass_8 : decode cL_pass 8 = .ok (.lastore, 1) := by decide +kernel
theorem dL_pass_9 : decode cL_pass 9 = .ok (.goto 9, 3) := by decide +kernel
theorem dL_pass_12 : decode cL_pass 12 = .ok (.astore_n 3, 1) := by decide +kernel
theorem dL_pass_13 : decode cL_pass 13 = .ok (.iconst 1, 1) := by decide +kernel
theorem dL_pass_14 : decode cL_pass 14 = .ok (.ireturn, 1) := by decide +kernel
theorem dL_pass_15 : decode cL_pass 15 = .ok (.astore_n 3, 1) := by decide +kernel
theorem dL_pass_16 : decode cL_pass 16 = .ok (.iconst 2, 1) := by decide +kernel
theorem dL_pass_17 : decode cL_pass 17 = .ok (.ireturn, 1) := by decide +kernel
theorem dL_pass_18 : decode cL_pass 18 = .ok (.iconst 0, 1) := by decide +kernel
theorem dL_pass_19 : decode cL_pass 19 = .ok (.ireturn, 1) := by decide +kernel
theorem dL_told_0 : decode cL_told 0 = .ok (.aload_n 3, 1) := by decide +kernel
theorem dL_told_1 : decode cL_told 1 = .ok (.iconst 0, 1) := by decide +kernel
theorem dL_told_2 : decode cL_told 2 = .ok (.aload_n 0, 1) := by decide +kernel
theorem dL_told_3 : decode cL_told 3 = .ok (.iload_n 1, 1) := by decide +kernel
theorem dL_told_4 : decode cL_told 4 = .ok (.iload_n 2, 1) := by decide +kernel
theorem dL_told_5 : decode cL_told 5 = .ok (.invokevirtual 65, 3) := by decide +kernel
theorem dL_told_8 : decode cL_told 8 = .ok (.i2l, 1) := by decide +kernel
theorem dL_told_9 : decode cL_told 9 = .ok (.lastore, 1) := by decide +kernel
theorem dL_told_10 : decode cL_told 10 = .ok (.goto 11, 3) := by decide +kernel
theorem dL_told_13 : decode cL_told 13 = .ok (.astore 4, 2) := by decide +kernel
theorem dL_told_15 : decode cL_told 15 = .ok (.iconst 1, 1) := by decide +kernel
theorem dL_told_16 : decode cL_told 16 = .ok (.ireturn, 1) := by decide +kernel
theorem dL_told_17 : decode cL_told 17 = .ok (.astore 4, 2) := by decide +kernel
theorem dL_told_19 : decode cL_told 19 = .ok (.iconst 2, 1) := by decide +kernel
theorem dL_told_20 : decode cL_told 20 = .ok (.ireturn, 1) := by decide +kernel
theorem dL_told_21 : decode cL_told 21 = .ok (.iconst 0, 1) := by decide +kernel
theorem dL_told_22 : decode cL_told 22 = .ok (.ireturn, 1) := by decide +kernel
theorem dL_thickness_0 : decode cL_thickness 0 = .ok (.aload_n 3, 1) := by decide +kernel
theorem dL_thickness_1 : decode cL_thickness 1 = .ok (.iconst 0, 1) := by decide +kernel
theorem dL_thickness_2 : decode cL_thickness 2 = .ok (.aload_n 0, 1) := by decide +kernel
theorem dL_thickness_3 : decode cL_thickness 3 = .ok (.iload_n 1, 1) := by decide +kernel
theorem dL_thickness_4 : decode cL_thickness 4 = .ok (.iload_n 2, 1) := by decide +kernel
theorem dL_thickness_5 : decode cL_thickness 5 = .ok (.invokevirtual 68, 3) := by decide +kernel
theorem dL_thickness_8 : decode cL_thickness 8 = .ok (.dastore, 1) := by decide +kernel
theorem dL_thickness_9 : decode cL_thickness 9 = .ok (.goto 7, 3) := by decide +kernel
theorem dL_thickness_12 : decode cL_thickness 12 = .ok (.astore 4, 2) := by decide +kernel
theorem dL_thickness_14 : decode cL_thickness 14 = .ok (.iconst 1, 1) := by decide +kernel
theorem dL_thickness_15 : decode cL_thickness 15 = .ok (.ireturn, 1) := by decide +kernel
theorem dL_thickness_16 : decode cL_thickness 16 = .ok (.iconst 0, 1) := by decide +kernel
theorem dL_thickness_17 : decode cL_thickness 17 = .ok (.ireturn, 1) := by decide +kernel
theorem dL_bears_0 : decode cL_bears 0 = .ok (.aload_n 3, 1) := by decide +kernel
theorem dL_bears_1 : decode cL_bears 1 = .ok (.iconst 0, 1) := by decide +kernel
theorem dL_bears_2 : decode cL_bears 2 = .ok (.aload_n 0, 1) := by decide +kernel
theorem dL_bears_3 : decode cL_bears 3 = .ok (.iload_n 1, 1) := by decide +kernel
theorem dL_bears_4 : decode cL_bears 4 = .ok (.iload_n 2, 1) := by decide +kernel
theorem dL_bears_5 : decode cL_bears 5 = .ok (.invokevirtual 72, 3) := by decide +kernel
theorem dL_bears_8 : decode cL_bears 8 = .ok (.i2l, 1) := by decide +kernel
theorem dL_bears_9 : decode cL_bears 9 = .ok (.lastore, 1) := by decide +kernel
theorem dL_bears_10 : decode cL_bears 10 = .ok (.goto 7, 3) := by decide +kernel
theorem dL_bears_13 : decode cL_bears 13 = .ok (.astore 4, 2) := by decide +kernel
theorem dL_bears_15 : decode cL_bears 15 = .ok (.iconst 1, 1) := by decide +kernel
theorem dL_bears_16 : decode cL_bears 16 = .ok (.ireturn, 1) := by decide +kernel
theorem dL_bears_17 : decode cL_bears 17 = .ok (.iconst 0, 1) := by decide +kernel
theorem dL_bears_18 : decode cL_bears 18 = .ok (.ireturn, 1) := by decide +kernel
theorem dL_ofVehicle_0 : decode cL_ofVehicle 0 = .ok (.aload_n 3, 1) := by decide +kernel
theorem dL_ofVehicle_1 : decode cL_ofVehicle 1 = .ok (.iconst 0, 1) := by decide +kernel
theorem dL_ofVehicle_2 : decode cL_ofVehicle 2 = .ok (.aload_n 0, 1) := by decide +kernel
theorem dL_ofVehicle_3 : decode cL_ofVehicle 3 = .ok (.iload_n 1, 1) := by decide +kernel
theorem dL_ofVehicle_4 : decode cL_ofVehicle 4 = .ok (.iload_n 2, 1) := by decide +kernel
theorem dL_ofVehicle_5 : decode cL_ofVehicle 5 = .ok (.invokevirtual 76, 3) := by decide +kernel
theorem dL_ofVehicle_8 : decode cL_ofVehicle 8 = .ok (.i2l, 1) := by decide +kernel
theorem dL_ofVehicle_9 : decode cL_ofVehicle 9 = .ok (.lastore, 1) := by decide +kernel
theorem dL_ofVehicle_10 : decode cL_ofVehicle 10 = .ok (.goto 11, 3) := by decide +kernel
theorem dL_ofVehicle_13 : decode cL_ofVehicle 13 = .ok (.astore 4, 2) := by decide +kernel
theorem dL_ofVehicle_15 : decode cL_ofVehicle 15 = .ok (.iconst 1, 1) := by decide +kernel
theorem dL_ofVehicle_16 : decode cL_ofVehicle 16 = .ok (.ireturn, 1) := by decide +kernel
theorem dL_ofVehicle_17 : decode cL_ofVehicle 17 = .ok (.astore 4, 2) := by decide +kernel
theorem dL_ofVehicle_19 : decode cL_ofVehicle 19 = .ok (.iconst 2, 1) := by decide +kernel
theorem dL_ofVehicle_20 : decode cL_ofVehicle 20 = .ok (.ireturn, 1) := by decide +kernel
theorem dL_ofVehicle_21 : decode cL_ofVehicle 21 = .ok (.iconst 0, 1) := by decide +kernel
theorem dL_ofVehicle_22 : decode cL_ofVehicle 22 = .ok (.ireturn, 1) := by decide +kernel
theorem dL_why_0 : decode cL_why 0 = .ok (.aload_n 2, 1) := by decide +kernel
theorem dL_why_1 : decode cL_why 1 = .ok (.iconst 0, 1) := by decide +kernel
theorem dL_why_2 : decode cL_why 2 = .ok (.aload_n 0, 1) := by decide +kernel
theorem dL_why_3 : decode cL_why 3 = .ok (.iload_n 1, 1) := by decide +kernel
theorem dL_why_4 : decode cL_why 4 = .ok (.invokevirtual 79, 3) := by decide +kernel
theorem dL_why_7 : decode cL_why 7 = .ok (.i2l, 1) := by decide +kernel
theorem dL_why_8 : decode cL_why 8 = .ok (.lastore, 1) := by decide +kernel
theorem dL_why_9 : decode cL_why 9 = .ok (.goto 6, 3) := by decide +kernel
theorem dL_why_12 : decode cL_why 12 = .ok (.astore_n 3, 1) := by decide +kernel
theorem dL_why_13 : decode cL_why 13 = .ok (.iconst 1, 1) := by decide +kernel
theorem dL_why_14 : decode cL_why 14 = .ok (.ireturn, 1) := by decide +kernel
theorem dL_why_15 : decode cL_why 15 = .ok (.iconst 0, 1) := by decide +kernel
theorem dL_why_16 : decode cL_why 16 = .ok (.ireturn, 1) := by decide +kernel
theorem dL_speed_0 : decode cL_speed 0 = .ok (.aload_n 3, 1) := by decide +kernel
theorem dL_speed_1 : decode cL_speed 1 = .ok (.iconst 0, 1) := by decide +kernel
theorem dL_speed_2 : decode cL_speed 2 = .ok (.aload_n 0, 1) := by decide +kernel
theorem dL_speed_3 : decode cL_speed 3 = .ok (.iload_n 1, 1) := by decide +kernel
theorem dL_speed_4 : decode cL_speed 4 = .ok (.iload_n 2, 1) := by decide +kernel
theorem dL_speed_5 : decode cL_speed 5 = .ok (.invokevirtual 82, 3) := by decide +kernel
theorem dL_speed_8 : decode cL_speed 8 = .ok (.i2l, 1) := by decide +kernel
theorem dL_speed_9 : decode cL_speed 9 = .ok (.lastore, 1) := by decide +kernel
theorem dL_speed_10 : decode cL_speed 10 = .ok (.goto 7, 3) := by decide +kernel
theorem dL_speed_13 : decode cL_speed 13 = .ok (.astore 4, 2) := by decide +kernel
theorem dL_speed_15 : decode cL_speed 15 = .ok (.iconst 1, 1) := by decide +kernel
theorem dL_speed_16 : decode cL_speed 16 = .ok (.ireturn, 1) := by decide +kernel
theorem dL_speed_17 : decode cL_speed 17 = .ok (.iconst 0, 1) := by decide +kernel
theorem dL_speed_18 : decode cL_speed 18 = .ok (.ireturn, 1) := by decide +kernel
theorem dL_minutes_0 : decode cL_minutes 0 = .ok (.aload_n 3, 1) := by decide +kernel
theorem dL_minutes_1 : decode cL_minutes 1 = .ok (.iconst 0, 1) := by decide +kernel
theorem dL_minutes_2 : decode cL_minutes 2 = .ok (.aload_n 0, 1) := by decide +kernel
theorem dL_minutes_3 : decode cL_minutes 3 = .ok (.iload_n 1, 1) := by decide +kernel
theorem dL_minutes_4 : decode cL_minutes 4 = .ok (.iload_n 2, 1) := by decide +kernel
theorem dL_minutes_5 : decode cL_minutes 5 = .ok (.invokevirtual 85, 3) := by decide +kernel
theorem dL_minutes_8 : decode cL_minutes 8 = .ok (.i2l, 1) := by decide +kernel
theorem dL_minutes_9 : decode cL_minutes 9 = .ok (.lastore, 1) := by decide +kernel
theorem dL_minutes_10 : decode cL_minutes 10 = .ok (.goto 7, 3) := by decide +kernel
theorem dL_minutes_13 : decode cL_minutes 13 = .ok (.astore 4, 2) := by decide +kernel
theorem dL_minutes_15 : decode cL_minutes 15 = .ok (.iconst 1, 1) := by decide +kernel
theorem dL_minutes_16 : decode cL_minutes 16 = .ok (.ireturn, 1) := by decide +kernel
theorem dL_minutes_17 : decode cL_minutes 17 = .ok (.iconst 0, 1) := by decide +kernel
theorem dL_minutes_18 : decode cL_minutes 18 = .ok (.ireturn, 1) := by decide +kernel
theorem dL_minutesAnew_0 : decode cL_minutesAnew 0 = .ok (.aload_n 3, 1) := by decide +kernel
theorem dL_minutesAnew_1 : decode cL_minutesAnew 1 = .ok (.iconst 0, 1) := by decide +kernel
theorem dL_minutesAnew_2 : decode cL_minutesAnew 2 = .ok (.aload_n 0, 1) := by decide +kernel
theorem dL_minutesAnew_3 : decode cL_minutesAnew 3 = .ok (.iload_n 1, 1) := by decide +kernel
theorem dL_minutesAnew_4 : decode cL_minutesAnew 4 = .ok (.iload_n 2, 1) := by decide +kernel
theorem dL_minutesAnew_5 : decode cL_minutesAnew 5 = .ok (.invokevirtual 88, 3) := by decide +kernel
theorem dL_minutesAnew_8 : decode cL_minutesAnew 8 = .ok (.i2l, 1) := by decide +kernel
theorem dL_minutesAnew_9 : decode cL_minutesAnew 9 = .ok (.lastore, 1) := by decide +kernel
theorem dL_minutesAnew_10 : decode cL_minutesAnew 10 = .ok (.goto 7, 3) := by decide +kernel
theorem dL_minutesAnew_13 : decode cL_minutesAnew 13 = .ok (.astore 4, 2) := by decide +kernel
theorem dL_minutesAnew_15 : decode cL_minutesAnew 15 = .ok (.iconst 1, 1) := by decide +kernel
theorem dL_minutesAnew_16 : decode cL_minutesAnew 16 = .ok (.ireturn, 1) := by decide +kernel
theorem dL_minutesAnew_17 : decode cL_minutesAnew 17 = .ok (.iconst 0, 1) := by decide +kernel
theorem dL_minutesAnew_18 : decode cL_minutesAnew 18 = .ok (.ireturn, 1) := by decide +kernel
theorem dL_kilos_0 : decode cL_kilos 0 = .ok (.aload_n 3, 1) := by decide +kernel
theorem dL_kilos_1 : decode cL_kilos 1 = .ok (.iconst 0, 1) := by decide +kernel
theorem dL_kilos_2 : decode cL_kilos 2 = .ok (.aload_n 0, 1) := by decide +kernel
theorem dL_kilos_3 : decode cL_kilos 3 = .ok (.iload_n 1, 1) := by decide +kernel
theorem dL_kilos_4 : decode cL_kilos 4 = .ok (.iload_n 2, 1) := by decide +kernel
theorem dL_kilos_5 : decode cL_kilos 5 = .ok (.invokevirtual 91, 3) := by decide +kernel
theorem dL_kilos_8 : decode cL_kilos 8 = .ok (.i2l, 1) := by decide +kernel
theorem dL_kilos_9 : decode cL_kilos 9 = .ok (.lastore, 1) := by decide +kernel
theorem dL_kilos_10 : decode cL_kilos 10 = .ok (.goto 11, 3) := by decide +kernel
theorem dL_kilos_13 : decode cL_kilos 13 = .ok (.astore 4, 2) := by decide +kernel
theorem dL_kilos_15 : decode cL_kilos 15 = .ok (.iconst 1, 1) := by decide +kernel
theorem dL_kilos_16 : decode cL_kilos 16 = .ok (.ireturn, 1) := by decide +kernel
theorem dL_kilos_17 : decode cL_kilos 17 = .ok (.astore 4, 2) := by decide +kernel
theorem dL_kilos_19 : decode cL_kilos 19 = .ok (.iconst 2, 1) := by decide +kernel
theorem dL_kilos_20 : decode cL_kilos 20 = .ok (.ireturn, 1) := by decide +kernel
theorem dL_kilos_21 : decode cL_kilos 21 = .ok (.iconst 0, 1) := by decide +kernel
theorem dL_kilos_22 : decode cL_kilos 22 = .ok (.ireturn, 1) := by decide +kernel
theorem dL_kilosAnew_0 : decode cL_kilosAnew 0 = .ok (.aload_n 2, 1) := by decide +kernel
theorem dL_kilosAnew_1 : decode cL_kilosAnew 1 = .ok (.iconst 0, 1) := by decide +kernel
theorem dL_kilosAnew_2 : decode cL_kilosAnew 2 = .ok (.aload_n 0, 1) := by decide +kernel
theorem dL_kilosAnew_3 : decode cL_kilosAnew 3 = .ok (.iload_n 1, 1) := by decide +kernel
theorem dL_kilosAnew_4 : decode cL_kilosAnew 4 = .ok (.invokevirtual 94, 3) := by decide +kernel
theorem dL_kilosAnew_7 : decode cL_kilosAnew 7 = .ok (.i2l, 1) := by decide +kernel
theorem dL_kilosAnew_8 : decode cL_kilosAnew 8 = .ok (.lastore, 1) := by decide +kernel
theorem dL_kilosAnew_9 : decode cL_kilosAnew 9 = .ok (.goto 6, 3) := by decide +kernel
theorem dL_kilosAnew_12 : decode cL_kilosAnew 12 = .ok (.astore_n 3, 1) := by decide +kernel
theorem dL_kilosAnew_13 : decode cL_kilosAnew 13 = .ok (.iconst 1, 1) := by decide +kernel
theorem dL_kilosAnew_14 : decode cL_kilosAnew 14 = .ok (.ireturn, 1) := by decide +kernel
theorem dL_kilosAnew_15 : decode cL_kilosAnew 15 = .ok (.iconst 0, 1) := by decide +kernel
theorem dL_kilosAnew_16 : decode cL_kilosAnew 16 = .ok (.ireturn, 1) := by decide +kernel
