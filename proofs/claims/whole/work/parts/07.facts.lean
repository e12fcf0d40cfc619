theorem F_0_0 : Fld 0 0 RX0 TX0 8 fs0 none := ⟨rfl, by decide, rfl, rfl, cw0⟩
theorem P_0_0 : Fpt 0 TX0 8 .int := ⟨⟨tyX0, tyX0_ok⟩, nmX0, rfl, by decide +kernel⟩
theorem F_0_1 : Fld 0 1 RX0 TX0 8 fs0 none := ⟨rfl, by decide, rfl, rfl, cw0⟩
theorem P_0_1 : Fpt 1 TX0 8 .int := ⟨⟨tyX0, tyX0_ok⟩, nmX0, rfl, by decide +kernel⟩
theorem F_0_2 : Fld 0 2 RX0 TX0 8 fs0 (some 1) := ⟨rfl, by decide, rfl, rfl, cw0⟩
theorem F_0_3 : Fld 0 3 RX0 TX0 8 fs0 (some 2) := ⟨rfl, by decide, rfl, rfl, cw0⟩
theorem F_0_4 : Fld 0 4 RX0 TX0 8 fs0 (some 3) := ⟨rfl, by decide, rfl, rfl, cw0⟩
theorem F_0_5 : Fld 0 5 RX0 TX0 8 fs0 (some 4) := ⟨rfl, by decide, rfl, rfl, cw0⟩
theorem F_0_6 : Fld 0 6 RX0 TX0 8 fs0 (some 5) := ⟨rfl, by decide, rfl, rfl, cw0⟩
theorem F_0_7 : Fld 0 7 RX0 TX0 8 fs0 (some 6) := ⟨rfl, by decide, rfl, rfl, cw0⟩
theorem F_1_0 : Fld 1 0 RX1 TX1 4 fs1 none := ⟨rfl, by decide, rfl, rfl, cw1⟩
theorem P_1_0 : Fpt 0 TX1 4 .int := ⟨⟨tyX1, tyX1_ok⟩, nmX1, rfl, by decide +kernel⟩
theorem F_1_1 : Fld 1 1 RX1 TX1 4 fs1 (some 1) := ⟨rfl, by decide, rfl, rfl, cw1⟩
theorem F_1_2 : Fld 1 2 RX1 TX1 4 fs1 (some 2) := ⟨rfl, by decide, rfl, rfl, cw1⟩
theorem F_1_3 : Fld 1 3 RX1 TX1 4 fs1 (some 3) := ⟨rfl, by decide, rfl, rfl, cw1⟩
theorem F_2_0 : Fld 2 0 RX2 TX2 10 fs2 none := ⟨rfl, by decide, rfl, rfl, cw2⟩
theorem P_2_0 : Fpt 0 TX2 10 .int := ⟨⟨tyX2, tyX2_ok⟩, nmX2, rfl, by decide +kernel⟩
theorem F_2_1 : Fld 2 1 RX2 TX2 10 fs2 none := ⟨rfl, by decide, rfl, rfl, cw2⟩
theorem P_2_1 : Fpt 1 TX2 10 .int := ⟨⟨tyX2, tyX2_ok⟩, nmX2, rfl, by decide +kernel⟩
theorem F_2_2 : Fld 2 2 RX2 TX2 10 fs2 none := ⟨rfl, by decide, rfl, rfl, cw2⟩
theorem P_2_2 : Fpt 2 TX2 10 .int := ⟨⟨tyX2, tyX2_ok⟩, nmX2, rfl, by decide +kernel⟩
theorem F_2_3 : Fld 2 3 RX2 TX2 10 fs2 none := ⟨rfl, by decide, rfl, rfl, cw2⟩
theorem P_2_3 : Fpt 3 TX2 10 .int := ⟨⟨tyX2, tyX2_ok⟩, nmX2, rfl, by decide +kernel⟩
theorem F_2_4 : Fld 2 4 RX2 TX2 10 fs2 none := ⟨rfl, by decide, rfl, rfl, cw2⟩
theorem P_2_4 : Fpt 4 TX2 10 .int := ⟨⟨tyX2, tyX2_ok⟩, nmX2, rfl, by decide +kernel⟩
theorem F_2_5 : Fld 2 5 RX2 TX2 10 fs2 none := ⟨rfl, by decide, rfl, rfl, cw2⟩
theorem P_2_5 : Fpt 5 TX2 10 .int := ⟨⟨tyX2, tyX2_ok⟩, nmX2, rfl, by decide +kernel⟩
theorem F_2_6 : Fld 2 6 RX2 TX2 10 fs2 (some 1) := ⟨rfl, by decide, rfl, rfl, cw2⟩
theorem F_2_7 : Fld 2 7 RX2 TX2 10 fs2 (some 2) := ⟨rfl, by decide, rfl, rfl, cw2⟩
theorem F_2_8 : Fld 2 8 RX2 TX2 10 fs2 (some 3) := ⟨rfl, by decide, rfl, rfl, cw2⟩
theorem F_2_9 : Fld 2 9 RX2 TX2 10 fs2 (some 4) := ⟨rfl, by decide, rfl, rfl, cw2⟩
theorem F_3_0 : Fld 3 0 RX3 TX3 16 fs3 none := ⟨rfl, by decide, rfl, rfl, cw3⟩
theorem P_3_0 : Fpt 0 TX3 16 .boolean := ⟨⟨tyX3, tyX3_ok⟩, nmX3, rfl, by decide +kernel⟩
theorem F_3_1 : Fld 3 1 RX3 TX3 16 fs3 none := ⟨rfl, by decide, rfl, rfl, cw3⟩
theorem P_3_1 : Fpt 1 TX3 16 .int := ⟨⟨tyX3, tyX3_ok⟩, nmX3, rfl, by decide +kernel⟩
theorem F_3_2 : Fld 3 2 RX3 TX3 16 fs3 none := ⟨rfl, by decide, rfl, rfl, cw3⟩
theorem P_3_2 : Fpt 2 TX3 16 .int := ⟨⟨tyX3, tyX3_ok⟩, nmX3, rfl, by decide +kernel⟩
theorem F_3_3 : Fld 3 3 RX3 TX3 16 fs3 none := ⟨rfl, by decide, rfl, rfl, cw3⟩
theorem P_3_3 : Fpt 3 TX3 16 .int := ⟨⟨tyX3, tyX3_ok⟩, nmX3, rfl, by decide +kernel⟩
theorem F_3_4 : Fld 3 4 RX3 TX3 16 fs3 (some 1) := ⟨rfl, by decide, rfl, rfl, cw3⟩
theorem F_3_5 : Fld 3 5 RX3 TX3 16 fs3 (some 2) := ⟨rfl, by decide, rfl, rfl, cw3⟩
theorem F_3_6 : Fld 3 6 RX3 TX3 16 fs3 (some 3) := ⟨rfl, by decide, rfl, rfl, cw3⟩
theorem F_3_7 : Fld 3 7 RX3 TX3 16 fs3 (some 4) := ⟨rfl, by decide, rfl, rfl, cw3⟩
theorem F_3_8 : Fld 3 8 RX3 TX3 16 fs3 (some 5) := ⟨rfl, by decide, rfl, rfl, cw3⟩
theorem F_3_9 : Fld 3 9 RX3 TX3 16 fs3 (some 6) := ⟨rfl, by decide, rfl, rfl, cw3⟩
theorem F_3_10 : Fld 3 10 RX3 TX3 16 fs3 (some 7) := ⟨rfl, by decide, rfl, rfl, cw3⟩
theorem F_3_11 : Fld 3 11 RX3 TX3 16 fs3 (some 8) := ⟨rfl, by decide, rfl, rfl, cw3⟩
theorem F_3_12 : Fld 3 12 RX3 TX3 16 fs3 (some 9) := ⟨rfl, by decide, rfl, rfl, cw3⟩
theorem F_3_13 : Fld 3 13 RX3 TX3 16 fs3 (some 10) := ⟨rfl, by decide, rfl, rfl, cw3⟩
theorem F_3_14 : Fld 3 14 RX3 TX3 16 fs3 (some 11) := ⟨rfl, by decide, rfl, rfl, cw3⟩
theorem F_3_15 : Fld 3 15 RX3 TX3 16 fs3 (some 16) := ⟨rfl, by decide, rfl, rfl, cw3⟩
theorem F_4_0 : Fld 4 0 RX4 TX4 4 fs4 none := ⟨rfl, by decide, rfl, rfl, cw4⟩
theorem F_4_1 : Fld 4 1 RX4 TX4 4 fs4 none := ⟨rfl, by decide, rfl, rfl, cw4⟩
theorem P_4_1 : Fpt 1 TX4 4 .int := ⟨⟨tyX4, tyX4_ok⟩, nmX4, rfl, by decide +kernel⟩
theorem F_4_2 : Fld 4 2 RX4 TX4 4 fs4 (some 1) := ⟨rfl, by decide, rfl, rfl, cw4⟩
theorem F_4_3 : Fld 4 3 RX4 TX4 4 fs4 (some 2) := ⟨rfl, by decide, rfl, rfl, cw4⟩
theorem F_5_0 : Fld 5 0 RX5 TX5 9 fs5 none := ⟨rfl, by decide, rfl, rfl, cw5⟩
theorem P_5_0 : Fpt 0 TX5 9 .int := ⟨⟨tyX5, tyX5_ok⟩, nmX5, rfl, by decide +kernel⟩
theorem F_5_1 : Fld 5 1 RX5 TX5 9 fs5 none := ⟨rfl, by decide, rfl, rfl, cw5⟩
theorem P_5_1 : Fpt 1 TX5 9 .int := ⟨⟨tyX5, tyX5_ok⟩, nmX5, rfl, by decide +kernel⟩
theorem F_5_2 : Fld 5 2 RX5 TX5 9 fs5 (some 1) := ⟨rfl, by decide, rfl, rfl, cw5⟩
theorem F_5_3 : Fld 5 3 RX5 TX5 9 fs5 none := ⟨rfl, by decide, rfl, rfl, cw5⟩
theorem P_5_3 : Fpt 3 TX5 9 .int := ⟨⟨tyX5, tyX5_ok⟩, nmX5, rfl, by decide +kernel⟩
theorem F_5_4 : Fld 5 4 RX5 TX5 9 fs5 (some 2) := ⟨rfl, by decide, rfl, rfl, cw5⟩
theorem F_5_5 : Fld 5 5 RX5 TX5 9 fs5 (some 3) := ⟨rfl, by decide, rfl, rfl, cw5⟩
theorem F_5_6 : Fld 5 6 RX5 TX5 9 fs5 (some 4) := ⟨rfl, by decide, rfl, rfl, cw5⟩
theorem F_5_7 : Fld 5 7 RX5 TX5 9 fs5 (some 5) := ⟨rfl, by decide, rfl, rfl, cw5⟩
theorem F_5_8 : Fld 5 8 RX5 TX5 9 fs5 (some 6) := ⟨rfl, by decide, rfl, rfl, cw5⟩
theorem F_6_0 : Fld 6 0 RX6 TX6 5 fs6 (some 1) := ⟨rfl, by decide, rfl, rfl, cw6⟩
theorem F_6_1 : Fld 6 1 RX6 TX6 5 fs6 (some 8) := ⟨rfl, by decide, rfl, rfl, cw6⟩
theorem F_6_2 : Fld 6 2 RX6 TX6 5 fs6 (some 28) := ⟨rfl, by decide, rfl, rfl, cw6⟩
theorem F_6_3 : Fld 6 3 RX6 TX6 5 fs6 (some 31) := ⟨rfl, by decide, rfl, rfl, cw6⟩
theorem F_6_4 : Fld 6 4 RX6 TX6 5 fs6 (some 34) := ⟨rfl, by decide, rfl, rfl, cw6⟩
theorem F_7_0 : Fld 7 0 RX7 TX7 3 fs7 none := ⟨rfl, by decide, rfl, rfl, cw7⟩
theorem P_7_0 : Fpt 0 TX7 3 .int := ⟨⟨tyX7, tyX7_ok⟩, nmX7, rfl, by decide +kernel⟩
theorem F_7_1 : Fld 7 1 RX7 TX7 3 fs7 none := ⟨rfl, by decide, rfl, rfl, cw7⟩
theorem P_7_1 : Fpt 1 TX7 3 .int := ⟨⟨tyX7, tyX7_ok⟩, nmX7, rfl, by decide +kernel⟩
theorem F_7_2 : Fld 7 2 RX7 TX7 3 fs7 (some 1) := ⟨rfl, by decide, rfl, rfl, cw7⟩
theorem F_8_0 : Fld 8 0 RX8 TX8 7 fs8 (some 14) := ⟨rfl, by decide, rfl, rfl, cw8⟩
theorem F_8_1 : Fld 8 1 RX8 TX8 7 fs8 (some 51) := ⟨rfl, by decide, rfl, rfl, cw8⟩
theorem F_8_2 : Fld 8 2 RX8 TX8 7 fs8 none := ⟨rfl, by decide, rfl, rfl, cw8⟩
theorem P_8_2 : Fpt 2 TX8 7 .boolean := ⟨⟨tyX8, tyX8_ok⟩, nmX8, rfl, by decide +kernel⟩
theorem F_8_3 : Fld 8 3 RX8 TX8 7 fs8 (some 88) := ⟨rfl, by decide, rfl, rfl, cw8⟩
theorem F_8_4 : Fld 8 4 RX8 TX8 7 fs8 (some 1) := ⟨rfl, by decide, rfl, rfl, cw8⟩
theorem F_8_5 : Fld 8 5 RX8 TX8 7 fs8 (some 95) := ⟨rfl, by decide, rfl, rfl, cw8⟩
theorem F_8_6 : Fld 8 6 RX8 TX8 7 fs8 (some 102) := ⟨rfl, by decide, rfl, rfl, cw8⟩
theorem F_9_0 : Fld 9 0 RX9 TX9 51 fs9 none := ⟨rfl, by decide, rfl, rfl, cw9⟩
theorem P_9_0 : Fpt 0 TX9 51 .int := ⟨⟨tyX9, tyX9_ok⟩, nmX9, rfl, by decide +kernel⟩
theorem F_9_1 : Fld 9 1 RX9 TX9 51 fs9 none := ⟨rfl, by decide, rfl, rfl, cw9⟩
theorem P_9_1 : Fpt 1 TX9 51 .int := ⟨⟨tyX9, tyX9_ok⟩, nmX9, rfl, by decide +kernel⟩
theorem F_9_2 : Fld 9 2 RX9 TX9 51 fs9 (some 1) := ⟨rfl, by decide, rfl, rfl, cw9⟩
theorem F_9_3 : Fld 9 3 RX9 TX9 51 fs9 (some 2) := ⟨rfl, by decide, rfl, rfl, cw9⟩
theorem F_9_4 : Fld 9 4 RX9 TX9 51 fs9 (some 3) := ⟨rfl, by decide, rfl, rfl, cw9⟩
theorem F_9_5 : Fld 9 5 RX9 TX9 51 fs9 (some 4) := ⟨rfl, by decide, rfl, rfl, cw9⟩
theorem F_9_6 : Fld 9 6 RX9 TX9 51 fs9 none := ⟨rfl, by decide, rfl, rfl, cw9⟩
theorem P_9_6 : Fpt 6 TX9 51 .int := ⟨⟨tyX9, tyX9_ok⟩, nmX9, rfl, by decide +kernel⟩
theorem F_9_7 : Fld 9 7 RX9 TX9 51 fs9 none := ⟨rfl, by decide, rfl, rfl, cw9⟩
theorem P_9_7 : Fpt 7 TX9 51 .int := ⟨⟨tyX9, tyX9_ok⟩, nmX9, rfl, by decide +kernel⟩
theorem F_9_8 : Fld 9 8 RX9 TX9 51 fs9 none := ⟨rfl, by decide, rfl, rfl, cw9⟩
theorem P_9_8 : Fpt 8 TX9 51 .int := ⟨⟨tyX9, tyX9_ok⟩, nmX9, rfl, by decide +kernel⟩
theorem F_9_9 : Fld 9 9 RX9 TX9 51 fs9 none := ⟨rfl, by decide, rfl, rfl, cw9⟩
theorem P_9_9 : Fpt 9 TX9 51 .int := ⟨⟨tyX9, tyX9_ok⟩, nmX9, rfl, by decide +kernel⟩
theorem F_9_10 : Fld 9 10 RX9 TX9 51 fs9 (some 5) := ⟨rfl, by decide, rfl, rfl, cw9⟩
theorem F_9_11 : Fld 9 11 RX9 TX9 51 fs9 (some 6) := ⟨rfl, by decide, rfl, rfl, cw9⟩
theorem F_9_12 : Fld 9 12 RX9 TX9 51 fs9 (some 7) := ⟨rfl, by decide, rfl, rfl, cw9⟩
theorem F_9_13 : Fld 9 13 RX9 TX9 51 fs9 (some 8) := ⟨rfl, by decide, rfl, rfl, cw9⟩
theorem F_9_14 : Fld 9 14 RX9 TX9 51 fs9 (some 9) := ⟨rfl, by decide, rfl, rfl, cw9⟩
theorem F_9_15 : Fld 9 15 RX9 TX9 51 fs9 (some 10) := ⟨rfl, by decide, rfl, rfl, cw9⟩
theorem F_9_16 : Fld 9 16 RX9 TX9 51 fs9 (some 11) := ⟨rfl, by decide, rfl, rfl, cw9⟩
theorem F_9_17 : Fld 9 17 RX9 TX9 51 fs9 (some 12) := ⟨rfl, by decide, rfl, rfl, cw9⟩
theorem F_9_18 : Fld 9 18 RX9 TX9 51 fs9 (some 13) := ⟨rfl, by decide, rfl, rfl, cw9⟩
theorem F_9_19 : Fld 9 19 RX9 TX9 51 fs9 (some 14) := ⟨rfl, by decide, rfl, rfl, cw9⟩
theorem F_9_20 : Fld 9 20 RX9 TX9 51 fs9 none := ⟨rfl, by decide, rfl, rfl, cw9⟩
theorem P_9_20 : Fpt 20 TX9 51 .int := ⟨⟨tyX9, tyX9_ok⟩, nmX9, rfl, by decide +kernel⟩
theorem F_9_21 : Fld 9 21 RX9 TX9 51 fs9 none := ⟨rfl, by decide, rfl, rfl, cw9⟩
theorem P_9_21 : Fpt 21 TX9 51 .int := ⟨⟨tyX9, tyX9_ok⟩, nmX9, rfl, by decide +kernel⟩
theorem F_9_22 : Fld 9 22 RX9 TX9 51 fs9 none := ⟨rfl, by decide, rfl, rfl, cw9⟩
theorem P_9_22 : Fpt 22 TX9 51 .int := ⟨⟨tyX9, tyX9_ok⟩, nmX9, rfl, by decide +kernel⟩
theorem F_9_23 : Fld 9 23 RX9 TX9 51 fs9 (some 15) := ⟨rfl, by decide, rfl, rfl, cw9⟩
theorem F_9_24 : Fld 9 24 RX9 TX9 51 fs9 none := ⟨rfl, by decide, rfl, rfl, cw9⟩
theorem P_9_24 : Fpt 24 TX9 51 .int := ⟨⟨tyX9, tyX9_ok⟩, nmX9, rfl, by decide +kernel⟩
theorem F_9_25 : Fld 9 25 RX9 TX9 51 fs9 (some 16) := ⟨rfl, by decide, rfl, rfl, cw9⟩
theorem F_9_26 : Fld 9 26 RX9 TX9 51 fs9 none := ⟨rfl, by decide, rfl, rfl, cw9⟩
theorem P_9_26 : Fpt 26 TX9 51 .boolean := ⟨⟨tyX9, tyX9_ok⟩, nmX9, rfl, by decide +kernel⟩
theorem F_9_27 : Fld 9 27 RX9 TX9 51 fs9 none := ⟨rfl, by decide, rfl, rfl, cw9⟩
theorem P_9_27 : Fpt 27 TX9 51 .int := ⟨⟨tyX9, tyX9_ok⟩, nmX9, rfl, by decide +kernel⟩
theorem F_9_28 : Fld 9 28 RX9 TX9 51 fs9 none := ⟨rfl, by decide, rfl, rfl, cw9⟩
theorem P_9_28 : Fpt 28 TX9 51 .boolean := ⟨⟨tyX9, tyX9_ok⟩, nmX9, rfl, by decide +kernel⟩
theorem F_9_29 : Fld 9 29 RX9 TX9 51 fs9 (some 17) := ⟨rfl, by decide, rfl, rfl, cw9⟩
theorem F_9_30 : Fld 9 30 RX9 TX9 51 fs9 none := ⟨rfl, by decide, rfl, rfl, cw9⟩
theorem P_9_30 : Fpt 30 TX9 51 .int := ⟨⟨tyX9, tyX9_ok⟩, nmX9, rfl, by decide +kernel⟩
theorem F_9_31 : Fld 9 31 RX9 TX9 51 fs9 none := ⟨rfl, by decide, rfl, rfl, cw9⟩
theorem P_9_31 : Fpt 31 TX9 51 .int := ⟨⟨tyX9, tyX9_ok⟩, nmX9, rfl, by decide +kernel⟩
theorem F_9_32 : Fld 9 32 RX9 TX9 51 fs9 none := ⟨rfl, by decide, rfl, rfl, cw9⟩
theorem P_9_32 : Fpt 32 TX9 51 .boolean := ⟨⟨tyX9, tyX9_ok⟩, nmX9, rfl, by decide +kernel⟩
theorem F_9_33 : Fld 9 33 RX9 TX9 51 fs9 none := ⟨rfl, by decide, rfl, rfl, cw9⟩
theorem P_9_33 : Fpt 33 TX9 51 .int := ⟨⟨tyX9, tyX9_ok⟩, nmX9, rfl, by decide +kernel⟩
theorem F_9_34 : Fld 9 34 RX9 TX9 51 fs9 none := ⟨rfl, by decide, rfl, rfl, cw9⟩
theorem P_9_34 : Fpt 34 TX9 51 .int := ⟨⟨tyX9, tyX9_ok⟩, nmX9, rfl, by decide +kernel⟩
theorem F_9_35 : Fld 9 35 RX9 TX9 51 fs9 (some 18) := ⟨rfl, by decide, rfl, rfl, cw9⟩
theorem F_9_36 : Fld 9 36 RX9 TX9 51 fs9 (some 19) := ⟨rfl, by decide, rfl, rfl, cw9⟩
theorem F_9_37 : Fld 9 37 RX9 TX9 51 fs9 (some 20) := ⟨rfl, by decide, rfl, rfl, cw9⟩
theorem F_9_38 : Fld 9 38 RX9 TX9 51 fs9 (some 21) := ⟨rfl, by decide, rfl, rfl, cw9⟩
theorem F_9_39 : Fld 9 39 RX9 TX9 51 fs9 (some 22) := ⟨rfl, by decide, rfl, rfl, cw9⟩
theorem F_9_40 : Fld 9 40 RX9 TX9 51 fs9 (some 23) := ⟨rfl, by decide, rfl, rfl, cw9⟩
theorem F_9_41 : Fld 9 41 RX9 TX9 51 fs9 none := ⟨rfl, by decide, rfl, rfl, cw9⟩
theorem P_9_41 : Fpt 41 TX9 51 .int := ⟨⟨tyX9, tyX9_ok⟩, nmX9, rfl, by decide +kernel⟩
theorem F_9_42 : Fld 9 42 RX9 TX9 51 fs9 none := ⟨rfl, by decide, rfl, rfl, cw9⟩
theorem P_9_42 : Fpt 42 TX9 51 .int := ⟨⟨tyX9, tyX9_ok⟩, nmX9, rfl, by decide +kernel⟩
theorem F_9_43 : Fld 9 43 RX9 TX9 51 fs9 (some 24) := ⟨rfl, by decide, rfl, rfl, cw9⟩
theorem F_9_44 : Fld 9 44 RX9 TX9 51 fs9 (some 25) := ⟨rfl, by decide, rfl, rfl, cw9⟩
theorem F_9_45 : Fld 9 45 RX9 TX9 51 fs9 (some 26) := ⟨rfl, by decide, rfl, rfl, cw9⟩
theorem F_9_46 : Fld 9 46 RX9 TX9 51 fs9 (some 27) := ⟨rfl, by decide, rfl, rfl, cw9⟩
theorem F_9_47 : Fld 9 47 RX9 TX9 51 fs9 (some 28) := ⟨rfl, by decide, rfl, rfl, cw9⟩
theorem F_9_48 : Fld 9 48 RX9 TX9 51 fs9 (some 35) := ⟨rfl, by decide, rfl, rfl, cw9⟩
theorem F_9_49 : Fld 9 49 RX9 TX9 51 fs9 (some 36) := ⟨rfl, by decide, rfl, rfl, cw9⟩
theorem F_9_50 : Fld 9 50 RX9 TX9 51 fs9 (some 37) := ⟨rfl, by decide, rfl, rfl, cw9⟩
theorem sh_0 : shp[0]? = some (.inl (8, fs8)) := by decide +kernel
theorem sh_1 : shp[1]? = some (.inr (4, 6)) := by decide +kernel
theorem sh_2 : shp[2]? = some (.inl (7, fs7)) := by decide +kernel
theorem sh_3 : shp[3]? = some (.inr (3, 60)) := by decide +kernel
theorem sh_4 : shp[4]? = some (.inl (7, fs7)) := by decide +kernel
theorem sh_5 : shp[5]? = some (.inr (3, 60)) := by decide +kernel
theorem sh_6 : shp[6]? = some (.inl (7, fs7)) := by decide +kernel
theorem sh_7 : shp[7]? = some (.inr (3, 60)) := by decide +kernel
theorem sh_8 : shp[8]? = some (.inl (7, fs7)) := by decide +kernel
theorem sh_9 : shp[9]? = some (.inr (3, 60)) := by decide +kernel
theorem sh_10 : shp[10]? = some (.inl (7, fs7)) := by decide +kernel
theorem sh_11 : shp[11]? = some (.inr (3, 60)) := by decide +kernel
theorem sh_12 : shp[12]? = some (.inl (7, fs7)) := by decide +kernel
theorem sh_13 : shp[13]? = some (.inr (3, 60)) := by decide +kernel
theorem sh_14 : shp[14]? = some (.inl (6, fs6)) := by decide +kernel
theorem sh_15 : shp[15]? = some (.inl (0, fs0)) := by decide +kernel
theorem sh_16 : shp[16]? = some (.inr (0, 5)) := by decide +kernel
theorem sh_17 : shp[17]? = some (.inr (0, 5)) := by decide +kernel
theorem sh_18 : shp[18]? = some (.inr (0, 5)) := by decide +kernel
theorem sh_19 : shp[19]? = some (.inr (0, 5)) := by decide +kernel
theorem sh_20 : shp[20]? = some (.inr (0, 25)) := by decide +kernel
theorem sh_21 : shp[21]? = some (.inr (0, 25)) := by decide +kernel
theorem sh_22 : shp[22]? = some (.inl (3, fs3)) := by decide +kernel
theorem sh_23 : shp[23]? = some (.inr (0, 36)) := by decide +kernel
theorem sh_24 : shp[24]? = some (.inr (0, 36)) := by decide +kernel
theorem sh_25 : shp[25]? = some (.inr (1, 36)) := by decide +kernel
theorem sh_26 : shp[26]? = some (.inr (0, 6)) := by decide +kernel
theorem sh_27 : shp[27]? = some (.inr (0, 6)) := by decide +kernel
theorem sh_28 : shp[28]? = some (.inr (0, 100)) := by decide +kernel
theorem sh_29 : shp[29]? = some (.inr (0, 100)) := by decide +kernel
theorem sh_30 : shp[30]? = some (.inr (0, 100)) := by decide +kernel
theorem sh_31 : shp[31]? = some (.inr (1, 6)) := by decide +kernel
theorem sh_32 : shp[32]? = some (.inr (1, 6)) := by decide +kernel
theorem sh_33 : shp[33]? = some (.inl (2, fs2)) := by decide +kernel
theorem sh_34 : shp[34]? = some (.inr (1, 6)) := by decide +kernel
theorem sh_35 : shp[35]? = some (.inr (1, 6)) := by decide +kernel
theorem sh_36 : shp[36]? = some (.inr (0, 6)) := by decide +kernel
theorem sh_37 : shp[37]? = some (.inr (0, 6)) := by decide +kernel
theorem sh_38 : shp[38]? = some (.inl (1, fs1)) := by decide +kernel
theorem sh_39 : shp[39]? = some (.inr (0, 12)) := by decide +kernel
theorem sh_40 : shp[40]? = some (.inr (0, 6)) := by decide +kernel
theorem sh_41 : shp[41]? = some (.inr (0, 6)) := by decide +kernel
theorem sh_42 : shp[42]? = some (.inl (4, fs4)) := by decide +kernel
theorem sh_43 : shp[43]? = some (.inr (0, 8)) := by decide +kernel
theorem sh_44 : shp[44]? = some (.inr (0, 8)) := by decide +kernel
theorem sh_45 : shp[45]? = some (.inl (4, fs4)) := by decide +kernel
theorem sh_46 : shp[46]? = some (.inr (0, 8)) := by decide +kernel
theorem sh_47 : shp[47]? = some (.inr (0, 8)) := by decide +kernel
theorem sh_48 : shp[48]? = some (.inl (4, fs4)) := by decide +kernel
theorem sh_49 : shp[49]? = some (.inr (0, 8)) := by decide +kernel
theorem sh_50 : shp[50]? = some (.inr (0, 8)) := by decide +kernel
theorem sh_51 : shp[51]? = some (.inl (6, fs6)) := by decide +kernel
theorem sh_52 : shp[52]? = some (.inl (0, fs0)) := by decide +kernel
theorem sh_53 : shp[53]? = some (.inr (0, 5)) := by decide +kernel
theorem sh_54 : shp[54]? = some (.inr (0, 5)) := by decide +kernel
theorem sh_55 : shp[55]? = some (.inr (0, 5)) := by decide +kernel
theorem sh_56 : shp[56]? = some (.inr (0, 5)) := by decide +kernel
theorem sh_57 : shp[57]? = some (.inr (0, 25)) := by decide +kernel
theorem sh_58 : shp[58]? = some (.inr (0, 25)) := by decide +kernel
theorem sh_59 : shp[59]? = some (.inl (3, fs3)) := by decide +kernel
theorem sh_60 : shp[60]? = some (.inr (0, 36)) := by decide +kernel
theorem sh_61 : shp[61]? = some (.inr (0, 36)) := by decide +kernel
theorem sh_62 : shp[62]? = some (.inr (1, 36)) := by decide +kernel
theorem sh_63 : shp[63]? = some (.inr (0, 6)) := by decide +kernel
theorem sh_64 : shp[64]? = some (.inr (0, 6)) := by decide +kernel
theorem sh_65 : shp[65]? = some (.inr (0, 100)) := by decide +kernel
theorem sh_66 : shp[66]? = some (.inr (0, 100)) := by decide +kernel
theorem sh_67 : shp[67]? = some (.inr (0, 100)) := by decide +kernel
theorem sh_68 : shp[68]? = some (.inr (1, 6)) := by decide +kernel
theorem sh_69 : shp[69]? = some (.inr (1, 6)) := by decide +kernel
theorem sh_70 : shp[70]? = some (.inl (2, fs2)) := by decide +kernel
theorem sh_71 : shp[71]? = some (.inr (1, 6)) := by decide +kernel
theorem sh_72 : shp[72]? = some (.inr (1, 6)) := by decide +kernel
theorem sh_73 : shp[73]? = some (.inr (0, 6)) := by decide +kernel
theorem sh_74 : shp[74]? = some (.inr (0, 6)) := by decide +kernel
theorem sh_75 : shp[75]? = some (.inl (1, fs1)) := by decide +kernel
theorem sh_76 : shp[76]? = some (.inr (0, 12)) := by decide +kernel
theorem sh_77 : shp[77]? = some (.inr (0, 6)) := by decide +kernel
theorem sh_78 : shp[78]? = some (.inr (0, 6)) := by decide +kernel
theorem sh_79 : shp[79]? = some (.inl (4, fs4)) := by decide +kernel
theorem sh_80 : shp[80]? = some (.inr (0, 8)) := by decide +kernel
theorem sh_81 : shp[81]? = some (.inr (0, 8)) := by decide +kernel
theorem sh_82 : shp[82]? = some (.inl (4, fs4)) := by decide +kernel
theorem sh_83 : shp[83]? = some (.inr (0, 8)) := by decide +kernel
theorem sh_84 : shp[84]? = some (.inr (0, 8)) := by decide +kernel
theorem sh_85 : shp[85]? = some (.inl (4, fs4)) := by decide +kernel
theorem sh_86 : shp[86]? = some (.inr (0, 8)) := by decide +kernel
theorem sh_87 : shp[87]? = some (.inr (0, 8)) := by decide +kernel
theorem sh_88 : shp[88]? = some (.inl (5, fs5)) := by decide +kernel
theorem sh_89 : shp[89]? = some (.inr (2, 100)) := by decide +kernel
theorem sh_90 : shp[90]? = some (.inr (2, 12)) := by decide +kernel
theorem sh_91 : shp[91]? = some (.inr (0, 12)) := by decide +kernel
theorem sh_92 : shp[92]? = some (.inr (0, 12)) := by decide +kernel
theorem sh_93 : shp[93]? = some (.inr (0, 12)) := by decide +kernel
theorem sh_94 : shp[94]? = some (.inr (0, 12)) := by decide +kernel
theorem sh_95 : shp[95]? = some (.inl (0, fs0)) := by decide +kernel
theorem sh_96 : shp[96]? = some (.inr (0, 5)) := by decide +kernel
theorem sh_97 : shp[97]? = some (.inr (0, 5)) := by decide +kernel
theorem sh_98 : shp[98]? = some (.inr (0, 5)) := by decide +kernel
theorem sh_99 : shp[99]? = some (.inr (0, 5)) := by decide +kernel
theorem sh_100 : shp[100]? = some (.inr (0, 25)) := by decide +kernel
theorem sh_101 : shp[101]? = some (.inr (0, 25)) := by decide +kernel
theorem sh_102 : shp[102]? = some (.inl (3, fs3)) := by decide +kernel
theorem sh_103 : shp[103]? = some (.inr (0, 36)) := by decide +kernel
theorem sh_104 : shp[104]? = some (.inr (0, 36)) := by decide +kernel
theorem sh_105 : shp[105]? = some (.inr (1, 36)) := by decide +kernel
theorem sh_106 : shp[106]? = some (.inr (0, 6)) := by decide +kernel
theorem sh_107 : shp[107]? = some (.inr (0, 6)) := by decide +kernel
theorem sh_108 : shp[108]? = some (.inr (0, 100)) := by decide +kernel
theorem sh_109 : shp[109]? = some (.inr (0, 100)) := by decide +kernel
theorem sh_110 : shp[110]? = some (.inr (0, 100)) := by decide +kernel
theorem sh_111 : shp[111]? = some (.inr (1, 6)) := by decide +kernel
theorem sh_112 : shp[112]? = some (.inr (1, 6)) := by decide +kernel
theorem sh_113 : shp[113]? = some (.inl (2, fs2)) := by decide +kernel
theorem sh_114 : shp[114]? = some (.inr (1, 6)) := by decide +kernel
theorem sh_115 : shp[115]? = some (.inr (1, 6)) := by decide +kernel
theorem sh_116 : shp[116]? = some (.inr (0, 6)) := by decide +kernel
theorem sh_117 : shp[117]? = some (.inr (0, 6)) := by decide +kernel
theorem sh_118 : shp[118]? = some (.inl (1, fs1)) := by decide +kernel
theorem sh_119 : shp[119]? = some (.inr (0, 12)) := by decide +kernel
theorem sh_120 : shp[120]? = some (.inr (0, 6)) := by decide +kernel
theorem sh_121 : shp[121]? = some (.inr (0, 6)) := by decide +kernel
theorem sh_122 : shp[122]? = some (.inl (9, fs9)) := by decide +kernel
theorem sh_123 : shp[123]? = some (.inr (0, 10)) := by decide +kernel
theorem sh_124 : shp[124]? = some (.inr (0, 10)) := by decide +kernel
theorem sh_125 : shp[125]? = some (.inr (0, 25)) := by decide +kernel
theorem sh_126 : shp[126]? = some (.inr (0, 25)) := by decide +kernel
theorem sh_127 : shp[127]? = some (.inr (0, 36)) := by decide +kernel
theorem sh_128 : shp[128]? = some (.inr (0, 36)) := by decide +kernel
theorem sh_129 : shp[129]? = some (.inr (0, 36)) := by decide +kernel
theorem sh_130 : shp[130]? = some (.inr (0, 300)) := by decide +kernel
theorem sh_131 : shp[131]? = some (.inr (0, 5)) := by decide +kernel
theorem sh_132 : shp[132]? = some (.inr (0, 5)) := by decide +kernel
theorem sh_133 : shp[133]? = some (.inr (0, 8)) := by decide +kernel
theorem sh_134 : shp[134]? = some (.inr (0, 8)) := by decide +kernel
theorem sh_135 : shp[135]? = some (.inr (0, 8)) := by decide +kernel
theorem sh_136 : shp[136]? = some (.inr (0, 8)) := by decide +kernel
theorem sh_137 : shp[137]? = some (.inr (0, 100)) := by decide +kernel
theorem sh_138 : shp[138]? = some (.inr (0, 640)) := by decide +kernel
theorem sh_139 : shp[139]? = some (.inr (0, 411)) := by decide +kernel
theorem sh_140 : shp[140]? = some (.inr (0, 12)) := by decide +kernel
theorem sh_141 : shp[141]? = some (.inr (1, 12)) := by decide +kernel
theorem sh_142 : shp[142]? = some (.inr (0, 12)) := by decide +kernel
theorem sh_143 : shp[143]? = some (.inr (1, 12)) := by decide +kernel
theorem sh_144 : shp[144]? = some (.inr (1, 36)) := by decide +kernel
theorem sh_145 : shp[145]? = some (.inr (0, 12)) := by decide +kernel
theorem sh_146 : shp[146]? = some (.inr (0, 12)) := by decide +kernel
theorem sh_147 : shp[147]? = some (.inr (0, 10)) := by decide +kernel
theorem sh_148 : shp[148]? = some (.inr (0, 10)) := by decide +kernel
theorem sh_149 : shp[149]? = some (.inr (0, 25)) := by decide +kernel
theorem sh_150 : shp[150]? = some (.inr (5, 6)) := by decide +kernel
theorem sh_151 : shp[151]? = some (.inr (3, 60)) := by decide +kernel
theorem sh_152 : shp[152]? = some (.inr (3, 60)) := by decide +kernel
theorem sh_153 : shp[153]? = some (.inr (3, 60)) := by decide +kernel
theorem sh_154 : shp[154]? = some (.inr (3, 60)) := by decide +kernel
theorem sh_155 : shp[155]? = some (.inr (3, 60)) := by decide +kernel
theorem sh_156 : shp[156]? = some (.inr (3, 60)) := by decide +kernel
theorem sh_157 : shp[157]? = some (.inr (0, 6)) := by decide +kernel
theorem sh_158 : shp[158]? = some (.inr (0, 6)) := by decide +kernel
theorem sh_159 : shp[159]? = some (.inr (3, 60)) := by decide +kernel
theorem at_sGround_15 : At sGround 15 := At.of (by decide +kernel)
theorem at_sGround_52 : At sGround 52 := At.of (by decide +kernel)
theorem at_sGround_95 : At sGround 95 := At.of (by decide +kernel)
theorem at_sPlan_22 : At sPlan 22 := At.of (by decide +kernel)
theorem at_sPlan_59 : At sPlan 59 := At.of (by decide +kernel)
theorem at_sPlan_102 : At sPlan 102 := At.of (by decide +kernel)
theorem at_sOpening_33 : At sOpening 33 := At.of (by decide +kernel)
theorem at_sOpening_70 : At sOpening 70 := At.of (by decide +kernel)
theorem at_sOpening_113 : At sOpening 113 := At.of (by decide +kernel)
theorem at_sLoop_38 : At sLoop 38 := At.of (by decide +kernel)
theorem at_sLoop_75 : At sLoop 75 := At.of (by decide +kernel)
theorem at_sLoop_118 : At sLoop 118 := At.of (by decide +kernel)
theorem at_sRows_42 : At sRows 42 := At.of (by decide +kernel)
theorem at_sRows_45 : At sRows 45 := At.of (by decide +kernel)
theorem at_sRows_48 : At sRows 48 := At.of (by decide +kernel)
theorem at_sRows_79 : At sRows 79 := At.of (by decide +kernel)
theorem at_sRows_82 : At sRows 82 := At.of (by decide +kernel)
theorem at_sRows_85 : At sRows 85 := At.of (by decide +kernel)
theorem at_sState_14 : At sState 14 := At.of (by decide +kernel)
theorem at_sState_51 : At sState 51 := At.of (by decide +kernel)
theorem at_sTape_2 : At sTape 2 := At.of (by decide +kernel)
theorem at_sTape_4 : At sTape 4 := At.of (by decide +kernel)
theorem at_sTape_6 : At sTape 6 := At.of (by decide +kernel)
theorem at_sTape_8 : At sTape 8 := At.of (by decide +kernel)
theorem at_sTape_10 : At sTape 10 := At.of (by decide +kernel)
theorem at_sTape_12 : At sTape 12 := At.of (by decide +kernel)
theorem M_X0_copyFrom : MV yX0_copyFrom cX0_copyFrom 2 none 1 := ⟨u3_172, u3_173, u1_3, u3_174, by decide, by decide, by decide +kernel⟩
theorem M_X0_hasBothSides : MV yX0_hasBothSides cX0_hasBothSides 1 (some .boolean) 0 := ⟨u2_219, u2_220, u1_3, u2_221, by decide, by decide, by decide +kernel⟩
theorem M_X0_isSite : MV yX0_isSite cX0_isSite 3 (some .boolean) 2 := ⟨u2_125, u2_126, u1_3, u2_127, by decide, by decide, by decide +kernel⟩
theorem M_X0_isRoad : MV yX0_isRoad cX0_isRoad 3 (some .boolean) 2 := ⟨u2_137, u2_138, u1_3, u2_139, by decide, by decide, by decide +kernel⟩
theorem M_X0_row : MV yX0_row cX0_row 3 (some (.array .int)) 2 := ⟨u2_113, u2_114, u1_3, u2_115, by decide, by decide, by decide +kernel⟩
theorem M_X0_costOf : MV yX0_costOf cX0_costOf 5 (some .int) 2 := ⟨u2_159, u2_160, u1_3, u2_161, by decide, by decide, by decide +kernel⟩
theorem M_X0_allStones : MV yX0_allStones cX0_allStones 3 (some .int) 0 := ⟨u2_231, u2_232, u1_3, u2_233, by decide, by decide, by decide +kernel⟩
theorem M_X0_allWants : MV yX0_allWants cX0_allWants 3 (some .int) 0 := ⟨u2_235, u2_236, u1_3, u2_237, by decide, by decide, by decide +kernel⟩
theorem M_X0_shutRoad : MV yX0_shutRoad cX0_shutRoad 3 (some .boolean) 2 := ⟨u3_215, u3_216, u1_3, u3_217, by decide, by decide, by decide +kernel⟩
theorem M_X0_shutRoads : MV yX0_shutRoads cX0_shutRoads 4 (some .int) 0 := ⟨u4_85, u4_86, u1_3, u4_87, by decide, by decide, by decide +kernel⟩
theorem M_X0_happen : MV yX0_happen cX0_happen 3 none 2 := ⟨u4_29, u4_30, u1_3, u4_31, by decide, by decide, by decide +kernel⟩
theorem M_X1_follow : MV yX1_follow cX1_follow 7 none 2 := ⟨u3_77, u3_78, u1_7, u3_79, by decide, by decide, by decide +kernel⟩
theorem M_X1_add : MV yX1_add cX1_add 2 none 1 := ⟨u3_86, up_13, u1_7, u3_87, by decide, by decide, by decide +kernel⟩
theorem M_X1_pointHome : MV yX1_pointHome cX1_pointHome 9 none 2 := ⟨u3_82, up_12, u1_7, u3_83, by decide, by decide, by decide +kernel⟩
theorem M_X1_turnOf : MV yX1_turnOf cX1_turnOf 4 (some .int) 1 := ⟨u3_90, u3_91, u1_7, u3_92, by decide, by decide, by decide +kernel⟩
theorem M_X1_findLeaving : MV yX1_findLeaving cX1_findLeaving 6 (some .int) 2 := ⟨u3_100, u3_101, u1_7, u3_102, by decide, by decide, by decide +kernel⟩
theorem M_X1_turnLoads : MV yX1_turnLoads cX1_turnLoads 4 none 2 := ⟨u3_104, u3_105, u1_7, u3_106, by decide, by decide, by decide +kernel⟩
theorem M_X2_openAll : MV yX2_openAll cX2_openAll 4 none 1 := ⟨u2_227, u2_228, u1_6, u2_229, by decide, by decide, by decide +kernel⟩
theorem M_X2_pickBy : MV yX2_pickBy cX2_pickBy 3 none 2 := ⟨u3_13, u3_14, u1_6, u3_15, by decide, by decide, by decide +kernel⟩
theorem M_X2_pickCorner : MV yX2_pickCorner cX2_pickCorner 1 none 0 := ⟨u3_18, up_8, u1_6, u3_19, by decide, by decide, by decide +kernel⟩
theorem M_X2_firstOf : MS yX2_firstOf cX2_firstOf 2 (some .int) 1 := ⟨u3_21, u1_6, u3_22, by decide, by decide, by decide +kernel⟩
theorem M_X2_pickLeast : MV yX2_pickLeast cX2_pickLeast 5 none 1 := ⟨u3_25, up_9, u1_6, u3_26, by decide, by decide, by decide +kernel⟩
theorem M_X2_pickRegret : MV yX2_pickRegret cX2_pickRegret 5 none 1 := ⟨u3_31, up_10, u1_6, u3_32, by decide, by decide, by decide +kernel⟩
theorem M_X2_regretOf : MS yX2_regretOf cX2_regretOf 9 (some .int) 5 := ⟨u3_34, u1_6, u3_35, by decide, by decide, by decide +kernel⟩
theorem M_X2_cheapestOf : MS yX2_cheapestOf cX2_cheapestOf 8 (some .int) 5 := ⟨u3_37, u1_6, u3_38, by decide, by decide, by decide +kernel⟩
theorem M_X2_takeLesser : MV yX2_takeLesser cX2_takeLesser 2 (some .int) 0 := ⟨u3_40, u3_41, u1_6, u3_42, by decide, by decide, by decide +kernel⟩
theorem M_X2_closeOne : MV yX2_closeOne cX2_closeOne 1 none 0 := ⟨u3_45, u3_46, u1_6, u3_47, by decide, by decide, by decide +kernel⟩
theorem M_X3_copyFrom : MV yX3_copyFrom cX3_copyFrom 2 none 1 := ⟨u3_205, u3_206, u1_5, u3_207, by decide, by decide, by decide +kernel⟩
theorem M_X3_isCell : MV yX3_isCell cX3_isCell 3 (some .boolean) 2 := ⟨u3_112, u3_113, u1_5, u3_114, by decide, by decide, by decide +kernel⟩
theorem M_X3_startOn : MV yX3_startOn cX3_startOn 5 none 2 := ⟨u2_223, u2_224, u1_5, u2_225, by decide, by decide, by decide +kernel⟩
theorem M_X3_layCells : MV yX3_layCells cX3_layCells 4 none 1 := ⟨u3_6, up_7, u1_5, u3_7, by decide, by decide, by decide +kernel⟩
theorem M_X3_reckonWorths : MV yX3_reckonWorths cX3_reckonWorths 2 none 0 := ⟨u3_49, u3_50, u1_5, u3_51, by decide, by decide, by decide +kernel⟩
theorem M_X3_spreadWorths : MV yX3_spreadWorths cX3_spreadWorths 5 (some .boolean) 0 := ⟨u3_54, up_11, u1_5, u3_55, by decide, by decide, by decide +kernel⟩
theorem M_X3_surplusAt : MV yX3_surplusAt cX3_surplusAt 3 (some .int) 2 := ⟨u3_73, u3_74, u1_5, u3_75, by decide, by decide, by decide +kernel⟩
theorem M_X3_isProved : MV yX3_isProved cX3_isProved 1 (some .boolean) 0 := ⟨u3_149, u3_150, u1_5, u3_151, by decide, by decide, by decide +kernel⟩
theorem M_X3_findEntering : MV yX3_findEntering cX3_findEntering 7 (some .int) 1 := ⟨u3_69, u3_70, u1_5, u3_71, by decide, by decide, by decide +kernel⟩
theorem M_X3_stepOften : MV yX3_stepOften cX3_stepOften 5 (some .int) 2 := ⟨u3_65, u3_66, u1_5, u3_67, by decide, by decide, by decide +kernel⟩
theorem M_X3_turnWay : MV yX3_turnWay cX3_turnWay 4 none 1 := ⟨u3_97, up_14, u1_5, u3_98, by decide, by decide, by decide +kernel⟩
theorem M_X3_total : MV yX3_total cX3_total 4 (some .int) 0 := ⟨u3_57, u3_58, u1_5, u3_59, by decide, by decide, by decide +kernel⟩
theorem M_X3_allLoads : MV yX3_allLoads cX3_allLoads 4 (some .int) 0 := ⟨u4_13, u4_14, u1_5, u4_15, by decide, by decide, by decide +kernel⟩
theorem M_X3_keptZeros : MV yX3_keptZeros cX3_keptZeros 4 (some .int) 0 := ⟨u3_153, u3_154, u1_5, u3_155, by decide, by decide, by decide +kernel⟩
theorem M_X3_freeCells : MV yX3_freeCells cX3_freeCells 6 (some .int) 1 := ⟨u3_157, u3_158, u1_5, u3_159, by decide, by decide, by decide +kernel⟩
theorem M_X3_judgeRow : MV yX3_judgeRow cX3_judgeRow 6 (some .int) 2 := ⟨u4_54, u4_55, u1_5, u4_56, by decide, by decide, by decide +kernel⟩
theorem M_X4_copyFrom : MV yX4_copyFrom cX4_copyFrom 2 none 1 := ⟨u4_72, u4_73, u1_8, u4_74, by decide, by decide, by decide +kernel⟩
theorem M_X4_drop : MV yX4_drop cX4_drop 1 (some .int) 0 := ⟨u3_223, u3_224, u1_8, u3_225, by decide, by decide, by decide +kernel⟩
theorem M_X4_add : MV yX4_add cX4_add 3 (some .int) 2 := ⟨u3_227, u3_228, u1_8, u3_229, by decide, by decide, by decide +kernel⟩
theorem M_X4_firstOther : MV yX4_firstOther cX4_firstOther 3 (some .int) 1 := ⟨u3_235, u3_236, u1_8, u3_237, by decide, by decide, by decide +kernel⟩
theorem M_X5_add : MV yX5_add cX5_add 2 (some .int) 1 := ⟨u2_169, u2_170, u1_10, u2_171, by decide, by decide, by decide +kernel⟩
theorem M_X5_findFault : MV yX5_findFault cX5_findFault 2 (some .int) 0 := ⟨u2_177, u2_178, u1_10, u2_179, by decide, by decide, by decide +kernel⟩
theorem M_X5_perform : MV yX5_perform cX5_perform 3 (some .int) 2 := ⟨u2_209, u2_210, u1_10, u2_211, by decide, by decide, by decide +kernel⟩
theorem M_X5_takeClause : MV yX5_takeClause cX5_takeClause 2 (some .boolean) 1 := ⟨u2_182, up_0, u1_10, u2_183, by decide, by decide, by decide +kernel⟩
theorem M_X5_takeSite : MV yX5_takeSite cX5_takeSite 2 (some .boolean) 1 := ⟨u2_190, up_2, u1_10, u2_191, by decide, by decide, by decide +kernel⟩
theorem M_X5_takeRoad : MV yX5_takeRoad cX5_takeRoad 2 (some .boolean) 1 := ⟨u2_202, up_5, u1_10, u2_203, by decide, by decide, by decide +kernel⟩
theorem M_X5_take : MV yX5_take cX5_take 2 (some .boolean) 1 := ⟨u2_186, up_1, u1_10, u2_187, by decide, by decide, by decide +kernel⟩
theorem M_X5_takeKind : MV yX5_takeKind cX5_takeKind 1 (some .int) 0 := ⟨u2_206, up_6, u1_10, u2_207, by decide, by decide, by decide +kernel⟩
theorem M_X5_takeDigit : MV yX5_takeDigit cX5_takeDigit 2 (some .int) 0 := ⟨u2_198, up_4, u1_10, u2_199, by decide, by decide, by decide +kernel⟩
theorem M_X5_takeNumber : MV yX5_takeNumber cX5_takeNumber 3 (some .int) 0 := ⟨u2_194, up_3, u1_10, u2_195, by decide, by decide, by decide +kernel⟩
theorem M_X6_copyFrom : MV yX6_copyFrom cX6_copyFrom 2 none 1 := ⟨u4_66, u4_67, u1_2, u4_68, by decide, by decide, by decide +kernel⟩
theorem M_X6_addSite : MV yX6_addSite cX6_addSite 5 (some .int) 3 := ⟨u2_109, u2_110, u1_2, u2_111, by decide, by decide, by decide +kernel⟩
theorem M_X6_changeSite : MV yX6_changeSite cX6_changeSite 7 (some .int) 4 := ⟨u2_129, u2_130, u1_2, u2_131, by decide, by decide, by decide +kernel⟩
theorem M_X6_changeRoad : MV yX6_changeRoad cX6_changeRoad 7 (some .int) 4 := ⟨u2_141, u2_142, u1_2, u2_143, by decide, by decide, by decide +kernel⟩
theorem M_X7_become : MV yX7_become cX7_become 3 none 2 := ⟨u4_93, u4_94, u1_11, u4_95, by decide, by decide, by decide +kernel⟩
theorem M_X7_hasPlace : MV yX7_hasPlace cX7_hasPlace 2 (some .boolean) 1 := ⟨u4_104, u4_105, u1_11, u4_106, by decide, by decide, by decide +kernel⟩
theorem M_X7_hasRun : MV yX7_hasRun cX7_hasRun 3 (some .boolean) 2 := ⟨u4_58, u4_59, u1_11, u4_60, by decide, by decide, by decide +kernel⟩
theorem M_X7_fitted : MV yX7_fitted cX7_fitted 3 (some .long) 1 := ⟨u4_108, u4_109, u1_11, u4_110, by decide, by decide, by decide +kernel⟩
theorem M_X8_quarry : MV yX8_quarry cX8_quarry 3 (some .int) 2 := ⟨u2_102, u2_103, u1_1, u2_104, by decide, by decide, by decide +kernel⟩
theorem M_X8_work : MV yX8_work cX8_work 3 (some .int) 2 := ⟨u2_117, u2_118, u1_1, u2_119, by decide, by decide, by decide +kernel⟩
theorem M_X8_renew : MV yX8_renew cX8_renew 5 (some .int) 4 := ⟨u2_121, u2_122, u1_1, u2_123, by decide, by decide, by decide +kernel⟩
theorem M_X8_road : MV yX8_road cX8_road 5 (some .int) 4 := ⟨u2_133, u2_134, u1_1, u2_135, by decide, by decide, by decide +kernel⟩
theorem M_X8_of : MV yX8_of cX8_of 4 (some .int) 3 := ⟨u2_149, u2_150, u1_1, u2_151, by decide, by decide, by decide +kernel⟩
theorem M_X8_roadOf : MV yX8_roadOf cX8_roadOf 4 (some .int) 3 := ⟨u2_154, u2_155, u1_1, u2_156, by decide, by decide, by decide +kernel⟩
theorem M_X8_feed : MV yX8_feed cX8_feed 2 (some .int) 1 := ⟨u2_165, u2_166, u1_1, u2_167, by decide, by decide, by decide +kernel⟩
theorem M_X8_read : MV yX8_read cX8_read 4 (some .int) 0 := ⟨u2_173, u2_174, u1_1, u2_175, by decide, by decide, by decide +kernel⟩
theorem M_X8_start : MV yX8_start cX8_start 2 (some .int) 1 := ⟨u2_215, u2_216, u1_1, u2_217, by decide, by decide, by decide +kernel⟩
theorem M_X8_step : MV yX8_step cX8_step 3 (some .int) 2 := ⟨u3_61, u3_62, u1_1, u3_63, by decide, by decide, by decide +kernel⟩
theorem M_X8_load : MV yX8_load cX8_load 3 (some .int) 2 := ⟨u3_108, u3_109, u1_1, u3_110, by decide, by decide, by decide +kernel⟩
theorem M_X8_basic : MV yX8_basic cX8_basic 3 (some .int) 2 := ⟨u3_117, u3_118, u1_1, u3_119, by decide, by decide, by decide +kernel⟩
theorem M_X8_worth : MV yX8_worth cX8_worth 4 (some .long) 2 := ⟨u3_121, u3_122, u1_1, u3_123, by decide, by decide, by decide +kernel⟩
theorem M_X8_surplus : MV yX8_surplus cX8_surplus 3 (some .long) 2 := ⟨u3_126, u3_127, u1_1, u3_128, by decide, by decide, by decide +kernel⟩
theorem M_X8_loop : MV yX8_loop cX8_loop 6 (some .int) 3 := ⟨u3_131, u3_132, u1_1, u3_133, by decide, by decide, by decide +kernel⟩
theorem M_X8_enters : MV yX8_enters cX8_enters 3 (some .int) 1 := ⟨u3_140, u3_141, u1_1, u3_142, by decide, by decide, by decide +kernel⟩
theorem M_X8_told : MV yX8_told cX8_told 3 (some .int) 1 := ⟨u3_145, u3_146, u1_1, u3_147, by decide, by decide, by decide +kernel⟩
theorem M_X8_trace : MV yX8_trace cX8_trace 4 (some .int) 2 := ⟨u3_164, u3_165, u1_1, u3_166, by decide, by decide, by decide +kernel⟩
theorem M_X8_best : MV yX8_best cX8_best 4 (some .int) 3 := ⟨u3_168, u3_169, u1_1, u3_170, by decide, by decide, by decide +kernel⟩
theorem M_X8_cheapest : MV yX8_cheapest cX8_cheapest 2 (some .int) 1 := ⟨u3_181, u3_182, u1_1, u3_183, by decide, by decide, by decide +kernel⟩
theorem M_X8_more : MV yX8_more cX8_more 5 (some .long) 2 := ⟨u3_193, u3_194, u1_1, u3_195, by decide, by decide, by decide +kernel⟩
theorem M_X8_rise : MV yX8_rise cX8_rise 5 (some .int) 2 := ⟨u3_201, u3_202, u1_1, u3_203, by decide, by decide, by decide +kernel⟩
theorem M_X8_missed : MV yX8_missed cX8_missed 6 (some .int) 1 := ⟨u3_211, u3_212, u1_1, u3_213, by decide, by decide, by decide +kernel⟩
theorem M_X8_see : MV yX8_see cX8_see 4 (some .int) 3 := ⟨u3_219, u3_220, u1_1, u3_221, by decide, by decide, by decide +kernel⟩
theorem M_X8_fits : MV yX8_fits cX8_fits 7 (some .int) 3 := ⟨u3_231, u3_232, u1_1, u3_233, by decide, by decide, by decide +kernel⟩
theorem M_X8_odds : MV yX8_odds cX8_odds 6 (some .long) 3 := ⟨u3_239, u4_0, u1_1, u4_1, by decide, by decide, by decide +kernel⟩
theorem M_X8_mean : MV yX8_mean cX8_mean 2 (some .long) 1 := ⟨u4_9, u4_10, u1_1, u4_11, by decide, by decide, by decide +kernel⟩
theorem M_X8_order : MV yX8_order cX8_order 3 (some .int) 2 := ⟨u4_17, u4_18, u1_1, u4_19, by decide, by decide, by decide +kernel⟩
theorem M_X8_ends : MV yX8_ends cX8_ends 3 (some .int) 1 := ⟨u4_25, u4_26, u1_1, u4_27, by decide, by decide, by decide +kernel⟩
theorem M_X8_book : MV yX8_book cX8_book 4 (some .int) 3 := ⟨u4_39, u4_40, u1_1, u4_41, by decide, by decide, by decide +kernel⟩
theorem M_X8_looked : MV yX8_looked cX8_looked 1 (some .int) 0 := ⟨u4_43, u4_44, u1_1, u4_45, by decide, by decide, by decide +kernel⟩
theorem M_X8_judge : MV yX8_judge cX8_judge 4 (some .int) 2 := ⟨u4_47, u4_48, u1_1, u4_49, by decide, by decide, by decide +kernel⟩
theorem M_X8_image : MV yX8_image cX8_image 1 (some .int) 0 := ⟨u4_62, u4_63, u1_1, u4_64, by decide, by decide, by decide +kernel⟩
theorem M_X8_undo : MV yX8_undo cX8_undo 1 (some .int) 0 := ⟨u4_77, u4_78, u1_1, u4_79, by decide, by decide, by decide +kernel⟩
theorem M_X8_count : MV yX8_count cX8_count 2 (some .int) 1 := ⟨u4_81, u4_82, u1_1, u4_83, by decide, by decide, by decide +kernel⟩
theorem M_X8_tape : MV yX8_tape cX8_tape 4 (some .int) 3 := ⟨u4_89, u4_90, u1_1, u4_91, by decide, by decide, by decide +kernel⟩
theorem M_X8_item : MV yX8_item cX8_item 6 (some .int) 3 := ⟨u4_100, u4_101, u1_1, u4_102, by decide, by decide, by decide +kernel⟩
theorem M_X8_peek : MV yX8_peek cX8_peek 3 (some .long) 2 := ⟨u4_112, u4_113, u1_1, u4_114, by decide, by decide, by decide +kernel⟩
theorem M_X8_shift : MV yX8_shift cX8_shift 8 (some .int) 5 := ⟨u4_116, u4_117, u1_1, u4_118, by decide, by decide, by decide +kernel⟩
theorem M_X8_isUpTo : MS yX8_isUpTo cX8_isUpTo 2 (some .boolean) 2 := ⟨u2_106, u1_1, u2_107, by decide, by decide, by decide +kernel⟩
theorem M_X8_isTape : MS yX8_isTape cX8_isTape 1 (some .boolean) 1 := ⟨u4_51, u1_1, u4_52, by decide, by decide, by decide +kernel⟩
theorem M_X8_roadAt : MS yX8_roadAt cX8_roadAt 2 (some .int) 2 := ⟨u2_146, u1_1, u2_147, by decide, by decide, by decide +kernel⟩
theorem M_X8_cellAt : MS yX8_cellAt cX8_cellAt 2 (some .int) 2 := ⟨u3_9, u1_1, u3_10, by decide, by decide, by decide +kernel⟩
theorem M_X8_cellTold : MS yX8_cellTold cX8_cellTold 1 (some .int) 1 := ⟨u3_137, u1_1, u3_138, by decide, by decide, by decide +kernel⟩
theorem M_X8_tryBest : MV yX8_tryBest cX8_tryBest 3 (some .boolean) 2 := ⟨u3_178, up_15, u1_1, u3_179, by decide, by decide, by decide +kernel⟩
theorem M_X8_tryTheBest : MV yX8_tryTheBest cX8_tryTheBest 1 (some .boolean) 0 := ⟨u3_198, up_18, u1_1, u3_199, by decide, by decide, by decide +kernel⟩
theorem M_X8_cheapestStart : MV yX8_cheapestStart cX8_cheapestStart 5 (some .int) 0 := ⟨u3_186, up_16, u1_1, u3_187, by decide, by decide, by decide +kernel⟩
theorem M_X8_fewestSteps : MV yX8_fewestSteps cX8_fewestSteps 5 (some .int) 0 := ⟨u3_190, up_17, u1_1, u3_191, by decide, by decide, by decide +kernel⟩
theorem M_X8_isOrder : MV yX8_isOrder cX8_isOrder 3 (some .boolean) 2 := ⟨u4_22, up_19, u1_1, u4_23, by decide, by decide, by decide +kernel⟩
theorem M_X8_fractionPart : MS yX8_fractionPart cX8_fractionPart 4 (some .long) 3 := ⟨u4_3, u1_1, u4_4, by decide, by decide, by decide +kernel⟩
theorem M_X8_commonDivisor : MS yX8_commonDivisor cX8_commonDivisor 4 (some .int) 2 := ⟨u4_6, u1_1, u4_7, by decide, by decide, by decide +kernel⟩
theorem M_X9_in : MS yX9_in cX9_in 6 (some .boolean) 3 := ⟨u5_73, u1_12, u5_74, by decide, by decide, by decide +kernel⟩
theorem M_X9_many : MV yX9_many cX9_many 2 (some .int) 1 := ⟨u5_78, up_24, u1_12, u5_79, by decide, by decide, by decide +kernel⟩
theorem M_X9_isRoad : MV yX9_isRoad cX9_isRoad 3 (some .boolean) 2 := ⟨u5_103, up_26, u1_12, u5_104, by decide, by decide, by decide +kernel⟩
theorem M_X9_isSpelled : MV yX9_isSpelled cX9_isSpelled 2 (some .boolean) 1 := ⟨u6_133, up_66, u1_12, u6_134, by decide, by decide, by decide +kernel⟩
theorem M_X9_isCell : MV yX9_isCell cX9_isCell 3 (some .boolean) 2 := ⟨u6_7, up_53, u1_12, u6_8, by decide, by decide, by decide +kernel⟩
theorem M_X9_passes : MV yX9_passes cX9_passes 3 (some .int) 1 := ⟨u5_53, up_21, u1_12, u5_54, by decide, by decide, by decide +kernel⟩
theorem M_X9_passesRow : MV yX9_passesRow cX9_passesRow 3 none 1 := ⟨u5_57, up_22, u1_12, u5_58, by decide, by decide, by decide +kernel⟩
theorem M_X9_passesAll : MV yX9_passesAll cX9_passesAll 2 (some .int) 1 := ⟨u5_49, up_20, u1_12, u5_50, by decide, by decide, by decide +kernel⟩
theorem M_X9_image : MV yX9_image cX9_image 1 (some .int) 0 := ⟨u5_44, u5_45, u1_12, u5_46, by decide, by decide, by decide +kernel⟩
theorem M_X9_undo : MV yX9_undo cX9_undo 1 (some .int) 0 := ⟨u5_60, u5_61, u1_12, u5_62, by decide, by decide, by decide +kernel⟩
theorem M_X9_lays : MV yX9_lays cX9_lays 3 none 1 := ⟨u6_56, up_57, u1_12, u6_57, by decide, by decide, by decide +kernel⟩
theorem M_X9_takesBack : MV yX9_takesBack cX9_takesBack 3 none 1 := ⟨u6_68, up_60, u1_12, u6_69, by decide, by decide, by decide +kernel⟩
theorem M_X9_minds : MV yX9_minds cX9_minds 1 none 0 := ⟨u6_52, up_56, u1_12, u6_53, by decide, by decide, by decide +kernel⟩
theorem M_X9_forgets : MV yX9_forgets cX9_forgets 1 none 0 := ⟨u6_64, up_59, u1_12, u6_65, by decide, by decide, by decide +kernel⟩
theorem M_X9_comes : MV yX9_comes cX9_comes 5 (some .int) 3 := ⟨u5_69, up_23, u1_12, u5_70, by decide, by decide, by decide +kernel⟩
theorem M_X9_quarry : MV yX9_quarry cX9_quarry 3 (some .int) 2 := ⟨u5_64, u5_65, u1_12, u5_66, by decide, by decide, by decide +kernel⟩
theorem M_X9_work : MV yX9_work cX9_work 3 (some .int) 2 := ⟨u5_81, u5_82, u1_12, u5_83, by decide, by decide, by decide +kernel⟩
theorem M_X9_isThing : MV yX9_isThing cX9_isThing 4 (some .boolean) 3 := ⟨u5_90, up_25, u1_12, u5_91, by decide, by decide, by decide +kernel⟩
theorem M_X9_renew : MV yX9_renew cX9_renew 6 (some .int) 4 := ⟨u5_85, u5_86, u1_12, u5_87, by decide, by decide, by decide +kernel⟩
theorem M_X9_of : MV yX9_of cX9_of 4 (some .int) 3 := ⟨u5_93, u5_94, u1_12, u5_95, by decide, by decide, by decide +kernel⟩
theorem M_X9_road : MV yX9_road cX9_road 6 (some .int) 4 := ⟨u5_98, u5_99, u1_12, u5_100, by decide, by decide, by decide +kernel⟩
theorem M_X9_costOf : MV yX9_costOf cX9_costOf 4 (some .int) 2 := ⟨u5_113, up_27, u1_12, u5_114, by decide, by decide, by decide +kernel⟩
theorem M_X9_roadOf : MV yX9_roadOf cX9_roadOf 4 (some .int) 3 := ⟨u5_107, u5_108, u1_12, u5_109, by decide, by decide, by decide +kernel⟩
theorem M_X9_here : MV yX9_here cX9_here 1 (some .int) 0 := ⟨u5_134, up_30, u1_12, u5_135, by decide, by decide, by decide +kernel⟩
theorem M_X9_takes : MV yX9_takes cX9_takes 4 (some .int) 2 := ⟨u5_138, up_31, u1_12, u5_139, by decide, by decide, by decide +kernel⟩
theorem M_X9_takesNumber : MV yX9_takesNumber cX9_takesNumber 2 (some .int) 0 := ⟨u5_146, up_33, u1_12, u5_147, by decide, by decide, by decide +kernel⟩
theorem M_X9_takesKind : MV yX9_takesKind cX9_takesKind 3 (some .int) 0 := ⟨u5_142, up_32, u1_12, u5_143, by decide, by decide, by decide +kernel⟩
theorem M_X9_clause : MV yX9_clause cX9_clause 8 none 1 := ⟨u5_130, up_29, u1_12, u5_131, by decide, by decide, by decide +kernel⟩
theorem M_X9_goesThrough : MV yX9_goesThrough cX9_goesThrough 2 none 1 := ⟨u5_126, up_28, u1_12, u5_127, by decide, by decide, by decide +kernel⟩
theorem M_X9_feed : MV yX9_feed cX9_feed 2 (some .int) 1 := ⟨u5_116, u5_117, u1_12, u5_118, by decide, by decide, by decide +kernel⟩
theorem M_X9_read : MV yX9_read cX9_read 2 (some .int) 0 := ⟨u5_121, u5_122, u1_12, u5_123, by decide, by decide, by decide +kernel⟩
theorem M_X9_sum : MV yX9_sum cX9_sum 4 (some .int) 1 := ⟨u5_165, up_36, u1_12, u5_166, by decide, by decide, by decide +kernel⟩
theorem M_X9_opens : MV yX9_opens cX9_opens 3 none 0 := ⟨u5_161, up_35, u1_12, u5_162, by decide, by decide, by decide +kernel⟩
theorem M_X9_openOnes : MV yX9_openOnes cX9_openOnes 4 (some .int) 1 := ⟨u5_169, up_37, u1_12, u5_170, by decide, by decide, by decide +kernel⟩
theorem M_X9_isOpenCell : MV yX9_isOpenCell cX9_isOpenCell 2 (some .boolean) 1 := ⟨u5_181, up_40, u1_12, u5_182, by decide, by decide, by decide +kernel⟩
theorem M_X9_cheapestCell : MV yX9_cheapestCell cX9_cheapestCell 5 (some .int) 1 := ⟨u5_185, up_41, u1_12, u5_186, by decide, by decide, by decide +kernel⟩
theorem M_X9_regret : MV yX9_regret cX9_regret 6 (some .int) 1 := ⟨u5_189, up_42, u1_12, u5_190, by decide, by decide, by decide +kernel⟩
theorem M_X9_corner : MV yX9_corner cX9_corner 2 (some .int) 0 := ⟨u5_177, up_39, u1_12, u5_178, by decide, by decide, by decide +kernel⟩
theorem M_X9_picked : MV yX9_picked cX9_picked 4 (some .int) 1 := ⟨u5_173, up_38, u1_12, u5_174, by decide, by decide, by decide +kernel⟩
theorem M_X9_starts : MV yX9_starts cX9_starts 6 none 1 := ⟨u5_157, up_34, u1_12, u5_158, by decide, by decide, by decide +kernel⟩
theorem M_X9_start : MV yX9_start cX9_start 2 (some .int) 1 := ⟨u5_152, u5_153, u1_12, u5_154, by decide, by decide, by decide +kernel⟩
theorem M_X9_total : MV yX9_total cX9_total 3 (some .int) 0 := ⟨u5_194, up_43, u1_12, u5_195, by decide, by decide, by decide +kernel⟩
theorem M_X9_values : MV yX9_values cX9_values 6 none 0 := ⟨u5_215, up_47, u1_12, u5_216, by decide, by decide, by decide +kernel⟩
theorem M_X9_over : MV yX9_over cX9_over 2 (some .int) 1 := ⟨u5_223, up_49, u1_12, u5_224, by decide, by decide, by decide +kernel⟩
theorem M_X9_isInPlan : MV yX9_isInPlan cX9_isInPlan 2 (some .boolean) 1 := ⟨u5_219, up_48, u1_12, u5_220, by decide, by decide, by decide +kernel⟩
theorem M_X9_counted : MV yX9_counted cX9_counted 5 (some .int) 1 := ⟨u6_40, up_55, u1_12, u6_41, by decide, by decide, by decide +kernel⟩
theorem M_X9_isProved : MV yX9_isProved cX9_isProved 1 (some .boolean) 0 := ⟨u6_36, up_54, u1_12, u6_37, by decide, by decide, by decide +kernel⟩
theorem M_X9_tie : MV yX9_tie cX9_tie 3 none 2 := ⟨u5_231, up_51, u1_12, u5_232, by decide, by decide, by decide +kernel⟩
theorem M_X9_otherIn : MV yX9_otherIn cX9_otherIn 4 (some .int) 2 := ⟨u5_236, up_52, u1_12, u5_237, by decide, by decide, by decide +kernel⟩
theorem M_X9_loops : MV yX9_loops cX9_loops 4 none 1 := ⟨u5_227, up_50, u1_12, u5_228, by decide, by decide, by decide +kernel⟩
theorem M_X9_enterer : MV yX9_enterer cX9_enterer 6 (some .int) 1 := ⟨u5_211, up_46, u1_12, u5_212, by decide, by decide, by decide +kernel⟩
theorem M_X9_moves : MV yX9_moves cX9_moves 5 (some .boolean) 1 := ⟨u5_207, up_45, u1_12, u5_208, by decide, by decide, by decide +kernel⟩
theorem M_X9_spelled : MS yX9_spelled cX9_spelled 1 (some .int) 1 := ⟨u5_239, u1_12, u6_0, by decide, by decide, by decide +kernel⟩
theorem M_X9_goes : MV yX9_goes cX9_goes 4 (some .int) 2 := ⟨u5_203, up_44, u1_12, u5_204, by decide, by decide, by decide +kernel⟩
theorem M_X9_step : MV yX9_step cX9_step 3 (some .int) 2 := ⟨u5_197, u5_198, u1_12, u5_199, by decide, by decide, by decide +kernel⟩
theorem M_X9_load : MV yX9_load cX9_load 3 (some .int) 2 := ⟨u6_2, u6_3, u1_12, u6_4, by decide, by decide, by decide +kernel⟩
theorem M_X9_basic : MV yX9_basic cX9_basic 3 (some .int) 2 := ⟨u6_10, u6_11, u1_12, u6_12, by decide, by decide, by decide +kernel⟩
theorem M_X9_worth : MV yX9_worth cX9_worth 3 (some .long) 2 := ⟨u6_14, u6_15, u1_12, u6_16, by decide, by decide, by decide +kernel⟩
theorem M_X9_surplus : MV yX9_surplus cX9_surplus 3 (some .long) 2 := ⟨u6_19, u6_20, u1_12, u6_21, by decide, by decide, by decide +kernel⟩
theorem M_X9_loop : MV yX9_loop cX9_loop 4 (some .int) 3 := ⟨u6_23, u6_24, u1_12, u6_25, by decide, by decide, by decide +kernel⟩
theorem M_X9_enters : MV yX9_enters cX9_enters 3 (some .int) 1 := ⟨u6_27, u6_28, u1_12, u6_29, by decide, by decide, by decide +kernel⟩
theorem M_X9_told : MV yX9_told cX9_told 2 (some .int) 1 := ⟨u6_31, u6_32, u1_12, u6_33, by decide, by decide, by decide +kernel⟩
theorem M_X9_trace : MV yX9_trace cX9_trace 3 (some .int) 2 := ⟨u6_43, u6_44, u1_12, u6_45, by decide, by decide, by decide +kernel⟩
theorem M_X9_thinks : MV yX9_thinks cX9_thinks 3 (some .int) 2 := ⟨u6_60, up_58, u1_12, u6_61, by decide, by decide, by decide +kernel⟩
theorem M_X9_theBest : MV yX9_theBest cX9_theBest 2 (some .int) 0 := ⟨u6_88, up_63, u1_12, u6_89, by decide, by decide, by decide +kernel⟩
theorem M_X9_best : MV yX9_best cX9_best 6 (some .int) 3 := ⟨u6_47, u6_48, u1_12, u6_49, by decide, by decide, by decide +kernel⟩
theorem M_X9_cheapestStart : MV yX9_cheapestStart cX9_cheapestStart 4 (some .int) 0 := ⟨u6_76, up_61, u1_12, u6_77, by decide, by decide, by decide +kernel⟩
theorem M_X9_fewest : MV yX9_fewest cX9_fewest 4 (some .int) 0 := ⟨u6_80, up_62, u1_12, u6_81, by decide, by decide, by decide +kernel⟩
theorem M_X9_cheapest : MV yX9_cheapest cX9_cheapest 2 (some .int) 1 := ⟨u6_71, u6_72, u1_12, u6_73, by decide, by decide, by decide +kernel⟩
theorem M_X9_more : MV yX9_more cX9_more 5 (some .long) 2 := ⟨u6_83, u6_84, u1_12, u6_85, by decide, by decide, by decide +kernel⟩
theorem M_X9_rises : MV yX9_rises cX9_rises 6 (some .int) 1 := ⟨u6_96, up_64, u1_12, u6_97, by decide, by decide, by decide +kernel⟩
theorem M_X9_rise : MV yX9_rise cX9_rise 3 (some .int) 2 := ⟨u6_91, u6_92, u1_12, u6_93, by decide, by decide, by decide +kernel⟩
theorem M_X9_missed : MV yX9_missed cX9_missed 8 (some .int) 1 := ⟨u6_99, u6_100, u1_12, u6_101, by decide, by decide, by decide +kernel⟩
theorem M_X9_see : MV yX9_see cX9_see 4 (some .int) 3 := ⟨u6_104, u6_105, u1_12, u6_106, by decide, by decide, by decide +kernel⟩
theorem M_X9_isAllSeen : MV yX9_isAllSeen cX9_isAllSeen 2 (some .boolean) 0 := ⟨u6_113, up_65, u1_12, u6_114, by decide, by decide, by decide +kernel⟩
theorem M_X9_fits : MV yX9_fits cX9_fits 8 (some .int) 3 := ⟨u6_108, u6_109, u1_12, u6_110, by decide, by decide, by decide +kernel⟩
theorem M_X9_lowest : MS yX9_lowest cX9_lowest 11 (some .long) 3 := ⟨u6_121, u1_12, u6_122, by decide, by decide, by decide +kernel⟩
theorem M_X9_odds : MV yX9_odds cX9_odds 7 (some .long) 3 := ⟨u6_116, u6_117, u1_12, u6_118, by decide, by decide, by decide +kernel⟩
theorem M_X9_mean : MV yX9_mean cX9_mean 4 (some .long) 1 := ⟨u6_124, u6_125, u1_12, u6_126, by decide, by decide, by decide +kernel⟩
theorem M_X9_order : MV yX9_order cX9_order 3 (some .int) 2 := ⟨u6_128, u6_129, u1_12, u6_130, by decide, by decide, by decide +kernel⟩
theorem M_X9_copies : MS yX9_copies cX9_copies 3 none 2 := ⟨u6_140, u1_12, u6_141, by decide, by decide, by decide +kernel⟩
theorem M_X9_happens : MV yX9_happens cX9_happens 3 none 2 := ⟨u6_144, up_67, u1_12, u6_145, by decide, by decide, by decide +kernel⟩
theorem M_X9_ends : MV yX9_ends cX9_ends 4 (some .int) 1 := ⟨u6_136, u6_137, u1_12, u6_138, by decide, by decide, by decide +kernel⟩
theorem M_X9_book : MV yX9_book cX9_book 4 (some .int) 3 := ⟨u6_147, u6_148, u1_12, u6_149, by decide, by decide, by decide +kernel⟩
theorem M_X9_looked : MV yX9_looked cX9_looked 2 (some .int) 0 := ⟨u6_151, u6_152, u1_12, u6_153, by decide, by decide, by decide +kernel⟩
theorem M_X9_isTape : MS yX9_isTape cX9_isTape 1 (some .boolean) 1 := ⟨u6_159, u1_12, u6_160, by decide, by decide, by decide +kernel⟩
theorem M_X9_judge : MV yX9_judge cX9_judge 5 (some .int) 2 := ⟨u6_155, u6_156, u1_12, u6_157, by decide, by decide, by decide +kernel⟩
theorem M_X9_shutRoads : MV yX9_shutRoads cX9_shutRoads 4 (some .int) 0 := ⟨u6_168, up_68, u1_12, u6_169, by decide, by decide, by decide +kernel⟩
theorem M_X9_count : MV yX9_count cX9_count 2 (some .int) 1 := ⟨u6_163, u6_164, u1_12, u6_165, by decide, by decide, by decide +kernel⟩
theorem M_X9_tape : MV yX9_tape cX9_tape 5 (some .int) 3 := ⟨u6_171, u6_172, u1_12, u6_173, by decide, by decide, by decide +kernel⟩
theorem M_X9_fit : MS yX9_fit cX9_fit 3 (some .long) 2 := ⟨u6_181, u1_12, u6_182, by decide, by decide, by decide +kernel⟩
theorem M_X9_item : MV yX9_item cX9_item 5 (some .int) 3 := ⟨u6_177, u6_178, u1_12, u6_179, by decide, by decide, by decide +kernel⟩
theorem M_X9_peek : MV yX9_peek cX9_peek 3 (some .long) 2 := ⟨u6_184, u6_185, u1_12, u6_186, by decide, by decide, by decide +kernel⟩
theorem M_X9_shift : MV yX9_shift cX9_shift 7 (some .int) 5 := ⟨u6_188, u6_189, u1_12, u6_190, by decide, by decide, by decide +kernel⟩
theorem M_J6_compare_7cf53 : MS yJ6_compare_7cf53 cJ6_compare_7cf53 2 (some .int) 2 := ⟨u3_161, u1_14, u3_162, by decide, by decide, by decide +kernel⟩
theorem M_J7_fill_d0a16 : MS yJ7_fill_d0a16 cJ7_fill_d0a16 5 none 2 := ⟨u4_97, u1_4, u4_98, by decide, by decide, by decide +kernel⟩
theorem M_J7_fill_53178 : MS yJ7_fill_53178 cJ7_fill_53178 4 none 2 := ⟨u1_36, u1_4, u1_37, by decide, by decide, by decide +kernel⟩
theorem n_RX8_13 : Cond.methodLinkNest RX8 13 yX6_init RX8 ∈ nests := by simp [nests]
theorem n_RX6_20 : Cond.methodLinkNest RX6 20 yX3_init RX8 ∈ nests := by simp [nests]
theorem n_RX3_59 : Cond.methodLinkNest RX3 59 yX2_init RX8 ∈ nests := by simp [nests]
theorem n_RX3_66 : Cond.methodLinkNest RX3 66 yX1_init RX8 ∈ nests := by simp [nests]
theorem n_RX8_27 : Cond.methodLinkNest RX8 27 yX5_init RX8 ∈ nests := by simp [nests]
theorem n_RX8_47 : Cond.methodLinkNest RX8 47 yX3_init RX8 ∈ nests := by simp [nests]
theorem n_RX8_52 : Cond.methodLinkNest RX8 52 yX7_init RX8 ∈ nests := by simp [nests]
theorem n_RX6_69 : Cond.methodLinkNest RX6 69 yX8_roadAt RX8 ∈ nests := by simp [nests]
theorem n_RX0_53 : Cond.methodLinkNest RX0 53 yX8_roadAt RX8 ∈ nests := by simp [nests]
theorem n_RX3_97 : Cond.methodLinkNest RX3 97 yX8_cellAt RX8 ∈ nests := by simp [nests]
theorem n_RX2_92 : Cond.methodLinkNest RX2 92 yX8_cellAt RX8 ∈ nests := by simp [nests]
theorem n_RX1_33 : Cond.methodLinkNest RX1 33 yX8_cellAt RX8 ∈ nests := by simp [nests]
