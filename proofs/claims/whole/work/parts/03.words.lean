theorem ml_L_9 : Cond.methodLink RL 9 yX7_init ∈ gU := t_1 (i := 16) rfl rfl
theorem ml_X7_3 : Cond.methodLink RX7 3 objectInit ∈ gU := t_1 (i := 19) rfl rfl
theorem ml_X7_11 : Cond.methodLink RX7 11 yX5_init ∈ gU := t_1 (i := 25) rfl rfl
theorem ml_X5_3 : Cond.methodLink RX5 3 objectInit ∈ gU := t_1 (i := 28) rfl rfl
theorem ml_X5_9 : Cond.methodLink RX5 9 yJ9_max_7cf53 ∈ gU := t_1 (i := 29) rfl rfl
theorem fl_X5_15 : Cond.fieldLink RX5 15 (TX5 0).1 (TX5 0).2.1 (TX5 0).2.2.1 ∈ gU := t_1 (i := 32) rfl rfl
theorem fl_X6_65 : Cond.fieldLink RX6 65 (TX5 0).1 (TX5 0).2.1 (TX5 0).2.2.1 ∈ gU := t_1 (i := 33) rfl rfl
theorem fl_X5_21 : Cond.fieldLink RX5 21 (TX5 1).1 (TX5 1).2.1 (TX5 1).2.2.1 ∈ gU := t_1 (i := 34) rfl rfl
theorem fl_X6_59 : Cond.fieldLink RX6 59 (TX5 1).1 (TX5 1).2.1 (TX5 1).2.2.1 ∈ gU := t_1 (i := 35) rfl rfl
theorem fl_X7_81 : Cond.fieldLink RX7 81 (TX5 1).1 (TX5 1).2.1 (TX5 1).2.2.1 ∈ gU := t_1 (i := 36) rfl rfl
theorem ml_X6_3 : Cond.methodLink RX6 3 objectInit ∈ gU := t_1 (i := 48) rfl rfl
theorem ml_X0_3 : Cond.methodLink RX0 3 objectInit ∈ gU := t_1 (i := 54) rfl rfl
theorem fl_X0_9 : Cond.fieldLink RX0 9 (TX0 0).1 (TX0 0).2.1 (TX0 0).2.2.1 ∈ gU := t_1 (i := 55) rfl rfl
theorem fl_X7_134 : Cond.fieldLink RX7 134 (TX0 0).1 (TX0 0).2.1 (TX0 0).2.2.1 ∈ gU := t_1 (i := 56) rfl rfl
theorem fl_X0_15 : Cond.fieldLink RX0 15 (TX0 1).1 (TX0 1).2.1 (TX0 1).2.2.1 ∈ gU := t_1 (i := 57) rfl rfl
theorem fl_X6_72 : Cond.fieldLink RX6 72 (TX0 1).1 (TX0 1).2.1 (TX0 1).2.2.1 ∈ gU := t_1 (i := 58) rfl rfl
theorem fl_X7_131 : Cond.fieldLink RX7 131 (TX0 1).1 (TX0 1).2.1 (TX0 1).2.2.1 ∈ gU := t_1 (i := 59) rfl rfl
theorem fl_X4_26 : Cond.fieldLink RX4 26 (TX6 0).1 (TX6 0).2.1 (TX6 0).2.2.1 ∈ gU := t_1 (i := 65) rfl rfl
theorem fl_X6_62 : Cond.fieldLink RX6 62 (TX6 0).1 (TX6 0).2.1 (TX6 0).2.2.1 ∈ gU := t_1 (i := 66) rfl rfl
theorem fl_X1_102 : Cond.fieldLink RX1 102 (TX6 0).1 (TX6 0).2.1 (TX6 0).2.2.1 ∈ gU := t_1 (i := 67) rfl rfl
theorem fl_X7_92 : Cond.fieldLink RX7 92 (TX6 0).1 (TX6 0).2.1 (TX6 0).2.2.1 ∈ gU := t_1 (i := 68) rfl rfl
theorem fl_X6_9 : Cond.fieldLink RX6 9 (TX6 1).1 (TX6 1).2.1 (TX6 1).2.2.1 ∈ gU := t_1 (i := 69) rfl rfl
theorem fl_X1_52 : Cond.fieldLink RX1 52 (TX6 1).1 (TX6 1).2.1 (TX6 1).2.2.1 ∈ gU := t_1 (i := 70) rfl rfl
theorem fl_X4_31 : Cond.fieldLink RX4 31 (TX6 1).1 (TX6 1).2.1 (TX6 1).2.2.1 ∈ gU := t_1 (i := 71) rfl rfl
theorem fl_X7_95 : Cond.fieldLink RX7 95 (TX6 1).1 (TX6 1).2.1 (TX6 1).2.2.1 ∈ gU := t_1 (i := 72) rfl rfl
theorem fl_X6_15 : Cond.fieldLink RX6 15 (TX6 2).1 (TX6 2).2.1 (TX6 2).2.2.1 ∈ gU := t_1 (i := 73) rfl rfl
theorem fl_X7_98 : Cond.fieldLink RX7 98 (TX6 2).1 (TX6 2).2.1 (TX6 2).2.2.1 ∈ gU := t_1 (i := 74) rfl rfl
theorem fl_X6_18 : Cond.fieldLink RX6 18 (TX6 3).1 (TX6 3).2.1 (TX6 3).2.2.1 ∈ gU := t_1 (i := 75) rfl rfl
theorem fl_X7_101 : Cond.fieldLink RX7 101 (TX6 3).1 (TX6 3).2.1 (TX6 3).2.2.1 ∈ gU := t_1 (i := 76) rfl rfl
theorem fl_X6_21 : Cond.fieldLink RX6 21 (TX6 4).1 (TX6 4).2.1 (TX6 4).2.2.1 ∈ gU := t_1 (i := 77) rfl rfl
theorem fl_X1_122 : Cond.fieldLink RX1 122 (TX6 4).1 (TX6 4).2.1 (TX6 4).2.2.1 ∈ gU := t_1 (i := 78) rfl rfl
theorem fl_X7_104 : Cond.fieldLink RX7 104 (TX6 4).1 (TX6 4).2.1 (TX6 4).2.2.1 ∈ gU := t_1 (i := 79) rfl rfl
theorem fl_X6_24 : Cond.fieldLink RX6 24 (TX6 5).1 (TX6 5).2.1 (TX6 5).2.2.1 ∈ gU := t_1 (i := 80) rfl rfl
theorem fl_X4_41 : Cond.fieldLink RX4 41 (TX6 5).1 (TX6 5).2.1 (TX6 5).2.2.1 ∈ gU := t_1 (i := 81) rfl rfl
theorem fl_X1_108 : Cond.fieldLink RX1 108 (TX6 5).1 (TX6 5).2.1 (TX6 5).2.2.1 ∈ gU := t_1 (i := 82) rfl rfl
theorem fl_X6_27 : Cond.fieldLink RX6 27 (TX6 6).1 (TX6 6).2.1 (TX6 6).2.2.1 ∈ gU := t_1 (i := 83) rfl rfl
theorem fl_X1_96 : Cond.fieldLink RX1 96 (TX6 6).1 (TX6 6).2.1 (TX6 6).2.2.1 ∈ gU := t_1 (i := 84) rfl rfl
theorem fl_X6_33 : Cond.fieldLink RX6 33 (TX6 7).1 (TX6 7).2.1 (TX6 7).2.2.1 ∈ gU := t_1 (i := 85) rfl rfl
theorem fl_X1_61 : Cond.fieldLink RX1 61 (TX6 7).1 (TX6 7).2.1 (TX6 7).2.2.1 ∈ gU := t_1 (i := 86) rfl rfl
theorem fl_X7_272 : Cond.fieldLink RX7 272 (TX6 7).1 (TX6 7).2.1 (TX6 7).2.2.1 ∈ gU := t_1 (i := 87) rfl rfl
theorem fl_X6_37 : Cond.fieldLink RX6 37 (TX6 8).1 (TX6 8).2.1 (TX6 8).2.2.1 ∈ gU := t_1 (i := 88) rfl rfl
theorem fl_X7_107 : Cond.fieldLink RX7 107 (TX6 8).1 (TX6 8).2.1 (TX6 8).2.2.1 ∈ gU := t_1 (i := 89) rfl rfl
theorem fl_X6_40 : Cond.fieldLink RX6 40 (TX6 9).1 (TX6 9).2.1 (TX6 9).2.2.1 ∈ gU := t_1 (i := 90) rfl rfl
theorem fl_X1_41 : Cond.fieldLink RX1 41 (TX6 9).1 (TX6 9).2.1 (TX6 9).2.2.1 ∈ gU := t_1 (i := 91) rfl rfl
theorem fl_X4_34 : Cond.fieldLink RX4 34 (TX6 9).1 (TX6 9).2.1 (TX6 9).2.2.1 ∈ gU := t_1 (i := 92) rfl rfl
theorem fl_X7_352 : Cond.fieldLink RX7 352 (TX6 9).1 (TX6 9).2.1 (TX6 9).2.2.1 ∈ gU := t_1 (i := 93) rfl rfl
theorem fl_X6_44 : Cond.fieldLink RX6 44 (TX6 10).1 (TX6 10).2.1 (TX6 10).2.2.1 ∈ gU := t_1 (i := 94) rfl rfl
theorem fl_X1_48 : Cond.fieldLink RX1 48 (TX6 10).1 (TX6 10).2.1 (TX6 10).2.2.1 ∈ gU := t_1 (i := 95) rfl rfl
theorem fl_X7_227 : Cond.fieldLink RX7 227 (TX6 10).1 (TX6 10).2.1 (TX6 10).2.2.1 ∈ gU := t_1 (i := 96) rfl rfl
theorem fl_X1_99 : Cond.fieldLink RX1 99 (TX6 11).1 (TX6 11).2.1 (TX6 11).2.2.1 ∈ gU := t_1 (i := 97) rfl rfl
theorem fl_X7_355 : Cond.fieldLink RX7 355 (TX6 11).1 (TX6 11).2.1 (TX6 11).2.2.1 ∈ gU := t_1 (i := 98) rfl rfl
theorem ml_X7_27 : Cond.methodLink RX7 27 yX1_init ∈ gU := t_1 (i := 126) rfl rfl
theorem ml_X1_3 : Cond.methodLink RX1 3 objectInit ∈ gU := t_1 (i := 129) rfl rfl
theorem fl_X1_37 : Cond.fieldLink RX1 37 (TX1 0).1 (TX1 0).2.1 (TX1 0).2.2.1 ∈ gU := t_1 (i := 135) rfl rfl
theorem fl_X1_47 : Cond.fieldLink RX1 47 (TX1 1).1 (TX1 1).2.1 (TX1 1).2.2.1 ∈ gU := t_1 (i := 136) rfl rfl
theorem fl_X7_358 : Cond.fieldLink RX7 358 (TX1 1).1 (TX1 1).2.1 (TX1 1).2.2.1 ∈ gU := t_1 (i := 137) rfl rfl
theorem fl_X1_51 : Cond.fieldLink RX1 51 (TX1 2).1 (TX1 2).2.1 (TX1 2).2.2.1 ∈ gU := t_1 (i := 138) rfl rfl
theorem fl_X4_49 : Cond.fieldLink RX4 49 (TX1 2).1 (TX1 2).2.1 (TX1 2).2.2.1 ∈ gU := t_1 (i := 139) rfl rfl
theorem fl_X1_9 : Cond.fieldLink RX1 9 (TX1 3).1 (TX1 3).2.1 (TX1 3).2.2.1 ∈ gU := t_1 (i := 140) rfl rfl
theorem fl_X7_202 : Cond.fieldLink RX7 202 (TX1 3).1 (TX1 3).2.1 (TX1 3).2.2.1 ∈ gU := t_1 (i := 141) rfl rfl
theorem fl_X1_18 : Cond.fieldLink RX1 18 (TX1 4).1 (TX1 4).2.1 (TX1 4).2.2.1 ∈ gU := t_1 (i := 142) rfl rfl
theorem fl_X7_174 : Cond.fieldLink RX7 174 (TX1 4).1 (TX1 4).2.1 (TX1 4).2.2.1 ∈ gU := t_1 (i := 143) rfl rfl
theorem fl_X1_66 : Cond.fieldLink RX1 66 (TX1 5).1 (TX1 5).2.1 (TX1 5).2.2.1 ∈ gU := t_1 (i := 144) rfl rfl
theorem fl_X1_24 : Cond.fieldLink RX1 24 (TX1 6).1 (TX1 6).2.1 (TX1 6).2.2.1 ∈ gU := t_1 (i := 145) rfl rfl
theorem fl_X1_27 : Cond.fieldLink RX1 27 (TX1 7).1 (TX1 7).2.1 (TX1 7).2.2.1 ∈ gU := t_1 (i := 146) rfl rfl
theorem fl_X1_30 : Cond.fieldLink RX1 30 (TX1 8).1 (TX1 8).2.1 (TX1 8).2.2.1 ∈ gU := t_1 (i := 147) rfl rfl
theorem fl_X1_33 : Cond.fieldLink RX1 33 (TX1 9).1 (TX1 9).2.1 (TX1 9).2.2.1 ∈ gU := t_1 (i := 148) rfl rfl
theorem fl_X1_132 : Cond.fieldLink RX1 132 (TX1 10).1 (TX1 10).2.1 (TX1 10).2.2.1 ∈ gU := t_1 (i := 149) rfl rfl
theorem fl_X1_69 : Cond.fieldLink RX1 69 (TX1 11).1 (TX1 11).2.1 (TX1 11).2.2.1 ∈ gU := t_1 (i := 150) rfl rfl
theorem fl_X7_273 : Cond.fieldLink RX7 273 (TX1 11).1 (TX1 11).2.1 (TX1 11).2.2.1 ∈ gU := t_1 (i := 151) rfl rfl
theorem fl_X1_72 : Cond.fieldLink RX1 72 (TX1 12).1 (TX1 12).2.1 (TX1 12).2.2.1 ∈ gU := t_1 (i := 152) rfl rfl
theorem fl_X7_140 : Cond.fieldLink RX7 140 (TX1 12).1 (TX1 12).2.1 (TX1 12).2.2.1 ∈ gU := t_1 (i := 153) rfl rfl
theorem fl_X1_75 : Cond.fieldLink RX1 75 (TX1 13).1 (TX1 13).2.1 (TX1 13).2.2.1 ∈ gU := t_1 (i := 154) rfl rfl
theorem fl_X7_143 : Cond.fieldLink RX7 143 (TX1 13).1 (TX1 13).2.1 (TX1 13).2.2.1 ∈ gU := t_1 (i := 155) rfl rfl
theorem fl_X1_78 : Cond.fieldLink RX1 78 (TX1 14).1 (TX1 14).2.1 (TX1 14).2.2.1 ∈ gU := t_1 (i := 156) rfl rfl
theorem fl_X7_146 : Cond.fieldLink RX7 146 (TX1 14).1 (TX1 14).2.1 (TX1 14).2.2.1 ∈ gU := t_1 (i := 157) rfl rfl
theorem fl_X1_81 : Cond.fieldLink RX1 81 (TX1 15).1 (TX1 15).2.1 (TX1 15).2.2.1 ∈ gU := t_1 (i := 158) rfl rfl
theorem fl_X7_149 : Cond.fieldLink RX7 149 (TX1 15).1 (TX1 15).2.1 (TX1 15).2.2.1 ∈ gU := t_1 (i := 159) rfl rfl
theorem ml_X4_3 : Cond.methodLink RX4 3 objectInit ∈ gU := t_1 (i := 198) rfl rfl
theorem fl_X4_9 : Cond.fieldLink RX4 9 (TX4 0).1 (TX4 0).2.1 (TX4 0).2.2.1 ∈ gU := t_1 (i := 199) rfl rfl
theorem fl_X4_15 : Cond.fieldLink RX4 15 (TX4 1).1 (TX4 1).2.1 (TX4 1).2.2.1 ∈ gU := t_1 (i := 200) rfl rfl
theorem fl_X4_19 : Cond.fieldLink RX4 19 (TX4 2).1 (TX4 2).2.1 (TX4 2).2.2.1 ∈ gU := t_1 (i := 201) rfl rfl
theorem fl_X4_23 : Cond.fieldLink RX4 23 (TX4 3).1 (TX4 3).2.1 (TX4 3).2.2.1 ∈ gU := t_1 (i := 202) rfl rfl
theorem ml_X3_3 : Cond.methodLink RX3 3 objectInit ∈ gU := t_1 (i := 218) rfl rfl
theorem fl_X3_9 : Cond.fieldLink RX3 9 (TX3 0).1 (TX3 0).2.1 (TX3 0).2.2.1 ∈ gU := t_1 (i := 219) rfl rfl
theorem fl_X3_15 : Cond.fieldLink RX3 15 (TX3 1).1 (TX3 1).2.1 (TX3 1).2.2.1 ∈ gU := t_1 (i := 220) rfl rfl
theorem fl_X3_18 : Cond.fieldLink RX3 18 (TX3 2).1 (TX3 2).2.1 (TX3 2).2.2.1 ∈ gU := t_1 (i := 221) rfl rfl
theorem fl_X3_25 : Cond.fieldLink RX3 25 (TX3 3).1 (TX3 3).2.1 (TX3 3).2.2.1 ∈ gU := t_1 (i := 222) rfl rfl
theorem fl_X7_191 : Cond.fieldLink RX7 191 (TX3 3).1 (TX3 3).2.1 (TX3 3).2.2.1 ∈ gU := t_1 (i := 223) rfl rfl
theorem ml_X2_3 : Cond.methodLink RX2 3 objectInit ∈ gU := t_1 (i := 239) rfl rfl
theorem fl_X2_9 : Cond.fieldLink RX2 9 (TX2 0).1 (TX2 0).2.1 (TX2 0).2.2.1 ∈ gU := t_2 (i := 0) rfl rfl
theorem fl_X7_255 : Cond.fieldLink RX7 255 (TX2 0).1 (TX2 0).2.1 (TX2 0).2.2.1 ∈ gU := t_2 (i := 1) rfl rfl
theorem fl_X2_19 : Cond.fieldLink RX2 19 (TX2 1).1 (TX2 1).2.1 (TX2 1).2.2.1 ∈ gU := t_2 (i := 2) rfl rfl
theorem fl_X7_201 : Cond.fieldLink RX7 201 (TX2 1).1 (TX2 1).2.1 (TX2 1).2.2.1 ∈ gU := t_2 (i := 3) rfl rfl
theorem fl_X2_15 : Cond.fieldLink RX2 15 (TX2 2).1 (TX2 2).2.1 (TX2 2).2.2.1 ∈ gU := t_2 (i := 4) rfl rfl
theorem fl_X7_198 : Cond.fieldLink RX7 198 (TX2 2).1 (TX2 2).2.1 (TX2 2).2.2.1 ∈ gU := t_2 (i := 5) rfl rfl
theorem ml_X7_67 : Cond.methodLink RX7 67 yX7_tellAnew ∈ gU := t_2 (i := 14) rfl rfl
theorem ml_X7_343 : Cond.methodLink RX7 343 yX6_readRiders ∈ gU := t_2 (i := 18) rfl rfl
theorem ml_X6_47 : Cond.methodLink RX6 47 yJ7_fill_53178 ∈ gU := t_2 (i := 22) rfl rfl
theorem ml_X6_53 : Cond.methodLink RX6 53 yX5_faultAsRiders ∈ gU := t_2 (i := 25) rfl rfl
theorem ml_X5_29 : Cond.methodLink RX5 29 yX5_fitsRider ∈ gU := t_2 (i := 29) rfl rfl
theorem ml_X6_68 : Cond.methodLink RX6 68 yX6_placeOnBoard ∈ gU := t_2 (i := 32) rfl rfl
theorem ml_X7_347 : Cond.methodLink RX7 347 yX6_readBag ∈ gU := t_2 (i := 36) rfl rfl
theorem ml_X6_73 : Cond.methodLink RX6 73 yX5_faultAsBag ∈ gU := t_2 (i := 40) rfl rfl
theorem ml_X5_33 : Cond.methodLink RX5 33 yX5_kindOf ∈ gU := t_2 (i := 44) rfl rfl
theorem ml_X6_76 : Cond.methodLink RX6 76 yX5_kindOf ∈ gU := t_2 (i := 47) rfl rfl
theorem ml_X6_80 : Cond.methodLink RX6 80 yX0_putAtBottom ∈ gU := t_2 (i := 48) rfl rfl
theorem ml_X7_350 : Cond.methodLink RX7 350 yX4_startAnew ∈ gU := t_2 (i := 52) rfl rfl
theorem ml_X4_37 : Cond.methodLink RX4 37 yX6_mayChange ∈ gU := t_2 (i := 56) rfl rfl
theorem ml_X7_171 : Cond.methodLink RX7 171 yX1_begin ∈ gU := t_2 (i := 60) rfl rfl
theorem ml_X1_55 : Cond.methodLink RX1 55 arraycopyName ∈ gU := t_2 (i := 64) rfl rfl
theorem ml_X1_62 : Cond.methodLink RX1 62 yX0_become ∈ gU := t_2 (i := 67) rfl rfl
theorem ml_X0_19 : Cond.methodLink RX0 19 arraycopyName ∈ gU := t_2 (i := 71) rfl rfl
theorem ml_X7_181 : Cond.methodLink RX7 181 yX1_go ∈ gU := t_2 (i := 72) rfl rfl
theorem ml_X1_84 : Cond.methodLink RX1 84 yX1_leaveAt ∈ gU := t_2 (i := 76) rfl rfl
theorem ml_X1_105 : Cond.methodLink RX1 105 yX0_putAtBottom ∈ gU := t_2 (i := 80) rfl rfl
theorem ml_X1_88 : Cond.methodLink RX1 88 yX1_changeAt ∈ gU := t_2 (i := 81) rfl rfl
theorem ml_X1_111 : Cond.methodLink RX1 111 yX6_mayChange ∈ gU := t_2 (i := 85) rfl rfl
theorem ml_X1_115 : Cond.methodLink RX1 115 yX1_takeWhole ∈ gU := t_2 (i := 86) rfl rfl
theorem ml_X1_125 : Cond.methodLink RX1 125 yX0_placeOf ∈ gU := t_2 (i := 90) rfl rfl
theorem ml_X1_129 : Cond.methodLink RX1 129 yX0_takeOut ∈ gU := t_2 (i := 94) rfl rfl
theorem ml_X1_118 : Cond.methodLink RX1 118 yX1_takeTorn ∈ gU := t_2 (i := 98) rfl rfl
theorem ml_X1_92 : Cond.methodLink RX1 92 yX1_keep ∈ gU := t_2 (i := 102) rfl rfl
theorem fl_X7_14 : Cond.fieldLink RX7 14 (TX7 0).1 (TX7 0).2.1 (TX7 0).2.2.1 ∈ gU := t_2 (i := 106) rfl rfl
theorem fl_X7_21 : Cond.fieldLink RX7 21 (TX7 1).1 (TX7 1).2.1 (TX7 1).2.2.1 ∈ gU := t_2 (i := 107) rfl rfl
theorem fl_X7_30 : Cond.fieldLink RX7 30 (TX7 2).1 (TX7 2).2.1 (TX7 2).2.2.1 ∈ gU := t_2 (i := 108) rfl rfl
theorem fl_X7_34 : Cond.fieldLink RX7 34 (TX7 3).1 (TX7 3).2.1 (TX7 3).2.2.1 ∈ gU := t_2 (i := 109) rfl rfl
theorem fl_X7_40 : Cond.fieldLink RX7 40 (TX7 4).1 (TX7 4).2.1 (TX7 4).2.2.1 ∈ gU := t_2 (i := 110) rfl rfl
theorem fl_X7_47 : Cond.fieldLink RX7 47 (TX7 5).1 (TX7 5).2.1 (TX7 5).2.2.1 ∈ gU := t_2 (i := 111) rfl rfl
theorem fl_X7_54 : Cond.fieldLink RX7 54 (TX7 6).1 (TX7 6).2.1 (TX7 6).2.2.1 ∈ gU := t_2 (i := 112) rfl rfl
theorem fl_X7_60 : Cond.fieldLink RX7 60 (TX7 7).1 (TX7 7).2.1 (TX7 7).2.2.1 ∈ gU := t_2 (i := 113) rfl rfl
theorem fl_X7_63 : Cond.fieldLink RX7 63 (TX7 8).1 (TX7 8).2.1 (TX7 8).2.2.1 ∈ gU := t_2 (i := 114) rfl rfl
theorem fl_X7_276 : Cond.fieldLink RX7 276 (TX7 9).1 (TX7 9).2.1 (TX7 9).2.2.1 ∈ gU := t_2 (i := 115) rfl rfl
theorem ml_L_13 : Cond.methodLink RL 13 yX7_type ∈ gU := t_2 (i := 137) rfl rfl
theorem ml_X7_70 : Cond.methodLink RX7 70 yX7_isOutside ∈ gU := t_2 (i := 141) rfl rfl
theorem ml_X7_74 : Cond.methodLink RX7 74 yX5_isFull ∈ gU := t_2 (i := 144) rfl rfl
theorem ml_X7_78 : Cond.methodLink RX7 78 yX5_append ∈ gU := t_2 (i := 148) rfl rfl
theorem ml_X5_25 : Cond.methodLink RX5 25 yX5_isFull ∈ gU := t_2 (i := 152) rfl rfl
theorem ml_L_18 : Cond.methodLink RL 18 yX7_wipe ∈ gU := t_2 (i := 153) rfl rfl
theorem ml_L_23 : Cond.methodLink RL 23 yX7_undo ∈ gU := t_2 (i := 157) rfl rfl
theorem ml_L_27 : Cond.methodLink RL 27 yX7_fault ∈ gU := t_2 (i := 161) rfl rfl
theorem ml_X7_85 : Cond.methodLink RX7 85 yX5_faultAsRiders ∈ gU := t_2 (i := 165) rfl rfl
theorem ml_X7_89 : Cond.methodLink RX7 89 yX5_faultAsBag ∈ gU := t_2 (i := 166) rfl rfl
theorem ml_L_31 : Cond.methodLink RL 31 yX7_rider ∈ gU := t_2 (i := 167) rfl rfl
theorem ml_L_35 : Cond.methodLink RL 35 yX7_worth ∈ gU := t_2 (i := 171) rfl rfl
theorem ml_L_39 : Cond.methodLink RL 39 yX7_set ∈ gU := t_2 (i := 175) rfl rfl
theorem ml_X7_110 : Cond.methodLink RX7 110 yX7_tellEven ∈ gU := t_2 (i := 179) rfl rfl
theorem ml_X7_114 : Cond.methodLink RX7 114 yX7_tellChanges ∈ gU := t_2 (i := 183) rfl rfl
theorem ml_X7_117 : Cond.methodLink RX7 117 yX7_tellForgets ∈ gU := t_2 (i := 187) rfl rfl
theorem ml_L_43 : Cond.methodLink RL 43 yX7_has ∈ gU := t_2 (i := 191) rfl rfl
theorem ml_X7_120 : Cond.methodLink RX7 120 yX1_hasOn ∈ gU := t_2 (i := 195) rfl rfl
theorem ml_X1_135 : Cond.methodLink RX1 135 yJ9_min_7cf53 ∈ gU := t_2 (i := 199) rfl rfl
theorem ml_L_47 : Cond.methodLink RL 47 yX7_torn ∈ gU := t_2 (i := 202) rfl rfl
theorem ml_X7_124 : Cond.methodLink RX7 124 yX1_tornOn ∈ gU := t_2 (i := 206) rfl rfl
theorem ml_L_51 : Cond.methodLink RL 51 yX7_bag ∈ gU := t_2 (i := 210) rfl rfl
theorem ml_X7_127 : Cond.methodLink RX7 127 yX1_bagOn ∈ gU := t_2 (i := 214) rfl rfl
theorem ml_L_55 : Cond.methodLink RL 55 yX7_gets ∈ gU := t_2 (i := 218) rfl rfl
theorem ml_X7_137 : Cond.methodLink RX7 137 yX1_servedOn ∈ gU := t_2 (i := 222) rfl rfl
theorem ml_L_59 : Cond.methodLink RL 59 yX7_first ∈ gU := t_2 (i := 226) rfl rfl
theorem ml_L_63 : Cond.methodLink RL 63 yX7_still ∈ gU := t_2 (i := 230) rfl rfl
theorem ml_L_68 : Cond.methodLink RL 68 yX7_served ∈ gU := t_2 (i := 234) rfl rfl
theorem ml_L_72 : Cond.methodLink RL 72 yX7_rings ∈ gU := t_2 (i := 238) rfl rfl
theorem ml_X7_152 : Cond.methodLink RX7 152 yX6_isRing ∈ gU := t_3 (i := 2) rfl rfl
theorem ml_L_76 : Cond.methodLink RL 76 yX7_open ∈ gU := t_3 (i := 6) rfl rfl
theorem ml_X7_156 : Cond.methodLink RX7 156 yJ6_bitCount_0f7a4 ∈ gU := t_3 (i := 10) rfl rfl
theorem co_J6_265 : Cond.constant RJ6 265 (1431655765) ∈ gU := t_3 (i := 13) rfl rfl
theorem co_J6_266 : Cond.constant RJ6 266 (858993459) ∈ gU := t_3 (i := 14) rfl rfl
theorem co_J6_267 : Cond.constant RJ6 267 (252645135) ∈ gU := t_3 (i := 15) rfl rfl
theorem ml_X7_161 : Cond.methodLink RX7 161 yX4_servedBy ∈ gU := t_3 (i := 16) rfl rfl
theorem ml_X4_44 : Cond.methodLink RX4 44 yX1_begin ∈ gU := t_3 (i := 20) rfl rfl
theorem ml_X4_52 : Cond.methodLink RX4 52 yX1_go ∈ gU := t_3 (i := 21) rfl rfl
theorem ml_X4_55 : Cond.methodLink RX4 55 yX1_servedOn ∈ gU := t_3 (i := 22) rfl rfl
theorem ml_X4_59 : Cond.methodLink RX4 59 yJ9_min_7cf53 ∈ gU := t_3 (i := 23) rfl rfl
theorem ml_L_80 : Cond.methodLink RL 80 yX7_least ∈ gU := t_3 (i := 24) rfl rfl
theorem ml_X7_165 : Cond.methodLink RX7 165 yX7_rideWithEven ∈ gU := t_3 (i := 28) rfl rfl
theorem ml_X7_168 : Cond.methodLink RX7 168 yX1_servedAtLast ∈ gU := t_3 (i := 32) rfl rfl
theorem ml_X1_141 : Cond.methodLink RX1 141 yJ6_bitCount_0f7a4 ∈ gU := t_3 (i := 36) rfl rfl
theorem ml_L_84 : Cond.methodLink RL 84 yX7_top ∈ gU := t_3 (i := 37) rfl rfl
theorem ml_X7_178 : Cond.methodLink RX7 178 yX0_putOnTop ∈ gU := t_3 (i := 41) rfl rfl
theorem ml_L_88 : Cond.methodLink RL 88 yX7_seen ∈ gU := t_3 (i := 45) rfl rfl
theorem ml_X7_184 : Cond.methodLink RX7 184 yX3_mayBe ∈ gU := t_3 (i := 49) rfl rfl
theorem ml_X7_187 : Cond.methodLink RX7 187 yX3_isFull ∈ gU := t_3 (i := 53) rfl rfl
theorem ml_X7_188 : Cond.methodLink RX7 188 yX3_append ∈ gU := t_3 (i := 57) rfl rfl
theorem ml_X3_29 : Cond.methodLink RX3 29 yX3_isFull ∈ gU := t_3 (i := 61) rfl rfl
theorem ml_L_93 : Cond.methodLink RL 93 yX7_forget ∈ gU := t_3 (i := 62) rfl rfl
theorem ml_L_97 : Cond.methodLink RL 97 yX7_read ∈ gU := t_3 (i := 66) rfl rfl
theorem ml_X7_192 : Cond.methodLink RX7 192 yX2_isLost ∈ gU := t_3 (i := 70) rfl rfl
theorem ml_X7_195 : Cond.methodLink RX7 195 yX7_finding ∈ gU := t_3 (i := 74) rfl rfl
theorem ml_L_101 : Cond.methodLink RL 101 yX7_had ∈ gU := t_3 (i := 78) rfl rfl
theorem ml_X7_205 : Cond.methodLink RX7 205 yX3_comeOutIn ∈ gU := t_3 (i := 82) rfl rfl
theorem ml_X3_33 : Cond.methodLink RX3 33 yX1_hasOn ∈ gU := t_3 (i := 86) rfl rfl
theorem ml_L_105 : Cond.methodLink RL 105 yX7_was ∈ gU := t_3 (i := 87) rfl rfl
theorem ml_L_109 : Cond.methodLink RL 109 yX7_ask ∈ gU := t_3 (i := 91) rfl rfl
theorem ml_X7_209 : Cond.methodLink RX7 209 yX7_clearAlike ∈ gU := t_3 (i := 95) rfl rfl
theorem ml_X7_221 : Cond.methodLink RX7 221 yJ7_fill_53178 ∈ gU := t_3 (i := 99) rfl rfl
theorem ml_X7_212 : Cond.methodLink RX7 212 yX7_countAlike ∈ gU := t_3 (i := 100) rfl rfl
theorem ml_X7_215 : Cond.methodLink RX7 215 yX7_greatestOf ∈ gU := t_3 (i := 104) rfl rfl
theorem ml_X7_359 : Cond.methodLink RX7 359 yJ9_max_7cf53 ∈ gU := t_3 (i := 107) rfl rfl
theorem ml_L_113 : Cond.methodLink RL 113 yX7_maybe ∈ gU := t_3 (i := 108) rfl rfl
theorem co_X7_219 : Cond.constantLong RX7 219 (-9223372036854775806) ∈ gU := t_3 (i := 112) rfl rfl
theorem ml_X7_230 : Cond.methodLink RX7 230 yX7_chanceAbove ∈ gU := t_3 (i := 113) rfl rfl
theorem co_X7_234 : Cond.constantLong RX7 234 (2) ∈ gU := t_3 (i := 117) rfl rfl
theorem ml_L_118 : Cond.methodLink RL 118 yX7_depot ∈ gU := t_3 (i := 118) rfl rfl
theorem co_X7_236 : Cond.constant RX7 236 (1103515245) ∈ gU := t_3 (i := 122) rfl rfl
theorem ml_X7_237 : Cond.methodLink RX7 237 yX0_putAtBottom ∈ gU := t_3 (i := 123) rfl rfl
theorem ml_L_122 : Cond.methodLink RL 122 yX7_sheet ∈ gU := t_3 (i := 124) rfl rfl
theorem ml_X7_240 : Cond.methodLink RX7 240 yX2_startAnew ∈ gU := t_3 (i := 128) rfl rfl
theorem ml_X2_22 : Cond.methodLink RX2 22 yJ7_fill_53178 ∈ gU := t_3 (i := 132) rfl rfl
theorem ml_L_126 : Cond.methodLink RL 126 yX7_lose ∈ gU := t_3 (i := 133) rfl rfl
theorem ml_X7_244 : Cond.methodLink RX7 244 yX2_giveUp ∈ gU := t_3 (i := 137) rfl rfl
theorem ml_L_130 : Cond.methodLink RL 130 yX7_lay ∈ gU := t_3 (i := 141) rfl rfl
theorem ml_X7_247 : Cond.methodLink RX7 247 yX7_refusalOfItem ∈ gU := t_3 (i := 145) rfl rfl
theorem ml_X7_258 : Cond.methodLink RX7 258 yX2_hasItems ∈ gU := t_3 (i := 149) rfl rfl
theorem ml_X7_251 : Cond.methodLink RX7 251 yX2_put ∈ gU := t_3 (i := 153) rfl rfl
theorem ml_L_135 : Cond.methodLink RL 135 yX7_get ∈ gU := t_3 (i := 157) rfl rfl
theorem co_X7_254 : Cond.constant RX7 254 (-2147483648) ∈ gU := t_3 (i := 161) rfl rfl
theorem ml_L_139 : Cond.methodLink RL 139 yX7_copy ∈ gU := t_3 (i := 162) rfl rfl
theorem ml_X7_261 : Cond.methodLink RX7 261 arraycopyName ∈ gU := t_3 (i := 166) rfl rfl
theorem ml_L_144 : Cond.methodLink RL 144 yX7_write ∈ gU := t_3 (i := 167) rfl rfl
theorem ml_X7_267 : Cond.methodLink RX7 267 yJ9_min_7cf53 ∈ gU := t_3 (i := 171) rfl rfl
theorem ml_L_148 : Cond.methodLink RL 148 yX7_count ∈ gU := t_3 (i := 172) rfl rfl
theorem ml_L_152 : Cond.methodLink RL 152 yX7_digest ∈ gU := t_3 (i := 176) rfl rfl
theorem co_X7_279 : Cond.constantLong RX7 279 (17) ∈ gU := t_3 (i := 180) rfl rfl
theorem ml_X7_281 : Cond.methodLink RX7 281 yX7_count ∈ gU := t_3 (i := 181) rfl rfl
theorem ml_X7_284 : Cond.methodLink RX7 284 yX7_mix ∈ gU := t_3 (i := 182) rfl rfl
theorem co_X7_341 : Cond.constantLong RX7 341 (31) ∈ gU := t_3 (i := 185) rfl rfl
theorem ml_X7_288 : Cond.methodLink RX7 288 yX7_fault ∈ gU := t_3 (i := 186) rfl rfl
theorem ml_X7_291 : Cond.methodLink RX7 291 yX7_rider ∈ gU := t_3 (i := 187) rfl rfl
theorem ml_X7_294 : Cond.methodLink RX7 294 yX7_has ∈ gU := t_3 (i := 188) rfl rfl
theorem ml_X7_296 : Cond.methodLink RX7 296 yX7_torn ∈ gU := t_3 (i := 189) rfl rfl
theorem ml_X7_299 : Cond.methodLink RX7 299 yX7_gets ∈ gU := t_3 (i := 190) rfl rfl
theorem ml_X7_302 : Cond.methodLink RX7 302 yX7_open ∈ gU := t_3 (i := 191) rfl rfl
theorem ml_X7_305 : Cond.methodLink RX7 305 yX7_had ∈ gU := t_3 (i := 192) rfl rfl
theorem ml_X7_308 : Cond.methodLink RX7 308 yX7_maybe ∈ gU := t_3 (i := 193) rfl rfl
theorem ml_X7_312 : Cond.methodLink RX7 312 yX7_served ∈ gU := t_3 (i := 194) rfl rfl
theorem ml_X7_315 : Cond.methodLink RX7 315 yX7_bag ∈ gU := t_3 (i := 195) rfl rfl
theorem ml_X7_317 : Cond.methodLink RX7 317 yX7_ask ∈ gU := t_3 (i := 196) rfl rfl
theorem ml_X7_320 : Cond.methodLink RX7 320 yX7_first ∈ gU := t_3 (i := 197) rfl rfl
theorem ml_X7_323 : Cond.methodLink RX7 323 yX7_still ∈ gU := t_3 (i := 198) rfl rfl
theorem ml_X7_326 : Cond.methodLink RX7 326 yX7_rings ∈ gU := t_3 (i := 199) rfl rfl
theorem ml_X7_329 : Cond.methodLink RX7 329 yX7_least ∈ gU := t_3 (i := 200) rfl rfl
theorem ml_X7_332 : Cond.methodLink RX7 332 yX7_top ∈ gU := t_3 (i := 201) rfl rfl
theorem ml_X7_335 : Cond.methodLink RX7 335 yX7_was ∈ gU := t_3 (i := 202) rfl rfl
theorem ml_X7_338 : Cond.methodLink RX7 338 yX7_depot ∈ gU := t_3 (i := 203) rfl rfl
theorem ml_L_12 : Cond.methodLink RL 12 yX8_init ∈ gU := t_3 (i := 206) rfl rfl
theorem ml_X8_1 : Cond.methodLink RX8 1 objectInit ∈ gU := t_3 (i := 209) rfl rfl
theorem fl_X8_7 : Cond.fieldLink RX8 7 (TX8 0).1 (TX8 0).2.1 (TX8 0).2.2.1 ∈ gU := t_3 (i := 210) rfl rfl
theorem fl_X8_13 : Cond.fieldLink RX8 13 (TX8 1).1 (TX8 1).2.1 (TX8 1).2.2.1 ∈ gU := t_3 (i := 211) rfl rfl
theorem fl_X8_16 : Cond.fieldLink RX8 16 (TX8 2).1 (TX8 2).2.1 (TX8 2).2.2.1 ∈ gU := t_3 (i := 212) rfl rfl
theorem fl_X8_19 : Cond.fieldLink RX8 19 (TX8 3).1 (TX8 3).2.1 (TX8 3).2.2.1 ∈ gU := t_3 (i := 213) rfl rfl
theorem fl_X8_80 : Cond.fieldLink RX8 80 (TX8 4).1 (TX8 4).2.1 (TX8 4).2.2.1 ∈ gU := t_3 (i := 214) rfl rfl
theorem fl_X8_22 : Cond.fieldLink RX8 22 (TX8 5).1 (TX8 5).2.1 (TX8 5).2.2.1 ∈ gU := t_3 (i := 215) rfl rfl
theorem fl_X8_25 : Cond.fieldLink RX8 25 (TX8 6).1 (TX8 6).2.1 (TX8 6).2.2.1 ∈ gU := t_3 (i := 216) rfl rfl
theorem fl_X8_120 : Cond.fieldLink RX8 120 (TX8 7).1 (TX8 7).2.1 (TX8 7).2.2.1 ∈ gU := t_3 (i := 217) rfl rfl
theorem fl_X8_28 : Cond.fieldLink RX8 28 (TX8 8).1 (TX8 8).2.1 (TX8 8).2.2.1 ∈ gU := t_3 (i := 218) rfl rfl
theorem fl_X8_126 : Cond.fieldLink RX8 126 (TX8 9).1 (TX8 9).2.1 (TX8 9).2.2.1 ∈ gU := t_3 (i := 219) rfl rfl
theorem fl_X8_31 : Cond.fieldLink RX8 31 (TX8 10).1 (TX8 10).2.1 (TX8 10).2.2.1 ∈ gU := t_3 (i := 220) rfl rfl
theorem fl_X8_34 : Cond.fieldLink RX8 34 (TX8 11).1 (TX8 11).2.1 (TX8 11).2.2.1 ∈ gU := t_3 (i := 221) rfl rfl
theorem fl_X8_37 : Cond.fieldLink RX8 37 (TX8 12).1 (TX8 12).2.1 (TX8 12).2.2.1 ∈ gU := t_3 (i := 222) rfl rfl
theorem fl_X8_70 : Cond.fieldLink RX8 70 (TX8 13).1 (TX8 13).2.1 (TX8 13).2.2.1 ∈ gU := t_3 (i := 223) rfl rfl
theorem fl_X8_40 : Cond.fieldLink RX8 40 (TX8 14).1 (TX8 14).2.1 (TX8 14).2.2.1 ∈ gU := t_3 (i := 224) rfl rfl
theorem fl_X8_43 : Cond.fieldLink RX8 43 (TX8 15).1 (TX8 15).2.1 (TX8 15).2.2.1 ∈ gU := t_3 (i := 225) rfl rfl
theorem fl_X8_150 : Cond.fieldLink RX8 150 (TX8 16).1 (TX8 16).2.1 (TX8 16).2.2.1 ∈ gU := t_3 (i := 226) rfl rfl
theorem fl_X8_147 : Cond.fieldLink RX8 147 (TX8 17).1 (TX8 17).2.1 (TX8 17).2.2.1 ∈ gU := t_3 (i := 227) rfl rfl
theorem fl_X8_46 : Cond.fieldLink RX8 46 (TX8 18).1 (TX8 18).2.1 (TX8 18).2.2.1 ∈ gU := t_3 (i := 228) rfl rfl
theorem fl_X8_49 : Cond.fieldLink RX8 49 (TX8 19).1 (TX8 19).2.1 (TX8 19).2.2.1 ∈ gU := t_3 (i := 229) rfl rfl
theorem fl_X8_52 : Cond.fieldLink RX8 52 (TX8 20).1 (TX8 20).2.1 (TX8 20).2.2.1 ∈ gU := t_3 (i := 230) rfl rfl
theorem fl_X8_55 : Cond.fieldLink RX8 55 (TX8 21).1 (TX8 21).2.1 (TX8 21).2.2.1 ∈ gU := t_3 (i := 231) rfl rfl
theorem fl_X8_58 : Cond.fieldLink RX8 58 (TX8 22).1 (TX8 22).2.1 (TX8 22).2.2.1 ∈ gU := t_3 (i := 232) rfl rfl
theorem fl_X8_61 : Cond.fieldLink RX8 61 (TX8 23).1 (TX8 23).2.1 (TX8 23).2.2.1 ∈ gU := t_3 (i := 233) rfl rfl
theorem fl_X8_180 : Cond.fieldLink RX8 180 (TX8 24).1 (TX8 24).2.1 (TX8 24).2.2.1 ∈ gU := t_3 (i := 234) rfl rfl
theorem fl_X8_183 : Cond.fieldLink RX8 183 (TX8 25).1 (TX8 25).2.1 (TX8 25).2.2.1 ∈ gU := t_3 (i := 235) rfl rfl
theorem fl_X8_247 : Cond.fieldLink RX8 247 (TX8 26).1 (TX8 26).2.1 (TX8 26).2.2.1 ∈ gU := t_3 (i := 236) rfl rfl
theorem fl_X8_64 : Cond.fieldLink RX8 64 (TX8 27).1 (TX8 27).2.1 (TX8 27).2.2.1 ∈ gU := t_3 (i := 237) rfl rfl
theorem fl_X8_67 : Cond.fieldLink RX8 67 (TX8 28).1 (TX8 28).2.1 (TX8 28).2.2.1 ∈ gU := t_3 (i := 238) rfl rfl
theorem fl_X8_281 : Cond.fieldLink RX8 281 (TX8 29).1 (TX8 29).2.1 (TX8 29).2.2.1 ∈ gU := t_3 (i := 239) rfl rfl
theorem ml_L_125 : Cond.methodLink RL 125 yX8_sheet ∈ gU := t_4 (i := 61) rfl rfl
theorem ml_X8_85 : Cond.methodLink RX8 85 yX8_isSheet ∈ gU := t_4 (i := 65) rfl rfl
theorem co_X8_83 : Cond.constantLong RX8 83 (3) ∈ gU := t_4 (i := 68) rfl rfl
theorem ml_X8_76 : Cond.methodLink RX8 76 yX8_in ∈ gU := t_4 (i := 69) rfl rfl
theorem co_X8_89 : Cond.constantLong RX8 89 (2) ∈ gU := t_4 (i := 72) rfl rfl
theorem ml_X8_91 : Cond.methodLink RX8 91 yX8_finds ∈ gU := t_4 (i := 73) rfl rfl
theorem ml_L_129 : Cond.methodLink RL 129 yX8_lose ∈ gU := t_4 (i := 77) rfl rfl
theorem ml_L_134 : Cond.methodLink RL 134 yX8_lay ∈ gU := t_4 (i := 81) rfl rfl
theorem ml_X8_95 : Cond.methodLink RX8 95 yX8_lacks ∈ gU := t_4 (i := 85) rfl rfl
theorem ml_X8_99 : Cond.methodLink RX8 99 yX8_cut ∈ gU := t_4 (i := 89) rfl rfl
theorem ml_L_138 : Cond.methodLink RL 138 yX8_get ∈ gU := t_4 (i := 92) rfl rfl
theorem co_X8_103 : Cond.constant RX8 103 (-2147483648) ∈ gU := t_4 (i := 96) rfl rfl
theorem ml_L_143 : Cond.methodLink RL 143 yX8_copy ∈ gU := t_4 (i := 97) rfl rfl
theorem ml_L_17 : Cond.methodLink RL 17 yX8_type ∈ gU := t_4 (i := 101) rfl rfl
theorem ml_X8_104 : Cond.methodLink RX8 104 yX8_isTwo ∈ gU := t_4 (i := 105) rfl rfl
theorem co_X8_107 : Cond.constantLong RX8 107 (255) ∈ gU := t_4 (i := 108) rfl rfl
theorem ml_L_22 : Cond.methodLink RL 22 yX8_wipe ∈ gU := t_4 (i := 109) rfl rfl
theorem ml_L_26 : Cond.methodLink RL 26 yX8_undo ∈ gU := t_4 (i := 113) rfl rfl
theorem ml_L_30 : Cond.methodLink RL 30 yX8_fault ∈ gU := t_4 (i := 117) rfl rfl
theorem ml_X8_133 : Cond.methodLink RX8 133 yX8_readsRiders ∈ gU := t_4 (i := 121) rfl rfl
theorem ml_X8_123 : Cond.methodLink RX8 123 yX8_riderOf ∈ gU := t_4 (i := 125) rfl rfl
theorem ml_X8_113 : Cond.methodLink RX8 113 yX8_letterOf ∈ gU := t_4 (i := 128) rfl rfl
theorem co_X8_109 : Cond.constantLong RX8 109 (97) ∈ gU := t_4 (i := 131) rfl rfl
theorem co_X8_111 : Cond.constantLong RX8 111 (104) ∈ gU := t_4 (i := 132) rfl rfl
theorem co_X8_116 : Cond.constantLong RX8 116 (48) ∈ gU := t_4 (i := 133) rfl rfl
theorem co_X8_118 : Cond.constantLong RX8 118 (57) ∈ gU := t_4 (i := 134) rfl rfl
theorem ml_X8_137 : Cond.methodLink RX8 137 yX8_readsBag ∈ gU := t_4 (i := 135) rfl rfl
theorem co_X8_129 : Cond.constantLong RX8 129 (65) ∈ gU := t_4 (i := 139) rfl rfl
theorem co_X8_131 : Cond.constantLong RX8 131 (72) ∈ gU := t_4 (i := 140) rfl rfl
theorem ml_L_34 : Cond.methodLink RL 34 yX8_rider ∈ gU := t_4 (i := 141) rfl rfl
theorem ml_X8_142 : Cond.methodLink RX8 142 yX8_isRider ∈ gU := t_4 (i := 145) rfl rfl
theorem ml_L_38 : Cond.methodLink RL 38 yX8_worth ∈ gU := t_4 (i := 149) rfl rfl
theorem co_X8_145 : Cond.constantLong RX8 145 (7) ∈ gU := t_4 (i := 153) rfl rfl
theorem co_X8_140 : Cond.constantLong RX8 140 (9) ∈ gU := t_4 (i := 154) rfl rfl
theorem ml_L_42 : Cond.methodLink RL 42 yX8_set ∈ gU := t_4 (i := 155) rfl rfl
theorem ml_L_46 : Cond.methodLink RL 46 yX8_has ∈ gU := t_4 (i := 159) rfl rfl
theorem ml_X8_198 : Cond.methodLink RX8 198 yX8_reads ∈ gU := t_4 (i := 163) rfl rfl
theorem ml_X8_195 : Cond.methodLink RX8 195 yX8_lives ∈ gU := t_4 (i := 167) rfl rfl
theorem ml_X8_186 : Cond.methodLink RX8 186 yX8_begins ∈ gU := t_4 (i := 171) rfl rfl
theorem ml_X8_160 : Cond.methodLink RX8 160 yX8_puts ∈ gU := t_4 (i := 175) rfl rfl
theorem ml_X8_189 : Cond.methodLink RX8 189 yX8_stops ∈ gU := t_4 (i := 179) rfl rfl
theorem ml_X8_153 : Cond.methodLink RX8 153 yX8_isIn ∈ gU := t_4 (i := 183) rfl rfl
theorem ml_X8_157 : Cond.methodLink RX8 157 yX8_may ∈ gU := t_4 (i := 186) rfl rfl
theorem ml_X8_177 : Cond.methodLink RX8 177 yX8_changesOne ∈ gU := t_4 (i := 190) rfl rfl
theorem ml_X8_164 : Cond.methodLink RX8 164 yX8_find ∈ gU := t_4 (i := 194) rfl rfl
theorem ml_X8_167 : Cond.methodLink RX8 167 yX8_takes ∈ gU := t_4 (i := 198) rfl rfl
theorem ml_X8_170 : Cond.methodLink RX8 170 yX8_gives ∈ gU := t_4 (i := 202) rfl rfl
theorem ml_X8_174 : Cond.methodLink RX8 174 yX8_other ∈ gU := t_4 (i := 206) rfl rfl
theorem ml_X8_192 : Cond.methodLink RX8 192 yX8_keeps ∈ gU := t_4 (i := 210) rfl rfl
theorem ml_X8_201 : Cond.methodLink RX8 201 yX8_isDay ∈ gU := t_4 (i := 214) rfl rfl
theorem ml_L_50 : Cond.methodLink RL 50 yX8_torn ∈ gU := t_4 (i := 217) rfl rfl
theorem ml_L_54 : Cond.methodLink RL 54 yX8_bag ∈ gU := t_4 (i := 221) rfl rfl
theorem co_X8_204 : Cond.constantLong RX8 204 (-1) ∈ gU := t_4 (i := 225) rfl rfl
theorem co_X8_206 : Cond.constantLong RX8 206 (27) ∈ gU := t_4 (i := 226) rfl rfl
theorem ml_X8_208 : Cond.methodLink RX8 208 yX8_bagOf ∈ gU := t_4 (i := 227) rfl rfl
theorem ml_L_58 : Cond.methodLink RL 58 yX8_gets ∈ gU := t_4 (i := 231) rfl rfl
theorem ml_X8_214 : Cond.methodLink RX8 214 yX8_getsOf ∈ gU := t_4 (i := 235) rfl rfl
theorem ml_X8_211 : Cond.methodLink RX8 211 yX8_isServed ∈ gU := t_4 (i := 239) rfl rfl
theorem ml_L_62 : Cond.methodLink RL 62 yX8_first ∈ gU := t_5 (i := 3) rfl rfl
theorem ml_L_67 : Cond.methodLink RL 67 yX8_still ∈ gU := t_5 (i := 7) rfl rfl
theorem ml_L_71 : Cond.methodLink RL 71 yX8_served ∈ gU := t_5 (i := 11) rfl rfl
theorem ml_X8_217 : Cond.methodLink RX8 217 yX8_servedBy ∈ gU := t_5 (i := 15) rfl rfl
theorem ml_L_75 : Cond.methodLink RL 75 yX8_rings ∈ gU := t_5 (i := 19) rfl rfl
theorem ml_X8_227 : Cond.methodLink RX8 227 yX8_ringsNow ∈ gU := t_5 (i := 23) rfl rfl
theorem ml_X8_223 : Cond.methodLink RX8 223 yX8_isRing ∈ gU := t_5 (i := 27) rfl rfl
theorem ml_X8_220 : Cond.methodLink RX8 220 yX8_wantsOf ∈ gU := t_5 (i := 31) rfl rfl
theorem ml_L_79 : Cond.methodLink RL 79 yX8_open ∈ gU := t_5 (i := 35) rfl rfl
theorem ml_X8_233 : Cond.methodLink RX8 233 yX8_openOf ∈ gU := t_5 (i := 39) rfl rfl
theorem ml_X8_230 : Cond.methodLink RX8 230 yX8_ones ∈ gU := t_5 (i := 43) rfl rfl
theorem ml_L_83 : Cond.methodLink RL 83 yX8_least ∈ gU := t_5 (i := 46) rfl rfl
theorem ml_X8_239 : Cond.methodLink RX8 239 yX8_leastOf ∈ gU := t_5 (i := 50) rfl rfl
theorem ml_X8_236 : Cond.methodLink RX8 236 yX8_greater ∈ gU := t_5 (i := 54) rfl rfl
theorem ml_L_87 : Cond.methodLink RL 87 yX8_top ∈ gU := t_5 (i := 57) rfl rfl
theorem ml_X8_242 : Cond.methodLink RX8 242 yX8_topOf ∈ gU := t_5 (i := 61) rfl rfl
theorem ml_L_92 : Cond.methodLink RL 92 yX8_seen ∈ gU := t_5 (i := 65) rfl rfl
theorem co_X8_245 : Cond.constantLong RX8 245 (8) ∈ gU := t_5 (i := 69) rfl rfl
theorem ml_L_96 : Cond.methodLink RL 96 yX8_forget ∈ gU := t_5 (i := 70) rfl rfl
theorem ml_L_100 : Cond.methodLink RL 100 yX8_read ∈ gU := t_5 (i := 74) rfl rfl
theorem ml_X8_250 : Cond.methodLink RX8 250 yX8_seen ∈ gU := t_5 (i := 78) rfl rfl
theorem ml_L_104 : Cond.methodLink RL 104 yX8_had ∈ gU := t_5 (i := 79) rfl rfl
theorem ml_X8_257 : Cond.methodLink RX8 257 yX8_hadOf ∈ gU := t_5 (i := 83) rfl rfl
theorem ml_X8_253 : Cond.methodLink RX8 253 yX8_isSeen ∈ gU := t_5 (i := 87) rfl rfl
theorem ml_L_108 : Cond.methodLink RL 108 yX8_was ∈ gU := t_5 (i := 91) rfl rfl
theorem ml_X8_260 : Cond.methodLink RX8 260 yX8_wasNow ∈ gU := t_5 (i := 95) rfl rfl
theorem ml_L_112 : Cond.methodLink RL 112 yX8_ask ∈ gU := t_5 (i := 99) rfl rfl
theorem ml_X8_263 : Cond.methodLink RX8 263 yX8_askOf ∈ gU := t_5 (i := 103) rfl rfl
theorem ml_L_117 : Cond.methodLink RL 117 yX8_maybe ∈ gU := t_5 (i := 107) rfl rfl
theorem co_X8_270 : Cond.constantLong RX8 270 (16) ∈ gU := t_5 (i := 111) rfl rfl
theorem ml_X8_272 : Cond.methodLink RX8 272 yX8_maybeOf ∈ gU := t_5 (i := 112) rfl rfl
theorem ml_X8_266 : Cond.methodLink RX8 266 yX8_part ∈ gU := t_5 (i := 116) rfl rfl
theorem ml_X8_276 : Cond.methodLink RX8 276 yX8_no ∈ gU := t_5 (i := 119) rfl rfl
theorem co_X8_74 : Cond.constantLong RX8 74 (-9223372036854775808) ∈ gU := t_5 (i := 122) rfl rfl
theorem ml_L_121 : Cond.methodLink RL 121 yX8_depot ∈ gU := t_5 (i := 123) rfl rfl
theorem ml_X8_287 : Cond.methodLink RX8 287 yX8_depotOf ∈ gU := t_5 (i := 127) rfl rfl
theorem ml_X8_284 : Cond.methodLink RX8 284 yX8_lot ∈ gU := t_5 (i := 131) rfl rfl
theorem co_X8_280 : Cond.constant RX8 280 (1103515245) ∈ gU := t_5 (i := 135) rfl rfl
theorem ml_L_147 : Cond.methodLink RL 147 yX8_write ∈ gU := t_5 (i := 136) rfl rfl
theorem ml_X8_290 : Cond.methodLink RX8 290 yX8_lesser ∈ gU := t_5 (i := 140) rfl rfl
theorem ml_L_151 : Cond.methodLink RL 151 yX8_count ∈ gU := t_5 (i := 143) rfl rfl
theorem ml_L_156 : Cond.methodLink RL 156 yX8_digest ∈ gU := t_5 (i := 147) rfl rfl
theorem co_X8_295 : Cond.constantLong RX8 295 (17) ∈ gU := t_5 (i := 151) rfl rfl
theorem co_X8_293 : Cond.constantLong RX8 293 (31) ∈ gU := t_5 (i := 152) rfl rfl
theorem ml_X8_297 : Cond.methodLink RX8 297 yX8_count ∈ gU := t_5 (i := 153) rfl rfl
theorem ml_X8_300 : Cond.methodLink RX8 300 yX8_tellsRider ∈ gU := t_5 (i := 154) rfl rfl
theorem ml_X8_304 : Cond.methodLink RX8 304 yX8_tellsDay ∈ gU := t_5 (i := 158) rfl rfl
theorem mi_X0_init : Cond.instanceMethod yX0_init ∈ gU ∧ Cond.initialized RX0 ∈ gU ∧ Cond.code yX0_init cX0_init 1 (none) ∈ gU := ⟨t_1 (i := 52) rfl rfl, t_1 (i := 5) rfl rfl, t_1 (i := 53) rfl rfl⟩
theorem mv_X0_become : Cond.instanceMethod yX0_become ∈ gU ∧ Cond.selects RX0 yX0_become yX0_become ∈ gU ∧ Cond.initialized RX0 ∈ gU ∧ Cond.code yX0_become cX0_become 2 (none) ∈ gU ∧ (yX0_become.cls = RX0 ∧ yX0_become.cls ≠ "java/lang/invoke/MethodHandle" ∧ yX0_become.cls ≠ "java/lang/invoke/VarHandle" ∧ (parseMethodDescriptor yX0_become.desc).map (fun d => d.parameters.length) = some 1) := ⟨t_2 (i := 68) rfl rfl, t_2 (i := 69) rfl rfl, t_1 (i := 5) rfl rfl, t_2 (i := 70) rfl rfl, by decide +kernel⟩
theorem mv_X0_putAtBottom : Cond.instanceMethod yX0_putAtBottom ∈ gU ∧ Cond.selects RX0 yX0_putAtBottom yX0_putAtBottom ∈ gU ∧ Cond.initialized RX0 ∈ gU ∧ Cond.code yX0_putAtBottom cX0_putAtBottom 2 (none) ∈ gU ∧ (yX0_putAtBottom.cls = RX0 ∧ yX0_putAtBottom.cls ≠ "java/lang/invoke/MethodHandle" ∧ yX0_putAtBottom.cls ≠ "java/lang/invoke/VarHandle" ∧ (parseMethodDescriptor yX0_putAtBottom.desc).map (fun d => d.parameters.length) = some 1) := ⟨t_2 (i := 49) rfl rfl, t_2 (i := 50) rfl rfl, t_1 (i := 5) rfl rfl, t_2 (i := 51) rfl rfl, by decide +kernel⟩
theorem mv_X0_putOnTop : Cond.instanceMethod yX0_putOnTop ∈ gU ∧ Cond.selects RX0 yX0_putOnTop yX0_putOnTop ∈ gU ∧ Cond.initialized RX0 ∈ gU ∧ Cond.code yX0_putOnTop cX0_putOnTop 2 (none) ∈ gU ∧ (yX0_putOnTop.cls = RX0 ∧ yX0_putOnTop.cls ≠ "java/lang/invoke/MethodHandle" ∧ yX0_putOnTop.cls ≠ "java/lang/invoke/VarHandle" ∧ (parseMethodDescriptor yX0_putOnTop.desc).map (fun d => d.parameters.length) = some 1) := ⟨t_3 (i := 42) rfl rfl, t_3 (i := 43) rfl rfl, t_1 (i := 5) rfl rfl, t_3 (i := 44) rfl rfl, by decide +kernel⟩
theorem mv_X0_placeOf : Cond.instanceMethod yX0_placeOf ∈ gU ∧ Cond.selects RX0 yX0_placeOf yX0_placeOf ∈ gU ∧ Cond.initialized RX0 ∈ gU ∧ Cond.code yX0_placeOf cX0_placeOf 3 (some .int) ∈ gU ∧ (yX0_placeOf.cls = RX0 ∧ yX0_placeOf.cls ≠ "java/lang/invoke/MethodHandle" ∧ yX0_placeOf.cls ≠ "java/lang/invoke/VarHandle" ∧ (parseMethodDescriptor yX0_placeOf.desc).map (fun d => d.parameters.length) = some 1) := ⟨t_2 (i := 91) rfl rfl, t_2 (i := 92) rfl rfl, t_1 (i := 5) rfl rfl, t_2 (i := 93) rfl rfl, by decide +kernel⟩
theorem mv_X0_takeOut : Cond.instanceMethod yX0_takeOut ∈ gU ∧ Cond.selects RX0 yX0_takeOut yX0_takeOut ∈ gU ∧ Cond.initialized RX0 ∈ gU ∧ Cond.code yX0_takeOut cX0_takeOut 3 (none) ∈ gU ∧ (yX0_takeOut.cls = RX0 ∧ yX0_takeOut.cls ≠ "java/lang/invoke/MethodHandle" ∧ yX0_takeOut.cls ≠ "java/lang/invoke/VarHandle" ∧ (parseMethodDescriptor yX0_takeOut.desc).map (fun d => d.parameters.length) = some 1) := ⟨t_2 (i := 95) rfl rfl, t_2 (i := 96) rfl rfl, t_1 (i := 5) rfl rfl, t_2 (i := 97) rfl rfl, by decide +kernel⟩
theorem mi_X1_init : Cond.instanceMethod yX1_init ∈ gU ∧ Cond.initialized RX1 ∈ gU ∧ Cond.code yX1_init cX1_init 3 (none) ∈ gU := ⟨t_1 (i := 127) rfl rfl, t_1 (i := 6) rfl rfl, t_1 (i := 128) rfl rfl⟩
theorem mv_X1_begin : Cond.instanceMethod yX1_begin ∈ gU ∧ Cond.selects RX1 yX1_begin yX1_begin ∈ gU ∧ Cond.initialized RX1 ∈ gU ∧ Cond.code yX1_begin cX1_begin 1 (none) ∈ gU ∧ (yX1_begin.cls = RX1 ∧ yX1_begin.cls ≠ "java/lang/invoke/MethodHandle" ∧ yX1_begin.cls ≠ "java/lang/invoke/VarHandle" ∧ (parseMethodDescriptor yX1_begin.desc).map (fun d => d.parameters.length) = some 0) := ⟨t_2 (i := 61) rfl rfl, t_2 (i := 62) rfl rfl, t_1 (i := 6) rfl rfl, t_2 (i := 63) rfl rfl, by decide +kernel⟩
theorem mv_X1_go : Cond.instanceMethod yX1_go ∈ gU ∧ Cond.selects RX1 yX1_go yX1_go ∈ gU ∧ Cond.initialized RX1 ∈ gU ∧ Cond.code yX1_go cX1_go 6 (none) ∈ gU ∧ (yX1_go.cls = RX1 ∧ yX1_go.cls ≠ "java/lang/invoke/MethodHandle" ∧ yX1_go.cls ≠ "java/lang/invoke/VarHandle" ∧ (parseMethodDescriptor yX1_go.desc).map (fun d => d.parameters.length) = some 0) := ⟨t_2 (i := 73) rfl rfl, t_2 (i := 74) rfl rfl, t_1 (i := 6) rfl rfl, t_2 (i := 75) rfl rfl, by decide +kernel⟩
theorem mv_X1_leaveAt : Cond.instanceMethod yX1_leaveAt ∈ gU ∧ Cond.selects RX1 yX1_leaveAt yX1_leaveAt ∈ gU ∧ Cond.initialized RX1 ∈ gU ∧ Cond.code yX1_leaveAt cX1_leaveAt 5 (some .boolean) ∈ gU ∧ (yX1_leaveAt.cls = RX1 ∧ yX1_leaveAt.cls ≠ "java/lang/invoke/MethodHandle" ∧ yX1_leaveAt.cls ≠ "java/lang/invoke/VarHandle" ∧ (parseMethodDescriptor yX1_leaveAt.desc).map (fun d => d.parameters.length) = some 1) := ⟨t_2 (i := 78) rfl rfl, t_s (i := 2) rfl rfl, t_1 (i := 6) rfl rfl, t_2 (i := 79) rfl rfl, by decide +kernel⟩
theorem mv_X1_changeAt : Cond.instanceMethod yX1_changeAt ∈ gU ∧ Cond.selects RX1 yX1_changeAt yX1_changeAt ∈ gU ∧ Cond.initialized RX1 ∈ gU ∧ Cond.code yX1_changeAt cX1_changeAt 5 (none) ∈ gU ∧ (yX1_changeAt.cls = RX1 ∧ yX1_changeAt.cls ≠ "java/lang/invoke/MethodHandle" ∧ yX1_changeAt.cls ≠ "java/lang/invoke/VarHandle" ∧ (parseMethodDescriptor yX1_changeAt.desc).map (fun d => d.parameters.length) = some 2) := ⟨t_2 (i := 83) rfl rfl, t_s (i := 3) rfl rfl, t_1 (i := 6) rfl rfl, t_2 (i := 84) rfl rfl, by decide +kernel⟩
theorem mv_X1_takeWhole : Cond.instanceMethod yX1_takeWhole ∈ gU ∧ Cond.selects RX1 yX1_takeWhole yX1_takeWhole ∈ gU ∧ Cond.initialized RX1 ∈ gU ∧ Cond.code yX1_takeWhole cX1_takeWhole 3 (some .boolean) ∈ gU ∧ (yX1_takeWhole.cls = RX1 ∧ yX1_takeWhole.cls ≠ "java/lang/invoke/MethodHandle" ∧ yX1_takeWhole.cls ≠ "java/lang/invoke/VarHandle" ∧ (parseMethodDescriptor yX1_takeWhole.desc).map (fun d => d.parameters.length) = some 1) := ⟨t_2 (i := 88) rfl rfl, t_s (i := 4) rfl rfl, t_1 (i := 6) rfl rfl, t_2 (i := 89) rfl rfl, by decide +kernel⟩
theorem mv_X1_takeTorn : Cond.instanceMethod yX1_takeTorn ∈ gU ∧ Cond.selects RX1 yX1_takeTorn yX1_takeTorn ∈ gU ∧ Cond.initialized RX1 ∈ gU ∧ Cond.code yX1_takeTorn cX1_takeTorn 5 (some .boolean) ∈ gU ∧ (yX1_takeTorn.cls = RX1 ∧ yX1_takeTorn.cls ≠ "java/lang/invoke/MethodHandle" ∧ yX1_takeTorn.cls ≠ "java/lang/invoke/VarHandle" ∧ (parseMethodDescriptor yX1_takeTorn.desc).map (fun d => d.parameters.length) = some 2) := ⟨t_2 (i := 100) rfl rfl, t_s (i := 5) rfl rfl, t_1 (i := 6) rfl rfl, t_2 (i := 101) rfl rfl, by decide +kernel⟩
theorem mv_X1_keep : Cond.instanceMethod yX1_keep ∈ gU ∧ Cond.selects RX1 yX1_keep yX1_keep ∈ gU ∧ Cond.initialized RX1 ∈ gU ∧ Cond.code yX1_keep cX1_keep 3 (none) ∈ gU ∧ (yX1_keep.cls = RX1 ∧ yX1_keep.cls ≠ "java/lang/invoke/MethodHandle" ∧ yX1_keep.cls ≠ "java/lang/invoke/VarHandle" ∧ (parseMethodDescriptor yX1_keep.desc).map (fun d => d.parameters.length) = some 1) := ⟨t_2 (i := 104) rfl rfl, t_s (i := 6) rfl rfl, t_1 (i := 6) rfl rfl, t_2 (i := 105) rfl rfl, by decide +kernel⟩
theorem mv_X1_hasOn : Cond.instanceMethod yX1_hasOn ∈ gU ∧ Cond.selects RX1 yX1_hasOn yX1_hasOn ∈ gU ∧ Cond.initialized RX1 ∈ gU ∧ Cond.code yX1_hasOn cX1_hasOn 3 (some .int) ∈ gU ∧ (yX1_hasOn.cls = RX1 ∧ yX1_hasOn.cls ≠ "java/lang/invoke/MethodHandle" ∧ yX1_hasOn.cls ≠ "java/lang/invoke/VarHandle" ∧ (parseMethodDescriptor yX1_hasOn.desc).map (fun d => d.parameters.length) = some 2) := ⟨t_2 (i := 196) rfl rfl, t_2 (i := 197) rfl rfl, t_1 (i := 6) rfl rfl, t_2 (i := 198) rfl rfl, by decide +kernel⟩
theorem mv_X1_tornOn : Cond.instanceMethod yX1_tornOn ∈ gU ∧ Cond.selects RX1 yX1_tornOn yX1_tornOn ∈ gU ∧ Cond.initialized RX1 ∈ gU ∧ Cond.code yX1_tornOn cX1_tornOn 2 (some .int) ∈ gU ∧ (yX1_tornOn.cls = RX1 ∧ yX1_tornOn.cls ≠ "java/lang/invoke/MethodHandle" ∧ yX1_tornOn.cls ≠ "java/lang/invoke/VarHandle" ∧ (parseMethodDescriptor yX1_tornOn.desc).map (fun d => d.parameters.length) = some 1) := ⟨t_2 (i := 207) rfl rfl, t_2 (i := 208) rfl rfl, t_1 (i := 6) rfl rfl, t_2 (i := 209) rfl rfl, by decide +kernel⟩
theorem mv_X1_servedOn : Cond.instanceMethod yX1_servedOn ∈ gU ∧ Cond.selects RX1 yX1_servedOn yX1_servedOn ∈ gU ∧ Cond.initialized RX1 ∈ gU ∧ Cond.code yX1_servedOn cX1_servedOn 2 (some .int) ∈ gU ∧ (yX1_servedOn.cls = RX1 ∧ yX1_servedOn.cls ≠ "java/lang/invoke/MethodHandle" ∧ yX1_servedOn.cls ≠ "java/lang/invoke/VarHandle" ∧ (parseMethodDescriptor yX1_servedOn.desc).map (fun d => d.parameters.length) = some 1) := ⟨t_2 (i := 223) rfl rfl, t_2 (i := 224) rfl rfl, t_1 (i := 6) rfl rfl, t_2 (i := 225) rfl rfl, by decide +kernel⟩
theorem mv_X1_bagOn : Cond.instanceMethod yX1_bagOn ∈ gU ∧ Cond.selects RX1 yX1_bagOn yX1_bagOn ∈ gU ∧ Cond.initialized RX1 ∈ gU ∧ Cond.code yX1_bagOn cX1_bagOn 2 (some (.object "AfternoonChange$Bag")) ∈ gU ∧ (yX1_bagOn.cls = RX1 ∧ yX1_bagOn.cls ≠ "java/lang/invoke/MethodHandle" ∧ yX1_bagOn.cls ≠ "java/lang/invoke/VarHandle" ∧ (parseMethodDescriptor yX1_bagOn.desc).map (fun d => d.parameters.length) = some 1) := ⟨t_2 (i := 215) rfl rfl, t_2 (i := 216) rfl rfl, t_1 (i := 6) rfl rfl, t_2 (i := 217) rfl rfl, by decide +kernel⟩
theorem mv_X1_servedAtLast : Cond.instanceMethod yX1_servedAtLast ∈ gU ∧ Cond.selects RX1 yX1_servedAtLast yX1_servedAtLast ∈ gU ∧ Cond.initialized RX1 ∈ gU ∧ Cond.code yX1_servedAtLast cX1_servedAtLast 1 (some .int) ∈ gU ∧ (yX1_servedAtLast.cls = RX1 ∧ yX1_servedAtLast.cls ≠ "java/lang/invoke/MethodHandle" ∧ yX1_servedAtLast.cls ≠ "java/lang/invoke/VarHandle" ∧ (parseMethodDescriptor yX1_servedAtLast.desc).map (fun d => d.parameters.length) = some 0) := ⟨t_3 (i := 33) rfl rfl, t_3 (i := 34) rfl rfl, t_1 (i := 6) rfl rfl, t_3 (i := 35) rfl rfl, by decide +kernel⟩
theorem mi_X2_init : Cond.instanceMethod yX2_init ∈ gU ∧ Cond.initialized RX2 ∈ gU ∧ Cond.code yX2_init cX2_init 1 (none) ∈ gU := ⟨t_1 (i := 237) rfl rfl, t_1 (i := 9) rfl rfl, t_1 (i := 238) rfl rfl⟩
theorem mv_X2_isLost : Cond.instanceMethod yX2_isLost ∈ gU ∧ Cond.selects RX2 yX2_isLost yX2_isLost ∈ gU ∧ Cond.initialized RX2 ∈ gU ∧ Cond.code yX2_isLost cX2_isLost 1 (some .boolean) ∈ gU ∧ (yX2_isLost.cls = RX2 ∧ yX2_isLost.cls ≠ "java/lang/invoke/MethodHandle" ∧ yX2_isLost.cls ≠ "java/lang/invoke/VarHandle" ∧ (parseMethodDescriptor yX2_isLost.desc).map (fun d => d.parameters.length) = some 0) := ⟨t_3 (i := 71) rfl rfl, t_3 (i := 72) rfl rfl, t_1 (i := 9) rfl rfl, t_3 (i := 73) rfl rfl, by decide +kernel⟩
theorem mv_X2_startAnew : Cond.instanceMethod yX2_startAnew ∈ gU ∧ Cond.selects RX2 yX2_startAnew yX2_startAnew ∈ gU ∧ Cond.initialized RX2 ∈ gU ∧ Cond.code yX2_startAnew cX2_startAnew 3 (none) ∈ gU ∧ (yX2_startAnew.cls = RX2 ∧ yX2_startAnew.cls ≠ "java/lang/invoke/MethodHandle" ∧ yX2_startAnew.cls ≠ "java/lang/invoke/VarHandle" ∧ (parseMethodDescriptor yX2_startAnew.desc).map (fun d => d.parameters.length) = some 2) := ⟨t_3 (i := 129) rfl rfl, t_3 (i := 130) rfl rfl, t_1 (i := 9) rfl rfl, t_3 (i := 131) rfl rfl, by decide +kernel⟩
theorem mv_X2_giveUp : Cond.instanceMethod yX2_giveUp ∈ gU ∧ Cond.selects RX2 yX2_giveUp yX2_giveUp ∈ gU ∧ Cond.initialized RX2 ∈ gU ∧ Cond.code yX2_giveUp cX2_giveUp 1 (none) ∈ gU ∧ (yX2_giveUp.cls = RX2 ∧ yX2_giveUp.cls ≠ "java/lang/invoke/MethodHandle" ∧ yX2_giveUp.cls ≠ "java/lang/invoke/VarHandle" ∧ (parseMethodDescriptor yX2_giveUp.desc).map (fun d => d.parameters.length) = some 0) := ⟨t_3 (i := 138) rfl rfl, t_3 (i := 139) rfl rfl, t_1 (i := 9) rfl rfl, t_3 (i := 140) rfl rfl, by decide +kernel⟩
theorem mv_X2_hasItems : Cond.instanceMethod yX2_hasItems ∈ gU ∧ Cond.selects RX2 yX2_hasItems yX2_hasItems ∈ gU ∧ Cond.initialized RX2 ∈ gU ∧ Cond.code yX2_hasItems cX2_hasItems 3 (some .boolean) ∈ gU ∧ (yX2_hasItems.cls = RX2 ∧ yX2_hasItems.cls ≠ "java/lang/invoke/MethodHandle" ∧ yX2_hasItems.cls ≠ "java/lang/invoke/VarHandle" ∧ (parseMethodDescriptor yX2_hasItems.desc).map (fun d => d.parameters.length) = some 2) := ⟨t_3 (i := 150) rfl rfl, t_3 (i := 151) rfl rfl, t_1 (i := 9) rfl rfl, t_3 (i := 152) rfl rfl, by decide +kernel⟩
theorem mv_X2_put : Cond.instanceMethod yX2_put ∈ gU ∧ Cond.selects RX2 yX2_put yX2_put ∈ gU ∧ Cond.initialized RX2 ∈ gU ∧ Cond.code yX2_put cX2_put 3 (none) ∈ gU ∧ (yX2_put.cls = RX2 ∧ yX2_put.cls ≠ "java/lang/invoke/MethodHandle" ∧ yX2_put.cls ≠ "java/lang/invoke/VarHandle" ∧ (parseMethodDescriptor yX2_put.desc).map (fun d => d.parameters.length) = some 2) := ⟨t_3 (i := 154) rfl rfl, t_3 (i := 155) rfl rfl, t_1 (i := 9) rfl rfl, t_3 (i := 156) rfl rfl, by decide +kernel⟩
theorem mi_X3_init : Cond.instanceMethod yX3_init ∈ gU ∧ Cond.initialized RX3 ∈ gU ∧ Cond.code yX3_init cX3_init 1 (none) ∈ gU := ⟨t_1 (i := 216) rfl rfl, t_1 (i := 8) rfl rfl, t_1 (i := 217) rfl rfl⟩
theorem ms_X3_mayBe : Cond.static yX3_mayBe ∈ gU ∧ Cond.initialized yX3_mayBe.cls ∈ gU ∧ Cond.code yX3_mayBe cX3_mayBe 3 (some .boolean) ∈ gU ∧ (yX3_mayBe.cls ≠ "java/lang/invoke/MethodHandle" ∧ yX3_mayBe.cls ≠ "java/lang/invoke/VarHandle" ∧ (parseMethodDescriptor yX3_mayBe.desc).map (fun d => d.parameters.length) = some 3) := ⟨t_3 (i := 50) rfl rfl, t_1 (i := 8) rfl rfl, t_3 (i := 51) rfl rfl, by decide +kernel⟩
theorem mv_X3_isFull : Cond.instanceMethod yX3_isFull ∈ gU ∧ Cond.selects RX3 yX3_isFull yX3_isFull ∈ gU ∧ Cond.initialized RX3 ∈ gU ∧ Cond.code yX3_isFull cX3_isFull 1 (some .boolean) ∈ gU ∧ (yX3_isFull.cls = RX3 ∧ yX3_isFull.cls ≠ "java/lang/invoke/MethodHandle" ∧ yX3_isFull.cls ≠ "java/lang/invoke/VarHandle" ∧ (parseMethodDescriptor yX3_isFull.desc).map (fun d => d.parameters.length) = some 0) := ⟨t_3 (i := 54) rfl rfl, t_3 (i := 55) rfl rfl, t_1 (i := 8) rfl rfl, t_3 (i := 56) rfl rfl, by decide +kernel⟩
theorem mv_X3_append : Cond.instanceMethod yX3_append ∈ gU ∧ Cond.selects RX3 yX3_append yX3_append ∈ gU ∧ Cond.initialized RX3 ∈ gU ∧ Cond.code yX3_append cX3_append 4 (none) ∈ gU ∧ (yX3_append.cls = RX3 ∧ yX3_append.cls ≠ "java/lang/invoke/MethodHandle" ∧ yX3_append.cls ≠ "java/lang/invoke/VarHandle" ∧ (parseMethodDescriptor yX3_append.desc).map (fun d => d.parameters.length) = some 3) := ⟨t_3 (i := 58) rfl rfl, t_3 (i := 59) rfl rfl, t_1 (i := 8) rfl rfl, t_3 (i := 60) rfl rfl, by decide +kernel⟩
theorem mv_X3_comeOutIn : Cond.instanceMethod yX3_comeOutIn ∈ gU ∧ Cond.selects RX3 yX3_comeOutIn yX3_comeOutIn ∈ gU ∧ Cond.initialized RX3 ∈ gU ∧ Cond.code yX3_comeOutIn cX3_comeOutIn 5 (some .boolean) ∈ gU ∧ (yX3_comeOutIn.cls = RX3 ∧ yX3_comeOutIn.cls ≠ "java/lang/invoke/MethodHandle" ∧ yX3_comeOutIn.cls ≠ "java/lang/invoke/VarHandle" ∧ (parseMethodDescriptor yX3_comeOutIn.desc).map (fun d => d.parameters.length) = some 2) := ⟨t_3 (i := 83) rfl rfl, t_3 (i := 84) rfl rfl, t_1 (i := 8) rfl rfl, t_3 (i := 85) rfl rfl, by decide +kernel⟩
theorem mi_X4_init : Cond.instanceMethod yX4_init ∈ gU ∧ Cond.initialized RX4 ∈ gU ∧ Cond.code yX4_init cX4_init 1 (none) ∈ gU := ⟨t_1 (i := 196) rfl rfl, t_1 (i := 7) rfl rfl, t_1 (i := 197) rfl rfl⟩
theorem mv_X4_startAnew : Cond.instanceMethod yX4_startAnew ∈ gU ∧ Cond.selects RX4 yX4_startAnew yX4_startAnew ∈ gU ∧ Cond.initialized RX4 ∈ gU ∧ Cond.code yX4_startAnew cX4_startAnew 4 (none) ∈ gU ∧ (yX4_startAnew.cls = RX4 ∧ yX4_startAnew.cls ≠ "java/lang/invoke/MethodHandle" ∧ yX4_startAnew.cls ≠ "java/lang/invoke/VarHandle" ∧ (parseMethodDescriptor yX4_startAnew.desc).map (fun d => d.parameters.length) = some 1) := ⟨t_2 (i := 53) rfl rfl, t_2 (i := 54) rfl rfl, t_1 (i := 7) rfl rfl, t_2 (i := 55) rfl rfl, by decide +kernel⟩
theorem mv_X4_servedBy : Cond.instanceMethod yX4_servedBy ∈ gU ∧ Cond.selects RX4 yX4_servedBy yX4_servedBy ∈ gU ∧ Cond.initialized RX4 ∈ gU ∧ Cond.code yX4_servedBy cX4_servedBy 6 (some .int) ∈ gU ∧ (yX4_servedBy.cls = RX4 ∧ yX4_servedBy.cls ≠ "java/lang/invoke/MethodHandle" ∧ yX4_servedBy.cls ≠ "java/lang/invoke/VarHandle" ∧ (parseMethodDescriptor yX4_servedBy.desc).map (fun d => d.parameters.length) = some 3) := ⟨t_3 (i := 17) rfl rfl, t_3 (i := 18) rfl rfl, t_1 (i := 7) rfl rfl, t_3 (i := 19) rfl rfl, by decide +kernel⟩
theorem mi_X5_init : Cond.instanceMethod yX5_init ∈ gU ∧ Cond.initialized RX5 ∈ gU ∧ Cond.code yX5_init cX5_init 2 (none) ∈ gU := ⟨t_1 (i := 26) rfl rfl, t_1 (i := 2) rfl rfl, t_1 (i := 27) rfl rfl⟩
theorem mv_X5_isFull : Cond.instanceMethod yX5_isFull ∈ gU ∧ Cond.selects RX5 yX5_isFull yX5_isFull ∈ gU ∧ Cond.initialized RX5 ∈ gU ∧ Cond.code yX5_isFull cX5_isFull 1 (some .boolean) ∈ gU ∧ (yX5_isFull.cls = RX5 ∧ yX5_isFull.cls ≠ "java/lang/invoke/MethodHandle" ∧ yX5_isFull.cls ≠ "java/lang/invoke/VarHandle" ∧ (parseMethodDescriptor yX5_isFull.desc).map (fun d => d.parameters.length) = some 0) := ⟨t_2 (i := 145) rfl rfl, t_2 (i := 146) rfl rfl, t_1 (i := 2) rfl rfl, t_2 (i := 147) rfl rfl, by decide +kernel⟩
theorem mv_X5_append : Cond.instanceMethod yX5_append ∈ gU ∧ Cond.selects RX5 yX5_append yX5_append ∈ gU ∧ Cond.initialized RX5 ∈ gU ∧ Cond.code yX5_append cX5_append 2 (none) ∈ gU ∧ (yX5_append.cls = RX5 ∧ yX5_append.cls ≠ "java/lang/invoke/MethodHandle" ∧ yX5_append.cls ≠ "java/lang/invoke/VarHandle" ∧ (parseMethodDescriptor yX5_append.desc).map (fun d => d.parameters.length) = some 1) := ⟨t_2 (i := 149) rfl rfl, t_2 (i := 150) rfl rfl, t_1 (i := 2) rfl rfl, t_2 (i := 151) rfl rfl, by decide +kernel⟩
theorem mv_X5_faultAsRiders : Cond.instanceMethod yX5_faultAsRiders ∈ gU ∧ Cond.selects RX5 yX5_faultAsRiders yX5_faultAsRiders ∈ gU ∧ Cond.initialized RX5 ∈ gU ∧ Cond.code yX5_faultAsRiders cX5_faultAsRiders 2 (some .int) ∈ gU ∧ (yX5_faultAsRiders.cls = RX5 ∧ yX5_faultAsRiders.cls ≠ "java/lang/invoke/MethodHandle" ∧ yX5_faultAsRiders.cls ≠ "java/lang/invoke/VarHandle" ∧ (parseMethodDescriptor yX5_faultAsRiders.desc).map (fun d => d.parameters.length) = some 0) := ⟨t_2 (i := 26) rfl rfl, t_2 (i := 27) rfl rfl, t_1 (i := 2) rfl rfl, t_2 (i := 28) rfl rfl, by decide +kernel⟩
theorem mv_X5_faultAsBag : Cond.instanceMethod yX5_faultAsBag ∈ gU ∧ Cond.selects RX5 yX5_faultAsBag yX5_faultAsBag ∈ gU ∧ Cond.initialized RX5 ∈ gU ∧ Cond.code yX5_faultAsBag cX5_faultAsBag 2 (some .int) ∈ gU ∧ (yX5_faultAsBag.cls = RX5 ∧ yX5_faultAsBag.cls ≠ "java/lang/invoke/MethodHandle" ∧ yX5_faultAsBag.cls ≠ "java/lang/invoke/VarHandle" ∧ (parseMethodDescriptor yX5_faultAsBag.desc).map (fun d => d.parameters.length) = some 0) := ⟨t_2 (i := 41) rfl rfl, t_2 (i := 42) rfl rfl, t_1 (i := 2) rfl rfl, t_2 (i := 43) rfl rfl, by decide +kernel⟩
theorem ms_X5_fitsRider : Cond.static yX5_fitsRider ∈ gU ∧ Cond.initialized yX5_fitsRider.cls ∈ gU ∧ Cond.code yX5_fitsRider cX5_fitsRider 2 (some .boolean) ∈ gU ∧ (yX5_fitsRider.cls ≠ "java/lang/invoke/MethodHandle" ∧ yX5_fitsRider.cls ≠ "java/lang/invoke/VarHandle" ∧ (parseMethodDescriptor yX5_fitsRider.desc).map (fun d => d.parameters.length) = some 2) := ⟨t_2 (i := 30) rfl rfl, t_1 (i := 2) rfl rfl, t_2 (i := 31) rfl rfl, by decide +kernel⟩
theorem ms_X5_kindOf : Cond.static yX5_kindOf ∈ gU ∧ Cond.initialized yX5_kindOf.cls ∈ gU ∧ Cond.code yX5_kindOf cX5_kindOf 1 (some .int) ∈ gU ∧ (yX5_kindOf.cls ≠ "java/lang/invoke/MethodHandle" ∧ yX5_kindOf.cls ≠ "java/lang/invoke/VarHandle" ∧ (parseMethodDescriptor yX5_kindOf.desc).map (fun d => d.parameters.length) = some 1) := ⟨t_2 (i := 45) rfl rfl, t_1 (i := 2) rfl rfl, t_2 (i := 46) rfl rfl, by decide +kernel⟩
theorem mi_X6_init : Cond.instanceMethod yX6_init ∈ gU ∧ Cond.initialized RX6 ∈ gU ∧ Cond.code yX6_init cX6_init 1 (none) ∈ gU := ⟨t_1 (i := 46) rfl rfl, t_1 (i := 4) rfl rfl, t_1 (i := 47) rfl rfl⟩
theorem mv_X6_readRiders : Cond.instanceMethod yX6_readRiders ∈ gU ∧ Cond.selects RX6 yX6_readRiders yX6_readRiders ∈ gU ∧ Cond.initialized RX6 ∈ gU ∧ Cond.code yX6_readRiders cX6_readRiders 3 (none) ∈ gU ∧ (yX6_readRiders.cls = RX6 ∧ yX6_readRiders.cls ≠ "java/lang/invoke/MethodHandle" ∧ yX6_readRiders.cls ≠ "java/lang/invoke/VarHandle" ∧ (parseMethodDescriptor yX6_readRiders.desc).map (fun d => d.parameters.length) = some 1) := ⟨t_2 (i := 19) rfl rfl, t_2 (i := 20) rfl rfl, t_1 (i := 4) rfl rfl, t_2 (i := 21) rfl rfl, by decide +kernel⟩
theorem mv_X6_placeOnBoard : Cond.instanceMethod yX6_placeOnBoard ∈ gU ∧ Cond.selects RX6 yX6_placeOnBoard yX6_placeOnBoard ∈ gU ∧ Cond.initialized RX6 ∈ gU ∧ Cond.code yX6_placeOnBoard cX6_placeOnBoard 3 (none) ∈ gU ∧ (yX6_placeOnBoard.cls = RX6 ∧ yX6_placeOnBoard.cls ≠ "java/lang/invoke/MethodHandle" ∧ yX6_placeOnBoard.cls ≠ "java/lang/invoke/VarHandle" ∧ (parseMethodDescriptor yX6_placeOnBoard.desc).map (fun d => d.parameters.length) = some 1) := ⟨t_2 (i := 34) rfl rfl, t_s (i := 1) rfl rfl, t_1 (i := 4) rfl rfl, t_2 (i := 35) rfl rfl, by decide +kernel⟩
theorem mv_X6_readBag : Cond.instanceMethod yX6_readBag ∈ gU ∧ Cond.selects RX6 yX6_readBag yX6_readBag ∈ gU ∧ Cond.initialized RX6 ∈ gU ∧ Cond.code yX6_readBag cX6_readBag 4 (none) ∈ gU ∧ (yX6_readBag.cls = RX6 ∧ yX6_readBag.cls ≠ "java/lang/invoke/MethodHandle" ∧ yX6_readBag.cls ≠ "java/lang/invoke/VarHandle" ∧ (parseMethodDescriptor yX6_readBag.desc).map (fun d => d.parameters.length) = some 1) := ⟨t_2 (i := 37) rfl rfl, t_2 (i := 38) rfl rfl, t_1 (i := 4) rfl rfl, t_2 (i := 39) rfl rfl, by decide +kernel⟩
theorem mv_X6_mayChange : Cond.instanceMethod yX6_mayChange ∈ gU ∧ Cond.selects RX6 yX6_mayChange yX6_mayChange ∈ gU ∧ Cond.initialized RX6 ∈ gU ∧ Cond.code yX6_mayChange cX6_mayChange 5 (some .boolean) ∈ gU ∧ (yX6_mayChange.cls = RX6 ∧ yX6_mayChange.cls ≠ "java/lang/invoke/MethodHandle" ∧ yX6_mayChange.cls ≠ "java/lang/invoke/VarHandle" ∧ (parseMethodDescriptor yX6_mayChange.desc).map (fun d => d.parameters.length) = some 3) := ⟨t_2 (i := 57) rfl rfl, t_2 (i := 58) rfl rfl, t_1 (i := 4) rfl rfl, t_2 (i := 59) rfl rfl, by decide +kernel⟩
theorem mv_X6_isRing : Cond.instanceMethod yX6_isRing ∈ gU ∧ Cond.selects RX6 yX6_isRing yX6_isRing ∈ gU ∧ Cond.initialized RX6 ∈ gU ∧ Cond.code yX6_isRing cX6_isRing 4 (some .boolean) ∈ gU ∧ (yX6_isRing.cls = RX6 ∧ yX6_isRing.cls ≠ "java/lang/invoke/MethodHandle" ∧ yX6_isRing.cls ≠ "java/lang/invoke/VarHandle" ∧ (parseMethodDescriptor yX6_isRing.desc).map (fun d => d.parameters.length) = some 3) := ⟨t_3 (i := 3) rfl rfl, t_3 (i := 4) rfl rfl, t_1 (i := 4) rfl rfl, t_3 (i := 5) rfl rfl, by decide +kernel⟩
theorem mi_X7_init : Cond.instanceMethod yX7_init ∈ gU ∧ Cond.initialized RX7 ∈ gU ∧ Cond.code yX7_init cX7_init 1 (none) ∈ gU := ⟨t_1 (i := 17) rfl rfl, t_1 (i := 1) rfl rfl, t_1 (i := 18) rfl rfl⟩
theorem mv_X7_type : Cond.instanceMethod yX7_type ∈ gU ∧ Cond.selects RX7 yX7_type yX7_type ∈ gU ∧ Cond.initialized RX7 ∈ gU ∧ Cond.code yX7_type cX7_type 3 (some .int) ∈ gU ∧ (yX7_type.cls = RX7 ∧ yX7_type.cls ≠ "java/lang/invoke/MethodHandle" ∧ yX7_type.cls ≠ "java/lang/invoke/VarHandle" ∧ (parseMethodDescriptor yX7_type.desc).map (fun d => d.parameters.length) = some 2) := ⟨t_2 (i := 138) rfl rfl, t_2 (i := 139) rfl rfl, t_1 (i := 1) rfl rfl, t_2 (i := 140) rfl rfl, by decide +kernel⟩
theorem mv_X7_wipe : Cond.instanceMethod yX7_wipe ∈ gU ∧ Cond.selects RX7 yX7_wipe yX7_wipe ∈ gU ∧ Cond.initialized RX7 ∈ gU ∧ Cond.code yX7_wipe cX7_wipe 3 (some .int) ∈ gU ∧ (yX7_wipe.cls = RX7 ∧ yX7_wipe.cls ≠ "java/lang/invoke/MethodHandle" ∧ yX7_wipe.cls ≠ "java/lang/invoke/VarHandle" ∧ (parseMethodDescriptor yX7_wipe.desc).map (fun d => d.parameters.length) = some 1) := ⟨t_2 (i := 154) rfl rfl, t_2 (i := 155) rfl rfl, t_1 (i := 1) rfl rfl, t_2 (i := 156) rfl rfl, by decide +kernel⟩
theorem mv_X7_undo : Cond.instanceMethod yX7_undo ∈ gU ∧ Cond.selects RX7 yX7_undo yX7_undo ∈ gU ∧ Cond.initialized RX7 ∈ gU ∧ Cond.code yX7_undo cX7_undo 2 (some .int) ∈ gU ∧ (yX7_undo.cls = RX7 ∧ yX7_undo.cls ≠ "java/lang/invoke/MethodHandle" ∧ yX7_undo.cls ≠ "java/lang/invoke/VarHandle" ∧ (parseMethodDescriptor yX7_undo.desc).map (fun d => d.parameters.length) = some 1) := ⟨t_2 (i := 158) rfl rfl, t_2 (i := 159) rfl rfl, t_1 (i := 1) rfl rfl, t_2 (i := 160) rfl rfl, by decide +kernel⟩
theorem mv_X7_fault : Cond.instanceMethod yX7_fault ∈ gU ∧ Cond.selects RX7 yX7_fault yX7_fault ∈ gU ∧ Cond.initialized RX7 ∈ gU ∧ Cond.code yX7_fault cX7_fault 2 (some .int) ∈ gU ∧ (yX7_fault.cls = RX7 ∧ yX7_fault.cls ≠ "java/lang/invoke/MethodHandle" ∧ yX7_fault.cls ≠ "java/lang/invoke/VarHandle" ∧ (parseMethodDescriptor yX7_fault.desc).map (fun d => d.parameters.length) = some 1) := ⟨t_2 (i := 162) rfl rfl, t_2 (i := 163) rfl rfl, t_1 (i := 1) rfl rfl, t_2 (i := 164) rfl rfl, by decide +kernel⟩
theorem mv_X7_rider : Cond.instanceMethod yX7_rider ∈ gU ∧ Cond.selects RX7 yX7_rider yX7_rider ∈ gU ∧ Cond.initialized RX7 ∈ gU ∧ Cond.code yX7_rider cX7_rider 3 (some .int) ∈ gU ∧ (yX7_rider.cls = RX7 ∧ yX7_rider.cls ≠ "java/lang/invoke/MethodHandle" ∧ yX7_rider.cls ≠ "java/lang/invoke/VarHandle" ∧ (parseMethodDescriptor yX7_rider.desc).map (fun d => d.parameters.length) = some 2) := ⟨t_2 (i := 168) rfl rfl, t_2 (i := 169) rfl rfl, t_1 (i := 1) rfl rfl, t_2 (i := 170) rfl rfl, by decide +kernel⟩
theorem mv_X7_worth : Cond.instanceMethod yX7_worth ∈ gU ∧ Cond.selects RX7 yX7_worth yX7_worth ∈ gU ∧ Cond.initialized RX7 ∈ gU ∧ Cond.code yX7_worth cX7_worth 4 (some .int) ∈ gU ∧ (yX7_worth.cls = RX7 ∧ yX7_worth.cls ≠ "java/lang/invoke/MethodHandle" ∧ yX7_worth.cls ≠ "java/lang/invoke/VarHandle" ∧ (parseMethodDescriptor yX7_worth.desc).map (fun d => d.parameters.length) = some 2) := ⟨t_2 (i := 172) rfl rfl, t_2 (i := 173) rfl rfl, t_1 (i := 1) rfl rfl, t_2 (i := 174) rfl rfl, by decide +kernel⟩
theorem mv_X7_set : Cond.instanceMethod yX7_set ∈ gU ∧ Cond.selects RX7 yX7_set yX7_set ∈ gU ∧ Cond.initialized RX7 ∈ gU ∧ Cond.code yX7_set cX7_set 3 (some .int) ∈ gU ∧ (yX7_set.cls = RX7 ∧ yX7_set.cls ≠ "java/lang/invoke/MethodHandle" ∧ yX7_set.cls ≠ "java/lang/invoke/VarHandle" ∧ (parseMethodDescriptor yX7_set.desc).map (fun d => d.parameters.length) = some 2) := ⟨t_2 (i := 176) rfl rfl, t_2 (i := 177) rfl rfl, t_1 (i := 1) rfl rfl, t_2 (i := 178) rfl rfl, by decide +kernel⟩
theorem mv_X7_has : Cond.instanceMethod yX7_has ∈ gU ∧ Cond.selects RX7 yX7_has yX7_has ∈ gU ∧ Cond.initialized RX7 ∈ gU ∧ Cond.code yX7_has cX7_has 3 (some .int) ∈ gU ∧ (yX7_has.cls = RX7 ∧ yX7_has.cls ≠ "java/lang/invoke/MethodHandle" ∧ yX7_has.cls ≠ "java/lang/invoke/VarHandle" ∧ (parseMethodDescriptor yX7_has.desc).map (fun d => d.parameters.length) = some 2) := ⟨t_2 (i := 192) rfl rfl, t_2 (i := 193) rfl rfl, t_1 (i := 1) rfl rfl, t_2 (i := 194) rfl rfl, by decide +kernel⟩
theorem mv_X7_torn : Cond.instanceMethod yX7_torn ∈ gU ∧ Cond.selects RX7 yX7_torn yX7_torn ∈ gU ∧ Cond.initialized RX7 ∈ gU ∧ Cond.code yX7_torn cX7_torn 3 (some .int) ∈ gU ∧ (yX7_torn.cls = RX7 ∧ yX7_torn.cls ≠ "java/lang/invoke/MethodHandle" ∧ yX7_torn.cls ≠ "java/lang/invoke/VarHandle" ∧ (parseMethodDescriptor yX7_torn.desc).map (fun d => d.parameters.length) = some 2) := ⟨t_2 (i := 203) rfl rfl, t_2 (i := 204) rfl rfl, t_1 (i := 1) rfl rfl, t_2 (i := 205) rfl rfl, by decide +kernel⟩
theorem mv_X7_bag : Cond.instanceMethod yX7_bag ∈ gU ∧ Cond.selects RX7 yX7_bag yX7_bag ∈ gU ∧ Cond.initialized RX7 ∈ gU ∧ Cond.code yX7_bag cX7_bag 4 (some .int) ∈ gU ∧ (yX7_bag.cls = RX7 ∧ yX7_bag.cls ≠ "java/lang/invoke/MethodHandle" ∧ yX7_bag.cls ≠ "java/lang/invoke/VarHandle" ∧ (parseMethodDescriptor yX7_bag.desc).map (fun d => d.parameters.length) = some 2) := ⟨t_2 (i := 211) rfl rfl, t_2 (i := 212) rfl rfl, t_1 (i := 1) rfl rfl, t_2 (i := 213) rfl rfl, by decide +kernel⟩
theorem mv_X7_gets : Cond.instanceMethod yX7_gets ∈ gU ∧ Cond.selects RX7 yX7_gets yX7_gets ∈ gU ∧ Cond.initialized RX7 ∈ gU ∧ Cond.code yX7_gets cX7_gets 3 (some .int) ∈ gU ∧ (yX7_gets.cls = RX7 ∧ yX7_gets.cls ≠ "java/lang/invoke/MethodHandle" ∧ yX7_gets.cls ≠ "java/lang/invoke/VarHandle" ∧ (parseMethodDescriptor yX7_gets.desc).map (fun d => d.parameters.length) = some 1) := ⟨t_2 (i := 219) rfl rfl, t_2 (i := 220) rfl rfl, t_1 (i := 1) rfl rfl, t_2 (i := 221) rfl rfl, by decide +kernel⟩
theorem mv_X7_first : Cond.instanceMethod yX7_first ∈ gU ∧ Cond.selects RX7 yX7_first yX7_first ∈ gU ∧ Cond.initialized RX7 ∈ gU ∧ Cond.code yX7_first cX7_first 2 (some .int) ∈ gU ∧ (yX7_first.cls = RX7 ∧ yX7_first.cls ≠ "java/lang/invoke/MethodHandle" ∧ yX7_first.cls ≠ "java/lang/invoke/VarHandle" ∧ (parseMethodDescriptor yX7_first.desc).map (fun d => d.parameters.length) = some 1) := ⟨t_2 (i := 227) rfl rfl, t_2 (i := 228) rfl rfl, t_1 (i := 1) rfl rfl, t_2 (i := 229) rfl rfl, by decide +kernel⟩
theorem mv_X7_still : Cond.instanceMethod yX7_still ∈ gU ∧ Cond.selects RX7 yX7_still yX7_still ∈ gU ∧ Cond.initialized RX7 ∈ gU ∧ Cond.code yX7_still cX7_still 1 (some .int) ∈ gU ∧ (yX7_still.cls = RX7 ∧ yX7_still.cls ≠ "java/lang/invoke/MethodHandle" ∧ yX7_still.cls ≠ "java/lang/invoke/VarHandle" ∧ (parseMethodDescriptor yX7_still.desc).map (fun d => d.parameters.length) = some 0) := ⟨t_2 (i := 231) rfl rfl, t_2 (i := 232) rfl rfl, t_1 (i := 1) rfl rfl, t_2 (i := 233) rfl rfl, by decide +kernel⟩
theorem mv_X7_served : Cond.instanceMethod yX7_served ∈ gU ∧ Cond.selects RX7 yX7_served yX7_served ∈ gU ∧ Cond.initialized RX7 ∈ gU ∧ Cond.code yX7_served cX7_served 2 (some .int) ∈ gU ∧ (yX7_served.cls = RX7 ∧ yX7_served.cls ≠ "java/lang/invoke/MethodHandle" ∧ yX7_served.cls ≠ "java/lang/invoke/VarHandle" ∧ (parseMethodDescriptor yX7_served.desc).map (fun d => d.parameters.length) = some 1) := ⟨t_2 (i := 235) rfl rfl, t_2 (i := 236) rfl rfl, t_1 (i := 1) rfl rfl, t_2 (i := 237) rfl rfl, by decide +kernel⟩
theorem mv_X7_rings : Cond.instanceMethod yX7_rings ∈ gU ∧ Cond.selects RX7 yX7_rings yX7_rings ∈ gU ∧ Cond.initialized RX7 ∈ gU ∧ Cond.code yX7_rings cX7_rings 7 (some .int) ∈ gU ∧ (yX7_rings.cls = RX7 ∧ yX7_rings.cls ≠ "java/lang/invoke/MethodHandle" ∧ yX7_rings.cls ≠ "java/lang/invoke/VarHandle" ∧ (parseMethodDescriptor yX7_rings.desc).map (fun d => d.parameters.length) = some 1) := ⟨t_2 (i := 239) rfl rfl, t_3 (i := 0) rfl rfl, t_1 (i := 1) rfl rfl, t_3 (i := 1) rfl rfl, by decide +kernel⟩
theorem mv_X7_open : Cond.instanceMethod yX7_open ∈ gU ∧ Cond.selects RX7 yX7_open yX7_open ∈ gU ∧ Cond.initialized RX7 ∈ gU ∧ Cond.code yX7_open cX7_open 5 (some .int) ∈ gU ∧ (yX7_open.cls = RX7 ∧ yX7_open.cls ≠ "java/lang/invoke/MethodHandle" ∧ yX7_open.cls ≠ "java/lang/invoke/VarHandle" ∧ (parseMethodDescriptor yX7_open.desc).map (fun d => d.parameters.length) = some 2) := ⟨t_3 (i := 7) rfl rfl, t_3 (i := 8) rfl rfl, t_1 (i := 1) rfl rfl, t_3 (i := 9) rfl rfl, by decide +kernel⟩
theorem mv_X7_least : Cond.instanceMethod yX7_least ∈ gU ∧ Cond.selects RX7 yX7_least yX7_least ∈ gU ∧ Cond.initialized RX7 ∈ gU ∧ Cond.code yX7_least cX7_least 6 (some .int) ∈ gU ∧ (yX7_least.cls = RX7 ∧ yX7_least.cls ≠ "java/lang/invoke/MethodHandle" ∧ yX7_least.cls ≠ "java/lang/invoke/VarHandle" ∧ (parseMethodDescriptor yX7_least.desc).map (fun d => d.parameters.length) = some 1) := ⟨t_3 (i := 25) rfl rfl, t_3 (i := 26) rfl rfl, t_1 (i := 1) rfl rfl, t_3 (i := 27) rfl rfl, by decide +kernel⟩
theorem mv_X7_top : Cond.instanceMethod yX7_top ∈ gU ∧ Cond.selects RX7 yX7_top yX7_top ∈ gU ∧ Cond.initialized RX7 ∈ gU ∧ Cond.code yX7_top cX7_top 6 (some .int) ∈ gU ∧ (yX7_top.cls = RX7 ∧ yX7_top.cls ≠ "java/lang/invoke/MethodHandle" ∧ yX7_top.cls ≠ "java/lang/invoke/VarHandle" ∧ (parseMethodDescriptor yX7_top.desc).map (fun d => d.parameters.length) = some 1) := ⟨t_3 (i := 38) rfl rfl, t_3 (i := 39) rfl rfl, t_1 (i := 1) rfl rfl, t_3 (i := 40) rfl rfl, by decide +kernel⟩
theorem mv_X7_seen : Cond.instanceMethod yX7_seen ∈ gU ∧ Cond.selects RX7 yX7_seen yX7_seen ∈ gU ∧ Cond.initialized RX7 ∈ gU ∧ Cond.code yX7_seen cX7_seen 4 (some .int) ∈ gU ∧ (yX7_seen.cls = RX7 ∧ yX7_seen.cls ≠ "java/lang/invoke/MethodHandle" ∧ yX7_seen.cls ≠ "java/lang/invoke/VarHandle" ∧ (parseMethodDescriptor yX7_seen.desc).map (fun d => d.parameters.length) = some 3) := ⟨t_3 (i := 46) rfl rfl, t_3 (i := 47) rfl rfl, t_1 (i := 1) rfl rfl, t_3 (i := 48) rfl rfl, by decide +kernel⟩
theorem mv_X7_forget : Cond.instanceMethod yX7_forget ∈ gU ∧ Cond.selects RX7 yX7_forget yX7_forget ∈ gU ∧ Cond.initialized RX7 ∈ gU ∧ Cond.code yX7_forget cX7_forget 2 (some .int) ∈ gU ∧ (yX7_forget.cls = RX7 ∧ yX7_forget.cls ≠ "java/lang/invoke/MethodHandle" ∧ yX7_forget.cls ≠ "java/lang/invoke/VarHandle" ∧ (parseMethodDescriptor yX7_forget.desc).map (fun d => d.parameters.length) = some 0) := ⟨t_3 (i := 63) rfl rfl, t_3 (i := 64) rfl rfl, t_1 (i := 1) rfl rfl, t_3 (i := 65) rfl rfl, by decide +kernel⟩
theorem mv_X7_read : Cond.instanceMethod yX7_read ∈ gU ∧ Cond.selects RX7 yX7_read yX7_read ∈ gU ∧ Cond.initialized RX7 ∈ gU ∧ Cond.code yX7_read cX7_read 5 (some .int) ∈ gU ∧ (yX7_read.cls = RX7 ∧ yX7_read.cls ≠ "java/lang/invoke/MethodHandle" ∧ yX7_read.cls ≠ "java/lang/invoke/VarHandle" ∧ (parseMethodDescriptor yX7_read.desc).map (fun d => d.parameters.length) = some 1) := ⟨t_3 (i := 67) rfl rfl, t_3 (i := 68) rfl rfl, t_1 (i := 1) rfl rfl, t_3 (i := 69) rfl rfl, by decide +kernel⟩
theorem mv_X7_had : Cond.instanceMethod yX7_had ∈ gU ∧ Cond.selects RX7 yX7_had yX7_had ∈ gU ∧ Cond.initialized RX7 ∈ gU ∧ Cond.code yX7_had cX7_had 4 (some .int) ∈ gU ∧ (yX7_had.cls = RX7 ∧ yX7_had.cls ≠ "java/lang/invoke/MethodHandle" ∧ yX7_had.cls ≠ "java/lang/invoke/VarHandle" ∧ (parseMethodDescriptor yX7_had.desc).map (fun d => d.parameters.length) = some 1) := ⟨t_3 (i := 79) rfl rfl, t_3 (i := 80) rfl rfl, t_1 (i := 1) rfl rfl, t_3 (i := 81) rfl rfl, by decide +kernel⟩
theorem mv_X7_was : Cond.instanceMethod yX7_was ∈ gU ∧ Cond.selects RX7 yX7_was yX7_was ∈ gU ∧ Cond.initialized RX7 ∈ gU ∧ Cond.code yX7_was cX7_was 3 (some .int) ∈ gU ∧ (yX7_was.cls = RX7 ∧ yX7_was.cls ≠ "java/lang/invoke/MethodHandle" ∧ yX7_was.cls ≠ "java/lang/invoke/VarHandle" ∧ (parseMethodDescriptor yX7_was.desc).map (fun d => d.parameters.length) = some 0) := ⟨t_3 (i := 88) rfl rfl, t_3 (i := 89) rfl rfl, t_1 (i := 1) rfl rfl, t_3 (i := 90) rfl rfl, by decide +kernel⟩
theorem mv_X7_ask : Cond.instanceMethod yX7_ask ∈ gU ∧ Cond.selects RX7 yX7_ask yX7_ask ∈ gU ∧ Cond.initialized RX7 ∈ gU ∧ Cond.code yX7_ask cX7_ask 6 (some .int) ∈ gU ∧ (yX7_ask.cls = RX7 ∧ yX7_ask.cls ≠ "java/lang/invoke/MethodHandle" ∧ yX7_ask.cls ≠ "java/lang/invoke/VarHandle" ∧ (parseMethodDescriptor yX7_ask.desc).map (fun d => d.parameters.length) = some 1) := ⟨t_3 (i := 92) rfl rfl, t_3 (i := 93) rfl rfl, t_1 (i := 1) rfl rfl, t_3 (i := 94) rfl rfl, by decide +kernel⟩
theorem mv_X7_maybe : Cond.instanceMethod yX7_maybe ∈ gU ∧ Cond.selects RX7 yX7_maybe yX7_maybe ∈ gU ∧ Cond.initialized RX7 ∈ gU ∧ Cond.code yX7_maybe cX7_maybe 11 (some .long) ∈ gU ∧ (yX7_maybe.cls = RX7 ∧ yX7_maybe.cls ≠ "java/lang/invoke/MethodHandle" ∧ yX7_maybe.cls ≠ "java/lang/invoke/VarHandle" ∧ (parseMethodDescriptor yX7_maybe.desc).map (fun d => d.parameters.length) = some 4) := ⟨t_3 (i := 109) rfl rfl, t_3 (i := 110) rfl rfl, t_1 (i := 1) rfl rfl, t_3 (i := 111) rfl rfl, by decide +kernel⟩
theorem mv_X7_depot : Cond.instanceMethod yX7_depot ∈ gU ∧ Cond.selects RX7 yX7_depot yX7_depot ∈ gU ∧ Cond.initialized RX7 ∈ gU ∧ Cond.code yX7_depot cX7_depot 6 (some .int) ∈ gU ∧ (yX7_depot.cls = RX7 ∧ yX7_depot.cls ≠ "java/lang/invoke/MethodHandle" ∧ yX7_depot.cls ≠ "java/lang/invoke/VarHandle" ∧ (parseMethodDescriptor yX7_depot.desc).map (fun d => d.parameters.length) = some 3) := ⟨t_3 (i := 119) rfl rfl, t_3 (i := 120) rfl rfl, t_1 (i := 1) rfl rfl, t_3 (i := 121) rfl rfl, by decide +kernel⟩
theorem mv_X7_sheet : Cond.instanceMethod yX7_sheet ∈ gU ∧ Cond.selects RX7 yX7_sheet yX7_sheet ∈ gU ∧ Cond.initialized RX7 ∈ gU ∧ Cond.code yX7_sheet cX7_sheet 4 (some .int) ∈ gU ∧ (yX7_sheet.cls = RX7 ∧ yX7_sheet.cls ≠ "java/lang/invoke/MethodHandle" ∧ yX7_sheet.cls ≠ "java/lang/invoke/VarHandle" ∧ (parseMethodDescriptor yX7_sheet.desc).map (fun d => d.parameters.length) = some 3) := ⟨t_3 (i := 125) rfl rfl, t_3 (i := 126) rfl rfl, t_1 (i := 1) rfl rfl, t_3 (i := 127) rfl rfl, by decide +kernel⟩
theorem mv_X7_lose : Cond.instanceMethod yX7_lose ∈ gU ∧ Cond.selects RX7 yX7_lose yX7_lose ∈ gU ∧ Cond.initialized RX7 ∈ gU ∧ Cond.code yX7_lose cX7_lose 3 (some .int) ∈ gU ∧ (yX7_lose.cls = RX7 ∧ yX7_lose.cls ≠ "java/lang/invoke/MethodHandle" ∧ yX7_lose.cls ≠ "java/lang/invoke/VarHandle" ∧ (parseMethodDescriptor yX7_lose.desc).map (fun d => d.parameters.length) = some 1) := ⟨t_3 (i := 134) rfl rfl, t_3 (i := 135) rfl rfl, t_1 (i := 1) rfl rfl, t_3 (i := 136) rfl rfl, by decide +kernel⟩
theorem mv_X7_lay : Cond.instanceMethod yX7_lay ∈ gU ∧ Cond.selects RX7 yX7_lay yX7_lay ∈ gU ∧ Cond.initialized RX7 ∈ gU ∧ Cond.code yX7_lay cX7_lay 6 (some .int) ∈ gU ∧ (yX7_lay.cls = RX7 ∧ yX7_lay.cls ≠ "java/lang/invoke/MethodHandle" ∧ yX7_lay.cls ≠ "java/lang/invoke/VarHandle" ∧ (parseMethodDescriptor yX7_lay.desc).map (fun d => d.parameters.length) = some 4) := ⟨t_3 (i := 142) rfl rfl, t_3 (i := 143) rfl rfl, t_1 (i := 1) rfl rfl, t_3 (i := 144) rfl rfl, by decide +kernel⟩
theorem mv_X7_get : Cond.instanceMethod yX7_get ∈ gU ∧ Cond.selects RX7 yX7_get yX7_get ∈ gU ∧ Cond.initialized RX7 ∈ gU ∧ Cond.code yX7_get cX7_get 4 (some .int) ∈ gU ∧ (yX7_get.cls = RX7 ∧ yX7_get.cls ≠ "java/lang/invoke/MethodHandle" ∧ yX7_get.cls ≠ "java/lang/invoke/VarHandle" ∧ (parseMethodDescriptor yX7_get.desc).map (fun d => d.parameters.length) = some 3) := ⟨t_3 (i := 158) rfl rfl, t_3 (i := 159) rfl rfl, t_1 (i := 1) rfl rfl, t_3 (i := 160) rfl rfl, by decide +kernel⟩
theorem mv_X7_copy : Cond.instanceMethod yX7_copy ∈ gU ∧ Cond.selects RX7 yX7_copy yX7_copy ∈ gU ∧ Cond.initialized RX7 ∈ gU ∧ Cond.code yX7_copy cX7_copy 6 (some .int) ∈ gU ∧ (yX7_copy.cls = RX7 ∧ yX7_copy.cls ≠ "java/lang/invoke/MethodHandle" ∧ yX7_copy.cls ≠ "java/lang/invoke/VarHandle" ∧ (parseMethodDescriptor yX7_copy.desc).map (fun d => d.parameters.length) = some 5) := ⟨t_3 (i := 163) rfl rfl, t_3 (i := 164) rfl rfl, t_1 (i := 1) rfl rfl, t_3 (i := 165) rfl rfl, by decide +kernel⟩
theorem mv_X7_write : Cond.instanceMethod yX7_write ∈ gU ∧ Cond.selects RX7 yX7_write yX7_write ∈ gU ∧ Cond.initialized RX7 ∈ gU ∧ Cond.code yX7_write cX7_write 6 (some .int) ∈ gU ∧ (yX7_write.cls = RX7 ∧ yX7_write.cls ≠ "java/lang/invoke/MethodHandle" ∧ yX7_write.cls ≠ "java/lang/invoke/VarHandle" ∧ (parseMethodDescriptor yX7_write.desc).map (fun d => d.parameters.length) = some 2) := ⟨t_3 (i := 168) rfl rfl, t_3 (i := 169) rfl rfl, t_1 (i := 1) rfl rfl, t_3 (i := 170) rfl rfl, by decide +kernel⟩
theorem mv_X7_count : Cond.instanceMethod yX7_count ∈ gU ∧ Cond.selects RX7 yX7_count yX7_count ∈ gU ∧ Cond.initialized RX7 ∈ gU ∧ Cond.code yX7_count cX7_count 2 (some .int) ∈ gU ∧ (yX7_count.cls = RX7 ∧ yX7_count.cls ≠ "java/lang/invoke/MethodHandle" ∧ yX7_count.cls ≠ "java/lang/invoke/VarHandle" ∧ (parseMethodDescriptor yX7_count.desc).map (fun d => d.parameters.length) = some 1) := ⟨t_3 (i := 173) rfl rfl, t_3 (i := 174) rfl rfl, t_1 (i := 1) rfl rfl, t_3 (i := 175) rfl rfl, by decide +kernel⟩
theorem mv_X7_digest : Cond.instanceMethod yX7_digest ∈ gU ∧ Cond.selects RX7 yX7_digest yX7_digest ∈ gU ∧ Cond.initialized RX7 ∈ gU ∧ Cond.code yX7_digest cX7_digest 5 (some .long) ∈ gU ∧ (yX7_digest.cls = RX7 ∧ yX7_digest.cls ≠ "java/lang/invoke/MethodHandle" ∧ yX7_digest.cls ≠ "java/lang/invoke/VarHandle" ∧ (parseMethodDescriptor yX7_digest.desc).map (fun d => d.parameters.length) = some 0) := ⟨t_3 (i := 177) rfl rfl, t_3 (i := 178) rfl rfl, t_1 (i := 1) rfl rfl, t_3 (i := 179) rfl rfl, by decide +kernel⟩
theorem ms_X7_isOutside : Cond.static yX7_isOutside ∈ gU ∧ Cond.initialized yX7_isOutside.cls ∈ gU ∧ Cond.code yX7_isOutside cX7_isOutside 2 (some .boolean) ∈ gU ∧ (yX7_isOutside.cls ≠ "java/lang/invoke/MethodHandle" ∧ yX7_isOutside.cls ≠ "java/lang/invoke/VarHandle" ∧ (parseMethodDescriptor yX7_isOutside.desc).map (fun d => d.parameters.length) = some 2) := ⟨t_2 (i := 142) rfl rfl, t_1 (i := 1) rfl rfl, t_2 (i := 143) rfl rfl, by decide +kernel⟩
theorem ms_X7_mix : Cond.static yX7_mix ∈ gU ∧ Cond.initialized yX7_mix.cls ∈ gU ∧ Cond.code yX7_mix cX7_mix 4 (some .long) ∈ gU ∧ (yX7_mix.cls ≠ "java/lang/invoke/MethodHandle" ∧ yX7_mix.cls ≠ "java/lang/invoke/VarHandle" ∧ (parseMethodDescriptor yX7_mix.desc).map (fun d => d.parameters.length) = some 2) := ⟨t_3 (i := 183) rfl rfl, t_1 (i := 1) rfl rfl, t_3 (i := 184) rfl rfl, by decide +kernel⟩
theorem mv_X7_tellAnew : Cond.instanceMethod yX7_tellAnew ∈ gU ∧ Cond.selects RX7 yX7_tellAnew yX7_tellAnew ∈ gU ∧ Cond.initialized RX7 ∈ gU ∧ Cond.code yX7_tellAnew cX7_tellAnew 1 (none) ∈ gU ∧ (yX7_tellAnew.cls = RX7 ∧ yX7_tellAnew.cls ≠ "java/lang/invoke/MethodHandle" ∧ yX7_tellAnew.cls ≠ "java/lang/invoke/VarHandle" ∧ (parseMethodDescriptor yX7_tellAnew.desc).map (fun d => d.parameters.length) = some 0) := ⟨t_2 (i := 16) rfl rfl, t_s (i := 0) rfl rfl, t_1 (i := 1) rfl rfl, t_2 (i := 17) rfl rfl, by decide +kernel⟩
theorem mv_X7_tellEven : Cond.instanceMethod yX7_tellEven ∈ gU ∧ Cond.selects RX7 yX7_tellEven yX7_tellEven ∈ gU ∧ Cond.initialized RX7 ∈ gU ∧ Cond.code yX7_tellEven cX7_tellEven 3 (some .int) ∈ gU ∧ (yX7_tellEven.cls = RX7 ∧ yX7_tellEven.cls ≠ "java/lang/invoke/MethodHandle" ∧ yX7_tellEven.cls ≠ "java/lang/invoke/VarHandle" ∧ (parseMethodDescriptor yX7_tellEven.desc).map (fun d => d.parameters.length) = some 1) := ⟨t_2 (i := 181) rfl rfl, t_s (i := 7) rfl rfl, t_1 (i := 1) rfl rfl, t_2 (i := 182) rfl rfl, by decide +kernel⟩
theorem mv_X7_tellChanges : Cond.instanceMethod yX7_tellChanges ∈ gU ∧ Cond.selects RX7 yX7_tellChanges yX7_tellChanges ∈ gU ∧ Cond.initialized RX7 ∈ gU ∧ Cond.code yX7_tellChanges cX7_tellChanges 3 (some .int) ∈ gU ∧ (yX7_tellChanges.cls = RX7 ∧ yX7_tellChanges.cls ≠ "java/lang/invoke/MethodHandle" ∧ yX7_tellChanges.cls ≠ "java/lang/invoke/VarHandle" ∧ (parseMethodDescriptor yX7_tellChanges.desc).map (fun d => d.parameters.length) = some 1) := ⟨t_2 (i := 185) rfl rfl, t_s (i := 8) rfl rfl, t_1 (i := 1) rfl rfl, t_2 (i := 186) rfl rfl, by decide +kernel⟩
theorem mv_X7_tellForgets : Cond.instanceMethod yX7_tellForgets ∈ gU ∧ Cond.selects RX7 yX7_tellForgets yX7_tellForgets ∈ gU ∧ Cond.initialized RX7 ∈ gU ∧ Cond.code yX7_tellForgets cX7_tellForgets 3 (some .int) ∈ gU ∧ (yX7_tellForgets.cls = RX7 ∧ yX7_tellForgets.cls ≠ "java/lang/invoke/MethodHandle" ∧ yX7_tellForgets.cls ≠ "java/lang/invoke/VarHandle" ∧ (parseMethodDescriptor yX7_tellForgets.desc).map (fun d => d.parameters.length) = some 1) := ⟨t_2 (i := 189) rfl rfl, t_s (i := 9) rfl rfl, t_1 (i := 1) rfl rfl, t_2 (i := 190) rfl rfl, by decide +kernel⟩
theorem mv_X7_rideWithEven : Cond.instanceMethod yX7_rideWithEven ∈ gU ∧ Cond.selects RX7 yX7_rideWithEven yX7_rideWithEven ∈ gU ∧ Cond.initialized RX7 ∈ gU ∧ Cond.code yX7_rideWithEven cX7_rideWithEven 2 (none) ∈ gU ∧ (yX7_rideWithEven.cls = RX7 ∧ yX7_rideWithEven.cls ≠ "java/lang/invoke/MethodHandle" ∧ yX7_rideWithEven.cls ≠ "java/lang/invoke/VarHandle" ∧ (parseMethodDescriptor yX7_rideWithEven.desc).map (fun d => d.parameters.length) = some 1) := ⟨t_3 (i := 30) rfl rfl, t_s (i := 10) rfl rfl, t_1 (i := 1) rfl rfl, t_3 (i := 31) rfl rfl, by decide +kernel⟩
theorem mv_X7_clearAlike : Cond.instanceMethod yX7_clearAlike ∈ gU ∧ Cond.selects RX7 yX7_clearAlike yX7_clearAlike ∈ gU ∧ Cond.initialized RX7 ∈ gU ∧ Cond.code yX7_clearAlike cX7_clearAlike 2 (none) ∈ gU ∧ (yX7_clearAlike.cls = RX7 ∧ yX7_clearAlike.cls ≠ "java/lang/invoke/MethodHandle" ∧ yX7_clearAlike.cls ≠ "java/lang/invoke/VarHandle" ∧ (parseMethodDescriptor yX7_clearAlike.desc).map (fun d => d.parameters.length) = some 0) := ⟨t_3 (i := 97) rfl rfl, t_s (i := 12) rfl rfl, t_1 (i := 1) rfl rfl, t_3 (i := 98) rfl rfl, by decide +kernel⟩
theorem mv_X7_countAlike : Cond.instanceMethod yX7_countAlike ∈ gU ∧ Cond.selects RX7 yX7_countAlike yX7_countAlike ∈ gU ∧ Cond.initialized RX7 ∈ gU ∧ Cond.code yX7_countAlike cX7_countAlike 4 (none) ∈ gU ∧ (yX7_countAlike.cls = RX7 ∧ yX7_countAlike.cls ≠ "java/lang/invoke/MethodHandle" ∧ yX7_countAlike.cls ≠ "java/lang/invoke/VarHandle" ∧ (parseMethodDescriptor yX7_countAlike.desc).map (fun d => d.parameters.length) = some 1) := ⟨t_3 (i := 102) rfl rfl, t_s (i := 13) rfl rfl, t_1 (i := 1) rfl rfl, t_3 (i := 103) rfl rfl, by decide +kernel⟩
theorem ms_X7_greatestOf : Cond.static yX7_greatestOf ∈ gU ∧ Cond.initialized yX7_greatestOf.cls ∈ gU ∧ Cond.code yX7_greatestOf cX7_greatestOf 6 (some .int) ∈ gU ∧ (yX7_greatestOf.cls ≠ "java/lang/invoke/MethodHandle" ∧ yX7_greatestOf.cls ≠ "java/lang/invoke/VarHandle" ∧ (parseMethodDescriptor yX7_greatestOf.desc).map (fun d => d.parameters.length) = some 1) := ⟨t_3 (i := 105) rfl rfl, t_1 (i := 1) rfl rfl, t_3 (i := 106) rfl rfl, by decide +kernel⟩
theorem mv_X7_chanceAbove : Cond.instanceMethod yX7_chanceAbove ∈ gU ∧ Cond.selects RX7 yX7_chanceAbove yX7_chanceAbove ∈ gU ∧ Cond.initialized RX7 ∈ gU ∧ Cond.code yX7_chanceAbove cX7_chanceAbove 9 (some .long) ∈ gU ∧ (yX7_chanceAbove.cls = RX7 ∧ yX7_chanceAbove.cls ≠ "java/lang/invoke/MethodHandle" ∧ yX7_chanceAbove.cls ≠ "java/lang/invoke/VarHandle" ∧ (parseMethodDescriptor yX7_chanceAbove.desc).map (fun d => d.parameters.length) = some 2) := ⟨t_3 (i := 115) rfl rfl, t_s (i := 14) rfl rfl, t_1 (i := 1) rfl rfl, t_3 (i := 116) rfl rfl, by decide +kernel⟩
theorem mv_X7_finding : Cond.instanceMethod yX7_finding ∈ gU ∧ Cond.selects RX7 yX7_finding yX7_finding ∈ gU ∧ Cond.initialized RX7 ∈ gU ∧ Cond.code yX7_finding cX7_finding 2 (some .int) ∈ gU ∧ (yX7_finding.cls = RX7 ∧ yX7_finding.cls ≠ "java/lang/invoke/MethodHandle" ∧ yX7_finding.cls ≠ "java/lang/invoke/VarHandle" ∧ (parseMethodDescriptor yX7_finding.desc).map (fun d => d.parameters.length) = some 1) := ⟨t_3 (i := 76) rfl rfl, t_s (i := 11) rfl rfl, t_1 (i := 1) rfl rfl, t_3 (i := 77) rfl rfl, by decide +kernel⟩
theorem mv_X7_refusalOfItem : Cond.instanceMethod yX7_refusalOfItem ∈ gU ∧ Cond.selects RX7 yX7_refusalOfItem yX7_refusalOfItem ∈ gU ∧ Cond.initialized RX7 ∈ gU ∧ Cond.code yX7_refusalOfItem cX7_refusalOfItem 4 (some .int) ∈ gU ∧ (yX7_refusalOfItem.cls = RX7 ∧ yX7_refusalOfItem.cls ≠ "java/lang/invoke/MethodHandle" ∧ yX7_refusalOfItem.cls ≠ "java/lang/invoke/VarHandle" ∧ (parseMethodDescriptor yX7_refusalOfItem.desc).map (fun d => d.parameters.length) = some 3) := ⟨t_3 (i := 147) rfl rfl, t_s (i := 15) rfl rfl, t_1 (i := 1) rfl rfl, t_3 (i := 148) rfl rfl, by decide +kernel⟩
theorem mi_X8_init : Cond.instanceMethod yX8_init ∈ gU ∧ Cond.initialized RX8 ∈ gU ∧ Cond.code yX8_init cX8_init 2 (none) ∈ gU := ⟨t_3 (i := 207) rfl rfl, t_1 (i := 12) rfl rfl, t_3 (i := 208) rfl rfl⟩
theorem ms_X8_in : Cond.static yX8_in ∈ gU ∧ Cond.initialized yX8_in.cls ∈ gU ∧ Cond.code yX8_in cX8_in 6 (some .boolean) ∈ gU ∧ (yX8_in.cls ≠ "java/lang/invoke/MethodHandle" ∧ yX8_in.cls ≠ "java/lang/invoke/VarHandle" ∧ (parseMethodDescriptor yX8_in.desc).map (fun d => d.parameters.length) = some 3) := ⟨t_4 (i := 70) rfl rfl, t_1 (i := 12) rfl rfl, t_4 (i := 71) rfl rfl, by decide +kernel⟩
theorem ms_X8_no : Cond.static yX8_no ∈ gU ∧ Cond.initialized yX8_no.cls ∈ gU ∧ Cond.code yX8_no cX8_no 1 (some .long) ∈ gU ∧ (yX8_no.cls ≠ "java/lang/invoke/MethodHandle" ∧ yX8_no.cls ≠ "java/lang/invoke/VarHandle" ∧ (parseMethodDescriptor yX8_no.desc).map (fun d => d.parameters.length) = some 1) := ⟨t_5 (i := 120) rfl rfl, t_1 (i := 12) rfl rfl, t_5 (i := 121) rfl rfl, by decide +kernel⟩
theorem ms_X8_isTwo : Cond.static yX8_isTwo ∈ gU ∧ Cond.initialized yX8_isTwo.cls ∈ gU ∧ Cond.code yX8_isTwo cX8_isTwo 1 (some .boolean) ∈ gU ∧ (yX8_isTwo.cls ≠ "java/lang/invoke/MethodHandle" ∧ yX8_isTwo.cls ≠ "java/lang/invoke/VarHandle" ∧ (parseMethodDescriptor yX8_isTwo.desc).map (fun d => d.parameters.length) = some 1) := ⟨t_4 (i := 106) rfl rfl, t_1 (i := 12) rfl rfl, t_4 (i := 107) rfl rfl, by decide +kernel⟩
theorem ms_X8_isIn : Cond.static yX8_isIn ∈ gU ∧ Cond.initialized yX8_isIn.cls ∈ gU ∧ Cond.code yX8_isIn cX8_isIn 2 (some .boolean) ∈ gU ∧ (yX8_isIn.cls ≠ "java/lang/invoke/MethodHandle" ∧ yX8_isIn.cls ≠ "java/lang/invoke/VarHandle" ∧ (parseMethodDescriptor yX8_isIn.desc).map (fun d => d.parameters.length) = some 2) := ⟨t_4 (i := 184) rfl rfl, t_1 (i := 12) rfl rfl, t_4 (i := 185) rfl rfl, by decide +kernel⟩
theorem ms_X8_ones : Cond.static yX8_ones ∈ gU ∧ Cond.initialized yX8_ones.cls ∈ gU ∧ Cond.code yX8_ones cX8_ones 3 (some .int) ∈ gU ∧ (yX8_ones.cls ≠ "java/lang/invoke/MethodHandle" ∧ yX8_ones.cls ≠ "java/lang/invoke/VarHandle" ∧ (parseMethodDescriptor yX8_ones.desc).map (fun d => d.parameters.length) = some 1) := ⟨t_5 (i := 44) rfl rfl, t_1 (i := 12) rfl rfl, t_5 (i := 45) rfl rfl, by decide +kernel⟩
theorem ms_X8_lesser : Cond.static yX8_lesser ∈ gU ∧ Cond.initialized yX8_lesser.cls ∈ gU ∧ Cond.code yX8_lesser cX8_lesser 2 (some .int) ∈ gU ∧ (yX8_lesser.cls ≠ "java/lang/invoke/MethodHandle" ∧ yX8_lesser.cls ≠ "java/lang/invoke/VarHandle" ∧ (parseMethodDescriptor yX8_lesser.desc).map (fun d => d.parameters.length) = some 2) := ⟨t_5 (i := 141) rfl rfl, t_1 (i := 12) rfl rfl, t_5 (i := 142) rfl rfl, by decide +kernel⟩
theorem ms_X8_greater : Cond.static yX8_greater ∈ gU ∧ Cond.initialized yX8_greater.cls ∈ gU ∧ Cond.code yX8_greater cX8_greater 2 (some .int) ∈ gU ∧ (yX8_greater.cls ≠ "java/lang/invoke/MethodHandle" ∧ yX8_greater.cls ≠ "java/lang/invoke/VarHandle" ∧ (parseMethodDescriptor yX8_greater.desc).map (fun d => d.parameters.length) = some 2) := ⟨t_5 (i := 55) rfl rfl, t_1 (i := 12) rfl rfl, t_5 (i := 56) rfl rfl, by decide +kernel⟩
theorem ms_X8_part : Cond.static yX8_part ∈ gU ∧ Cond.initialized yX8_part.cls ∈ gU ∧ Cond.code yX8_part cX8_part 11 (some .long) ∈ gU ∧ (yX8_part.cls ≠ "java/lang/invoke/MethodHandle" ∧ yX8_part.cls ≠ "java/lang/invoke/VarHandle" ∧ (parseMethodDescriptor yX8_part.desc).map (fun d => d.parameters.length) = some 3) := ⟨t_5 (i := 117) rfl rfl, t_1 (i := 12) rfl rfl, t_5 (i := 118) rfl rfl, by decide +kernel⟩
theorem mv_X8_finds : Cond.instanceMethod yX8_finds ∈ gU ∧ Cond.selects RX8 yX8_finds yX8_finds ∈ gU ∧ Cond.initialized RX8 ∈ gU ∧ Cond.code yX8_finds cX8_finds 2 (some .int) ∈ gU ∧ (yX8_finds.cls = RX8 ∧ yX8_finds.cls ≠ "java/lang/invoke/MethodHandle" ∧ yX8_finds.cls ≠ "java/lang/invoke/VarHandle" ∧ (parseMethodDescriptor yX8_finds.desc).map (fun d => d.parameters.length) = some 1) := ⟨t_4 (i := 75) rfl rfl, t_s (i := 16) rfl rfl, t_1 (i := 12) rfl rfl, t_4 (i := 76) rfl rfl, by decide +kernel⟩
theorem ms_X8_isSheet : Cond.static yX8_isSheet ∈ gU ∧ Cond.initialized yX8_isSheet.cls ∈ gU ∧ Cond.code yX8_isSheet cX8_isSheet 1 (some .boolean) ∈ gU ∧ (yX8_isSheet.cls ≠ "java/lang/invoke/MethodHandle" ∧ yX8_isSheet.cls ≠ "java/lang/invoke/VarHandle" ∧ (parseMethodDescriptor yX8_isSheet.desc).map (fun d => d.parameters.length) = some 1) := ⟨t_4 (i := 66) rfl rfl, t_1 (i := 12) rfl rfl, t_4 (i := 67) rfl rfl, by decide +kernel⟩
theorem mv_X8_sheet : Cond.instanceMethod yX8_sheet ∈ gU ∧ Cond.selects RX8 yX8_sheet yX8_sheet ∈ gU ∧ Cond.initialized RX8 ∈ gU ∧ Cond.code yX8_sheet cX8_sheet 5 (some .int) ∈ gU ∧ (yX8_sheet.cls = RX8 ∧ yX8_sheet.cls ≠ "java/lang/invoke/MethodHandle" ∧ yX8_sheet.cls ≠ "java/lang/invoke/VarHandle" ∧ (parseMethodDescriptor yX8_sheet.desc).map (fun d => d.parameters.length) = some 3) := ⟨t_4 (i := 62) rfl rfl, t_4 (i := 63) rfl rfl, t_1 (i := 12) rfl rfl, t_4 (i := 64) rfl rfl, by decide +kernel⟩
theorem mv_X8_lose : Cond.instanceMethod yX8_lose ∈ gU ∧ Cond.selects RX8 yX8_lose yX8_lose ∈ gU ∧ Cond.initialized RX8 ∈ gU ∧ Cond.code yX8_lose cX8_lose 2 (some .int) ∈ gU ∧ (yX8_lose.cls = RX8 ∧ yX8_lose.cls ≠ "java/lang/invoke/MethodHandle" ∧ yX8_lose.cls ≠ "java/lang/invoke/VarHandle" ∧ (parseMethodDescriptor yX8_lose.desc).map (fun d => d.parameters.length) = some 1) := ⟨t_4 (i := 78) rfl rfl, t_4 (i := 79) rfl rfl, t_1 (i := 12) rfl rfl, t_4 (i := 80) rfl rfl, by decide +kernel⟩
theorem mv_X8_lacks : Cond.instanceMethod yX8_lacks ∈ gU ∧ Cond.selects RX8 yX8_lacks yX8_lacks ∈ gU ∧ Cond.initialized RX8 ∈ gU ∧ Cond.code yX8_lacks cX8_lacks 4 (some .int) ∈ gU ∧ (yX8_lacks.cls = RX8 ∧ yX8_lacks.cls ≠ "java/lang/invoke/MethodHandle" ∧ yX8_lacks.cls ≠ "java/lang/invoke/VarHandle" ∧ (parseMethodDescriptor yX8_lacks.desc).map (fun d => d.parameters.length) = some 3) := ⟨t_4 (i := 87) rfl rfl, t_s (i := 17) rfl rfl, t_1 (i := 12) rfl rfl, t_4 (i := 88) rfl rfl, by decide +kernel⟩
theorem ms_X8_cut : Cond.static yX8_cut ∈ gU ∧ Cond.initialized yX8_cut.cls ∈ gU ∧ Cond.code yX8_cut cX8_cut 2 (some .int) ∈ gU ∧ (yX8_cut.cls ≠ "java/lang/invoke/MethodHandle" ∧ yX8_cut.cls ≠ "java/lang/invoke/VarHandle" ∧ (parseMethodDescriptor yX8_cut.desc).map (fun d => d.parameters.length) = some 2) := ⟨t_4 (i := 90) rfl rfl, t_1 (i := 12) rfl rfl, t_4 (i := 91) rfl rfl, by decide +kernel⟩
theorem mv_X8_lay : Cond.instanceMethod yX8_lay ∈ gU ∧ Cond.selects RX8 yX8_lay yX8_lay ∈ gU ∧ Cond.initialized RX8 ∈ gU ∧ Cond.code yX8_lay cX8_lay 6 (some .int) ∈ gU ∧ (yX8_lay.cls = RX8 ∧ yX8_lay.cls ≠ "java/lang/invoke/MethodHandle" ∧ yX8_lay.cls ≠ "java/lang/invoke/VarHandle" ∧ (parseMethodDescriptor yX8_lay.desc).map (fun d => d.parameters.length) = some 4) := ⟨t_4 (i := 82) rfl rfl, t_4 (i := 83) rfl rfl, t_1 (i := 12) rfl rfl, t_4 (i := 84) rfl rfl, by decide +kernel⟩
theorem mv_X8_get : Cond.instanceMethod yX8_get ∈ gU ∧ Cond.selects RX8 yX8_get yX8_get ∈ gU ∧ Cond.initialized RX8 ∈ gU ∧ Cond.code yX8_get cX8_get 4 (some .int) ∈ gU ∧ (yX8_get.cls = RX8 ∧ yX8_get.cls ≠ "java/lang/invoke/MethodHandle" ∧ yX8_get.cls ≠ "java/lang/invoke/VarHandle" ∧ (parseMethodDescriptor yX8_get.desc).map (fun d => d.parameters.length) = some 3) := ⟨t_4 (i := 93) rfl rfl, t_4 (i := 94) rfl rfl, t_1 (i := 12) rfl rfl, t_4 (i := 95) rfl rfl, by decide +kernel⟩
theorem mv_X8_copy : Cond.instanceMethod yX8_copy ∈ gU ∧ Cond.selects RX8 yX8_copy yX8_copy ∈ gU ∧ Cond.initialized RX8 ∈ gU ∧ Cond.code yX8_copy cX8_copy 7 (some .int) ∈ gU ∧ (yX8_copy.cls = RX8 ∧ yX8_copy.cls ≠ "java/lang/invoke/MethodHandle" ∧ yX8_copy.cls ≠ "java/lang/invoke/VarHandle" ∧ (parseMethodDescriptor yX8_copy.desc).map (fun d => d.parameters.length) = some 5) := ⟨t_4 (i := 98) rfl rfl, t_4 (i := 99) rfl rfl, t_1 (i := 12) rfl rfl, t_4 (i := 100) rfl rfl, by decide +kernel⟩
theorem mv_X8_type : Cond.instanceMethod yX8_type ∈ gU ∧ Cond.selects RX8 yX8_type yX8_type ∈ gU ∧ Cond.initialized RX8 ∈ gU ∧ Cond.code yX8_type cX8_type 3 (some .int) ∈ gU ∧ (yX8_type.cls = RX8 ∧ yX8_type.cls ≠ "java/lang/invoke/MethodHandle" ∧ yX8_type.cls ≠ "java/lang/invoke/VarHandle" ∧ (parseMethodDescriptor yX8_type.desc).map (fun d => d.parameters.length) = some 2) := ⟨t_4 (i := 102) rfl rfl, t_4 (i := 103) rfl rfl, t_1 (i := 12) rfl rfl, t_4 (i := 104) rfl rfl, by decide +kernel⟩
theorem mv_X8_wipe : Cond.instanceMethod yX8_wipe ∈ gU ∧ Cond.selects RX8 yX8_wipe yX8_wipe ∈ gU ∧ Cond.initialized RX8 ∈ gU ∧ Cond.code yX8_wipe cX8_wipe 3 (some .int) ∈ gU ∧ (yX8_wipe.cls = RX8 ∧ yX8_wipe.cls ≠ "java/lang/invoke/MethodHandle" ∧ yX8_wipe.cls ≠ "java/lang/invoke/VarHandle" ∧ (parseMethodDescriptor yX8_wipe.desc).map (fun d => d.parameters.length) = some 1) := ⟨t_4 (i := 110) rfl rfl, t_4 (i := 111) rfl rfl, t_1 (i := 12) rfl rfl, t_4 (i := 112) rfl rfl, by decide +kernel⟩
theorem mv_X8_undo : Cond.instanceMethod yX8_undo ∈ gU ∧ Cond.selects RX8 yX8_undo yX8_undo ∈ gU ∧ Cond.initialized RX8 ∈ gU ∧ Cond.code yX8_undo cX8_undo 2 (some .int) ∈ gU ∧ (yX8_undo.cls = RX8 ∧ yX8_undo.cls ≠ "java/lang/invoke/MethodHandle" ∧ yX8_undo.cls ≠ "java/lang/invoke/VarHandle" ∧ (parseMethodDescriptor yX8_undo.desc).map (fun d => d.parameters.length) = some 1) := ⟨t_4 (i := 114) rfl rfl, t_4 (i := 115) rfl rfl, t_1 (i := 12) rfl rfl, t_4 (i := 116) rfl rfl, by decide +kernel⟩
theorem ms_X8_letterOf : Cond.static yX8_letterOf ∈ gU ∧ Cond.initialized yX8_letterOf.cls ∈ gU ∧ Cond.code yX8_letterOf cX8_letterOf 1 (some .int) ∈ gU ∧ (yX8_letterOf.cls ≠ "java/lang/invoke/MethodHandle" ∧ yX8_letterOf.cls ≠ "java/lang/invoke/VarHandle" ∧ (parseMethodDescriptor yX8_letterOf.desc).map (fun d => d.parameters.length) = some 1) := ⟨t_4 (i := 129) rfl rfl, t_1 (i := 12) rfl rfl, t_4 (i := 130) rfl rfl, by decide +kernel⟩
theorem ms_X8_riderOf : Cond.static yX8_riderOf ∈ gU ∧ Cond.initialized yX8_riderOf.cls ∈ gU ∧ Cond.code yX8_riderOf cX8_riderOf 2 (some .int) ∈ gU ∧ (yX8_riderOf.cls ≠ "java/lang/invoke/MethodHandle" ∧ yX8_riderOf.cls ≠ "java/lang/invoke/VarHandle" ∧ (parseMethodDescriptor yX8_riderOf.desc).map (fun d => d.parameters.length) = some 2) := ⟨t_4 (i := 126) rfl rfl, t_1 (i := 12) rfl rfl, t_4 (i := 127) rfl rfl, by decide +kernel⟩
theorem mv_X8_readsRiders : Cond.instanceMethod yX8_readsRiders ∈ gU ∧ Cond.selects RX8 yX8_readsRiders yX8_readsRiders ∈ gU ∧ Cond.initialized RX8 ∈ gU ∧ Cond.code yX8_readsRiders cX8_readsRiders 5 (some .int) ∈ gU ∧ (yX8_readsRiders.cls = RX8 ∧ yX8_readsRiders.cls ≠ "java/lang/invoke/MethodHandle" ∧ yX8_readsRiders.cls ≠ "java/lang/invoke/VarHandle" ∧ (parseMethodDescriptor yX8_readsRiders.desc).map (fun d => d.parameters.length) = some 0) := ⟨t_4 (i := 123) rfl rfl, t_s (i := 18) rfl rfl, t_1 (i := 12) rfl rfl, t_4 (i := 124) rfl rfl, by decide +kernel⟩
theorem mv_X8_readsBag : Cond.instanceMethod yX8_readsBag ∈ gU ∧ Cond.selects RX8 yX8_readsBag yX8_readsBag ∈ gU ∧ Cond.initialized RX8 ∈ gU ∧ Cond.code yX8_readsBag cX8_readsBag 4 (some .int) ∈ gU ∧ (yX8_readsBag.cls = RX8 ∧ yX8_readsBag.cls ≠ "java/lang/invoke/MethodHandle" ∧ yX8_readsBag.cls ≠ "java/lang/invoke/VarHandle" ∧ (parseMethodDescriptor yX8_readsBag.desc).map (fun d => d.parameters.length) = some 0) := ⟨t_4 (i := 137) rfl rfl, t_s (i := 19) rfl rfl, t_1 (i := 12) rfl rfl, t_4 (i := 138) rfl rfl, by decide +kernel⟩
theorem mv_X8_fault : Cond.instanceMethod yX8_fault ∈ gU ∧ Cond.selects RX8 yX8_fault yX8_fault ∈ gU ∧ Cond.initialized RX8 ∈ gU ∧ Cond.code yX8_fault cX8_fault 2 (some .int) ∈ gU ∧ (yX8_fault.cls = RX8 ∧ yX8_fault.cls ≠ "java/lang/invoke/MethodHandle" ∧ yX8_fault.cls ≠ "java/lang/invoke/VarHandle" ∧ (parseMethodDescriptor yX8_fault.desc).map (fun d => d.parameters.length) = some 1) := ⟨t_4 (i := 118) rfl rfl, t_4 (i := 119) rfl rfl, t_1 (i := 12) rfl rfl, t_4 (i := 120) rfl rfl, by decide +kernel⟩
theorem mv_X8_isRider : Cond.instanceMethod yX8_isRider ∈ gU ∧ Cond.selects RX8 yX8_isRider yX8_isRider ∈ gU ∧ Cond.initialized RX8 ∈ gU ∧ Cond.code yX8_isRider cX8_isRider 2 (some .boolean) ∈ gU ∧ (yX8_isRider.cls = RX8 ∧ yX8_isRider.cls ≠ "java/lang/invoke/MethodHandle" ∧ yX8_isRider.cls ≠ "java/lang/invoke/VarHandle" ∧ (parseMethodDescriptor yX8_isRider.desc).map (fun d => d.parameters.length) = some 1) := ⟨t_4 (i := 147) rfl rfl, t_s (i := 20) rfl rfl, t_1 (i := 12) rfl rfl, t_4 (i := 148) rfl rfl, by decide +kernel⟩
theorem ms_X8_isDay : Cond.static yX8_isDay ∈ gU ∧ Cond.initialized yX8_isDay.cls ∈ gU ∧ Cond.code yX8_isDay cX8_isDay 1 (some .boolean) ∈ gU ∧ (yX8_isDay.cls ≠ "java/lang/invoke/MethodHandle" ∧ yX8_isDay.cls ≠ "java/lang/invoke/VarHandle" ∧ (parseMethodDescriptor yX8_isDay.desc).map (fun d => d.parameters.length) = some 1) := ⟨t_4 (i := 215) rfl rfl, t_1 (i := 12) rfl rfl, t_4 (i := 216) rfl rfl, by decide +kernel⟩
theorem mv_X8_rider : Cond.instanceMethod yX8_rider ∈ gU ∧ Cond.selects RX8 yX8_rider yX8_rider ∈ gU ∧ Cond.initialized RX8 ∈ gU ∧ Cond.code yX8_rider cX8_rider 3 (some .int) ∈ gU ∧ (yX8_rider.cls = RX8 ∧ yX8_rider.cls ≠ "java/lang/invoke/MethodHandle" ∧ yX8_rider.cls ≠ "java/lang/invoke/VarHandle" ∧ (parseMethodDescriptor yX8_rider.desc).map (fun d => d.parameters.length) = some 2) := ⟨t_4 (i := 142) rfl rfl, t_4 (i := 143) rfl rfl, t_1 (i := 12) rfl rfl, t_4 (i := 144) rfl rfl, by decide +kernel⟩
theorem mv_X8_worth : Cond.instanceMethod yX8_worth ∈ gU ∧ Cond.selects RX8 yX8_worth yX8_worth ∈ gU ∧ Cond.initialized RX8 ∈ gU ∧ Cond.code yX8_worth cX8_worth 4 (some .int) ∈ gU ∧ (yX8_worth.cls = RX8 ∧ yX8_worth.cls ≠ "java/lang/invoke/MethodHandle" ∧ yX8_worth.cls ≠ "java/lang/invoke/VarHandle" ∧ (parseMethodDescriptor yX8_worth.desc).map (fun d => d.parameters.length) = some 2) := ⟨t_4 (i := 150) rfl rfl, t_4 (i := 151) rfl rfl, t_1 (i := 12) rfl rfl, t_4 (i := 152) rfl rfl, by decide +kernel⟩
theorem mv_X8_set : Cond.instanceMethod yX8_set ∈ gU ∧ Cond.selects RX8 yX8_set yX8_set ∈ gU ∧ Cond.initialized RX8 ∈ gU ∧ Cond.code yX8_set cX8_set 5 (some .int) ∈ gU ∧ (yX8_set.cls = RX8 ∧ yX8_set.cls ≠ "java/lang/invoke/MethodHandle" ∧ yX8_set.cls ≠ "java/lang/invoke/VarHandle" ∧ (parseMethodDescriptor yX8_set.desc).map (fun d => d.parameters.length) = some 2) := ⟨t_4 (i := 156) rfl rfl, t_4 (i := 157) rfl rfl, t_1 (i := 12) rfl rfl, t_4 (i := 158) rfl rfl, by decide +kernel⟩
theorem mv_X8_puts : Cond.instanceMethod yX8_puts ∈ gU ∧ Cond.selects RX8 yX8_puts yX8_puts ∈ gU ∧ Cond.initialized RX8 ∈ gU ∧ Cond.code yX8_puts cX8_puts 2 (none) ∈ gU ∧ (yX8_puts.cls = RX8 ∧ yX8_puts.cls ≠ "java/lang/invoke/MethodHandle" ∧ yX8_puts.cls ≠ "java/lang/invoke/VarHandle" ∧ (parseMethodDescriptor yX8_puts.desc).map (fun d => d.parameters.length) = some 1) := ⟨t_4 (i := 177) rfl rfl, t_s (i := 24) rfl rfl, t_1 (i := 12) rfl rfl, t_4 (i := 178) rfl rfl, by decide +kernel⟩
theorem mv_X8_find : Cond.instanceMethod yX8_find ∈ gU ∧ Cond.selects RX8 yX8_find yX8_find ∈ gU ∧ Cond.initialized RX8 ∈ gU ∧ Cond.code yX8_find cX8_find 3 (some .int) ∈ gU ∧ (yX8_find.cls = RX8 ∧ yX8_find.cls ≠ "java/lang/invoke/MethodHandle" ∧ yX8_find.cls ≠ "java/lang/invoke/VarHandle" ∧ (parseMethodDescriptor yX8_find.desc).map (fun d => d.parameters.length) = some 1) := ⟨t_4 (i := 196) rfl rfl, t_s (i := 28) rfl rfl, t_1 (i := 12) rfl rfl, t_4 (i := 197) rfl rfl, by decide +kernel⟩
theorem mv_X8_takes : Cond.instanceMethod yX8_takes ∈ gU ∧ Cond.selects RX8 yX8_takes yX8_takes ∈ gU ∧ Cond.initialized RX8 ∈ gU ∧ Cond.code yX8_takes cX8_takes 3 (none) ∈ gU ∧ (yX8_takes.cls = RX8 ∧ yX8_takes.cls ≠ "java/lang/invoke/MethodHandle" ∧ yX8_takes.cls ≠ "java/lang/invoke/VarHandle" ∧ (parseMethodDescriptor yX8_takes.desc).map (fun d => d.parameters.length) = some 1) := ⟨t_4 (i := 200) rfl rfl, t_s (i := 29) rfl rfl, t_1 (i := 12) rfl rfl, t_4 (i := 201) rfl rfl, by decide +kernel⟩
theorem mv_X8_may : Cond.instanceMethod yX8_may ∈ gU ∧ Cond.selects RX8 yX8_may yX8_may ∈ gU ∧ Cond.initialized RX8 ∈ gU ∧ Cond.code yX8_may cX8_may 3 (some .boolean) ∈ gU ∧ (yX8_may.cls = RX8 ∧ yX8_may.cls ≠ "java/lang/invoke/MethodHandle" ∧ yX8_may.cls ≠ "java/lang/invoke/VarHandle" ∧ (parseMethodDescriptor yX8_may.desc).map (fun d => d.parameters.length) = some 1) := ⟨t_4 (i := 188) rfl rfl, t_s (i := 26) rfl rfl, t_1 (i := 12) rfl rfl, t_4 (i := 189) rfl rfl, by decide +kernel⟩
theorem mv_X8_other : Cond.instanceMethod yX8_other ∈ gU ∧ Cond.selects RX8 yX8_other yX8_other ∈ gU ∧ Cond.initialized RX8 ∈ gU ∧ Cond.code yX8_other cX8_other 3 (some .int) ∈ gU ∧ (yX8_other.cls = RX8 ∧ yX8_other.cls ≠ "java/lang/invoke/MethodHandle" ∧ yX8_other.cls ≠ "java/lang/invoke/VarHandle" ∧ (parseMethodDescriptor yX8_other.desc).map (fun d => d.parameters.length) = some 1) := ⟨t_4 (i := 208) rfl rfl, t_s (i := 31) rfl rfl, t_1 (i := 12) rfl rfl, t_4 (i := 209) rfl rfl, by decide +kernel⟩
theorem mv_X8_gives : Cond.instanceMethod yX8_gives ∈ gU ∧ Cond.selects RX8 yX8_gives yX8_gives ∈ gU ∧ Cond.initialized RX8 ∈ gU ∧ Cond.code yX8_gives cX8_gives 3 (none) ∈ gU ∧ (yX8_gives.cls = RX8 ∧ yX8_gives.cls ≠ "java/lang/invoke/MethodHandle" ∧ yX8_gives.cls ≠ "java/lang/invoke/VarHandle" ∧ (parseMethodDescriptor yX8_gives.desc).map (fun d => d.parameters.length) = some 2) := ⟨t_4 (i := 204) rfl rfl, t_s (i := 30) rfl rfl, t_1 (i := 12) rfl rfl, t_4 (i := 205) rfl rfl, by decide +kernel⟩
theorem mv_X8_changesOne : Cond.instanceMethod yX8_changesOne ∈ gU ∧ Cond.selects RX8 yX8_changesOne yX8_changesOne ∈ gU ∧ Cond.initialized RX8 ∈ gU ∧ Cond.code yX8_changesOne cX8_changesOne 6 (some .boolean) ∈ gU ∧ (yX8_changesOne.cls = RX8 ∧ yX8_changesOne.cls ≠ "java/lang/invoke/MethodHandle" ∧ yX8_changesOne.cls ≠ "java/lang/invoke/VarHandle" ∧ (parseMethodDescriptor yX8_changesOne.desc).map (fun d => d.parameters.length) = some 1) := ⟨t_4 (i := 192) rfl rfl, t_s (i := 27) rfl rfl, t_1 (i := 12) rfl rfl, t_4 (i := 193) rfl rfl, by decide +kernel⟩
theorem mv_X8_stops : Cond.instanceMethod yX8_stops ∈ gU ∧ Cond.selects RX8 yX8_stops yX8_stops ∈ gU ∧ Cond.initialized RX8 ∈ gU ∧ Cond.code yX8_stops cX8_stops 4 (none) ∈ gU ∧ (yX8_stops.cls = RX8 ∧ yX8_stops.cls ≠ "java/lang/invoke/MethodHandle" ∧ yX8_stops.cls ≠ "java/lang/invoke/VarHandle" ∧ (parseMethodDescriptor yX8_stops.desc).map (fun d => d.parameters.length) = some 2) := ⟨t_4 (i := 181) rfl rfl, t_s (i := 25) rfl rfl, t_1 (i := 12) rfl rfl, t_4 (i := 182) rfl rfl, by decide +kernel⟩
theorem mv_X8_keeps : Cond.instanceMethod yX8_keeps ∈ gU ∧ Cond.selects RX8 yX8_keeps yX8_keeps ∈ gU ∧ Cond.initialized RX8 ∈ gU ∧ Cond.code yX8_keeps cX8_keeps 3 (none) ∈ gU ∧ (yX8_keeps.cls = RX8 ∧ yX8_keeps.cls ≠ "java/lang/invoke/MethodHandle" ∧ yX8_keeps.cls ≠ "java/lang/invoke/VarHandle" ∧ (parseMethodDescriptor yX8_keeps.desc).map (fun d => d.parameters.length) = some 1) := ⟨t_4 (i := 212) rfl rfl, t_s (i := 32) rfl rfl, t_1 (i := 12) rfl rfl, t_4 (i := 213) rfl rfl, by decide +kernel⟩
theorem mv_X8_begins : Cond.instanceMethod yX8_begins ∈ gU ∧ Cond.selects RX8 yX8_begins yX8_begins ∈ gU ∧ Cond.initialized RX8 ∈ gU ∧ Cond.code yX8_begins cX8_begins 2 (none) ∈ gU ∧ (yX8_begins.cls = RX8 ∧ yX8_begins.cls ≠ "java/lang/invoke/MethodHandle" ∧ yX8_begins.cls ≠ "java/lang/invoke/VarHandle" ∧ (parseMethodDescriptor yX8_begins.desc).map (fun d => d.parameters.length) = some 0) := ⟨t_4 (i := 173) rfl rfl, t_s (i := 23) rfl rfl, t_1 (i := 12) rfl rfl, t_4 (i := 174) rfl rfl, by decide +kernel⟩
theorem mv_X8_lives : Cond.instanceMethod yX8_lives ∈ gU ∧ Cond.selects RX8 yX8_lives yX8_lives ∈ gU ∧ Cond.initialized RX8 ∈ gU ∧ Cond.code yX8_lives cX8_lives 4 (none) ∈ gU ∧ (yX8_lives.cls = RX8 ∧ yX8_lives.cls ≠ "java/lang/invoke/MethodHandle" ∧ yX8_lives.cls ≠ "java/lang/invoke/VarHandle" ∧ (parseMethodDescriptor yX8_lives.desc).map (fun d => d.parameters.length) = some 0) := ⟨t_4 (i := 169) rfl rfl, t_s (i := 22) rfl rfl, t_1 (i := 12) rfl rfl, t_4 (i := 170) rfl rfl, by decide +kernel⟩
theorem mv_X8_reads : Cond.instanceMethod yX8_reads ∈ gU ∧ Cond.selects RX8 yX8_reads yX8_reads ∈ gU ∧ Cond.initialized RX8 ∈ gU ∧ Cond.code yX8_reads cX8_reads 1 (none) ∈ gU ∧ (yX8_reads.cls = RX8 ∧ yX8_reads.cls ≠ "java/lang/invoke/MethodHandle" ∧ yX8_reads.cls ≠ "java/lang/invoke/VarHandle" ∧ (parseMethodDescriptor yX8_reads.desc).map (fun d => d.parameters.length) = some 0) := ⟨t_4 (i := 165) rfl rfl, t_s (i := 21) rfl rfl, t_1 (i := 12) rfl rfl, t_4 (i := 166) rfl rfl, by decide +kernel⟩
theorem mv_X8_has : Cond.instanceMethod yX8_has ∈ gU ∧ Cond.selects RX8 yX8_has yX8_has ∈ gU ∧ Cond.initialized RX8 ∈ gU ∧ Cond.code yX8_has cX8_has 3 (some .int) ∈ gU ∧ (yX8_has.cls = RX8 ∧ yX8_has.cls ≠ "java/lang/invoke/MethodHandle" ∧ yX8_has.cls ≠ "java/lang/invoke/VarHandle" ∧ (parseMethodDescriptor yX8_has.desc).map (fun d => d.parameters.length) = some 2) := ⟨t_4 (i := 160) rfl rfl, t_4 (i := 161) rfl rfl, t_1 (i := 12) rfl rfl, t_4 (i := 162) rfl rfl, by decide +kernel⟩
theorem mv_X8_torn : Cond.instanceMethod yX8_torn ∈ gU ∧ Cond.selects RX8 yX8_torn yX8_torn ∈ gU ∧ Cond.initialized RX8 ∈ gU ∧ Cond.code yX8_torn cX8_torn 3 (some .int) ∈ gU ∧ (yX8_torn.cls = RX8 ∧ yX8_torn.cls ≠ "java/lang/invoke/MethodHandle" ∧ yX8_torn.cls ≠ "java/lang/invoke/VarHandle" ∧ (parseMethodDescriptor yX8_torn.desc).map (fun d => d.parameters.length) = some 2) := ⟨t_4 (i := 218) rfl rfl, t_4 (i := 219) rfl rfl, t_1 (i := 12) rfl rfl, t_4 (i := 220) rfl rfl, by decide +kernel⟩
theorem mv_X8_bagOf : Cond.instanceMethod yX8_bagOf ∈ gU ∧ Cond.selects RX8 yX8_bagOf yX8_bagOf ∈ gU ∧ Cond.initialized RX8 ∈ gU ∧ Cond.code yX8_bagOf cX8_bagOf 3 (some .int) ∈ gU ∧ (yX8_bagOf.cls = RX8 ∧ yX8_bagOf.cls ≠ "java/lang/invoke/MethodHandle" ∧ yX8_bagOf.cls ≠ "java/lang/invoke/VarHandle" ∧ (parseMethodDescriptor yX8_bagOf.desc).map (fun d => d.parameters.length) = some 2) := ⟨t_4 (i := 229) rfl rfl, t_s (i := 33) rfl rfl, t_1 (i := 12) rfl rfl, t_4 (i := 230) rfl rfl, by decide +kernel⟩
theorem mv_X8_bag : Cond.instanceMethod yX8_bag ∈ gU ∧ Cond.selects RX8 yX8_bag yX8_bag ∈ gU ∧ Cond.initialized RX8 ∈ gU ∧ Cond.code yX8_bag cX8_bag 3 (some .int) ∈ gU ∧ (yX8_bag.cls = RX8 ∧ yX8_bag.cls ≠ "java/lang/invoke/MethodHandle" ∧ yX8_bag.cls ≠ "java/lang/invoke/VarHandle" ∧ (parseMethodDescriptor yX8_bag.desc).map (fun d => d.parameters.length) = some 2) := ⟨t_4 (i := 222) rfl rfl, t_4 (i := 223) rfl rfl, t_1 (i := 12) rfl rfl, t_4 (i := 224) rfl rfl, by decide +kernel⟩
theorem mv_X8_isServed : Cond.instanceMethod yX8_isServed ∈ gU ∧ Cond.selects RX8 yX8_isServed yX8_isServed ∈ gU ∧ Cond.initialized RX8 ∈ gU ∧ Cond.code yX8_isServed cX8_isServed 3 (some .boolean) ∈ gU ∧ (yX8_isServed.cls = RX8 ∧ yX8_isServed.cls ≠ "java/lang/invoke/MethodHandle" ∧ yX8_isServed.cls ≠ "java/lang/invoke/VarHandle" ∧ (parseMethodDescriptor yX8_isServed.desc).map (fun d => d.parameters.length) = some 2) := ⟨t_5 (i := 1) rfl rfl, t_s (i := 35) rfl rfl, t_1 (i := 12) rfl rfl, t_5 (i := 2) rfl rfl, by decide +kernel⟩
theorem mv_X8_getsOf : Cond.instanceMethod yX8_getsOf ∈ gU ∧ Cond.selects RX8 yX8_getsOf yX8_getsOf ∈ gU ∧ Cond.initialized RX8 ∈ gU ∧ Cond.code yX8_getsOf cX8_getsOf 3 (some .int) ∈ gU ∧ (yX8_getsOf.cls = RX8 ∧ yX8_getsOf.cls ≠ "java/lang/invoke/MethodHandle" ∧ yX8_getsOf.cls ≠ "java/lang/invoke/VarHandle" ∧ (parseMethodDescriptor yX8_getsOf.desc).map (fun d => d.parameters.length) = some 1) := ⟨t_4 (i := 237) rfl rfl, t_s (i := 34) rfl rfl, t_1 (i := 12) rfl rfl, t_4 (i := 238) rfl rfl, by decide +kernel⟩
theorem mv_X8_gets : Cond.instanceMethod yX8_gets ∈ gU ∧ Cond.selects RX8 yX8_gets yX8_gets ∈ gU ∧ Cond.initialized RX8 ∈ gU ∧ Cond.code yX8_gets cX8_gets 2 (some .int) ∈ gU ∧ (yX8_gets.cls = RX8 ∧ yX8_gets.cls ≠ "java/lang/invoke/MethodHandle" ∧ yX8_gets.cls ≠ "java/lang/invoke/VarHandle" ∧ (parseMethodDescriptor yX8_gets.desc).map (fun d => d.parameters.length) = some 1) := ⟨t_4 (i := 232) rfl rfl, t_4 (i := 233) rfl rfl, t_1 (i := 12) rfl rfl, t_4 (i := 234) rfl rfl, by decide +kernel⟩
theorem mv_X8_first : Cond.instanceMethod yX8_first ∈ gU ∧ Cond.selects RX8 yX8_first yX8_first ∈ gU ∧ Cond.initialized RX8 ∈ gU ∧ Cond.code yX8_first cX8_first 2 (some .int) ∈ gU ∧ (yX8_first.cls = RX8 ∧ yX8_first.cls ≠ "java/lang/invoke/MethodHandle" ∧ yX8_first.cls ≠ "java/lang/invoke/VarHandle" ∧ (parseMethodDescriptor yX8_first.desc).map (fun d => d.parameters.length) = some 1) := ⟨t_5 (i := 4) rfl rfl, t_5 (i := 5) rfl rfl, t_1 (i := 12) rfl rfl, t_5 (i := 6) rfl rfl, by decide +kernel⟩
theorem mv_X8_still : Cond.instanceMethod yX8_still ∈ gU ∧ Cond.selects RX8 yX8_still yX8_still ∈ gU ∧ Cond.initialized RX8 ∈ gU ∧ Cond.code yX8_still cX8_still 1 (some .int) ∈ gU ∧ (yX8_still.cls = RX8 ∧ yX8_still.cls ≠ "java/lang/invoke/MethodHandle" ∧ yX8_still.cls ≠ "java/lang/invoke/VarHandle" ∧ (parseMethodDescriptor yX8_still.desc).map (fun d => d.parameters.length) = some 0) := ⟨t_5 (i := 8) rfl rfl, t_5 (i := 9) rfl rfl, t_1 (i := 12) rfl rfl, t_5 (i := 10) rfl rfl, by decide +kernel⟩
theorem mv_X8_servedBy : Cond.instanceMethod yX8_servedBy ∈ gU ∧ Cond.selects RX8 yX8_servedBy yX8_servedBy ∈ gU ∧ Cond.initialized RX8 ∈ gU ∧ Cond.code yX8_servedBy cX8_servedBy 4 (some .int) ∈ gU ∧ (yX8_servedBy.cls = RX8 ∧ yX8_servedBy.cls ≠ "java/lang/invoke/MethodHandle" ∧ yX8_servedBy.cls ≠ "java/lang/invoke/VarHandle" ∧ (parseMethodDescriptor yX8_servedBy.desc).map (fun d => d.parameters.length) = some 1) := ⟨t_5 (i := 17) rfl rfl, t_s (i := 36) rfl rfl, t_1 (i := 12) rfl rfl, t_5 (i := 18) rfl rfl, by decide +kernel⟩
theorem mv_X8_served : Cond.instanceMethod yX8_served ∈ gU ∧ Cond.selects RX8 yX8_served yX8_served ∈ gU ∧ Cond.initialized RX8 ∈ gU ∧ Cond.code yX8_served cX8_served 2 (some .int) ∈ gU ∧ (yX8_served.cls = RX8 ∧ yX8_served.cls ≠ "java/lang/invoke/MethodHandle" ∧ yX8_served.cls ≠ "java/lang/invoke/VarHandle" ∧ (parseMethodDescriptor yX8_served.desc).map (fun d => d.parameters.length) = some 1) := ⟨t_5 (i := 12) rfl rfl, t_5 (i := 13) rfl rfl, t_1 (i := 12) rfl rfl, t_5 (i := 14) rfl rfl, by decide +kernel⟩
theorem mv_X8_wantsOf : Cond.instanceMethod yX8_wantsOf ∈ gU ∧ Cond.selects RX8 yX8_wantsOf yX8_wantsOf ∈ gU ∧ Cond.initialized RX8 ∈ gU ∧ Cond.code yX8_wantsOf cX8_wantsOf 3 (some .boolean) ∈ gU ∧ (yX8_wantsOf.cls = RX8 ∧ yX8_wantsOf.cls ≠ "java/lang/invoke/MethodHandle" ∧ yX8_wantsOf.cls ≠ "java/lang/invoke/VarHandle" ∧ (parseMethodDescriptor yX8_wantsOf.desc).map (fun d => d.parameters.length) = some 2) := ⟨t_5 (i := 33) rfl rfl, t_s (i := 39) rfl rfl, t_1 (i := 12) rfl rfl, t_5 (i := 34) rfl rfl, by decide +kernel⟩
theorem mv_X8_isRing : Cond.instanceMethod yX8_isRing ∈ gU ∧ Cond.selects RX8 yX8_isRing yX8_isRing ∈ gU ∧ Cond.initialized RX8 ∈ gU ∧ Cond.code yX8_isRing cX8_isRing 4 (some .boolean) ∈ gU ∧ (yX8_isRing.cls = RX8 ∧ yX8_isRing.cls ≠ "java/lang/invoke/MethodHandle" ∧ yX8_isRing.cls ≠ "java/lang/invoke/VarHandle" ∧ (parseMethodDescriptor yX8_isRing.desc).map (fun d => d.parameters.length) = some 3) := ⟨t_5 (i := 29) rfl rfl, t_s (i := 38) rfl rfl, t_1 (i := 12) rfl rfl, t_5 (i := 30) rfl rfl, by decide +kernel⟩
theorem mv_X8_ringsNow : Cond.instanceMethod yX8_ringsNow ∈ gU ∧ Cond.selects RX8 yX8_ringsNow yX8_ringsNow ∈ gU ∧ Cond.initialized RX8 ∈ gU ∧ Cond.code yX8_ringsNow cX8_ringsNow 8 (some .int) ∈ gU ∧ (yX8_ringsNow.cls = RX8 ∧ yX8_ringsNow.cls ≠ "java/lang/invoke/MethodHandle" ∧ yX8_ringsNow.cls ≠ "java/lang/invoke/VarHandle" ∧ (parseMethodDescriptor yX8_ringsNow.desc).map (fun d => d.parameters.length) = some 1) := ⟨t_5 (i := 25) rfl rfl, t_s (i := 37) rfl rfl, t_1 (i := 12) rfl rfl, t_5 (i := 26) rfl rfl, by decide +kernel⟩
theorem mv_X8_rings : Cond.instanceMethod yX8_rings ∈ gU ∧ Cond.selects RX8 yX8_rings yX8_rings ∈ gU ∧ Cond.initialized RX8 ∈ gU ∧ Cond.code yX8_rings cX8_rings 2 (some .int) ∈ gU ∧ (yX8_rings.cls = RX8 ∧ yX8_rings.cls ≠ "java/lang/invoke/MethodHandle" ∧ yX8_rings.cls ≠ "java/lang/invoke/VarHandle" ∧ (parseMethodDescriptor yX8_rings.desc).map (fun d => d.parameters.length) = some 1) := ⟨t_5 (i := 20) rfl rfl, t_5 (i := 21) rfl rfl, t_1 (i := 12) rfl rfl, t_5 (i := 22) rfl rfl, by decide +kernel⟩
theorem mv_X8_openOf : Cond.instanceMethod yX8_openOf ∈ gU ∧ Cond.selects RX8 yX8_openOf yX8_openOf ∈ gU ∧ Cond.initialized RX8 ∈ gU ∧ Cond.code yX8_openOf cX8_openOf 8 (some .int) ∈ gU ∧ (yX8_openOf.cls = RX8 ∧ yX8_openOf.cls ≠ "java/lang/invoke/MethodHandle" ∧ yX8_openOf.cls ≠ "java/lang/invoke/VarHandle" ∧ (parseMethodDescriptor yX8_openOf.desc).map (fun d => d.parameters.length) = some 2) := ⟨t_5 (i := 41) rfl rfl, t_s (i := 40) rfl rfl, t_1 (i := 12) rfl rfl, t_5 (i := 42) rfl rfl, by decide +kernel⟩
theorem mv_X8_open : Cond.instanceMethod yX8_open ∈ gU ∧ Cond.selects RX8 yX8_open yX8_open ∈ gU ∧ Cond.initialized RX8 ∈ gU ∧ Cond.code yX8_open cX8_open 3 (some .int) ∈ gU ∧ (yX8_open.cls = RX8 ∧ yX8_open.cls ≠ "java/lang/invoke/MethodHandle" ∧ yX8_open.cls ≠ "java/lang/invoke/VarHandle" ∧ (parseMethodDescriptor yX8_open.desc).map (fun d => d.parameters.length) = some 2) := ⟨t_5 (i := 36) rfl rfl, t_5 (i := 37) rfl rfl, t_1 (i := 12) rfl rfl, t_5 (i := 38) rfl rfl, by decide +kernel⟩
theorem mv_X8_leastOf : Cond.instanceMethod yX8_leastOf ∈ gU ∧ Cond.selects RX8 yX8_leastOf yX8_leastOf ∈ gU ∧ Cond.initialized RX8 ∈ gU ∧ Cond.code yX8_leastOf cX8_leastOf 7 (some .int) ∈ gU ∧ (yX8_leastOf.cls = RX8 ∧ yX8_leastOf.cls ≠ "java/lang/invoke/MethodHandle" ∧ yX8_leastOf.cls ≠ "java/lang/invoke/VarHandle" ∧ (parseMethodDescriptor yX8_leastOf.desc).map (fun d => d.parameters.length) = some 1) := ⟨t_5 (i := 52) rfl rfl, t_s (i := 41) rfl rfl, t_1 (i := 12) rfl rfl, t_5 (i := 53) rfl rfl, by decide +kernel⟩
theorem mv_X8_least : Cond.instanceMethod yX8_least ∈ gU ∧ Cond.selects RX8 yX8_least yX8_least ∈ gU ∧ Cond.initialized RX8 ∈ gU ∧ Cond.code yX8_least cX8_least 2 (some .int) ∈ gU ∧ (yX8_least.cls = RX8 ∧ yX8_least.cls ≠ "java/lang/invoke/MethodHandle" ∧ yX8_least.cls ≠ "java/lang/invoke/VarHandle" ∧ (parseMethodDescriptor yX8_least.desc).map (fun d => d.parameters.length) = some 1) := ⟨t_5 (i := 47) rfl rfl, t_5 (i := 48) rfl rfl, t_1 (i := 12) rfl rfl, t_5 (i := 49) rfl rfl, by decide +kernel⟩
theorem mv_X8_topOf : Cond.instanceMethod yX8_topOf ∈ gU ∧ Cond.selects RX8 yX8_topOf yX8_topOf ∈ gU ∧ Cond.initialized RX8 ∈ gU ∧ Cond.code yX8_topOf cX8_topOf 6 (some .int) ∈ gU ∧ (yX8_topOf.cls = RX8 ∧ yX8_topOf.cls ≠ "java/lang/invoke/MethodHandle" ∧ yX8_topOf.cls ≠ "java/lang/invoke/VarHandle" ∧ (parseMethodDescriptor yX8_topOf.desc).map (fun d => d.parameters.length) = some 1) := ⟨t_5 (i := 63) rfl rfl, t_s (i := 42) rfl rfl, t_1 (i := 12) rfl rfl, t_5 (i := 64) rfl rfl, by decide +kernel⟩
theorem mv_X8_top : Cond.instanceMethod yX8_top ∈ gU ∧ Cond.selects RX8 yX8_top yX8_top ∈ gU ∧ Cond.initialized RX8 ∈ gU ∧ Cond.code yX8_top cX8_top 2 (some .int) ∈ gU ∧ (yX8_top.cls = RX8 ∧ yX8_top.cls ≠ "java/lang/invoke/MethodHandle" ∧ yX8_top.cls ≠ "java/lang/invoke/VarHandle" ∧ (parseMethodDescriptor yX8_top.desc).map (fun d => d.parameters.length) = some 1) := ⟨t_5 (i := 58) rfl rfl, t_5 (i := 59) rfl rfl, t_1 (i := 12) rfl rfl, t_5 (i := 60) rfl rfl, by decide +kernel⟩
theorem mv_X8_seen : Cond.instanceMethod yX8_seen ∈ gU ∧ Cond.selects RX8 yX8_seen yX8_seen ∈ gU ∧ Cond.initialized RX8 ∈ gU ∧ Cond.code yX8_seen cX8_seen 4 (some .int) ∈ gU ∧ (yX8_seen.cls = RX8 ∧ yX8_seen.cls ≠ "java/lang/invoke/MethodHandle" ∧ yX8_seen.cls ≠ "java/lang/invoke/VarHandle" ∧ (parseMethodDescriptor yX8_seen.desc).map (fun d => d.parameters.length) = some 3) := ⟨t_5 (i := 66) rfl rfl, t_5 (i := 67) rfl rfl, t_1 (i := 12) rfl rfl, t_5 (i := 68) rfl rfl, by decide +kernel⟩
theorem mv_X8_forget : Cond.instanceMethod yX8_forget ∈ gU ∧ Cond.selects RX8 yX8_forget yX8_forget ∈ gU ∧ Cond.initialized RX8 ∈ gU ∧ Cond.code yX8_forget cX8_forget 2 (some .int) ∈ gU ∧ (yX8_forget.cls = RX8 ∧ yX8_forget.cls ≠ "java/lang/invoke/MethodHandle" ∧ yX8_forget.cls ≠ "java/lang/invoke/VarHandle" ∧ (parseMethodDescriptor yX8_forget.desc).map (fun d => d.parameters.length) = some 0) := ⟨t_5 (i := 71) rfl rfl, t_5 (i := 72) rfl rfl, t_1 (i := 12) rfl rfl, t_5 (i := 73) rfl rfl, by decide +kernel⟩
theorem mv_X8_read : Cond.instanceMethod yX8_read ∈ gU ∧ Cond.selects RX8 yX8_read yX8_read ∈ gU ∧ Cond.initialized RX8 ∈ gU ∧ Cond.code yX8_read cX8_read 5 (some .int) ∈ gU ∧ (yX8_read.cls = RX8 ∧ yX8_read.cls ≠ "java/lang/invoke/MethodHandle" ∧ yX8_read.cls ≠ "java/lang/invoke/VarHandle" ∧ (parseMethodDescriptor yX8_read.desc).map (fun d => d.parameters.length) = some 1) := ⟨t_5 (i := 75) rfl rfl, t_5 (i := 76) rfl rfl, t_1 (i := 12) rfl rfl, t_5 (i := 77) rfl rfl, by decide +kernel⟩
theorem mv_X8_isSeen : Cond.instanceMethod yX8_isSeen ∈ gU ∧ Cond.selects RX8 yX8_isSeen yX8_isSeen ∈ gU ∧ Cond.initialized RX8 ∈ gU ∧ Cond.code yX8_isSeen cX8_isSeen 5 (some .boolean) ∈ gU ∧ (yX8_isSeen.cls = RX8 ∧ yX8_isSeen.cls ≠ "java/lang/invoke/MethodHandle" ∧ yX8_isSeen.cls ≠ "java/lang/invoke/VarHandle" ∧ (parseMethodDescriptor yX8_isSeen.desc).map (fun d => d.parameters.length) = some 0) := ⟨t_5 (i := 89) rfl rfl, t_s (i := 44) rfl rfl, t_1 (i := 12) rfl rfl, t_5 (i := 90) rfl rfl, by decide +kernel⟩
theorem mv_X8_hadOf : Cond.instanceMethod yX8_hadOf ∈ gU ∧ Cond.selects RX8 yX8_hadOf yX8_hadOf ∈ gU ∧ Cond.initialized RX8 ∈ gU ∧ Cond.code yX8_hadOf cX8_hadOf 5 (some .int) ∈ gU ∧ (yX8_hadOf.cls = RX8 ∧ yX8_hadOf.cls ≠ "java/lang/invoke/MethodHandle" ∧ yX8_hadOf.cls ≠ "java/lang/invoke/VarHandle" ∧ (parseMethodDescriptor yX8_hadOf.desc).map (fun d => d.parameters.length) = some 1) := ⟨t_5 (i := 85) rfl rfl, t_s (i := 43) rfl rfl, t_1 (i := 12) rfl rfl, t_5 (i := 86) rfl rfl, by decide +kernel⟩
theorem mv_X8_had : Cond.instanceMethod yX8_had ∈ gU ∧ Cond.selects RX8 yX8_had yX8_had ∈ gU ∧ Cond.initialized RX8 ∈ gU ∧ Cond.code yX8_had cX8_had 2 (some .int) ∈ gU ∧ (yX8_had.cls = RX8 ∧ yX8_had.cls ≠ "java/lang/invoke/MethodHandle" ∧ yX8_had.cls ≠ "java/lang/invoke/VarHandle" ∧ (parseMethodDescriptor yX8_had.desc).map (fun d => d.parameters.length) = some 1) := ⟨t_5 (i := 80) rfl rfl, t_5 (i := 81) rfl rfl, t_1 (i := 12) rfl rfl, t_5 (i := 82) rfl rfl, by decide +kernel⟩
theorem mv_X8_wasNow : Cond.instanceMethod yX8_wasNow ∈ gU ∧ Cond.selects RX8 yX8_wasNow yX8_wasNow ∈ gU ∧ Cond.initialized RX8 ∈ gU ∧ Cond.code yX8_wasNow cX8_wasNow 4 (some .int) ∈ gU ∧ (yX8_wasNow.cls = RX8 ∧ yX8_wasNow.cls ≠ "java/lang/invoke/MethodHandle" ∧ yX8_wasNow.cls ≠ "java/lang/invoke/VarHandle" ∧ (parseMethodDescriptor yX8_wasNow.desc).map (fun d => d.parameters.length) = some 0) := ⟨t_5 (i := 97) rfl rfl, t_s (i := 45) rfl rfl, t_1 (i := 12) rfl rfl, t_5 (i := 98) rfl rfl, by decide +kernel⟩
theorem mv_X8_was : Cond.instanceMethod yX8_was ∈ gU ∧ Cond.selects RX8 yX8_was yX8_was ∈ gU ∧ Cond.initialized RX8 ∈ gU ∧ Cond.code yX8_was cX8_was 1 (some .int) ∈ gU ∧ (yX8_was.cls = RX8 ∧ yX8_was.cls ≠ "java/lang/invoke/MethodHandle" ∧ yX8_was.cls ≠ "java/lang/invoke/VarHandle" ∧ (parseMethodDescriptor yX8_was.desc).map (fun d => d.parameters.length) = some 0) := ⟨t_5 (i := 92) rfl rfl, t_5 (i := 93) rfl rfl, t_1 (i := 12) rfl rfl, t_5 (i := 94) rfl rfl, by decide +kernel⟩
theorem mv_X8_askOf : Cond.instanceMethod yX8_askOf ∈ gU ∧ Cond.selects RX8 yX8_askOf yX8_askOf ∈ gU ∧ Cond.initialized RX8 ∈ gU ∧ Cond.code yX8_askOf cX8_askOf 9 (some .int) ∈ gU ∧ (yX8_askOf.cls = RX8 ∧ yX8_askOf.cls ≠ "java/lang/invoke/MethodHandle" ∧ yX8_askOf.cls ≠ "java/lang/invoke/VarHandle" ∧ (parseMethodDescriptor yX8_askOf.desc).map (fun d => d.parameters.length) = some 1) := ⟨t_5 (i := 105) rfl rfl, t_s (i := 46) rfl rfl, t_1 (i := 12) rfl rfl, t_5 (i := 106) rfl rfl, by decide +kernel⟩
theorem mv_X8_ask : Cond.instanceMethod yX8_ask ∈ gU ∧ Cond.selects RX8 yX8_ask yX8_ask ∈ gU ∧ Cond.initialized RX8 ∈ gU ∧ Cond.code yX8_ask cX8_ask 2 (some .int) ∈ gU ∧ (yX8_ask.cls = RX8 ∧ yX8_ask.cls ≠ "java/lang/invoke/MethodHandle" ∧ yX8_ask.cls ≠ "java/lang/invoke/VarHandle" ∧ (parseMethodDescriptor yX8_ask.desc).map (fun d => d.parameters.length) = some 1) := ⟨t_5 (i := 100) rfl rfl, t_5 (i := 101) rfl rfl, t_1 (i := 12) rfl rfl, t_5 (i := 102) rfl rfl, by decide +kernel⟩
theorem mv_X8_maybeOf : Cond.instanceMethod yX8_maybeOf ∈ gU ∧ Cond.selects RX8 yX8_maybeOf yX8_maybeOf ∈ gU ∧ Cond.initialized RX8 ∈ gU ∧ Cond.code yX8_maybeOf cX8_maybeOf 12 (some .long) ∈ gU ∧ (yX8_maybeOf.cls = RX8 ∧ yX8_maybeOf.cls ≠ "java/lang/invoke/MethodHandle" ∧ yX8_maybeOf.cls ≠ "java/lang/invoke/VarHandle" ∧ (parseMethodDescriptor yX8_maybeOf.desc).map (fun d => d.parameters.length) = some 4) := ⟨t_5 (i := 114) rfl rfl, t_s (i := 47) rfl rfl, t_1 (i := 12) rfl rfl, t_5 (i := 115) rfl rfl, by decide +kernel⟩
theorem mv_X8_maybe : Cond.instanceMethod yX8_maybe ∈ gU ∧ Cond.selects RX8 yX8_maybe yX8_maybe ∈ gU ∧ Cond.initialized RX8 ∈ gU ∧ Cond.code yX8_maybe cX8_maybe 5 (some .long) ∈ gU ∧ (yX8_maybe.cls = RX8 ∧ yX8_maybe.cls ≠ "java/lang/invoke/MethodHandle" ∧ yX8_maybe.cls ≠ "java/lang/invoke/VarHandle" ∧ (parseMethodDescriptor yX8_maybe.desc).map (fun d => d.parameters.length) = some 4) := ⟨t_5 (i := 108) rfl rfl, t_5 (i := 109) rfl rfl, t_1 (i := 12) rfl rfl, t_5 (i := 110) rfl rfl, by decide +kernel⟩
theorem mv_X8_lot : Cond.instanceMethod yX8_lot ∈ gU ∧ Cond.selects RX8 yX8_lot yX8_lot ∈ gU ∧ Cond.initialized RX8 ∈ gU ∧ Cond.code yX8_lot cX8_lot 2 (some .int) ∈ gU ∧ (yX8_lot.cls = RX8 ∧ yX8_lot.cls ≠ "java/lang/invoke/MethodHandle" ∧ yX8_lot.cls ≠ "java/lang/invoke/VarHandle" ∧ (parseMethodDescriptor yX8_lot.desc).map (fun d => d.parameters.length) = some 1) := ⟨t_5 (i := 133) rfl rfl, t_s (i := 49) rfl rfl, t_1 (i := 12) rfl rfl, t_5 (i := 134) rfl rfl, by decide +kernel⟩
theorem mv_X8_depotOf : Cond.instanceMethod yX8_depotOf ∈ gU ∧ Cond.selects RX8 yX8_depotOf yX8_depotOf ∈ gU ∧ Cond.initialized RX8 ∈ gU ∧ Cond.code yX8_depotOf cX8_depotOf 5 (some .int) ∈ gU ∧ (yX8_depotOf.cls = RX8 ∧ yX8_depotOf.cls ≠ "java/lang/invoke/MethodHandle" ∧ yX8_depotOf.cls ≠ "java/lang/invoke/VarHandle" ∧ (parseMethodDescriptor yX8_depotOf.desc).map (fun d => d.parameters.length) = some 3) := ⟨t_5 (i := 129) rfl rfl, t_s (i := 48) rfl rfl, t_1 (i := 12) rfl rfl, t_5 (i := 130) rfl rfl, by decide +kernel⟩
theorem mv_X8_depot : Cond.instanceMethod yX8_depot ∈ gU ∧ Cond.selects RX8 yX8_depot yX8_depot ∈ gU ∧ Cond.initialized RX8 ∈ gU ∧ Cond.code yX8_depot cX8_depot 4 (some .int) ∈ gU ∧ (yX8_depot.cls = RX8 ∧ yX8_depot.cls ≠ "java/lang/invoke/MethodHandle" ∧ yX8_depot.cls ≠ "java/lang/invoke/VarHandle" ∧ (parseMethodDescriptor yX8_depot.desc).map (fun d => d.parameters.length) = some 3) := ⟨t_5 (i := 124) rfl rfl, t_5 (i := 125) rfl rfl, t_1 (i := 12) rfl rfl, t_5 (i := 126) rfl rfl, by decide +kernel⟩
theorem mv_X8_write : Cond.instanceMethod yX8_write ∈ gU ∧ Cond.selects RX8 yX8_write yX8_write ∈ gU ∧ Cond.initialized RX8 ∈ gU ∧ Cond.code yX8_write cX8_write 5 (some .int) ∈ gU ∧ (yX8_write.cls = RX8 ∧ yX8_write.cls ≠ "java/lang/invoke/MethodHandle" ∧ yX8_write.cls ≠ "java/lang/invoke/VarHandle" ∧ (parseMethodDescriptor yX8_write.desc).map (fun d => d.parameters.length) = some 2) := ⟨t_5 (i := 137) rfl rfl, t_5 (i := 138) rfl rfl, t_1 (i := 12) rfl rfl, t_5 (i := 139) rfl rfl, by decide +kernel⟩
theorem mv_X8_count : Cond.instanceMethod yX8_count ∈ gU ∧ Cond.selects RX8 yX8_count yX8_count ∈ gU ∧ Cond.initialized RX8 ∈ gU ∧ Cond.code yX8_count cX8_count 2 (some .int) ∈ gU ∧ (yX8_count.cls = RX8 ∧ yX8_count.cls ≠ "java/lang/invoke/MethodHandle" ∧ yX8_count.cls ≠ "java/lang/invoke/VarHandle" ∧ (parseMethodDescriptor yX8_count.desc).map (fun d => d.parameters.length) = some 1) := ⟨t_5 (i := 144) rfl rfl, t_5 (i := 145) rfl rfl, t_1 (i := 12) rfl rfl, t_5 (i := 146) rfl rfl, by decide +kernel⟩
theorem mv_X8_tellsRider : Cond.instanceMethod yX8_tellsRider ∈ gU ∧ Cond.selects RX8 yX8_tellsRider yX8_tellsRider ∈ gU ∧ Cond.initialized RX8 ∈ gU ∧ Cond.code yX8_tellsRider cX8_tellsRider 7 (some .long) ∈ gU ∧ (yX8_tellsRider.cls = RX8 ∧ yX8_tellsRider.cls ≠ "java/lang/invoke/MethodHandle" ∧ yX8_tellsRider.cls ≠ "java/lang/invoke/VarHandle" ∧ (parseMethodDescriptor yX8_tellsRider.desc).map (fun d => d.parameters.length) = some 2) := ⟨t_5 (i := 156) rfl rfl, t_s (i := 50) rfl rfl, t_1 (i := 12) rfl rfl, t_5 (i := 157) rfl rfl, by decide +kernel⟩
theorem mv_X8_tellsDay : Cond.instanceMethod yX8_tellsDay ∈ gU ∧ Cond.selects RX8 yX8_tellsDay yX8_tellsDay ∈ gU ∧ Cond.initialized RX8 ∈ gU ∧ Cond.code yX8_tellsDay cX8_tellsDay 6 (some .long) ∈ gU ∧ (yX8_tellsDay.cls = RX8 ∧ yX8_tellsDay.cls ≠ "java/lang/invoke/MethodHandle" ∧ yX8_tellsDay.cls ≠ "java/lang/invoke/VarHandle" ∧ (parseMethodDescriptor yX8_tellsDay.desc).map (fun d => d.parameters.length) = some 2) := ⟨t_5 (i := 160) rfl rfl, t_s (i := 51) rfl rfl, t_1 (i := 12) rfl rfl, t_5 (i := 161) rfl rfl, by decide +kernel⟩
theorem mv_X8_digest : Cond.instanceMethod yX8_digest ∈ gU ∧ Cond.selects RX8 yX8_digest yX8_digest ∈ gU ∧ Cond.initialized RX8 ∈ gU ∧ Cond.code yX8_digest cX8_digest 4 (some .long) ∈ gU ∧ (yX8_digest.cls = RX8 ∧ yX8_digest.cls ≠ "java/lang/invoke/MethodHandle" ∧ yX8_digest.cls ≠ "java/lang/invoke/VarHandle" ∧ (parseMethodDescriptor yX8_digest.desc).map (fun d => d.parameters.length) = some 0) := ⟨t_5 (i := 148) rfl rfl, t_5 (i := 149) rfl rfl, t_1 (i := 12) rfl rfl, t_5 (i := 150) rfl rfl, by decide +kernel⟩
theorem ms_J6_bitCount_0f7a4 : Cond.static yJ6_bitCount_0f7a4 ∈ gU ∧ Cond.initialized yJ6_bitCount_0f7a4.cls ∈ gU ∧ Cond.code yJ6_bitCount_0f7a4 cJ6_bitCount_0f7a4 1 (some .int) ∈ gU ∧ (yJ6_bitCount_0f7a4.cls ≠ "java/lang/invoke/MethodHandle" ∧ yJ6_bitCount_0f7a4.cls ≠ "java/lang/invoke/VarHandle" ∧ (parseMethodDescriptor yJ6_bitCount_0f7a4.desc).map (fun d => d.parameters.length) = some 1) := ⟨t_3 (i := 11) rfl rfl, t_1 (i := 13) rfl rfl, t_3 (i := 12) rfl rfl, by decide +kernel⟩
theorem ms_J9_max_7cf53 : Cond.static yJ9_max_7cf53 ∈ gU ∧ Cond.initialized yJ9_max_7cf53.cls ∈ gU ∧ Cond.code yJ9_max_7cf53 cJ9_max_7cf53 2 (some .int) ∈ gU ∧ (yJ9_max_7cf53.cls ≠ "java/lang/invoke/MethodHandle" ∧ yJ9_max_7cf53.cls ≠ "java/lang/invoke/VarHandle" ∧ (parseMethodDescriptor yJ9_max_7cf53.desc).map (fun d => d.parameters.length) = some 2) := ⟨t_1 (i := 30) rfl rfl, t_1 (i := 3) rfl rfl, t_1 (i := 31) rfl rfl, by decide +kernel⟩
theorem ms_J9_min_7cf53 : Cond.static yJ9_min_7cf53 ∈ gU ∧ Cond.initialized yJ9_min_7cf53.cls ∈ gU ∧ Cond.code yJ9_min_7cf53 cJ9_min_7cf53 2 (some .int) ∈ gU ∧ (yJ9_min_7cf53.cls ≠ "java/lang/invoke/MethodHandle" ∧ yJ9_min_7cf53.cls ≠ "java/lang/invoke/VarHandle" ∧ (parseMethodDescriptor yJ9_min_7cf53.desc).map (fun d => d.parameters.length) = some 2) := ⟨t_2 (i := 200) rfl rfl, t_1 (i := 3) rfl rfl, t_2 (i := 201) rfl rfl, by decide +kernel⟩
theorem ms_J7_fill_53178 : Cond.static yJ7_fill_53178 ∈ gU ∧ Cond.initialized yJ7_fill_53178.cls ∈ gU ∧ Cond.code yJ7_fill_53178 cJ7_fill_53178 4 (none) ∈ gU ∧ (yJ7_fill_53178.cls ≠ "java/lang/invoke/MethodHandle" ∧ yJ7_fill_53178.cls ≠ "java/lang/invoke/VarHandle" ∧ (parseMethodDescriptor yJ7_fill_53178.desc).map (fun d => d.parameters.length) = some 2) := ⟨t_2 (i := 23) rfl rfl, t_1 (i := 10) rfl rfl, t_2 (i := 24) rfl rfl, by decide +kernel⟩
theorem lay_X0 : ∀ k, k < 2 → u_lay RX0 TX0 k ∈ gU := fun k hk => match k, hk with
  | 0, _ => t_1 (i := 60) rfl rfl
  | 1, _ => t_1 (i := 62) rfl rfl
  | k + 2, h => absurd h (by omega)
theorem kc_X0 : vwCl[0]? = some (RX0, TX0, 2) ∧ (∀ w ∈ u_ws RX0 TX0 2, w ∈ gU) ∧ (∀ k, k < 2 → parseFieldDescriptor (TX0 k).2.2.1 = some (tyX0 k)) ∧ ∀ a, a < 2 → ∀ b, b < 2 → a ≠ b → (TX0 a).2.1 ≠ (TX0 b).2.1 := ⟨rfl, fun w hw => by obtain ⟨k, hk, rfl⟩ := List.mem_map.mp hw; exact lay_X0 k (List.mem_range.mp hk), tyX0_ok, nmX0⟩
theorem lay_X1 : ∀ k, k < 16 → u_lay RX1 TX1 k ∈ gU := fun k hk => match k, hk with
  | 0, _ => t_1 (i := 160) rfl rfl
  | 1, _ => t_1 (i := 162) rfl rfl
  | 2, _ => t_1 (i := 164) rfl rfl
  | 3, _ => t_1 (i := 166) rfl rfl
  | 4, _ => t_1 (i := 168) rfl rfl
  | 5, _ => t_1 (i := 170) rfl rfl
  | 6, _ => t_1 (i := 172) rfl rfl
  | 7, _ => t_1 (i := 174) rfl rfl
  | 8, _ => t_1 (i := 176) rfl rfl
  | 9, _ => t_1 (i := 178) rfl rfl
  | 10, _ => t_1 (i := 180) rfl rfl
  | 11, _ => t_1 (i := 182) rfl rfl
  | 12, _ => t_1 (i := 184) rfl rfl
  | 13, _ => t_1 (i := 186) rfl rfl
  | 14, _ => t_1 (i := 188) rfl rfl
  | 15, _ => t_1 (i := 190) rfl rfl
  | k + 16, h => absurd h (by omega)
theorem kc_X1 : vwCl[1]? = some (RX1, TX1, 16) ∧ (∀ w ∈ u_ws RX1 TX1 16, w ∈ gU) ∧ (∀ k, k < 16 → parseFieldDescriptor (TX1 k).2.2.1 = some (tyX1 k)) ∧ ∀ a, a < 16 → ∀ b, b < 16 → a ≠ b → (TX1 a).2.1 ≠ (TX1 b).2.1 := ⟨rfl, fun w hw => by obtain ⟨k, hk, rfl⟩ := List.mem_map.mp hw; exact lay_X1 k (List.mem_range.mp hk), tyX1_ok, nmX1⟩
theorem lay_X2 : ∀ k, k < 3 → u_lay RX2 TX2 k ∈ gU := fun k hk => match k, hk with
  | 0, _ => t_2 (i := 6) rfl rfl
  | 1, _ => t_2 (i := 8) rfl rfl
  | 2, _ => t_2 (i := 10) rfl rfl
  | k + 3, h => absurd h (by omega)
theorem kc_X2 : vwCl[2]? = some (RX2, TX2, 3) ∧ (∀ w ∈ u_ws RX2 TX2 3, w ∈ gU) ∧ (∀ k, k < 3 → parseFieldDescriptor (TX2 k).2.2.1 = some (tyX2 k)) ∧ ∀ a, a < 3 → ∀ b, b < 3 → a ≠ b → (TX2 a).2.1 ≠ (TX2 b).2.1 := ⟨rfl, fun w hw => by obtain ⟨k, hk, rfl⟩ := List.mem_map.mp hw; exact lay_X2 k (List.mem_range.mp hk), tyX2_ok, nmX2⟩
theorem lay_X3 : ∀ k, k < 4 → u_lay RX3 TX3 k ∈ gU := fun k hk => match k, hk with
  | 0, _ => t_1 (i := 224) rfl rfl
  | 1, _ => t_1 (i := 226) rfl rfl
  | 2, _ => t_1 (i := 228) rfl rfl
  | 3, _ => t_1 (i := 230) rfl rfl
  | k + 4, h => absurd h (by omega)
theorem kc_X3 : vwCl[3]? = some (RX3, TX3, 4) ∧ (∀ w ∈ u_ws RX3 TX3 4, w ∈ gU) ∧ (∀ k, k < 4 → parseFieldDescriptor (TX3 k).2.2.1 = some (tyX3 k)) ∧ ∀ a, a < 4 → ∀ b, b < 4 → a ≠ b → (TX3 a).2.1 ≠ (TX3 b).2.1 := ⟨rfl, fun w hw => by obtain ⟨k, hk, rfl⟩ := List.mem_map.mp hw; exact lay_X3 k (List.mem_range.mp hk), tyX3_ok, nmX3⟩
theorem lay_X4 : ∀ k, k < 4 → u_lay RX4 TX4 k ∈ gU := fun k hk => match k, hk with
  | 0, _ => t_1 (i := 203) rfl rfl
  | 1, _ => t_1 (i := 205) rfl rfl
  | 2, _ => t_1 (i := 207) rfl rfl
  | 3, _ => t_1 (i := 209) rfl rfl
  | k + 4, h => absurd h (by omega)
theorem kc_X4 : vwCl[4]? = some (RX4, TX4, 4) ∧ (∀ w ∈ u_ws RX4 TX4 4, w ∈ gU) ∧ (∀ k, k < 4 → parseFieldDescriptor (TX4 k).2.2.1 = some (tyX4 k)) ∧ ∀ a, a < 4 → ∀ b, b < 4 → a ≠ b → (TX4 a).2.1 ≠ (TX4 b).2.1 := ⟨rfl, fun w hw => by obtain ⟨k, hk, rfl⟩ := List.mem_map.mp hw; exact lay_X4 k (List.mem_range.mp hk), tyX4_ok, nmX4⟩
theorem lay_X5 : ∀ k, k < 2 → u_lay RX5 TX5 k ∈ gU := fun k hk => match k, hk with
  | 0, _ => t_1 (i := 37) rfl rfl
  | 1, _ => t_1 (i := 39) rfl rfl
  | k + 2, h => absurd h (by omega)
theorem kc_X5 : vwCl[5]? = some (RX5, TX5, 2) ∧ (∀ w ∈ u_ws RX5 TX5 2, w ∈ gU) ∧ (∀ k, k < 2 → parseFieldDescriptor (TX5 k).2.2.1 = some (tyX5 k)) ∧ ∀ a, a < 2 → ∀ b, b < 2 → a ≠ b → (TX5 a).2.1 ≠ (TX5 b).2.1 := ⟨rfl, fun w hw => by obtain ⟨k, hk, rfl⟩ := List.mem_map.mp hw; exact lay_X5 k (List.mem_range.mp hk), tyX5_ok, nmX5⟩
theorem lay_X6 : ∀ k, k < 12 → u_lay RX6 TX6 k ∈ gU := fun k hk => match k, hk with
  | 0, _ => t_1 (i := 99) rfl rfl
  | 1, _ => t_1 (i := 101) rfl rfl
  | 2, _ => t_1 (i := 103) rfl rfl
  | 3, _ => t_1 (i := 105) rfl rfl
  | 4, _ => t_1 (i := 107) rfl rfl
  | 5, _ => t_1 (i := 109) rfl rfl
  | 6, _ => t_1 (i := 111) rfl rfl
  | 7, _ => t_1 (i := 113) rfl rfl
  | 8, _ => t_1 (i := 115) rfl rfl
  | 9, _ => t_1 (i := 117) rfl rfl
  | 10, _ => t_1 (i := 119) rfl rfl
  | 11, _ => t_1 (i := 121) rfl rfl
  | k + 12, h => absurd h (by omega)
theorem kc_X6 : vwCl[6]? = some (RX6, TX6, 12) ∧ (∀ w ∈ u_ws RX6 TX6 12, w ∈ gU) ∧ (∀ k, k < 12 → parseFieldDescriptor (TX6 k).2.2.1 = some (tyX6 k)) ∧ ∀ a, a < 12 → ∀ b, b < 12 → a ≠ b → (TX6 a).2.1 ≠ (TX6 b).2.1 := ⟨rfl, fun w hw => by obtain ⟨k, hk, rfl⟩ := List.mem_map.mp hw; exact lay_X6 k (List.mem_range.mp hk), tyX6_ok, nmX6⟩
theorem lay_X7 : ∀ k, k < 10 → u_lay RX7 TX7 k ∈ gU := fun k hk => match k, hk with
  | 0, _ => t_2 (i := 116) rfl rfl
  | 1, _ => t_2 (i := 118) rfl rfl
  | 2, _ => t_2 (i := 120) rfl rfl
  | 3, _ => t_2 (i := 122) rfl rfl
  | 4, _ => t_2 (i := 124) rfl rfl
  | 5, _ => t_2 (i := 126) rfl rfl
  | 6, _ => t_2 (i := 128) rfl rfl
  | 7, _ => t_2 (i := 130) rfl rfl
  | 8, _ => t_2 (i := 132) rfl rfl
  | 9, _ => t_2 (i := 134) rfl rfl
  | k + 10, h => absurd h (by omega)
theorem kc_X7 : vwCl[7]? = some (RX7, TX7, 10) ∧ (∀ w ∈ u_ws RX7 TX7 10, w ∈ gU) ∧ (∀ k, k < 10 → parseFieldDescriptor (TX7 k).2.2.1 = some (tyX7 k)) ∧ ∀ a, a < 10 → ∀ b, b < 10 → a ≠ b → (TX7 a).2.1 ≠ (TX7 b).2.1 := ⟨rfl, fun w hw => by obtain ⟨k, hk, rfl⟩ := List.mem_map.mp hw; exact lay_X7 k (List.mem_range.mp hk), tyX7_ok, nmX7⟩
theorem lay_X8 : ∀ k, k < 30 → u_lay RX8 TX8 k ∈ gU := fun k hk => match k, hk with
  | 0, _ => t_4 (i := 0) rfl rfl
  | 1, _ => t_4 (i := 2) rfl rfl
  | 2, _ => t_4 (i := 4) rfl rfl
  | 3, _ => t_4 (i := 6) rfl rfl
  | 4, _ => t_4 (i := 8) rfl rfl
  | 5, _ => t_4 (i := 10) rfl rfl
  | 6, _ => t_4 (i := 12) rfl rfl
  | 7, _ => t_4 (i := 14) rfl rfl
  | 8, _ => t_4 (i := 16) rfl rfl
  | 9, _ => t_4 (i := 18) rfl rfl
  | 10, _ => t_4 (i := 20) rfl rfl
  | 11, _ => t_4 (i := 22) rfl rfl
  | 12, _ => t_4 (i := 24) rfl rfl
  | 13, _ => t_4 (i := 26) rfl rfl
  | 14, _ => t_4 (i := 28) rfl rfl
  | 15, _ => t_4 (i := 30) rfl rfl
  | 16, _ => t_4 (i := 32) rfl rfl
  | 17, _ => t_4 (i := 34) rfl rfl
  | 18, _ => t_4 (i := 36) rfl rfl
  | 19, _ => t_4 (i := 38) rfl rfl
  | 20, _ => t_4 (i := 40) rfl rfl
  | 21, _ => t_4 (i := 42) rfl rfl
  | 22, _ => t_4 (i := 44) rfl rfl
  | 23, _ => t_4 (i := 46) rfl rfl
  | 24, _ => t_4 (i := 48) rfl rfl
  | 25, _ => t_4 (i := 50) rfl rfl
  | 26, _ => t_4 (i := 52) rfl rfl
  | 27, _ => t_4 (i := 54) rfl rfl
  | 28, _ => t_4 (i := 56) rfl rfl
  | 29, _ => t_4 (i := 58) rfl rfl
  | k + 30, h => absurd h (by omega)
theorem kc_X8 : vwCl[8]? = some (RX8, TX8, 30) ∧ (∀ w ∈ u_ws RX8 TX8 30, w ∈ gU) ∧ (∀ k, k < 30 → parseFieldDescriptor (TX8 k).2.2.1 = some (tyX8 k)) ∧ ∀ a, a < 30 → ∀ b, b < 30 → a ≠ b → (TX8 a).2.1 ≠ (TX8 b).2.1 := ⟨rfl, fun w hw => by obtain ⟨k, hk, rfl⟩ := List.mem_map.mp hw; exact lay_X8 k (List.mem_range.mp hk), tyX8_ok, nmX8⟩
theorem w_nat : Cond.native arraycopyName ∈ gU := t_2 (i := 66) rfl rfl
theorem w_sta : Cond.static arraycopyName ∈ gU := t_2 (i := 65) rfl rfl
theorem w_sys : Cond.initialized "java/lang/System" ∈ gU := t_1 (i := 11) rfl rfl
