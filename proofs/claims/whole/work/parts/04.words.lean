set_option maxRecDepth 20000 in
theorem kn_L : Cond.initialized RL ∈ gw := gw_mem 39 (by decide +kernel) (by decide +kernel)
set_option maxRecDepth 20000 in
theorem kn_X8 : Cond.initialized RX8 ∈ gw := gw_mem 40 (by decide +kernel) (by decide +kernel)
set_option maxRecDepth 20000 in
theorem kn_X1 : Cond.initialized RX1 ∈ gw := gw_mem 41 (by decide +kernel) (by decide +kernel)
set_option maxRecDepth 20000 in
theorem kn_X7 : Cond.initialized RX7 ∈ gw := gw_mem 42 (by decide +kernel) (by decide +kernel)
set_option maxRecDepth 20000 in
theorem kn_X4 : Cond.initialized RX4 ∈ gw := gw_mem 43 (by decide +kernel) (by decide +kernel)
set_option maxRecDepth 20000 in
theorem kn_X0 : Cond.initialized RX0 ∈ gw := gw_mem 44 (by decide +kernel) (by decide +kernel)
set_option maxRecDepth 20000 in
theorem kn_X5 : Cond.initialized RX5 ∈ gw := gw_mem 45 (by decide +kernel) (by decide +kernel)
set_option maxRecDepth 20000 in
theorem kn_X2 : Cond.initialized RX2 ∈ gw := gw_mem 46 (by decide +kernel) (by decide +kernel)
set_option maxRecDepth 20000 in
theorem kn_X3 : Cond.initialized RX3 ∈ gw := gw_mem 47 (by decide +kernel) (by decide +kernel)
set_option maxRecDepth 20000 in
theorem kn_X6 : Cond.initialized RX6 ∈ gw := gw_mem 48 (by decide +kernel) (by decide +kernel)
set_option maxRecDepth 20000 in
theorem kn_X9 : Cond.initialized RX9 ∈ gw := gw_mem 49 (by decide +kernel) (by decide +kernel)
set_option maxRecDepth 20000 in
theorem kn_J0 : Cond.initialized RJ0 ∈ gw := gw_mem 50 (by decide +kernel) (by decide +kernel)
set_option maxRecDepth 20000 in
theorem kn_J1 : Cond.initialized RJ1 ∈ gw := gw_mem 51 (by decide +kernel) (by decide +kernel)
set_option maxRecDepth 20000 in
theorem kn_J3 : Cond.initialized RJ3 ∈ gw := gw_mem 52 (by decide +kernel) (by decide +kernel)
set_option maxRecDepth 20000 in
theorem kn_J2 : Cond.initialized RJ2 ∈ gw := gw_mem 53 (by decide +kernel) (by decide +kernel)
set_option maxRecDepth 20000 in
theorem kn_J9 : Cond.initialized RJ9 ∈ gw := gw_mem 54 (by decide +kernel) (by decide +kernel)
set_option maxRecDepth 20000 in
theorem kl_L_7 : Cond.classLink RL 7 RX8 ∈ gw := gw_mem 55 (by decide +kernel) (by decide +kernel)
set_option maxRecDepth 20000 in
theorem ka_X8 : Cond.instantiable RX8 11 ∈ gw := gw_mem 56 (by decide +kernel) (by decide +kernel)
set_option maxRecDepth 20000 in
theorem km_L_9 : Cond.methodLink RL 9 yX8_init ∈ gw := gw_mem 57 (by decide +kernel) (by decide +kernel)
set_option maxRecDepth 20000 in
theorem ki_X8_init : Cond.instanceMethod yX8_init ∈ gw := gw_mem 58 (by decide +kernel) (by decide +kernel)
set_option maxRecDepth 20000 in
theorem kc_X8_init : Cond.code yX8_init cX8_init 2 none ∈ gw := gw_mem 59 (by exact rfl) (by decide +kernel)
set_option maxRecDepth 20000 in
theorem km_X8_3 : Cond.methodLink RX8 3 objectInit ∈ gw := gw_mem 60 (by decide +kernel) (by decide +kernel)
set_option maxRecDepth 20000 in
theorem ki_obj : Cond.instanceMethod objectInit ∈ gw := gw_mem 61 (by decide +kernel) (by decide +kernel)
set_option maxRecDepth 20000 in
theorem kc_obj : Cond.code objectInit ⟨#[0xb1]⟩ 1 none ∈ gw := gw_mem 62 (by exact rfl) (by decide +kernel)
set_option maxRecDepth 20000 in
theorem kl_X8_9 : Cond.classLink RX8 9 RX2 ∈ gw := gw_mem 63 (by decide +kernel) (by decide +kernel)
set_option maxRecDepth 20000 in
theorem kl_X8_15 : Cond.classLink RX8 15 RX3 ∈ gw := gw_mem 65 (by decide +kernel) (by decide +kernel)
set_option maxRecDepth 20000 in
theorem kl_X8_21 : Cond.classLink RX8 21 RX6 ∈ gw := gw_mem 67 (by decide +kernel) (by decide +kernel)
set_option maxRecDepth 20000 in
theorem kl_X8_27 : Cond.classLink RX8 27 RX1 ∈ gw := gw_mem 69 (by decide +kernel) (by decide +kernel)
set_option maxRecDepth 20000 in
theorem ka_X1 : Cond.instantiable RX1 5 ∈ gw := gw_mem 70 (by decide +kernel) (by decide +kernel)
set_option maxRecDepth 20000 in
theorem ki_X1_init : Cond.instanceMethod yX1_init ∈ gw := gw_mem 72 (by decide +kernel) (by decide +kernel)
set_option maxRecDepth 20000 in
theorem kc_X1_init : Cond.code yX1_init cX1_init 1 none ∈ gw := gw_mem 73 (by exact rfl) (by decide +kernel)
set_option maxRecDepth 20000 in
theorem km_X1_3 : Cond.methodLink RX1 3 objectInit ∈ gw := gw_mem 74 (by decide +kernel) (by decide +kernel)
set_option maxRecDepth 20000 in
theorem kl_X1_9 : Cond.classLink RX1 9 RX7 ∈ gw := gw_mem 75 (by decide +kernel) (by decide +kernel)
set_option maxRecDepth 20000 in
theorem ka_X7 : Cond.instantiable RX7 6 ∈ gw := gw_mem 76 (by decide +kernel) (by decide +kernel)
set_option maxRecDepth 20000 in
theorem ki_X7_init : Cond.instanceMethod yX7_init ∈ gw := gw_mem 78 (by decide +kernel) (by decide +kernel)
set_option maxRecDepth 20000 in
theorem kc_X7_init : Cond.code yX7_init cX7_init 1 none ∈ gw := gw_mem 79 (by exact rfl) (by decide +kernel)
set_option maxRecDepth 20000 in
theorem km_X7_3 : Cond.methodLink RX7 3 objectInit ∈ gw := gw_mem 80 (by decide +kernel) (by decide +kernel)
set_option maxRecDepth 20000 in
theorem kf_X7_15 : Cond.fieldLink RX7 15 "GlassValley$Tape" "length" "I" ∈ gw := gw_mem 81 (by decide +kernel) (by decide +kernel)
set_option maxRecDepth 20000 in
theorem kf_X8_121 : Cond.fieldLink RX8 121 "GlassValley$Tape" "length" "I" ∈ gw := gw_mem 82 (by decide +kernel) (by decide +kernel)
set_option maxRecDepth 20000 in
theorem kf_X1_40 : Cond.fieldLink RX1 40 "GlassValley$Tape" "token" "I" ∈ gw := gw_mem 83 (by decide +kernel) (by decide +kernel)
set_option maxRecDepth 20000 in
theorem kf_X7_31 : Cond.fieldLink RX7 31 "GlassValley$Tape" "token" "I" ∈ gw := gw_mem 84 (by decide +kernel) (by decide +kernel)
set_option maxRecDepth 20000 in
theorem kf_X7_28 : Cond.fieldLink RX7 28 "GlassValley$Tape" "place" "I" ∈ gw := gw_mem 85 (by decide +kernel) (by decide +kernel)
set_option maxRecDepth 20000 in
theorem kf_X1_103 : Cond.fieldLink RX1 103 "GlassValley$Tape" "place" "I" ∈ gw := gw_mem 86 (by decide +kernel) (by decide +kernel)
set_option maxRecDepth 20000 in
theorem kf_X1_78 : Cond.fieldLink RX1 78 "GlassValley$Tape" "value" "I" ∈ gw := gw_mem 87 (by decide +kernel) (by decide +kernel)
set_option maxRecDepth 20000 in
theorem kf_X7_51 : Cond.fieldLink RX7 51 "GlassValley$Tape" "value" "I" ∈ gw := gw_mem 88 (by decide +kernel) (by decide +kernel)
set_option maxRecDepth 20000 in
theorem kf_X7_9 : Cond.fieldLink RX7 9 "GlassValley$Tape" "bytes" "[B" ∈ gw := gw_mem 89 (by decide +kernel) (by decide +kernel)
set_option maxRecDepth 20000 in
theorem kf_X7_19 : Cond.fieldLink RX7 19 "GlassValley$Tape" "next" "I" ∈ gw := gw_mem 90 (by decide +kernel) (by decide +kernel)
set_option maxRecDepth 20000 in
theorem kr_byte : Cond.arrayClass .byte ∈ gw := gw_mem 104 (by decide +kernel) (by decide +kernel)
set_option maxRecDepth 20000 in
theorem kf_X1_12 : Cond.fieldLink RX1 12 "GlassValley$CustomReader" "tape" "LGlassValley$Tape;" ∈ gw := gw_mem 105 (by decide +kernel) (by decide +kernel)
set_option maxRecDepth 20000 in
theorem kf_X8_117 : Cond.fieldLink RX8 117 "GlassValley$CustomReader" "tape" "LGlassValley$Tape;" ∈ gw := gw_mem 106 (by decide +kernel) (by decide +kernel)
set_option maxRecDepth 20000 in
theorem kf_X1_26 : Cond.fieldLink RX1 26 "GlassValley$CustomReader" "lines" "I" ∈ gw := gw_mem 107 (by decide +kernel) (by decide +kernel)
set_option maxRecDepth 20000 in
theorem kf_X8_133 : Cond.fieldLink RX8 133 "GlassValley$CustomReader" "lines" "I" ∈ gw := gw_mem 108 (by decide +kernel) (by decide +kernel)
set_option maxRecDepth 20000 in
theorem kf_X1_29 : Cond.fieldLink RX1 29 "GlassValley$CustomReader" "faultKind" "I" ∈ gw := gw_mem 109 (by decide +kernel) (by decide +kernel)
set_option maxRecDepth 20000 in
theorem kf_X8_136 : Cond.fieldLink RX8 136 "GlassValley$CustomReader" "faultKind" "I" ∈ gw := gw_mem 110 (by decide +kernel) (by decide +kernel)
set_option maxRecDepth 20000 in
theorem kf_X1_18 : Cond.fieldLink RX1 18 "GlassValley$CustomReader" "faultPlace" "I" ∈ gw := gw_mem 111 (by decide +kernel) (by decide +kernel)
set_option maxRecDepth 20000 in
theorem kf_X8_139 : Cond.fieldLink RX8 139 "GlassValley$CustomReader" "faultPlace" "I" ∈ gw := gw_mem 112 (by decide +kernel) (by decide +kernel)
set_option maxRecDepth 20000 in
theorem kf_X1_22 : Cond.fieldLink RX1 22 "GlassValley$CustomReader" "numbers" "[I" ∈ gw := gw_mem 113 (by decide +kernel) (by decide +kernel)
set_option maxRecDepth 20000 in
theorem kr_int : Cond.arrayClass .int ∈ gw := gw_mem 125 (by decide +kernel) (by decide +kernel)
set_option maxRecDepth 20000 in
theorem kl_X8_34 : Cond.classLink RX8 34 RX4 ∈ gw := gw_mem 126 (by decide +kernel) (by decide +kernel)
set_option maxRecDepth 20000 in
theorem ka_X4 : Cond.instantiable RX4 15 ∈ gw := gw_mem 127 (by decide +kernel) (by decide +kernel)
set_option maxRecDepth 20000 in
theorem ki_X4_init : Cond.instanceMethod yX4_init ∈ gw := gw_mem 129 (by decide +kernel) (by decide +kernel)
set_option maxRecDepth 20000 in
theorem kc_X4_init : Cond.code yX4_init cX4_init 1 none ∈ gw := gw_mem 130 (by exact rfl) (by decide +kernel)
set_option maxRecDepth 20000 in
theorem km_X4_3 : Cond.methodLink RX4 3 objectInit ∈ gw := gw_mem 131 (by decide +kernel) (by decide +kernel)
set_option maxRecDepth 20000 in
theorem kl_X4_24 : Cond.classLink RX4 24 RX0 ∈ gw := gw_mem 132 (by decide +kernel) (by decide +kernel)
set_option maxRecDepth 20000 in
theorem ka_X0 : Cond.instantiable RX0 2 ∈ gw := gw_mem 133 (by decide +kernel) (by decide +kernel)
set_option maxRecDepth 20000 in
theorem ki_X0_init : Cond.instanceMethod yX0_init ∈ gw := gw_mem 135 (by decide +kernel) (by decide +kernel)
set_option maxRecDepth 20000 in
theorem kc_X0_init : Cond.code yX0_init cX0_init 1 none ∈ gw := gw_mem 136 (by exact rfl) (by decide +kernel)
set_option maxRecDepth 20000 in
theorem km_X0_1 : Cond.methodLink RX0 1 objectInit ∈ gw := gw_mem 137 (by decide +kernel) (by decide +kernel)
set_option maxRecDepth 20000 in
theorem kf_X0_19 : Cond.fieldLink RX0 19 "GlassValley$Bench" "week" "I" ∈ gw := gw_mem 138 (by decide +kernel) (by decide +kernel)
set_option maxRecDepth 20000 in
theorem kf_X4_100 : Cond.fieldLink RX4 100 "GlassValley$Bench" "week" "I" ∈ gw := gw_mem 139 (by decide +kernel) (by decide +kernel)
set_option maxRecDepth 20000 in
theorem kf_X0_27 : Cond.fieldLink RX0 27 "GlassValley$Bench" "hoursLeft" "I" ∈ gw := gw_mem 140 (by decide +kernel) (by decide +kernel)
set_option maxRecDepth 20000 in
theorem kf_X4_103 : Cond.fieldLink RX4 103 "GlassValley$Bench" "hoursLeft" "I" ∈ gw := gw_mem 141 (by decide +kernel) (by decide +kernel)
set_option maxRecDepth 20000 in
theorem kf_X4_128 : Cond.fieldLink RX4 128 "GlassValley$Plan" "prices" "I" ∈ gw := gw_mem 149 (by decide +kernel) (by decide +kernel)
set_option maxRecDepth 20000 in
theorem kf_X8_178 : Cond.fieldLink RX8 178 "GlassValley$Plan" "prices" "I" ∈ gw := gw_mem 150 (by decide +kernel) (by decide +kernel)
set_option maxRecDepth 20000 in
theorem kf_X4_131 : Cond.fieldLink RX4 131 "GlassValley$Plan" "hours" "I" ∈ gw := gw_mem 151 (by decide +kernel) (by decide +kernel)
set_option maxRecDepth 20000 in
theorem kf_X8_181 : Cond.fieldLink RX8 181 "GlassValley$Plan" "hours" "I" ∈ gw := gw_mem 152 (by decide +kernel) (by decide +kernel)
set_option maxRecDepth 20000 in
theorem kf_X4_9 : Cond.fieldLink RX4 9 "GlassValley$Plan" "familyOf" "[I" ∈ gw := gw_mem 153 (by decide +kernel) (by decide +kernel)
set_option maxRecDepth 20000 in
theorem kf_X8_172 : Cond.fieldLink RX8 172 "GlassValley$Plan" "familyOf" "[I" ∈ gw := gw_mem 154 (by decide +kernel) (by decide +kernel)
set_option maxRecDepth 20000 in
theorem kf_X4_15 : Cond.fieldLink RX4 15 "GlassValley$Plan" "overIn" "[I" ∈ gw := gw_mem 155 (by decide +kernel) (by decide +kernel)
set_option maxRecDepth 20000 in
theorem kf_X8_175 : Cond.fieldLink RX8 175 "GlassValley$Plan" "overIn" "[I" ∈ gw := gw_mem 156 (by decide +kernel) (by decide +kernel)
set_option maxRecDepth 20000 in
theorem kf_X4_18 : Cond.fieldLink RX4 18 "GlassValley$Plan" "hoursNow" "[I" ∈ gw := gw_mem 157 (by decide +kernel) (by decide +kernel)
set_option maxRecDepth 20000 in
theorem kf_X8_186 : Cond.fieldLink RX8 186 "GlassValley$Plan" "hoursNow" "[I" ∈ gw := gw_mem 158 (by decide +kernel) (by decide +kernel)
set_option maxRecDepth 20000 in
theorem kf_X4_21 : Cond.fieldLink RX4 21 "GlassValley$Plan" "row" "[I" ∈ gw := gw_mem 159 (by decide +kernel) (by decide +kernel)
set_option maxRecDepth 20000 in
theorem kf_X4_60 : Cond.fieldLink RX4 60 "GlassValley$Plan" "open" "I" ∈ gw := gw_mem 160 (by decide +kernel) (by decide +kernel)
set_option maxRecDepth 20000 in
theorem kf_X4_27 : Cond.fieldLink RX4 27 "GlassValley$Plan" "bench" "LGlassValley$Bench;" ∈ gw := gw_mem 161 (by decide +kernel) (by decide +kernel)
set_option maxRecDepth 20000 in
theorem kf_X4_31 : Cond.fieldLink RX4 31 "GlassValley$Plan" "canBe" "[Z" ∈ gw := gw_mem 162 (by decide +kernel) (by decide +kernel)
set_option maxRecDepth 20000 in
theorem kf_X4_35 : Cond.fieldLink RX4 35 "GlassValley$Plan" "endWeek" "[I" ∈ gw := gw_mem 163 (by decide +kernel) (by decide +kernel)
set_option maxRecDepth 20000 in
theorem kf_X4_38 : Cond.fieldLink RX4 38 "GlassValley$Plan" "endHoursLeft" "[I" ∈ gw := gw_mem 164 (by decide +kernel) (by decide +kernel)
set_option maxRecDepth 20000 in
theorem kf_X4_41 : Cond.fieldLink RX4 41 "GlassValley$Plan" "silver" "[I" ∈ gw := gw_mem 165 (by decide +kernel) (by decide +kernel)
set_option maxRecDepth 20000 in
theorem kf_X4_44 : Cond.fieldLink RX4 44 "GlassValley$Plan" "rank" "[J" ∈ gw := gw_mem 166 (by decide +kernel) (by decide +kernel)
set_option maxRecDepth 20000 in
theorem kf_X4_48 : Cond.fieldLink RX4 48 "GlassValley$Plan" "bestRank" "[J" ∈ gw := gw_mem 167 (by decide +kernel) (by decide +kernel)
set_option maxRecDepth 20000 in
theorem kf_X4_53 : Cond.fieldLink RX4 53 "GlassValley$Plan" "part" "[[I" ∈ gw := gw_mem 168 (by decide +kernel) (by decide +kernel)
set_option maxRecDepth 20000 in
theorem kr_boolean : Cond.arrayClass .boolean ∈ gw := gw_mem 200 (by decide +kernel) (by decide +kernel)
set_option maxRecDepth 20000 in
theorem kr_long : Cond.arrayClass .long ∈ gw := gw_mem 201 (by decide +kernel) (by decide +kernel)
set_option maxRecDepth 20000 in
theorem kl_X8_41 : Cond.classLink RX8 41 RX5 ∈ gw := gw_mem 202 (by decide +kernel) (by decide +kernel)
set_option maxRecDepth 20000 in
theorem ka_X5 : Cond.instantiable RX5 3 ∈ gw := gw_mem 203 (by decide +kernel) (by decide +kernel)
set_option maxRecDepth 20000 in
theorem km_X8_43 : Cond.methodLink RX8 43 yX5_init ∈ gw := gw_mem 204 (by decide +kernel) (by decide +kernel)
set_option maxRecDepth 20000 in
theorem ki_X5_init : Cond.instanceMethod yX5_init ∈ gw := gw_mem 205 (by decide +kernel) (by decide +kernel)
set_option maxRecDepth 20000 in
theorem kc_X5_init : Cond.code yX5_init cX5_init 1 none ∈ gw := gw_mem 206 (by exact rfl) (by decide +kernel)
set_option maxRecDepth 20000 in
theorem km_X5_3 : Cond.methodLink RX5 3 objectInit ∈ gw := gw_mem 207 (by decide +kernel) (by decide +kernel)
set_option maxRecDepth 20000 in
theorem km_X5_24 : Cond.methodLink RX5 24 yX5_forget ∈ gw := gw_mem 209 (by decide +kernel) (by decide +kernel)
set_option maxRecDepth 20000 in
theorem ki_X5_forget : Cond.instanceMethod yX5_forget ∈ gw := gw_mem 210 (by decide +kernel) (by decide +kernel)
set_option maxRecDepth 20000 in
theorem ks_X5_forget : Cond.selects RX5 yX5_forget yX5_forget ∈ gw := gw_mem 211 (by decide +kernel) (by decide +kernel)
set_option maxRecDepth 20000 in
theorem kc_X5_forget : Cond.code yX5_forget cX5_forget 2 none ∈ gw := gw_mem 212 (by exact rfl) (by decide +kernel)
set_option maxRecDepth 20000 in
theorem km_X5_27 : Cond.methodLink RX5 27 yX5_give ∈ gw := gw_mem 213 (by decide +kernel) (by decide +kernel)
set_option maxRecDepth 20000 in
theorem ki_X5_give : Cond.instanceMethod yX5_give ∈ gw := gw_mem 214 (by decide +kernel) (by decide +kernel)
set_option maxRecDepth 20000 in
theorem ks_X5_give : Cond.selects RX5 yX5_give yX5_give ∈ gw := gw_mem 215 (by decide +kernel) (by decide +kernel)
set_option maxRecDepth 20000 in
theorem kc_X5_give : Cond.code yX5_give cX5_give 4 none ∈ gw := gw_mem 216 (by exact rfl) (by decide +kernel)
set_option maxRecDepth 20000 in
theorem kf_X5_9 : Cond.fieldLink RX5 9 "GlassValley$Rights" "owner" "[I" ∈ gw := gw_mem 217 (by decide +kernel) (by decide +kernel)
set_option maxRecDepth 20000 in
theorem kf_X5_17 : Cond.fieldLink RX5 17 "GlassValley$Rights" "lentUntil" "[[I" ∈ gw := gw_mem 218 (by decide +kernel) (by decide +kernel)
set_option maxRecDepth 20000 in
theorem kf_X5_20 : Cond.fieldLink RX5 20 "GlassValley$Rights" "barred" "[J" ∈ gw := gw_mem 219 (by decide +kernel) (by decide +kernel)
set_option maxRecDepth 20000 in
theorem ka_X2 : Cond.instantiable RX2 4 ∈ gw := gw_mem 227 (by decide +kernel) (by decide +kernel)
set_option maxRecDepth 20000 in
theorem km_X8_51 : Cond.methodLink RX8 51 yX2_init ∈ gw := gw_mem 228 (by decide +kernel) (by decide +kernel)
set_option maxRecDepth 20000 in
theorem ki_X2_init : Cond.instanceMethod yX2_init ∈ gw := gw_mem 229 (by decide +kernel) (by decide +kernel)
set_option maxRecDepth 20000 in
theorem kc_X2_init : Cond.code yX2_init cX2_init 3 none ∈ gw := gw_mem 230 (by exact rfl) (by decide +kernel)
set_option maxRecDepth 20000 in
theorem km_X2_3 : Cond.methodLink RX2 3 objectInit ∈ gw := gw_mem 231 (by decide +kernel) (by decide +kernel)
set_option maxRecDepth 20000 in
theorem kf_X2_15 : Cond.fieldLink RX2 15 "GlassValley$Family" "number" "I" ∈ gw := gw_mem 232 (by decide +kernel) (by decide +kernel)
set_option maxRecDepth 20000 in
theorem kf_X0_7 : Cond.fieldLink RX0 7 "GlassValley$Family" "number" "I" ∈ gw := gw_mem 233 (by decide +kernel) (by decide +kernel)
set_option maxRecDepth 20000 in
theorem kf_X4_93 : Cond.fieldLink RX4 93 "GlassValley$Family" "number" "I" ∈ gw := gw_mem 234 (by decide +kernel) (by decide +kernel)
set_option maxRecDepth 20000 in
theorem kf_X2_9 : Cond.fieldLink RX2 9 "GlassValley$Family" "hours" "[I" ∈ gw := gw_mem 235 (by decide +kernel) (by decide +kernel)
set_option maxRecDepth 20000 in
theorem kf_X8_67 : Cond.fieldLink RX8 67 "GlassValley$Family" "hours" "[I" ∈ gw := gw_mem 236 (by decide +kernel) (by decide +kernel)
set_option maxRecDepth 20000 in
theorem kf_X0_30 : Cond.fieldLink RX0 30 "GlassValley$Family" "hours" "[I" ∈ gw := gw_mem 237 (by decide +kernel) (by decide +kernel)
set_option maxRecDepth 20000 in
theorem kf_X4_88 : Cond.fieldLink RX4 88 "GlassValley$Family" "hours" "[I" ∈ gw := gw_mem 238 (by decide +kernel) (by decide +kernel)
set_option maxRecDepth 20000 in
theorem kf_X8_100 : Cond.fieldLink RX8 100 "GlassValley$Family" "silver" "I" ∈ gw := gw_mem 239 (by decide +kernel) (by decide +kernel)
set_option maxRecDepth 20000 in
theorem kf_X4_108 : Cond.fieldLink RX4 108 "GlassValley$Family" "silver" "I" ∈ gw := gw_mem 240 (by decide +kernel) (by decide +kernel)
set_option maxRecDepth 20000 in
theorem kf_X8_145 : Cond.fieldLink RX8 145 "GlassValley$Family" "used" "I" ∈ gw := gw_mem 241 (by decide +kernel) (by decide +kernel)
set_option maxRecDepth 20000 in
theorem ka_X3 : Cond.instantiable RX3 3 ∈ gw := gw_mem 251 (by decide +kernel) (by decide +kernel)
set_option maxRecDepth 20000 in
theorem ki_X3_init : Cond.instanceMethod yX3_init ∈ gw := gw_mem 253 (by decide +kernel) (by decide +kernel)
set_option maxRecDepth 20000 in
theorem kc_X3_init : Cond.code yX3_init cX3_init 1 none ∈ gw := gw_mem 254 (by exact rfl) (by decide +kernel)
set_option maxRecDepth 20000 in
theorem km_X3_3 : Cond.methodLink RX3 3 objectInit ∈ gw := gw_mem 255 (by decide +kernel) (by decide +kernel)
set_option maxRecDepth 20000 in
theorem kf_X3_9 : Cond.fieldLink RX3 9 "GlassValley$Pattern" "hours" "I" ∈ gw := gw_mem 256 (by decide +kernel) (by decide +kernel)
set_option maxRecDepth 20000 in
theorem kf_X6_33 : Cond.fieldLink RX6 33 "GlassValley$Pattern" "hours" "I" ∈ gw := gw_mem 257 (by decide +kernel) (by decide +kernel)
set_option maxRecDepth 20000 in
theorem kf_X8_78 : Cond.fieldLink RX8 78 "GlassValley$Pattern" "hours" "I" ∈ gw := gw_mem 258 (by decide +kernel) (by decide +kernel)
set_option maxRecDepth 20000 in
theorem kf_X3_15 : Cond.fieldLink RX3 15 "GlassValley$Pattern" "silver" "I" ∈ gw := gw_mem 259 (by decide +kernel) (by decide +kernel)
set_option maxRecDepth 20000 in
theorem kf_X6_37 : Cond.fieldLink RX6 37 "GlassValley$Pattern" "silver" "I" ∈ gw := gw_mem 260 (by decide +kernel) (by decide +kernel)
set_option maxRecDepth 20000 in
theorem kf_X8_81 : Cond.fieldLink RX8 81 "GlassValley$Pattern" "silver" "I" ∈ gw := gw_mem 261 (by decide +kernel) (by decide +kernel)
set_option maxRecDepth 20000 in
theorem kf_X3_18 : Cond.fieldLink RX3 18 "GlassValley$Pattern" "breaks" "I" ∈ gw := gw_mem 262 (by decide +kernel) (by decide +kernel)
set_option maxRecDepth 20000 in
theorem kf_X8_84 : Cond.fieldLink RX8 84 "GlassValley$Pattern" "breaks" "I" ∈ gw := gw_mem 263 (by decide +kernel) (by decide +kernel)
set_option maxRecDepth 20000 in
theorem ka_X6 : Cond.instantiable RX6 11 ∈ gw := gw_mem 271 (by decide +kernel) (by decide +kernel)
set_option maxRecDepth 20000 in
theorem km_X8_55 : Cond.methodLink RX8 55 yX6_init ∈ gw := gw_mem 272 (by decide +kernel) (by decide +kernel)
set_option maxRecDepth 20000 in
theorem ki_X6_init : Cond.instanceMethod yX6_init ∈ gw := gw_mem 273 (by decide +kernel) (by decide +kernel)
set_option maxRecDepth 20000 in
theorem kc_X6_init : Cond.code yX6_init cX6_init 2 none ∈ gw := gw_mem 274 (by exact rfl) (by decide +kernel)
set_option maxRecDepth 20000 in
theorem km_X6_3 : Cond.methodLink RX6 3 objectInit ∈ gw := gw_mem 275 (by decide +kernel) (by decide +kernel)
set_option maxRecDepth 20000 in
theorem kf_X6_18 : Cond.fieldLink RX6 18 "GlassValley$ShipOrder" "number" "I" ∈ gw := gw_mem 276 (by decide +kernel) (by decide +kernel)
set_option maxRecDepth 20000 in
theorem kf_X4_127 : Cond.fieldLink RX4 127 "GlassValley$ShipOrder" "number" "I" ∈ gw := gw_mem 277 (by decide +kernel) (by decide +kernel)
set_option maxRecDepth 20000 in
theorem kf_X8_111 : Cond.fieldLink RX8 111 "GlassValley$ShipOrder" "number" "I" ∈ gw := gw_mem 278 (by decide +kernel) (by decide +kernel)
set_option maxRecDepth 20000 in
theorem kf_X0_34 : Cond.fieldLink RX0 34 "GlassValley$ShipOrder" "pattern" "I" ∈ gw := gw_mem 279 (by decide +kernel) (by decide +kernel)
set_option maxRecDepth 20000 in
theorem kf_X8_93 : Cond.fieldLink RX8 93 "GlassValley$ShipOrder" "pattern" "I" ∈ gw := gw_mem 280 (by decide +kernel) (by decide +kernel)
set_option maxRecDepth 20000 in
theorem kf_X6_21 : Cond.fieldLink RX6 21 "GlassValley$ShipOrder" "gross" "I" ∈ gw := gw_mem 281 (by decide +kernel) (by decide +kernel)
set_option maxRecDepth 20000 in
theorem kf_X8_102 : Cond.fieldLink RX8 102 "GlassValley$ShipOrder" "gross" "I" ∈ gw := gw_mem 282 (by decide +kernel) (by decide +kernel)
set_option maxRecDepth 20000 in
theorem kf_X0_24 : Cond.fieldLink RX0 24 "GlassValley$ShipOrder" "due" "I" ∈ gw := gw_mem 283 (by decide +kernel) (by decide +kernel)
set_option maxRecDepth 20000 in
theorem kf_X4_85 : Cond.fieldLink RX4 85 "GlassValley$ShipOrder" "due" "I" ∈ gw := gw_mem 284 (by decide +kernel) (by decide +kernel)
set_option maxRecDepth 20000 in
theorem kf_X8_105 : Cond.fieldLink RX8 105 "GlassValley$ShipOrder" "due" "I" ∈ gw := gw_mem 285 (by decide +kernel) (by decide +kernel)
set_option maxRecDepth 20000 in
theorem kf_X4_113 : Cond.fieldLink RX4 113 "GlassValley$ShipOrder" "price" "I" ∈ gw := gw_mem 286 (by decide +kernel) (by decide +kernel)
set_option maxRecDepth 20000 in
theorem kf_X8_108 : Cond.fieldLink RX8 108 "GlassValley$ShipOrder" "price" "I" ∈ gw := gw_mem 287 (by decide +kernel) (by decide +kernel)
set_option maxRecDepth 20000 in
theorem kf_X6_30 : Cond.fieldLink RX6 30 "GlassValley$ShipOrder" "made" "I" ∈ gw := gw_mem 288 (by decide +kernel) (by decide +kernel)
set_option maxRecDepth 20000 in
theorem kf_X8_158 : Cond.fieldLink RX8 158 "GlassValley$ShipOrder" "made" "I" ∈ gw := gw_mem 289 (by decide +kernel) (by decide +kernel)
set_option maxRecDepth 20000 in
theorem kf_X6_36 : Cond.fieldLink RX6 36 "GlassValley$ShipOrder" "hours" "I" ∈ gw := gw_mem 290 (by decide +kernel) (by decide +kernel)
set_option maxRecDepth 20000 in
theorem kf_X8_161 : Cond.fieldLink RX8 161 "GlassValley$ShipOrder" "hours" "I" ∈ gw := gw_mem 291 (by decide +kernel) (by decide +kernel)
set_option maxRecDepth 20000 in
theorem kf_X6_40 : Cond.fieldLink RX6 40 "GlassValley$ShipOrder" "silver" "I" ∈ gw := gw_mem 292 (by decide +kernel) (by decide +kernel)
set_option maxRecDepth 20000 in
theorem kf_X4_106 : Cond.fieldLink RX4 106 "GlassValley$ShipOrder" "silver" "I" ∈ gw := gw_mem 293 (by decide +kernel) (by decide +kernel)
set_option maxRecDepth 20000 in
theorem kf_X8_162 : Cond.fieldLink RX8 162 "GlassValley$ShipOrder" "silver" "I" ∈ gw := gw_mem 294 (by decide +kernel) (by decide +kernel)
set_option maxRecDepth 20000 in
theorem kf_X6_9 : Cond.fieldLink RX6 9 "GlassValley$ShipOrder" "state" "I" ∈ gw := gw_mem 295 (by decide +kernel) (by decide +kernel)
set_option maxRecDepth 20000 in
theorem kf_X4_80 : Cond.fieldLink RX4 80 "GlassValley$ShipOrder" "state" "I" ∈ gw := gw_mem 296 (by decide +kernel) (by decide +kernel)
set_option maxRecDepth 20000 in
theorem kf_X8_90 : Cond.fieldLink RX8 90 "GlassValley$ShipOrder" "state" "I" ∈ gw := gw_mem 297 (by decide +kernel) (by decide +kernel)
set_option maxRecDepth 20000 in
theorem kf_X6_41 : Cond.fieldLink RX6 41 "GlassValley$ShipOrder" "worked" "I" ∈ gw := gw_mem 298 (by decide +kernel) (by decide +kernel)
set_option maxRecDepth 20000 in
theorem kf_X8_163 : Cond.fieldLink RX8 163 "GlassValley$ShipOrder" "worked" "I" ∈ gw := gw_mem 299 (by decide +kernel) (by decide +kernel)
set_option maxRecDepth 20000 in
theorem kf_X6_15 : Cond.fieldLink RX6 15 "GlassValley$ShipOrder" "workedBy" "I" ∈ gw := gw_mem 300 (by decide +kernel) (by decide +kernel)
set_option maxRecDepth 20000 in
theorem kf_X8_166 : Cond.fieldLink RX8 166 "GlassValley$ShipOrder" "workedBy" "I" ∈ gw := gw_mem 301 (by decide +kernel) (by decide +kernel)
set_option maxRecDepth 20000 in
theorem kf_X8_11 : Cond.fieldLink RX8 11 "GlassValley" "families" "[LGlassValley$Family;" ∈ gw := gw_mem 325 (by decide +kernel) (by decide +kernel)
set_option maxRecDepth 20000 in
theorem kf_X8_17 : Cond.fieldLink RX8 17 "GlassValley" "patterns" "[LGlassValley$Pattern;" ∈ gw := gw_mem 326 (by decide +kernel) (by decide +kernel)
set_option maxRecDepth 20000 in
theorem kf_X8_23 : Cond.fieldLink RX8 23 "GlassValley" "orders" "[LGlassValley$ShipOrder;" ∈ gw := gw_mem 327 (by decide +kernel) (by decide +kernel)
set_option maxRecDepth 20000 in
theorem kf_X8_30 : Cond.fieldLink RX8 30 "GlassValley" "reader" "LGlassValley$CustomReader;" ∈ gw := gw_mem 328 (by decide +kernel) (by decide +kernel)
set_option maxRecDepth 20000 in
theorem kf_X8_37 : Cond.fieldLink RX8 37 "GlassValley" "plan" "LGlassValley$Plan;" ∈ gw := gw_mem 329 (by decide +kernel) (by decide +kernel)
set_option maxRecDepth 20000 in
theorem kf_X8_44 : Cond.fieldLink RX8 44 "GlassValley" "rights" "LGlassValley$Rights;" ∈ gw := gw_mem 330 (by decide +kernel) (by decide +kernel)
set_option maxRecDepth 20000 in
theorem kf_X8_48 : Cond.fieldLink RX8 48 "GlassValley" "spareRights" "LGlassValley$Rights;" ∈ gw := gw_mem 331 (by decide +kernel) (by decide +kernel)
set_option maxRecDepth 20000 in
theorem kf_X8_71 : Cond.fieldLink RX8 71 "GlassValley" "planned" "Z" ∈ gw := gw_mem 332 (by decide +kernel) (by decide +kernel)
set_option maxRecDepth 20000 in
theorem kf_X8_148 : Cond.fieldLink RX8 148 "GlassValley" "week" "I" ∈ gw := gw_mem 333 (by decide +kernel) (by decide +kernel)
set_option maxRecDepth 20000 in
theorem kf_X8_87 : Cond.fieldLink RX8 87 "GlassValley" "came" "I" ∈ gw := gw_mem 334 (by decide +kernel) (by decide +kernel)
set_option maxRecDepth 20000 in
theorem kf_X8_155 : Cond.fieldLink RX8 155 "GlassValley" "earned" "I" ∈ gw := gw_mem 335 (by decide +kernel) (by decide +kernel)
set_option maxRecDepth 20000 in
theorem km_L_13 : Cond.methodLink RL 13 yX8_hours ∈ gw := gw_mem 359 (by decide +kernel) (by decide +kernel)
set_option maxRecDepth 20000 in
theorem ki_X8_hours : Cond.instanceMethod yX8_hours ∈ gw := gw_mem 360 (by decide +kernel) (by decide +kernel)
set_option maxRecDepth 20000 in
theorem ks_X8_hours : Cond.selects RX8 yX8_hours yX8_hours ∈ gw := gw_mem 361 (by decide +kernel) (by decide +kernel)
set_option maxRecDepth 20000 in
theorem kc_X8_hours : Cond.code yX8_hours cX8_hours 4 (some .boolean) ∈ gw := gw_mem 362 (by exact rfl) (by decide +kernel)
set_option maxRecDepth 20000 in
theorem km_X8_56 : Cond.methodLink RX8 56 yX8_isFamily ∈ gw := gw_mem 363 (by decide +kernel) (by decide +kernel)
set_option maxRecDepth 20000 in
theorem kt_X8_isFamily : Cond.static yX8_isFamily ∈ gw := gw_mem 364 (by decide +kernel) (by decide +kernel)
set_option maxRecDepth 20000 in
theorem kc_X8_isFamily : Cond.code yX8_isFamily cX8_isFamily 1 (some .boolean) ∈ gw := gw_mem 365 (by exact rfl) (by decide +kernel)
set_option maxRecDepth 20000 in
theorem km_X8_60 : Cond.methodLink RX8 60 yX8_isWeekToCome ∈ gw := gw_mem 366 (by decide +kernel) (by decide +kernel)
set_option maxRecDepth 20000 in
theorem ki_X8_isWeekToCome : Cond.instanceMethod yX8_isWeekToCome ∈ gw := gw_mem 368 (by decide +kernel) (by decide +kernel)
set_option maxRecDepth 20000 in
theorem kc_X8_isWeekToCome : Cond.code yX8_isWeekToCome cX8_isWeekToCome 2 (some .boolean) ∈ gw := gw_mem 369 (by exact rfl) (by decide +kernel)
set_option maxRecDepth 20000 in
theorem km_X8_63 : Cond.methodLink RX8 63 yX8_isWithin ∈ gw := gw_mem 370 (by decide +kernel) (by decide +kernel)
set_option maxRecDepth 20000 in
theorem kt_X8_isWithin : Cond.static yX8_isWithin ∈ gw := gw_mem 371 (by decide +kernel) (by decide +kernel)
set_option maxRecDepth 20000 in
theorem kc_X8_isWithin : Cond.code yX8_isWithin cX8_isWithin 3 (some .boolean) ∈ gw := gw_mem 372 (by exact rfl) (by decide +kernel)
set_option maxRecDepth 20000 in
theorem km_L_18 : Cond.methodLink RL 18 yX8_pattern ∈ gw := gw_mem 373 (by decide +kernel) (by decide +kernel)
set_option maxRecDepth 20000 in
theorem ki_X8_pattern : Cond.instanceMethod yX8_pattern ∈ gw := gw_mem 374 (by decide +kernel) (by decide +kernel)
set_option maxRecDepth 20000 in
theorem ks_X8_pattern : Cond.selects RX8 yX8_pattern yX8_pattern ∈ gw := gw_mem 375 (by decide +kernel) (by decide +kernel)
set_option maxRecDepth 20000 in
theorem kc_X8_pattern : Cond.code yX8_pattern cX8_pattern 6 (some .boolean) ∈ gw := gw_mem 376 (by exact rfl) (by decide +kernel)
set_option maxRecDepth 20000 in
theorem km_X8_75 : Cond.methodLink RX8 75 yX8_isPattern ∈ gw := gw_mem 377 (by decide +kernel) (by decide +kernel)
set_option maxRecDepth 20000 in
theorem kt_X8_isPattern : Cond.static yX8_isPattern ∈ gw := gw_mem 378 (by decide +kernel) (by decide +kernel)
set_option maxRecDepth 20000 in
theorem kc_X8_isPattern : Cond.code yX8_isPattern cX8_isPattern 1 (some .boolean) ∈ gw := gw_mem 379 (by exact rfl) (by decide +kernel)
set_option maxRecDepth 20000 in
theorem km_X8_96 : Cond.methodLink RX8 96 yX6_reckonAnew ∈ gw := gw_mem 380 (by decide +kernel) (by decide +kernel)
set_option maxRecDepth 20000 in
theorem ki_X6_reckonAnew : Cond.instanceMethod yX6_reckonAnew ∈ gw := gw_mem 381 (by decide +kernel) (by decide +kernel)
set_option maxRecDepth 20000 in
theorem ks_X6_reckonAnew : Cond.selects RX6 yX6_reckonAnew yX6_reckonAnew ∈ gw := gw_mem 382 (by decide +kernel) (by decide +kernel)
set_option maxRecDepth 20000 in
theorem kc_X6_reckonAnew : Cond.code yX6_reckonAnew cX6_reckonAnew 2 none ∈ gw := gw_mem 383 (by exact rfl) (by decide +kernel)
set_option maxRecDepth 20000 in
theorem km_X6_24 : Cond.methodLink RX6 24 yX3_grossToMake ∈ gw := gw_mem 384 (by decide +kernel) (by decide +kernel)
set_option maxRecDepth 20000 in
theorem ki_X3_grossToMake : Cond.instanceMethod yX3_grossToMake ∈ gw := gw_mem 385 (by decide +kernel) (by decide +kernel)
set_option maxRecDepth 20000 in
theorem ks_X3_grossToMake : Cond.selects RX3 yX3_grossToMake yX3_grossToMake ∈ gw := gw_mem 386 (by decide +kernel) (by decide +kernel)
set_option maxRecDepth 20000 in
theorem kc_X3_grossToMake : Cond.code yX3_grossToMake cX3_grossToMake 4 (some .int) ∈ gw := gw_mem 387 (by exact rfl) (by decide +kernel)
set_option maxRecDepth 20000 in
theorem km_L_23 : Cond.methodLink RL 23 yX8_lend ∈ gw := gw_mem 388 (by decide +kernel) (by decide +kernel)
set_option maxRecDepth 20000 in
theorem ki_X8_lend : Cond.instanceMethod yX8_lend ∈ gw := gw_mem 389 (by decide +kernel) (by decide +kernel)
set_option maxRecDepth 20000 in
theorem ks_X8_lend : Cond.selects RX8 yX8_lend yX8_lend ∈ gw := gw_mem 390 (by decide +kernel) (by decide +kernel)
set_option maxRecDepth 20000 in
theorem kc_X8_lend : Cond.code yX8_lend cX8_lend 3 (some .boolean) ∈ gw := gw_mem 391 (by exact rfl) (by decide +kernel)
set_option maxRecDepth 20000 in
theorem kk_X8_101 : Cond.constant RX8 101 99999 ∈ gw := gw_mem 392 (by decide +kernel) (by decide +kernel)
set_option maxRecDepth 20000 in
theorem km_L_28 : Cond.methodLink RL 28 yX8_bring ∈ gw := gw_mem 393 (by decide +kernel) (by decide +kernel)
set_option maxRecDepth 20000 in
theorem ki_X8_bring : Cond.instanceMethod yX8_bring ∈ gw := gw_mem 394 (by decide +kernel) (by decide +kernel)
set_option maxRecDepth 20000 in
theorem ks_X8_bring : Cond.selects RX8 yX8_bring yX8_bring ∈ gw := gw_mem 395 (by decide +kernel) (by decide +kernel)
set_option maxRecDepth 20000 in
theorem kc_X8_bring : Cond.code yX8_bring cX8_bring 3 (some .int) ∈ gw := gw_mem 396 (by exact rfl) (by decide +kernel)
set_option maxRecDepth 20000 in
theorem km_L_33 : Cond.methodLink RL 33 yX8_order ∈ gw := gw_mem 397 (by decide +kernel) (by decide +kernel)
set_option maxRecDepth 20000 in
theorem ki_X8_order : Cond.instanceMethod yX8_order ∈ gw := gw_mem 398 (by decide +kernel) (by decide +kernel)
set_option maxRecDepth 20000 in
theorem ks_X8_order : Cond.selects RX8 yX8_order yX8_order ∈ gw := gw_mem 399 (by decide +kernel) (by decide +kernel)
set_option maxRecDepth 20000 in
theorem kc_X8_order : Cond.code yX8_order cX8_order 6 (some .int) ∈ gw := gw_mem 400 (by exact rfl) (by decide +kernel)
set_option maxRecDepth 20000 in
theorem km_L_38 : Cond.methodLink RL 38 yX8_drop ∈ gw := gw_mem 401 (by decide +kernel) (by decide +kernel)
set_option maxRecDepth 20000 in
theorem ki_X8_drop : Cond.instanceMethod yX8_drop ∈ gw := gw_mem 402 (by decide +kernel) (by decide +kernel)
set_option maxRecDepth 20000 in
theorem ks_X8_drop : Cond.selects RX8 yX8_drop yX8_drop ∈ gw := gw_mem 403 (by decide +kernel) (by decide +kernel)
set_option maxRecDepth 20000 in
theorem kc_X8_drop : Cond.code yX8_drop cX8_drop 2 (some .boolean) ∈ gw := gw_mem 404 (by exact rfl) (by decide +kernel)
set_option maxRecDepth 20000 in
theorem km_X8_114 : Cond.methodLink RX8 114 yX8_isOrder ∈ gw := gw_mem 405 (by decide +kernel) (by decide +kernel)
set_option maxRecDepth 20000 in
theorem ki_X8_isOrder : Cond.instanceMethod yX8_isOrder ∈ gw := gw_mem 407 (by decide +kernel) (by decide +kernel)
set_option maxRecDepth 20000 in
theorem kc_X8_isOrder : Cond.code yX8_isOrder cX8_isOrder 2 (some .boolean) ∈ gw := gw_mem 408 (by exact rfl) (by decide +kernel)
set_option maxRecDepth 20000 in
theorem km_L_43 : Cond.methodLink RL 43 yX8_feed ∈ gw := gw_mem 409 (by decide +kernel) (by decide +kernel)
set_option maxRecDepth 20000 in
theorem ki_X8_feed : Cond.instanceMethod yX8_feed ∈ gw := gw_mem 410 (by decide +kernel) (by decide +kernel)
set_option maxRecDepth 20000 in
theorem ks_X8_feed : Cond.selects RX8 yX8_feed yX8_feed ∈ gw := gw_mem 411 (by decide +kernel) (by decide +kernel)
set_option maxRecDepth 20000 in
theorem kc_X8_feed : Cond.code yX8_feed cX8_feed 7 (some .int) ∈ gw := gw_mem 412 (by exact rfl) (by decide +kernel)
set_option maxRecDepth 20000 in
theorem km_X8_126 : Cond.methodLink RX8 126 yX7_put ∈ gw := gw_mem 413 (by decide +kernel) (by decide +kernel)
set_option maxRecDepth 20000 in
theorem ki_X7_put : Cond.instanceMethod yX7_put ∈ gw := gw_mem 414 (by decide +kernel) (by decide +kernel)
set_option maxRecDepth 20000 in
theorem ks_X7_put : Cond.selects RX7 yX7_put yX7_put ∈ gw := gw_mem 415 (by decide +kernel) (by decide +kernel)
set_option maxRecDepth 20000 in
theorem kc_X7_put : Cond.code yX7_put cX7_put 3 none ∈ gw := gw_mem 416 (by exact rfl) (by decide +kernel)
set_option maxRecDepth 20000 in
theorem km_L_48 : Cond.methodLink RL 48 yX8_end ∈ gw := gw_mem 417 (by decide +kernel) (by decide +kernel)
set_option maxRecDepth 20000 in
theorem ki_X8_end : Cond.instanceMethod yX8_end ∈ gw := gw_mem 418 (by decide +kernel) (by decide +kernel)
set_option maxRecDepth 20000 in
theorem ks_X8_end : Cond.selects RX8 yX8_end yX8_end ∈ gw := gw_mem 419 (by decide +kernel) (by decide +kernel)
set_option maxRecDepth 20000 in
theorem kc_X8_end : Cond.code yX8_end cX8_end 2 (some .boolean) ∈ gw := gw_mem 420 (by exact rfl) (by decide +kernel)
set_option maxRecDepth 20000 in
theorem km_L_52 : Cond.methodLink RL 52 yX8_custom ∈ gw := gw_mem 421 (by decide +kernel) (by decide +kernel)
set_option maxRecDepth 20000 in
theorem ki_X8_custom : Cond.instanceMethod yX8_custom ∈ gw := gw_mem 422 (by decide +kernel) (by decide +kernel)
set_option maxRecDepth 20000 in
theorem ks_X8_custom : Cond.selects RX8 yX8_custom yX8_custom ∈ gw := gw_mem 423 (by decide +kernel) (by decide +kernel)
set_option maxRecDepth 20000 in
theorem kc_X8_custom : Cond.code yX8_custom cX8_custom 3 (some .int) ∈ gw := gw_mem 424 (by exact rfl) (by decide +kernel)
set_option maxRecDepth 20000 in
theorem km_X8_129 : Cond.methodLink RX8 129 yX1_readInto ∈ gw := gw_mem 425 (by decide +kernel) (by decide +kernel)
set_option maxRecDepth 20000 in
theorem ki_X1_readInto : Cond.instanceMethod yX1_readInto ∈ gw := gw_mem 426 (by decide +kernel) (by decide +kernel)
set_option maxRecDepth 20000 in
theorem ks_X1_readInto : Cond.selects RX1 yX1_readInto yX1_readInto ∈ gw := gw_mem 427 (by decide +kernel) (by decide +kernel)
set_option maxRecDepth 20000 in
theorem kc_X1_readInto : Cond.code yX1_readInto cX1_readInto 3 (some .boolean) ∈ gw := gw_mem 428 (by exact rfl) (by decide +kernel)
set_option maxRecDepth 20000 in
theorem km_X1_32 : Cond.methodLink RX1 32 yX5_forget ∈ gw := gw_mem 429 (by decide +kernel) (by decide +kernel)
set_option maxRecDepth 20000 in
theorem km_X1_37 : Cond.methodLink RX1 37 yX7_rewind ∈ gw := gw_mem 430 (by decide +kernel) (by decide +kernel)
set_option maxRecDepth 20000 in
theorem ki_X7_rewind : Cond.instanceMethod yX7_rewind ∈ gw := gw_mem 431 (by decide +kernel) (by decide +kernel)
set_option maxRecDepth 20000 in
theorem ks_X7_rewind : Cond.selects RX7 yX7_rewind yX7_rewind ∈ gw := gw_mem 432 (by decide +kernel) (by decide +kernel)
set_option maxRecDepth 20000 in
theorem kc_X7_rewind : Cond.code yX7_rewind cX7_rewind 1 none ∈ gw := gw_mem 433 (by exact rfl) (by decide +kernel)
set_option maxRecDepth 20000 in
theorem km_X7_22 : Cond.methodLink RX7 22 yX7_readToken ∈ gw := gw_mem 434 (by decide +kernel) (by decide +kernel)
set_option maxRecDepth 20000 in
theorem ki_X7_readToken : Cond.instanceMethod yX7_readToken ∈ gw := gw_mem 435 (by decide +kernel) (by decide +kernel)
set_option maxRecDepth 20000 in
theorem ks_X7_readToken : Cond.selects RX7 yX7_readToken yX7_readToken ∈ gw := gw_mem 436 (by decide +kernel) (by decide +kernel)
set_option maxRecDepth 20000 in
theorem kc_X7_readToken : Cond.code yX7_readToken cX7_readToken 1 none ∈ gw := gw_mem 437 (by exact rfl) (by decide +kernel)
set_option maxRecDepth 20000 in
theorem km_X7_25 : Cond.methodLink RX7 25 yX7_skipBlanks ∈ gw := gw_mem 438 (by decide +kernel) (by decide +kernel)
set_option maxRecDepth 20000 in
theorem ki_X7_skipBlanks : Cond.instanceMethod yX7_skipBlanks ∈ gw := gw_mem 440 (by decide +kernel) (by decide +kernel)
set_option maxRecDepth 20000 in
theorem kc_X7_skipBlanks : Cond.code yX7_skipBlanks cX7_skipBlanks 1 none ∈ gw := gw_mem 441 (by exact rfl) (by decide +kernel)
set_option maxRecDepth 20000 in
theorem km_X7_34 : Cond.methodLink RX7 34 yX7_isLetter ∈ gw := gw_mem 442 (by decide +kernel) (by decide +kernel)
set_option maxRecDepth 20000 in
theorem kt_X7_isLetter : Cond.static yX7_isLetter ∈ gw := gw_mem 443 (by decide +kernel) (by decide +kernel)
set_option maxRecDepth 20000 in
theorem kc_X7_isLetter : Cond.code yX7_isLetter cX7_isLetter 1 (some .boolean) ∈ gw := gw_mem 444 (by exact rfl) (by decide +kernel)
set_option maxRecDepth 20000 in
theorem km_X7_38 : Cond.methodLink RX7 38 yX7_skipLetters ∈ gw := gw_mem 445 (by decide +kernel) (by decide +kernel)
set_option maxRecDepth 20000 in
theorem ki_X7_skipLetters : Cond.instanceMethod yX7_skipLetters ∈ gw := gw_mem 447 (by decide +kernel) (by decide +kernel)
set_option maxRecDepth 20000 in
theorem kc_X7_skipLetters : Cond.code yX7_skipLetters cX7_skipLetters 1 none ∈ gw := gw_mem 448 (by exact rfl) (by decide +kernel)
set_option maxRecDepth 20000 in
theorem km_X7_41 : Cond.methodLink RX7 41 yX7_keyword ∈ gw := gw_mem 449 (by decide +kernel) (by decide +kernel)
set_option maxRecDepth 20000 in
theorem ki_X7_keyword : Cond.instanceMethod yX7_keyword ∈ gw := gw_mem 451 (by decide +kernel) (by decide +kernel)
set_option maxRecDepth 20000 in
theorem kc_X7_keyword : Cond.code yX7_keyword cX7_keyword 1 (some .int) ∈ gw := gw_mem 452 (by exact rfl) (by decide +kernel)
set_option maxRecDepth 20000 in
theorem km_X7_56 : Cond.methodLink RX7 56 yX7_isWord ∈ gw := gw_mem 454 (by decide +kernel) (by decide +kernel)
set_option maxRecDepth 20000 in
theorem ki_X7_isWord : Cond.instanceMethod yX7_isWord ∈ gw := gw_mem 456 (by decide +kernel) (by decide +kernel)
set_option maxRecDepth 20000 in
theorem kc_X7_isWord : Cond.code yX7_isWord cX7_isWord 3 (some .boolean) ∈ gw := gw_mem 457 (by exact rfl) (by decide +kernel)
set_option maxRecDepth 20000 in
theorem km_X7_74 : Cond.methodLink RX7 74 yJ0_length_8abf5 ∈ gw := gw_mem 458 (by decide +kernel) (by decide +kernel)
set_option maxRecDepth 20000 in
theorem ki_J0_length_8abf5 : Cond.instanceMethod yJ0_length_8abf5 ∈ gw := gw_mem 459 (by decide +kernel) (by decide +kernel)
set_option maxRecDepth 20000 in
theorem ks_J0_length_8abf5 : Cond.selects RJ0 yJ0_length_8abf5 yJ0_length_8abf5 ∈ gw := gw_mem 460 (by decide +kernel) (by decide +kernel)
set_option maxRecDepth 20000 in
theorem kc_J0_length_8abf5 : Cond.code yJ0_length_8abf5 cJ0_length_8abf5 1 (some .int) ∈ gw := gw_mem 461 (by exact rfl) (by decide +kernel)
set_option maxRecDepth 20000 in
theorem km_J0_335 : Cond.methodLink RJ0 335 yJ0_coder_7d493 ∈ gw := gw_mem 462 (by decide +kernel) (by decide +kernel)
set_option maxRecDepth 20000 in
theorem ki_J0_coder_7d493 : Cond.instanceMethod yJ0_coder_7d493 ∈ gw := gw_mem 463 (by decide +kernel) (by decide +kernel)
set_option maxRecDepth 20000 in
theorem ks_J0_coder_7d493 : Cond.selects RJ0 yJ0_coder_7d493 yJ0_coder_7d493 ∈ gw := gw_mem 464 (by decide +kernel) (by decide +kernel)
set_option maxRecDepth 20000 in
theorem kc_J0_coder_7d493 : Cond.code yJ0_coder_7d493 cJ0_coder_7d493 1 (some .byte) ∈ gw := gw_mem 465 (by exact rfl) (by decide +kernel)
set_option maxRecDepth 20000 in
theorem kf_J0_38 : Cond.fieldLink RJ0 38 "java/lang/String" "COMPACT_STRINGS" "Z" ∈ gw := gw_mem 466 (by decide +kernel) (by decide +kernel)
set_option maxRecDepth 20000 in
theorem km_X7_78 : Cond.methodLink RX7 78 yJ0_charAt_5068e ∈ gw := gw_mem 468 (by decide +kernel) (by decide +kernel)
set_option maxRecDepth 20000 in
theorem ki_J0_charAt_5068e : Cond.instanceMethod yJ0_charAt_5068e ∈ gw := gw_mem 469 (by decide +kernel) (by decide +kernel)
set_option maxRecDepth 20000 in
theorem ks_J0_charAt_5068e : Cond.selects RJ0 yJ0_charAt_5068e yJ0_charAt_5068e ∈ gw := gw_mem 470 (by decide +kernel) (by decide +kernel)
set_option maxRecDepth 20000 in
theorem kc_J0_charAt_5068e : Cond.code yJ0_charAt_5068e cJ0_charAt_5068e 2 (some .char) ∈ gw := gw_mem 471 (by exact rfl) (by decide +kernel)
set_option maxRecDepth 20000 in
theorem km_J0_492 : Cond.methodLink RJ0 492 yJ0_isLatin1_aae02 ∈ gw := gw_mem 472 (by decide +kernel) (by decide +kernel)
set_option maxRecDepth 20000 in
theorem ki_J0_isLatin1_aae02 : Cond.instanceMethod yJ0_isLatin1_aae02 ∈ gw := gw_mem 473 (by decide +kernel) (by decide +kernel)
set_option maxRecDepth 20000 in
theorem ks_J0_isLatin1_aae02 : Cond.selects RJ0 yJ0_isLatin1_aae02 yJ0_isLatin1_aae02 ∈ gw := gw_mem 474 (by decide +kernel) (by decide +kernel)
set_option maxRecDepth 20000 in
theorem kc_J0_isLatin1_aae02 : Cond.code yJ0_isLatin1_aae02 cJ0_isLatin1_aae02 1 (some .boolean) ∈ gw := gw_mem 475 (by exact rfl) (by decide +kernel)
set_option maxRecDepth 20000 in
theorem km_J0_495 : Cond.methodLink RJ0 495 yJ1_charAt_3b067 ∈ gw := gw_mem 476 (by decide +kernel) (by decide +kernel)
set_option maxRecDepth 20000 in
theorem kt_J1_charAt_3b067 : Cond.static yJ1_charAt_3b067 ∈ gw := gw_mem 477 (by decide +kernel) (by decide +kernel)
set_option maxRecDepth 20000 in
theorem kc_J1_charAt_3b067 : Cond.code yJ1_charAt_3b067 cJ1_charAt_3b067 2 (some .char) ∈ gw := gw_mem 478 (by exact rfl) (by decide +kernel)
set_option maxRecDepth 20000 in
theorem km_J1_9 : Cond.methodLink RJ1 9 yJ0_checkIndex_df160 ∈ gw := gw_mem 479 (by decide +kernel) (by decide +kernel)
set_option maxRecDepth 20000 in
theorem kt_J0_checkIndex_df160 : Cond.static yJ0_checkIndex_df160 ∈ gw := gw_mem 480 (by decide +kernel) (by decide +kernel)
set_option maxRecDepth 20000 in
theorem kc_J0_checkIndex_df160 : Cond.code yJ0_checkIndex_df160 cJ0_checkIndex_df160 2 none ∈ gw := gw_mem 481 (by exact rfl) (by decide +kernel)
set_option maxRecDepth 20000 in
theorem kf_J0_1053 : Cond.fieldLink RJ0 1053 "jdk/internal/util/Preconditions" "SIOOBE_FORMATTER" "Ljava/util/function/BiFunction;" ∈ gw := gw_mem 482 (by decide +kernel) (by decide +kernel)
set_option maxRecDepth 20000 in
theorem km_J0_1059 : Cond.methodLink RJ0 1059 yJ3_checkIndex_8e157 ∈ gw := gw_mem 484 (by decide +kernel) (by decide +kernel)
set_option maxRecDepth 20000 in
theorem kt_J3_checkIndex_8e157 : Cond.static yJ3_checkIndex_8e157 ∈ gw := gw_mem 485 (by decide +kernel) (by decide +kernel)
set_option maxRecDepth 20000 in
theorem kc_J3_checkIndex_8e157 : Cond.code yJ3_checkIndex_8e157 cJ3_checkIndex_8e157 3 (some .int) ∈ gw := gw_mem 486 (by exact rfl) (by decide +kernel)
set_option maxRecDepth 20000 in
theorem km_J0_498 : Cond.methodLink RJ0 498 yJ2_charAt_3b067 ∈ gw := gw_mem 487 (by decide +kernel) (by decide +kernel)
set_option maxRecDepth 20000 in
theorem kt_J2_charAt_3b067 : Cond.static yJ2_charAt_3b067 ∈ gw := gw_mem 488 (by decide +kernel) (by decide +kernel)
set_option maxRecDepth 20000 in
theorem kc_J2_charAt_3b067 : Cond.code yJ2_charAt_3b067 cJ2_charAt_3b067 2 (some .char) ∈ gw := gw_mem 489 (by exact rfl) (by decide +kernel)
set_option maxRecDepth 20000 in
theorem km_J2_67 : Cond.methodLink RJ2 67 yJ2_checkIndex_2214a ∈ gw := gw_mem 490 (by decide +kernel) (by decide +kernel)
set_option maxRecDepth 20000 in
theorem kt_J2_checkIndex_2214a : Cond.static yJ2_checkIndex_2214a ∈ gw := gw_mem 491 (by decide +kernel) (by decide +kernel)
set_option maxRecDepth 20000 in
theorem kc_J2_checkIndex_2214a : Cond.code yJ2_checkIndex_2214a cJ2_checkIndex_2214a 2 none ∈ gw := gw_mem 492 (by exact rfl) (by decide +kernel)
set_option maxRecDepth 20000 in
theorem km_J2_48 : Cond.methodLink RJ2 48 yJ2_length_9d52b ∈ gw := gw_mem 493 (by decide +kernel) (by decide +kernel)
set_option maxRecDepth 20000 in
theorem kt_J2_length_9d52b : Cond.static yJ2_length_9d52b ∈ gw := gw_mem 494 (by decide +kernel) (by decide +kernel)
set_option maxRecDepth 20000 in
theorem kc_J2_length_9d52b : Cond.code yJ2_length_9d52b cJ2_length_9d52b 1 (some .int) ∈ gw := gw_mem 495 (by exact rfl) (by decide +kernel)
set_option maxRecDepth 20000 in
theorem km_J2_414 : Cond.methodLink RJ2 414 yJ0_checkIndex_df160 ∈ gw := gw_mem 496 (by decide +kernel) (by decide +kernel)
set_option maxRecDepth 20000 in
theorem km_J2_71 : Cond.methodLink RJ2 71 yJ2_getChar_3b067 ∈ gw := gw_mem 497 (by decide +kernel) (by decide +kernel)
set_option maxRecDepth 20000 in
theorem kt_J2_getChar_3b067 : Cond.static yJ2_getChar_3b067 ∈ gw := gw_mem 498 (by decide +kernel) (by decide +kernel)
set_option maxRecDepth 20000 in
theorem kc_J2_getChar_3b067 : Cond.code yJ2_getChar_3b067 cJ2_getChar_3b067 2 (some .char) ∈ gw := gw_mem 499 (by exact rfl) (by decide +kernel)
set_option maxRecDepth 20000 in
theorem kf_J2_44 : Cond.fieldLink RJ2 44 "java/lang/StringUTF16" "$assertionsDisabled" "Z" ∈ gw := gw_mem 500 (by decide +kernel) (by decide +kernel)
set_option maxRecDepth 20000 in
theorem kf_J2_59 : Cond.fieldLink RJ2 59 "java/lang/StringUTF16" "HI_BYTE_SHIFT" "I" ∈ gw := gw_mem 502 (by decide +kernel) (by decide +kernel)
set_option maxRecDepth 20000 in
theorem kf_J2_63 : Cond.fieldLink RJ2 63 "java/lang/StringUTF16" "LO_BYTE_SHIFT" "I" ∈ gw := gw_mem 504 (by decide +kernel) (by decide +kernel)
set_option maxRecDepth 20000 in
theorem km_X7_45 : Cond.methodLink RX7 45 yX7_isDigit ∈ gw := gw_mem 513 (by decide +kernel) (by decide +kernel)
set_option maxRecDepth 20000 in
theorem kt_X7_isDigit : Cond.static yX7_isDigit ∈ gw := gw_mem 514 (by decide +kernel) (by decide +kernel)
set_option maxRecDepth 20000 in
theorem kc_X7_isDigit : Cond.code yX7_isDigit cX7_isDigit 1 (some .boolean) ∈ gw := gw_mem 515 (by exact rfl) (by decide +kernel)
set_option maxRecDepth 20000 in
theorem km_X7_48 : Cond.methodLink RX7 48 yX7_readNumber ∈ gw := gw_mem 516 (by decide +kernel) (by decide +kernel)
set_option maxRecDepth 20000 in
theorem ki_X7_readNumber : Cond.instanceMethod yX7_readNumber ∈ gw := gw_mem 518 (by decide +kernel) (by decide +kernel)
set_option maxRecDepth 20000 in
theorem kc_X7_readNumber : Cond.code yX7_readNumber cX7_readNumber 1 none ∈ gw := gw_mem 519 (by exact rfl) (by decide +kernel)
set_option maxRecDepth 20000 in
theorem km_X1_43 : Cond.methodLink RX1 43 yX1_readLine ∈ gw := gw_mem 520 (by decide +kernel) (by decide +kernel)
set_option maxRecDepth 20000 in
theorem ki_X1_readLine : Cond.instanceMethod yX1_readLine ∈ gw := gw_mem 522 (by decide +kernel) (by decide +kernel)
set_option maxRecDepth 20000 in
theorem kc_X1_readLine : Cond.code yX1_readLine cX1_readLine 3 (some .boolean) ∈ gw := gw_mem 523 (by exact rfl) (by decide +kernel)
set_option maxRecDepth 20000 in
theorem km_X1_47 : Cond.methodLink RX1 47 yX1_stopAt ∈ gw := gw_mem 524 (by decide +kernel) (by decide +kernel)
set_option maxRecDepth 20000 in
theorem ki_X1_stopAt : Cond.instanceMethod yX1_stopAt ∈ gw := gw_mem 526 (by decide +kernel) (by decide +kernel)
set_option maxRecDepth 20000 in
theorem kc_X1_stopAt : Cond.code yX1_stopAt cX1_stopAt 2 (some .boolean) ∈ gw := gw_mem 527 (by exact rfl) (by decide +kernel)
set_option maxRecDepth 20000 in
theorem km_X1_51 : Cond.methodLink RX1 51 yX7_readToken ∈ gw := gw_mem 528 (by decide +kernel) (by decide +kernel)
set_option maxRecDepth 20000 in
theorem km_X1_54 : Cond.methodLink RX1 54 yX1_formOf ∈ gw := gw_mem 529 (by decide +kernel) (by decide +kernel)
set_option maxRecDepth 20000 in
theorem kt_X1_formOf : Cond.static yX1_formOf ∈ gw := gw_mem 530 (by decide +kernel) (by decide +kernel)
set_option maxRecDepth 20000 in
theorem kc_X1_formOf : Cond.code yX1_formOf cX1_formOf 1 (some (.array .int)) ∈ gw := gw_mem 531 (by exact rfl) (by decide +kernel)
set_option maxRecDepth 20000 in
theorem km_X1_58 : Cond.methodLink RX1 58 yX1_readParts ∈ gw := gw_mem 540 (by decide +kernel) (by decide +kernel)
set_option maxRecDepth 20000 in
theorem ki_X1_readParts : Cond.instanceMethod yX1_readParts ∈ gw := gw_mem 542 (by decide +kernel) (by decide +kernel)
set_option maxRecDepth 20000 in
theorem kc_X1_readParts : Cond.code yX1_readParts cX1_readParts 5 (some .boolean) ∈ gw := gw_mem 543 (by exact rfl) (by decide +kernel)
set_option maxRecDepth 20000 in
theorem km_X1_81 : Cond.methodLink RX1 81 yX1_leastOf ∈ gw := gw_mem 544 (by decide +kernel) (by decide +kernel)
set_option maxRecDepth 20000 in
theorem ki_X1_leastOf : Cond.instanceMethod yX1_leastOf ∈ gw := gw_mem 546 (by decide +kernel) (by decide +kernel)
set_option maxRecDepth 20000 in
theorem kc_X1_leastOf : Cond.code yX1_leastOf cX1_leastOf 2 (some .int) ∈ gw := gw_mem 547 (by exact rfl) (by decide +kernel)
set_option maxRecDepth 20000 in
theorem km_X1_85 : Cond.methodLink RX1 85 yX1_mostOf ∈ gw := gw_mem 548 (by decide +kernel) (by decide +kernel)
set_option maxRecDepth 20000 in
theorem kt_X1_mostOf : Cond.static yX1_mostOf ∈ gw := gw_mem 549 (by decide +kernel) (by decide +kernel)
set_option maxRecDepth 20000 in
theorem kc_X1_mostOf : Cond.code yX1_mostOf cX1_mostOf 1 (some .int) ∈ gw := gw_mem 550 (by exact rfl) (by decide +kernel)
set_option maxRecDepth 20000 in
theorem km_X1_62 : Cond.methodLink RX1 62 yX1_tell ∈ gw := gw_mem 552 (by decide +kernel) (by decide +kernel)
set_option maxRecDepth 20000 in
theorem ki_X1_tell : Cond.instanceMethod yX1_tell ∈ gw := gw_mem 554 (by decide +kernel) (by decide +kernel)
set_option maxRecDepth 20000 in
theorem kc_X1_tell : Cond.code yX1_tell cX1_tell 3 none ∈ gw := gw_mem 555 (by exact rfl) (by decide +kernel)
set_option maxRecDepth 20000 in
theorem km_X1_92 : Cond.methodLink RX1 92 yX5_give ∈ gw := gw_mem 556 (by decide +kernel) (by decide +kernel)
set_option maxRecDepth 20000 in
theorem km_X1_96 : Cond.methodLink RX1 96 yX5_share ∈ gw := gw_mem 557 (by decide +kernel) (by decide +kernel)
set_option maxRecDepth 20000 in
theorem ki_X5_share : Cond.instanceMethod yX5_share ∈ gw := gw_mem 558 (by decide +kernel) (by decide +kernel)
set_option maxRecDepth 20000 in
theorem ks_X5_share : Cond.selects RX5 yX5_share yX5_share ∈ gw := gw_mem 559 (by decide +kernel) (by decide +kernel)
set_option maxRecDepth 20000 in
theorem kc_X5_share : Cond.code yX5_share cX5_share 4 none ∈ gw := gw_mem 560 (by exact rfl) (by decide +kernel)
set_option maxRecDepth 20000 in
theorem km_X5_31 : Cond.methodLink RX5 31 yJ9_max_7cf53 ∈ gw := gw_mem 561 (by decide +kernel) (by decide +kernel)
set_option maxRecDepth 20000 in
theorem kt_J9_max_7cf53 : Cond.static yJ9_max_7cf53 ∈ gw := gw_mem 562 (by decide +kernel) (by decide +kernel)
set_option maxRecDepth 20000 in
theorem kc_J9_max_7cf53 : Cond.code yJ9_max_7cf53 cJ9_max_7cf53 2 (some .int) ∈ gw := gw_mem 563 (by exact rfl) (by decide +kernel)
set_option maxRecDepth 20000 in
theorem km_X1_100 : Cond.methodLink RX1 100 yX5_shut ∈ gw := gw_mem 564 (by decide +kernel) (by decide +kernel)
set_option maxRecDepth 20000 in
theorem ki_X5_shut : Cond.instanceMethod yX5_shut ∈ gw := gw_mem 565 (by decide +kernel) (by decide +kernel)
set_option maxRecDepth 20000 in
theorem ks_X5_shut : Cond.selects RX5 yX5_shut yX5_shut ∈ gw := gw_mem 566 (by decide +kernel) (by decide +kernel)
set_option maxRecDepth 20000 in
theorem kc_X5_shut : Cond.code yX5_shut cX5_shut 5 none ∈ gw := gw_mem 567 (by exact rfl) (by decide +kernel)
set_option maxRecDepth 20000 in
theorem km_L_57 : Cond.methodLink RL 57 yX8_fault ∈ gw := gw_mem 568 (by decide +kernel) (by decide +kernel)
set_option maxRecDepth 20000 in
theorem ki_X8_fault : Cond.instanceMethod yX8_fault ∈ gw := gw_mem 569 (by decide +kernel) (by decide +kernel)
set_option maxRecDepth 20000 in
theorem ks_X8_fault : Cond.selects RX8 yX8_fault yX8_fault ∈ gw := gw_mem 570 (by decide +kernel) (by decide +kernel)
set_option maxRecDepth 20000 in
theorem kc_X8_fault : Cond.code yX8_fault cX8_fault 2 (some .int) ∈ gw := gw_mem 571 (by exact rfl) (by decide +kernel)
set_option maxRecDepth 20000 in
theorem km_L_61 : Cond.methodLink RL 61 yX8_may ∈ gw := gw_mem 572 (by decide +kernel) (by decide +kernel)
set_option maxRecDepth 20000 in
theorem ki_X8_may : Cond.instanceMethod yX8_may ∈ gw := gw_mem 573 (by decide +kernel) (by decide +kernel)
set_option maxRecDepth 20000 in
theorem ks_X8_may : Cond.selects RX8 yX8_may yX8_may ∈ gw := gw_mem 574 (by decide +kernel) (by decide +kernel)
set_option maxRecDepth 20000 in
theorem kc_X8_may : Cond.code yX8_may cX8_may 4 (some .int) ∈ gw := gw_mem 575 (by exact rfl) (by decide +kernel)
set_option maxRecDepth 20000 in
theorem km_X8_142 : Cond.methodLink RX8 142 yX5_allow ∈ gw := gw_mem 576 (by decide +kernel) (by decide +kernel)
set_option maxRecDepth 20000 in
theorem ki_X5_allow : Cond.instanceMethod yX5_allow ∈ gw := gw_mem 577 (by decide +kernel) (by decide +kernel)
set_option maxRecDepth 20000 in
theorem ks_X5_allow : Cond.selects RX5 yX5_allow yX5_allow ∈ gw := gw_mem 578 (by decide +kernel) (by decide +kernel)
set_option maxRecDepth 20000 in
theorem kc_X5_allow : Cond.code yX5_allow cX5_allow 4 (some .boolean) ∈ gw := gw_mem 579 (by exact rfl) (by decide +kernel)
set_option maxRecDepth 20000 in
theorem km_L_66 : Cond.methodLink RL 66 yX8_look ∈ gw := gw_mem 580 (by decide +kernel) (by decide +kernel)
set_option maxRecDepth 20000 in
theorem ki_X8_look : Cond.instanceMethod yX8_look ∈ gw := gw_mem 581 (by decide +kernel) (by decide +kernel)
set_option maxRecDepth 20000 in
theorem ks_X8_look : Cond.selects RX8 yX8_look yX8_look ∈ gw := gw_mem 582 (by decide +kernel) (by decide +kernel)
set_option maxRecDepth 20000 in
theorem kc_X8_look : Cond.code yX8_look cX8_look 2 (some .int) ∈ gw := gw_mem 583 (by exact rfl) (by decide +kernel)
set_option maxRecDepth 20000 in
theorem km_X8_151 : Cond.methodLink RX8 151 yX8_countOrders ∈ gw := gw_mem 584 (by decide +kernel) (by decide +kernel)
set_option maxRecDepth 20000 in
theorem ki_X8_countOrders : Cond.instanceMethod yX8_countOrders ∈ gw := gw_mem 586 (by decide +kernel) (by decide +kernel)
set_option maxRecDepth 20000 in
theorem kc_X8_countOrders : Cond.code yX8_countOrders cX8_countOrders 4 (some .int) ∈ gw := gw_mem 587 (by exact rfl) (by decide +kernel)
set_option maxRecDepth 20000 in
theorem km_L_70 : Cond.methodLink RL 70 yX8_of ∈ gw := gw_mem 588 (by decide +kernel) (by decide +kernel)
set_option maxRecDepth 20000 in
theorem ki_X8_of : Cond.instanceMethod yX8_of ∈ gw := gw_mem 589 (by decide +kernel) (by decide +kernel)
set_option maxRecDepth 20000 in
theorem ks_X8_of : Cond.selects RX8 yX8_of yX8_of ∈ gw := gw_mem 590 (by decide +kernel) (by decide +kernel)
set_option maxRecDepth 20000 in
theorem kc_X8_of : Cond.code yX8_of cX8_of 4 (some .int) ∈ gw := gw_mem 591 (by exact rfl) (by decide +kernel)
set_option maxRecDepth 20000 in
theorem km_L_75 : Cond.methodLink RL 75 yX8_best ∈ gw := gw_mem 592 (by decide +kernel) (by decide +kernel)
set_option maxRecDepth 20000 in
theorem ki_X8_best : Cond.instanceMethod yX8_best ∈ gw := gw_mem 593 (by decide +kernel) (by decide +kernel)
set_option maxRecDepth 20000 in
theorem ks_X8_best : Cond.selects RX8 yX8_best yX8_best ∈ gw := gw_mem 594 (by decide +kernel) (by decide +kernel)
set_option maxRecDepth 20000 in
theorem kc_X8_best : Cond.code yX8_best cX8_best 2 (some .int) ∈ gw := gw_mem 595 (by exact rfl) (by decide +kernel)
set_option maxRecDepth 20000 in
theorem km_X8_169 : Cond.methodLink RX8 169 yX8_bringPlanUpToDate ∈ gw := gw_mem 596 (by decide +kernel) (by decide +kernel)
set_option maxRecDepth 20000 in
theorem ki_X8_bringPlanUpToDate : Cond.instanceMethod yX8_bringPlanUpToDate ∈ gw := gw_mem 598 (by decide +kernel) (by decide +kernel)
set_option maxRecDepth 20000 in
theorem kc_X8_bringPlanUpToDate : Cond.code yX8_bringPlanUpToDate cX8_bringPlanUpToDate 1 none ∈ gw := gw_mem 599 (by exact rfl) (by decide +kernel)
set_option maxRecDepth 20000 in
theorem km_X8_193 : Cond.methodLink RX8 193 yX4_find ∈ gw := gw_mem 600 (by decide +kernel) (by decide +kernel)
set_option maxRecDepth 20000 in
theorem ki_X4_find : Cond.instanceMethod yX4_find ∈ gw := gw_mem 601 (by decide +kernel) (by decide +kernel)
set_option maxRecDepth 20000 in
theorem ks_X4_find : Cond.selects RX4 yX4_find yX4_find ∈ gw := gw_mem 602 (by decide +kernel) (by decide +kernel)
set_option maxRecDepth 20000 in
theorem kc_X4_find : Cond.code yX4_find cX4_find 8 none ∈ gw := gw_mem 603 (by exact rfl) (by decide +kernel)
set_option maxRecDepth 20000 in
theorem km_X4_56 : Cond.methodLink RX4 56 yX4_lineUp ∈ gw := gw_mem 604 (by decide +kernel) (by decide +kernel)
set_option maxRecDepth 20000 in
theorem ki_X4_lineUp : Cond.instanceMethod yX4_lineUp ∈ gw := gw_mem 606 (by decide +kernel) (by decide +kernel)
set_option maxRecDepth 20000 in
theorem kc_X4_lineUp : Cond.code yX4_lineUp cX4_lineUp 5 none ∈ gw := gw_mem 607 (by exact rfl) (by decide +kernel)
set_option maxRecDepth 20000 in
theorem km_X4_64 : Cond.methodLink RX4 64 yX4_startAt ∈ gw := gw_mem 608 (by decide +kernel) (by decide +kernel)
set_option maxRecDepth 20000 in
theorem ki_X4_startAt : Cond.instanceMethod yX4_startAt ∈ gw := gw_mem 610 (by decide +kernel) (by decide +kernel)
set_option maxRecDepth 20000 in
theorem kc_X4_startAt : Cond.code yX4_startAt cX4_startAt 3 none ∈ gw := gw_mem 611 (by exact rfl) (by decide +kernel)
set_option maxRecDepth 20000 in
theorem km_X4_68 : Cond.methodLink RX4 68 yX4_addToSets ∈ gw := gw_mem 612 (by decide +kernel) (by decide +kernel)
set_option maxRecDepth 20000 in
theorem ki_X4_addToSets : Cond.instanceMethod yX4_addToSets ∈ gw := gw_mem 614 (by decide +kernel) (by decide +kernel)
set_option maxRecDepth 20000 in
theorem kc_X4_addToSets : Cond.code yX4_addToSets cX4_addToSets 10 none ∈ gw := gw_mem 615 (by exact rfl) (by decide +kernel)
set_option maxRecDepth 20000 in
theorem km_X4_96 : Cond.methodLink RX4 96 yX4_rankOf ∈ gw := gw_mem 616 (by decide +kernel) (by decide +kernel)
set_option maxRecDepth 20000 in
theorem kt_X4_rankOf : Cond.static yX4_rankOf ∈ gw := gw_mem 617 (by decide +kernel) (by decide +kernel)
set_option maxRecDepth 20000 in
theorem kc_X4_rankOf : Cond.code yX4_rankOf cX4_rankOf 2 (some .long) ∈ gw := gw_mem 618 (by exact rfl) (by decide +kernel)
set_option maxRecDepth 20000 in
theorem kk_X4_116 : Cond.constantLong RX4 116 10000000000 ∈ gw := gw_mem 619 (by decide +kernel) (by decide +kernel)
set_option maxRecDepth 20000 in
theorem km_X4_118 : Cond.methodLink RX4 118 yX6_hoursLeftFor ∈ gw := gw_mem 620 (by decide +kernel) (by decide +kernel)
set_option maxRecDepth 20000 in
theorem ki_X6_hoursLeftFor : Cond.instanceMethod yX6_hoursLeftFor ∈ gw := gw_mem 621 (by decide +kernel) (by decide +kernel)
set_option maxRecDepth 20000 in
theorem ks_X6_hoursLeftFor : Cond.selects RX6 yX6_hoursLeftFor yX6_hoursLeftFor ∈ gw := gw_mem 622 (by decide +kernel) (by decide +kernel)
set_option maxRecDepth 20000 in
theorem kc_X6_hoursLeftFor : Cond.code yX6_hoursLeftFor cX6_hoursLeftFor 2 (some .int) ∈ gw := gw_mem 623 (by exact rfl) (by decide +kernel)
set_option maxRecDepth 20000 in
theorem kk_X4_122 : Cond.constantLong RX4 122 100000 ∈ gw := gw_mem 624 (by decide +kernel) (by decide +kernel)
set_option maxRecDepth 20000 in
theorem km_X4_109 : Cond.methodLink RX4 109 yX0_lay ∈ gw := gw_mem 627 (by decide +kernel) (by decide +kernel)
set_option maxRecDepth 20000 in
theorem ki_X0_lay : Cond.instanceMethod yX0_lay ∈ gw := gw_mem 628 (by decide +kernel) (by decide +kernel)
set_option maxRecDepth 20000 in
theorem ks_X0_lay : Cond.selects RX0 yX0_lay yX0_lay ∈ gw := gw_mem 629 (by decide +kernel) (by decide +kernel)
set_option maxRecDepth 20000 in
theorem kc_X0_lay : Cond.code yX0_lay cX0_lay 8 (some .boolean) ∈ gw := gw_mem 630 (by exact rfl) (by decide +kernel)
set_option maxRecDepth 20000 in
theorem km_X0_13 : Cond.methodLink RX0 13 yX6_hoursLeftFor ∈ gw := gw_mem 631 (by decide +kernel) (by decide +kernel)
set_option maxRecDepth 20000 in
theorem km_X0_37 : Cond.methodLink RX0 37 yX5_allow ∈ gw := gw_mem 632 (by decide +kernel) (by decide +kernel)
set_option maxRecDepth 20000 in
theorem km_X4_72 : Cond.methodLink RX4 72 yX4_shareAlsoWith ∈ gw := gw_mem 633 (by decide +kernel) (by decide +kernel)
set_option maxRecDepth 20000 in
theorem ki_X4_shareAlsoWith : Cond.instanceMethod yX4_shareAlsoWith ∈ gw := gw_mem 635 (by decide +kernel) (by decide +kernel)
set_option maxRecDepth 20000 in
theorem kc_X4_shareAlsoWith : Cond.code yX4_shareAlsoWith cX4_shareAlsoWith 7 none ∈ gw := gw_mem 636 (by exact rfl) (by decide +kernel)
set_option maxRecDepth 20000 in
theorem km_X4_76 : Cond.methodLink RX4 76 yX4_tellWay ∈ gw := gw_mem 637 (by decide +kernel) (by decide +kernel)
set_option maxRecDepth 20000 in
theorem ki_X4_tellWay : Cond.instanceMethod yX4_tellWay ∈ gw := gw_mem 639 (by decide +kernel) (by decide +kernel)
set_option maxRecDepth 20000 in
theorem kc_X4_tellWay : Cond.code yX4_tellWay cX4_tellWay 9 none ∈ gw := gw_mem 640 (by exact rfl) (by decide +kernel)
set_option maxRecDepth 20000 in
theorem km_X4_133 : Cond.methodLink RX4 133 yX4_tellOrder ∈ gw := gw_mem 641 (by decide +kernel) (by decide +kernel)
set_option maxRecDepth 20000 in
theorem ki_X4_tellOrder : Cond.instanceMethod yX4_tellOrder ∈ gw := gw_mem 643 (by decide +kernel) (by decide +kernel)
set_option maxRecDepth 20000 in
theorem kc_X4_tellOrder : Cond.code yX4_tellOrder cX4_tellOrder 7 none ∈ gw := gw_mem 644 (by exact rfl) (by decide +kernel)
set_option maxRecDepth 20000 in
theorem km_X4_137 : Cond.methodLink RX4 137 yJ9_min_7cf53 ∈ gw := gw_mem 645 (by decide +kernel) (by decide +kernel)
set_option maxRecDepth 20000 in
theorem kt_J9_min_7cf53 : Cond.static yJ9_min_7cf53 ∈ gw := gw_mem 646 (by decide +kernel) (by decide +kernel)
set_option maxRecDepth 20000 in
theorem kc_J9_min_7cf53 : Cond.code yJ9_min_7cf53 cJ9_min_7cf53 2 (some .int) ∈ gw := gw_mem 647 (by exact rfl) (by decide +kernel)
set_option maxRecDepth 20000 in
theorem km_L_79 : Cond.methodLink RL 79 yX8_work ∈ gw := gw_mem 648 (by decide +kernel) (by decide +kernel)
set_option maxRecDepth 20000 in
theorem ki_X8_work : Cond.instanceMethod yX8_work ∈ gw := gw_mem 649 (by decide +kernel) (by decide +kernel)
set_option maxRecDepth 20000 in
theorem ks_X8_work : Cond.selects RX8 yX8_work yX8_work ∈ gw := gw_mem 650 (by decide +kernel) (by decide +kernel)
set_option maxRecDepth 20000 in
theorem kc_X8_work : Cond.code yX8_work cX8_work 2 (some .int) ∈ gw := gw_mem 651 (by exact rfl) (by decide +kernel)
set_option maxRecDepth 20000 in
theorem km_X8_182 : Cond.methodLink RX8 182 yX8_workAsPlanned ∈ gw := gw_mem 652 (by decide +kernel) (by decide +kernel)
set_option maxRecDepth 20000 in
theorem ki_X8_workAsPlanned : Cond.instanceMethod yX8_workAsPlanned ∈ gw := gw_mem 654 (by decide +kernel) (by decide +kernel)
set_option maxRecDepth 20000 in
theorem kc_X8_workAsPlanned : Cond.code yX8_workAsPlanned cX8_workAsPlanned 4 none ∈ gw := gw_mem 655 (by exact rfl) (by decide +kernel)
set_option maxRecDepth 20000 in
theorem km_X8_189 : Cond.methodLink RX8 189 yX6_workBy ∈ gw := gw_mem 656 (by decide +kernel) (by decide +kernel)
set_option maxRecDepth 20000 in
theorem ki_X6_workBy : Cond.instanceMethod yX6_workBy ∈ gw := gw_mem 657 (by decide +kernel) (by decide +kernel)
set_option maxRecDepth 20000 in
theorem ks_X6_workBy : Cond.selects RX6 yX6_workBy yX6_workBy ∈ gw := gw_mem 658 (by decide +kernel) (by decide +kernel)
set_option maxRecDepth 20000 in
theorem kc_X6_workBy : Cond.code yX6_workBy cX6_workBy 3 none ∈ gw := gw_mem 659 (by exact rfl) (by decide +kernel)
set_option maxRecDepth 20000 in
theorem kl_L_10 : Cond.classLink RL 10 RX9 ∈ gw := gw_mem 660 (by decide +kernel) (by decide +kernel)
set_option maxRecDepth 20000 in
theorem ka_X9 : Cond.instantiable RX9 44 ∈ gw := gw_mem 661 (by decide +kernel) (by decide +kernel)
set_option maxRecDepth 20000 in
theorem km_L_12 : Cond.methodLink RL 12 yX9_init ∈ gw := gw_mem 662 (by decide +kernel) (by decide +kernel)
set_option maxRecDepth 20000 in
theorem ki_X9_init : Cond.instanceMethod yX9_init ∈ gw := gw_mem 663 (by decide +kernel) (by decide +kernel)
set_option maxRecDepth 20000 in
theorem kc_X9_init : Cond.code yX9_init cX9_init 2 none ∈ gw := gw_mem 664 (by exact rfl) (by decide +kernel)
set_option maxRecDepth 20000 in
theorem km_X9_1 : Cond.methodLink RX9 1 objectInit ∈ gw := gw_mem 665 (by decide +kernel) (by decide +kernel)
set_option maxRecDepth 20000 in
theorem kf_X9_104 : Cond.fieldLink RX9 104 "GlassValleyModel" "now" "I" ∈ gw := gw_mem 666 (by decide +kernel) (by decide +kernel)
set_option maxRecDepth 20000 in
theorem kf_X9_111 : Cond.fieldLink RX9 111 "GlassValleyModel" "orders" "I" ∈ gw := gw_mem 667 (by decide +kernel) (by decide +kernel)
set_option maxRecDepth 20000 in
theorem kf_X9_233 : Cond.fieldLink RX9 233 "GlassValleyModel" "earned" "I" ∈ gw := gw_mem 668 (by decide +kernel) (by decide +kernel)
set_option maxRecDepth 20000 in
theorem kf_X9_7 : Cond.fieldLink RX9 7 "GlassValleyModel" "hour" "[I" ∈ gw := gw_mem 669 (by decide +kernel) (by decide +kernel)
set_option maxRecDepth 20000 in
theorem kf_X9_13 : Cond.fieldLink RX9 13 "GlassValleyModel" "silver" "[I" ∈ gw := gw_mem 670 (by decide +kernel) (by decide +kernel)
set_option maxRecDepth 20000 in
theorem kf_X9_16 : Cond.fieldLink RX9 16 "GlassValleyModel" "used" "[I" ∈ gw := gw_mem 671 (by decide +kernel) (by decide +kernel)
set_option maxRecDepth 20000 in
theorem kf_X9_19 : Cond.fieldLink RX9 19 "GlassValleyModel" "takes" "[I" ∈ gw := gw_mem 672 (by decide +kernel) (by decide +kernel)
set_option maxRecDepth 20000 in
theorem kf_X9_22 : Cond.fieldLink RX9 22 "GlassValleyModel" "needs" "[I" ∈ gw := gw_mem 673 (by decide +kernel) (by decide +kernel)
set_option maxRecDepth 20000 in
theorem kf_X9_25 : Cond.fieldLink RX9 25 "GlassValleyModel" "breaks" "[I" ∈ gw := gw_mem 674 (by decide +kernel) (by decide +kernel)
set_option maxRecDepth 20000 in
theorem kf_X9_28 : Cond.fieldLink RX9 28 "GlassValleyModel" "pattern" "[I" ∈ gw := gw_mem 675 (by decide +kernel) (by decide +kernel)
set_option maxRecDepth 20000 in
theorem kf_X9_31 : Cond.fieldLink RX9 31 "GlassValleyModel" "gross" "[I" ∈ gw := gw_mem 676 (by decide +kernel) (by decide +kernel)
set_option maxRecDepth 20000 in
theorem kf_X9_34 : Cond.fieldLink RX9 34 "GlassValleyModel" "due" "[I" ∈ gw := gw_mem 677 (by decide +kernel) (by decide +kernel)
set_option maxRecDepth 20000 in
theorem kf_X9_37 : Cond.fieldLink RX9 37 "GlassValleyModel" "price" "[I" ∈ gw := gw_mem 678 (by decide +kernel) (by decide +kernel)
set_option maxRecDepth 20000 in
theorem kf_X9_40 : Cond.fieldLink RX9 40 "GlassValleyModel" "made" "[I" ∈ gw := gw_mem 679 (by decide +kernel) (by decide +kernel)
set_option maxRecDepth 20000 in
theorem kf_X9_43 : Cond.fieldLink RX9 43 "GlassValleyModel" "work" "[I" ∈ gw := gw_mem 680 (by decide +kernel) (by decide +kernel)
set_option maxRecDepth 20000 in
theorem kf_X9_46 : Cond.fieldLink RX9 46 "GlassValleyModel" "metal" "[I" ∈ gw := gw_mem 681 (by decide +kernel) (by decide +kernel)
set_option maxRecDepth 20000 in
theorem kf_X9_49 : Cond.fieldLink RX9 49 "GlassValleyModel" "state" "[I" ∈ gw := gw_mem 682 (by decide +kernel) (by decide +kernel)
set_option maxRecDepth 20000 in
theorem kf_X9_52 : Cond.fieldLink RX9 52 "GlassValleyModel" "worked" "[I" ∈ gw := gw_mem 683 (by decide +kernel) (by decide +kernel)
set_option maxRecDepth 20000 in
theorem kf_X9_55 : Cond.fieldLink RX9 55 "GlassValleyModel" "by" "[I" ∈ gw := gw_mem 684 (by decide +kernel) (by decide +kernel)
set_option maxRecDepth 20000 in
theorem kf_X9_58 : Cond.fieldLink RX9 58 "GlassValleyModel" "owner" "[I" ∈ gw := gw_mem 685 (by decide +kernel) (by decide +kernel)
set_option maxRecDepth 20000 in
theorem kf_X9_61 : Cond.fieldLink RX9 61 "GlassValleyModel" "lentTo" "[I" ∈ gw := gw_mem 686 (by decide +kernel) (by decide +kernel)
set_option maxRecDepth 20000 in
theorem kf_X9_64 : Cond.fieldLink RX9 64 "GlassValleyModel" "barred" "[Z" ∈ gw := gw_mem 687 (by decide +kernel) (by decide +kernel)
set_option maxRecDepth 20000 in
theorem kf_X9_68 : Cond.fieldLink RX9 68 "GlassValleyModel" "tape" "[I" ∈ gw := gw_mem 688 (by decide +kernel) (by decide +kernel)
set_option maxRecDepth 20000 in
theorem kf_X9_71 : Cond.fieldLink RX9 71 "GlassValleyModel" "line" "[I" ∈ gw := gw_mem 689 (by decide +kernel) (by decide +kernel)
set_option maxRecDepth 20000 in
theorem kf_X9_125 : Cond.fieldLink RX9 125 "GlassValleyModel" "taped" "I" ∈ gw := gw_mem 690 (by decide +kernel) (by decide +kernel)
set_option maxRecDepth 20000 in
theorem kf_X9_144 : Cond.fieldLink RX9 144 "GlassValleyModel" "at" "I" ∈ gw := gw_mem 691 (by decide +kernel) (by decide +kernel)
set_option maxRecDepth 20000 in
theorem kf_X9_154 : Cond.fieldLink RX9 154 "GlassValleyModel" "token" "I" ∈ gw := gw_mem 692 (by decide +kernel) (by decide +kernel)
set_option maxRecDepth 20000 in
theorem kf_X9_151 : Cond.fieldLink RX9 151 "GlassValleyModel" "tokenAt" "I" ∈ gw := gw_mem 693 (by decide +kernel) (by decide +kernel)
set_option maxRecDepth 20000 in
theorem kf_X9_167 : Cond.fieldLink RX9 167 "GlassValleyModel" "value" "I" ∈ gw := gw_mem 694 (by decide +kernel) (by decide +kernel)
set_option maxRecDepth 20000 in
theorem kf_X9_170 : Cond.fieldLink RX9 170 "GlassValleyModel" "wrong" "I" ∈ gw := gw_mem 695 (by decide +kernel) (by decide +kernel)
set_option maxRecDepth 20000 in
theorem kf_X9_173 : Cond.fieldLink RX9 173 "GlassValleyModel" "wrongAt" "I" ∈ gw := gw_mem 696 (by decide +kernel) (by decide +kernel)
set_option maxRecDepth 20000 in
theorem kf_X9_198 : Cond.fieldLink RX9 198 "GlassValleyModel" "faultKind" "I" ∈ gw := gw_mem 697 (by decide +kernel) (by decide +kernel)
set_option maxRecDepth 20000 in
theorem kf_X9_185 : Cond.fieldLink RX9 185 "GlassValleyModel" "lines" "I" ∈ gw := gw_mem 698 (by decide +kernel) (by decide +kernel)
set_option maxRecDepth 20000 in
theorem kf_X9_182 : Cond.fieldLink RX9 182 "GlassValleyModel" "number" "I" ∈ gw := gw_mem 699 (by decide +kernel) (by decide +kernel)
set_option maxRecDepth 20000 in
theorem kf_X9_74 : Cond.fieldLink RX9 74 "GlassValleyModel" "faultPlace" "I" ∈ gw := gw_mem 700 (by decide +kernel) (by decide +kernel)
set_option maxRecDepth 20000 in
theorem kf_X9_78 : Cond.fieldLink RX9 78 "GlassValleyModel" "row" "[I" ∈ gw := gw_mem 701 (by decide +kernel) (by decide +kernel)
set_option maxRecDepth 20000 in
theorem kf_X9_207 : Cond.fieldLink RX9 207 "GlassValleyModel" "many" "I" ∈ gw := gw_mem 702 (by decide +kernel) (by decide +kernel)
set_option maxRecDepth 20000 in
theorem kf_X9_81 : Cond.fieldLink RX9 81 "GlassValleyModel" "over" "[I" ∈ gw := gw_mem 703 (by decide +kernel) (by decide +kernel)
set_option maxRecDepth 20000 in
theorem kf_X9_84 : Cond.fieldLink RX9 84 "GlassValleyModel" "can" "[Z" ∈ gw := gw_mem 704 (by decide +kernel) (by decide +kernel)
set_option maxRecDepth 20000 in
theorem kf_X9_87 : Cond.fieldLink RX9 87 "GlassValleyModel" "given" "[I" ∈ gw := gw_mem 705 (by decide +kernel) (by decide +kernel)
set_option maxRecDepth 20000 in
theorem kf_X9_90 : Cond.fieldLink RX9 90 "GlassValleyModel" "best" "[I" ∈ gw := gw_mem 706 (by decide +kernel) (by decide +kernel)
set_option maxRecDepth 20000 in
theorem kf_X9_93 : Cond.fieldLink RX9 93 "GlassValleyModel" "sets" "[I" ∈ gw := gw_mem 707 (by decide +kernel) (by decide +kernel)
set_option maxRecDepth 20000 in
theorem kf_X9_217 : Cond.fieldLink RX9 217 "GlassValleyModel" "bestSum" "I" ∈ gw := gw_mem 708 (by decide +kernel) (by decide +kernel)
set_option maxRecDepth 20000 in
theorem kf_X9_220 : Cond.fieldLink RX9 220 "GlassValleyModel" "bestWork" "I" ∈ gw := gw_mem 709 (by decide +kernel) (by decide +kernel)
set_option maxRecDepth 20000 in
theorem km_L_17 : Cond.methodLink RL 17 yX9_hours ∈ gw := gw_mem 799 (by decide +kernel) (by decide +kernel)
set_option maxRecDepth 20000 in
theorem ki_X9_hours : Cond.instanceMethod yX9_hours ∈ gw := gw_mem 800 (by decide +kernel) (by decide +kernel)
set_option maxRecDepth 20000 in
theorem ks_X9_hours : Cond.selects RX9 yX9_hours yX9_hours ∈ gw := gw_mem 801 (by decide +kernel) (by decide +kernel)
set_option maxRecDepth 20000 in
theorem kc_X9_hours : Cond.code yX9_hours cX9_hours 4 (some .boolean) ∈ gw := gw_mem 802 (by exact rfl) (by decide +kernel)
set_option maxRecDepth 20000 in
theorem km_X9_100 : Cond.methodLink RX9 100 yX9_isFamily ∈ gw := gw_mem 803 (by decide +kernel) (by decide +kernel)
set_option maxRecDepth 20000 in
theorem kt_X9_isFamily : Cond.static yX9_isFamily ∈ gw := gw_mem 804 (by decide +kernel) (by decide +kernel)
set_option maxRecDepth 20000 in
theorem kc_X9_isFamily : Cond.code yX9_isFamily cX9_isFamily 1 (some .boolean) ∈ gw := gw_mem 805 (by exact rfl) (by decide +kernel)
set_option maxRecDepth 20000 in
theorem km_X9_96 : Cond.methodLink RX9 96 yX9_isIn ∈ gw := gw_mem 806 (by decide +kernel) (by decide +kernel)
set_option maxRecDepth 20000 in
theorem kt_X9_isIn : Cond.static yX9_isIn ∈ gw := gw_mem 807 (by decide +kernel) (by decide +kernel)
set_option maxRecDepth 20000 in
theorem kc_X9_isIn : Cond.code yX9_isIn cX9_isIn 3 (some .boolean) ∈ gw := gw_mem 808 (by exact rfl) (by decide +kernel)
set_option maxRecDepth 20000 in
theorem km_X9_107 : Cond.methodLink RX9 107 yX9_isWeek ∈ gw := gw_mem 809 (by decide +kernel) (by decide +kernel)
set_option maxRecDepth 20000 in
theorem kt_X9_isWeek : Cond.static yX9_isWeek ∈ gw := gw_mem 810 (by decide +kernel) (by decide +kernel)
set_option maxRecDepth 20000 in
theorem kc_X9_isWeek : Cond.code yX9_isWeek cX9_isWeek 2 (some .boolean) ∈ gw := gw_mem 811 (by exact rfl) (by decide +kernel)
set_option maxRecDepth 20000 in
theorem km_L_22 : Cond.methodLink RL 22 yX9_pattern ∈ gw := gw_mem 812 (by decide +kernel) (by decide +kernel)
set_option maxRecDepth 20000 in
theorem ki_X9_pattern : Cond.instanceMethod yX9_pattern ∈ gw := gw_mem 813 (by decide +kernel) (by decide +kernel)
set_option maxRecDepth 20000 in
theorem ks_X9_pattern : Cond.selects RX9 yX9_pattern yX9_pattern ∈ gw := gw_mem 814 (by decide +kernel) (by decide +kernel)
set_option maxRecDepth 20000 in
theorem kc_X9_pattern : Cond.code yX9_pattern cX9_pattern 6 (some .boolean) ∈ gw := gw_mem 815 (by exact rfl) (by decide +kernel)
set_option maxRecDepth 20000 in
theorem km_X9_114 : Cond.methodLink RX9 114 yX9_isPattern ∈ gw := gw_mem 816 (by decide +kernel) (by decide +kernel)
set_option maxRecDepth 20000 in
theorem kt_X9_isPattern : Cond.static yX9_isPattern ∈ gw := gw_mem 817 (by decide +kernel) (by decide +kernel)
set_option maxRecDepth 20000 in
theorem kc_X9_isPattern : Cond.code yX9_isPattern cX9_isPattern 1 (some .boolean) ∈ gw := gw_mem 818 (by exact rfl) (by decide +kernel)
set_option maxRecDepth 20000 in
theorem km_X9_117 : Cond.methodLink RX9 117 yX9_isOpen ∈ gw := gw_mem 819 (by decide +kernel) (by decide +kernel)
set_option maxRecDepth 20000 in
theorem ki_X9_isOpen : Cond.instanceMethod yX9_isOpen ∈ gw := gw_mem 821 (by decide +kernel) (by decide +kernel)
set_option maxRecDepth 20000 in
theorem kc_X9_isOpen : Cond.code yX9_isOpen cX9_isOpen 2 (some .boolean) ∈ gw := gw_mem 822 (by exact rfl) (by decide +kernel)
set_option maxRecDepth 20000 in
theorem km_X9_120 : Cond.methodLink RX9 120 yX9_counts ∈ gw := gw_mem 823 (by decide +kernel) (by decide +kernel)
set_option maxRecDepth 20000 in
theorem ki_X9_counts : Cond.instanceMethod yX9_counts ∈ gw := gw_mem 825 (by decide +kernel) (by decide +kernel)
set_option maxRecDepth 20000 in
theorem kc_X9_counts : Cond.code yX9_counts cX9_counts 4 none ∈ gw := gw_mem 826 (by exact rfl) (by decide +kernel)
set_option maxRecDepth 20000 in
theorem km_L_27 : Cond.methodLink RL 27 yX9_lend ∈ gw := gw_mem 827 (by decide +kernel) (by decide +kernel)
set_option maxRecDepth 20000 in
theorem ki_X9_lend : Cond.instanceMethod yX9_lend ∈ gw := gw_mem 828 (by decide +kernel) (by decide +kernel)
set_option maxRecDepth 20000 in
theorem ks_X9_lend : Cond.selects RX9 yX9_lend yX9_lend ∈ gw := gw_mem 829 (by decide +kernel) (by decide +kernel)
set_option maxRecDepth 20000 in
theorem kc_X9_lend : Cond.code yX9_lend cX9_lend 3 (some .boolean) ∈ gw := gw_mem 830 (by exact rfl) (by decide +kernel)
set_option maxRecDepth 20000 in
theorem kk_X9_124 : Cond.constant RX9 124 99999 ∈ gw := gw_mem 831 (by decide +kernel) (by decide +kernel)
set_option maxRecDepth 20000 in
theorem km_L_32 : Cond.methodLink RL 32 yX9_bring ∈ gw := gw_mem 832 (by decide +kernel) (by decide +kernel)
set_option maxRecDepth 20000 in
theorem ki_X9_bring : Cond.instanceMethod yX9_bring ∈ gw := gw_mem 833 (by decide +kernel) (by decide +kernel)
set_option maxRecDepth 20000 in
theorem ks_X9_bring : Cond.selects RX9 yX9_bring yX9_bring ∈ gw := gw_mem 834 (by decide +kernel) (by decide +kernel)
set_option maxRecDepth 20000 in
theorem kc_X9_bring : Cond.code yX9_bring cX9_bring 3 (some .int) ∈ gw := gw_mem 835 (by exact rfl) (by decide +kernel)
set_option maxRecDepth 20000 in
theorem km_L_37 : Cond.methodLink RL 37 yX9_order ∈ gw := gw_mem 836 (by decide +kernel) (by decide +kernel)
set_option maxRecDepth 20000 in
theorem ki_X9_order : Cond.instanceMethod yX9_order ∈ gw := gw_mem 837 (by decide +kernel) (by decide +kernel)
set_option maxRecDepth 20000 in
theorem ks_X9_order : Cond.selects RX9 yX9_order yX9_order ∈ gw := gw_mem 838 (by decide +kernel) (by decide +kernel)
set_option maxRecDepth 20000 in
theorem kc_X9_order : Cond.code yX9_order cX9_order 6 (some .int) ∈ gw := gw_mem 839 (by exact rfl) (by decide +kernel)
set_option maxRecDepth 20000 in
theorem km_L_42 : Cond.methodLink RL 42 yX9_drop ∈ gw := gw_mem 840 (by decide +kernel) (by decide +kernel)
set_option maxRecDepth 20000 in
theorem ki_X9_drop : Cond.instanceMethod yX9_drop ∈ gw := gw_mem 841 (by decide +kernel) (by decide +kernel)
set_option maxRecDepth 20000 in
theorem ks_X9_drop : Cond.selects RX9 yX9_drop yX9_drop ∈ gw := gw_mem 842 (by decide +kernel) (by decide +kernel)
set_option maxRecDepth 20000 in
theorem kc_X9_drop : Cond.code yX9_drop cX9_drop 2 (some .boolean) ∈ gw := gw_mem 843 (by exact rfl) (by decide +kernel)
set_option maxRecDepth 20000 in
theorem km_L_47 : Cond.methodLink RL 47 yX9_feed ∈ gw := gw_mem 844 (by decide +kernel) (by decide +kernel)
set_option maxRecDepth 20000 in
theorem ki_X9_feed : Cond.instanceMethod yX9_feed ∈ gw := gw_mem 845 (by decide +kernel) (by decide +kernel)
set_option maxRecDepth 20000 in
theorem ks_X9_feed : Cond.selects RX9 yX9_feed yX9_feed ∈ gw := gw_mem 846 (by decide +kernel) (by decide +kernel)
set_option maxRecDepth 20000 in
theorem kc_X9_feed : Cond.code yX9_feed cX9_feed 8 (some .int) ∈ gw := gw_mem 847 (by exact rfl) (by decide +kernel)
set_option maxRecDepth 20000 in
theorem km_L_51 : Cond.methodLink RL 51 yX9_end ∈ gw := gw_mem 848 (by decide +kernel) (by decide +kernel)
set_option maxRecDepth 20000 in
theorem ki_X9_end : Cond.instanceMethod yX9_end ∈ gw := gw_mem 849 (by decide +kernel) (by decide +kernel)
set_option maxRecDepth 20000 in
theorem ks_X9_end : Cond.selects RX9 yX9_end yX9_end ∈ gw := gw_mem 850 (by decide +kernel) (by decide +kernel)
set_option maxRecDepth 20000 in
theorem kc_X9_end : Cond.code yX9_end cX9_end 2 (some .boolean) ∈ gw := gw_mem 851 (by exact rfl) (by decide +kernel)
set_option maxRecDepth 20000 in
theorem km_L_56 : Cond.methodLink RL 56 yX9_custom ∈ gw := gw_mem 852 (by decide +kernel) (by decide +kernel)
set_option maxRecDepth 20000 in
theorem ki_X9_custom : Cond.instanceMethod yX9_custom ∈ gw := gw_mem 853 (by decide +kernel) (by decide +kernel)
set_option maxRecDepth 20000 in
theorem ks_X9_custom : Cond.selects RX9 yX9_custom yX9_custom ∈ gw := gw_mem 854 (by decide +kernel) (by decide +kernel)
set_option maxRecDepth 20000 in
theorem kc_X9_custom : Cond.code yX9_custom cX9_custom 4 (some .int) ∈ gw := gw_mem 855 (by exact rfl) (by decide +kernel)
set_option maxRecDepth 20000 in
theorem km_X9_179 : Cond.methodLink RX9 179 yX9_next0 ∈ gw := gw_mem 856 (by decide +kernel) (by decide +kernel)
set_option maxRecDepth 20000 in
theorem ki_X9_next0 : Cond.instanceMethod yX9_next0 ∈ gw := gw_mem 858 (by decide +kernel) (by decide +kernel)
set_option maxRecDepth 20000 in
theorem kc_X9_next0 : Cond.code yX9_next0 cX9_next0 5 none ∈ gw := gw_mem 859 (by exact rfl) (by decide +kernel)
set_option maxRecDepth 20000 in
theorem km_X9_147 : Cond.methodLink RX9 147 yX9_see ∈ gw := gw_mem 860 (by decide +kernel) (by decide +kernel)
set_option maxRecDepth 20000 in
theorem ki_X9_see : Cond.instanceMethod yX9_see ∈ gw := gw_mem 862 (by decide +kernel) (by decide +kernel)
set_option maxRecDepth 20000 in
theorem kc_X9_see : Cond.code yX9_see cX9_see 2 (some .int) ∈ gw := gw_mem 863 (by exact rfl) (by decide +kernel)
set_option maxRecDepth 20000 in
theorem km_X9_157 : Cond.methodLink RX9 157 yX9_isLetter ∈ gw := gw_mem 864 (by decide +kernel) (by decide +kernel)
set_option maxRecDepth 20000 in
theorem kt_X9_isLetter : Cond.static yX9_isLetter ∈ gw := gw_mem 865 (by decide +kernel) (by decide +kernel)
set_option maxRecDepth 20000 in
theorem kc_X9_isLetter : Cond.code yX9_isLetter cX9_isLetter 1 (some .boolean) ∈ gw := gw_mem 866 (by exact rfl) (by decide +kernel)
set_option maxRecDepth 20000 in
theorem km_X9_160 : Cond.methodLink RX9 160 yX9_word ∈ gw := gw_mem 867 (by decide +kernel) (by decide +kernel)
set_option maxRecDepth 20000 in
theorem kt_X9_word : Cond.static yX9_word ∈ gw := gw_mem 868 (by decide +kernel) (by decide +kernel)
set_option maxRecDepth 20000 in
theorem kc_X9_word : Cond.code yX9_word cX9_word 2 (some .int) ∈ gw := gw_mem 869 (by exact rfl) (by decide +kernel)
set_option maxRecDepth 20000 in
theorem kk_X9_128 : Cond.constantLong RX9 128 7305070 ∈ gw := gw_mem 870 (by decide +kernel) (by decide +kernel)
set_option maxRecDepth 20000 in
theorem kk_X9_130 : Cond.constantLong RX9 130 1818586724 ∈ gw := gw_mem 871 (by decide +kernel) (by decide +kernel)
set_option maxRecDepth 20000 in
theorem kk_X9_132 : Cond.constantLong RX9 132 6447474 ∈ gw := gw_mem 872 (by decide +kernel) (by decide +kernel)
set_option maxRecDepth 20000 in
theorem kk_X9_134 : Cond.constantLong RX9 134 1718773093 ∈ gw := gw_mem 873 (by decide +kernel) (by decide +kernel)
set_option maxRecDepth 20000 in
theorem kk_X9_136 : Cond.constantLong RX9 136 25209 ∈ gw := gw_mem 874 (by decide +kernel) (by decide +kernel)
set_option maxRecDepth 20000 in
theorem kk_X9_138 : Cond.constantLong RX9 138 29807 ∈ gw := gw_mem 875 (by decide +kernel) (by decide +kernel)
set_option maxRecDepth 20000 in
theorem kk_X9_140 : Cond.constantLong RX9 140 504364296556 ∈ gw := gw_mem 876 (by decide +kernel) (by decide +kernel)
set_option maxRecDepth 20000 in
theorem kk_X9_142 : Cond.constantLong RX9 142 1718775661 ∈ gw := gw_mem 877 (by decide +kernel) (by decide +kernel)
set_option maxRecDepth 20000 in
theorem km_X9_164 : Cond.methodLink RX9 164 yX9_isDigit ∈ gw := gw_mem 878 (by decide +kernel) (by decide +kernel)
set_option maxRecDepth 20000 in
theorem kt_X9_isDigit : Cond.static yX9_isDigit ∈ gw := gw_mem 879 (by decide +kernel) (by decide +kernel)
set_option maxRecDepth 20000 in
theorem kc_X9_isDigit : Cond.code yX9_isDigit cX9_isDigit 1 (some .boolean) ∈ gw := gw_mem 880 (by exact rfl) (by decide +kernel)
set_option maxRecDepth 20000 in
theorem km_X9_194 : Cond.methodLink RX9 194 yX9_aLine ∈ gw := gw_mem 881 (by decide +kernel) (by decide +kernel)
set_option maxRecDepth 20000 in
theorem ki_X9_aLine : Cond.instanceMethod yX9_aLine ∈ gw := gw_mem 883 (by decide +kernel) (by decide +kernel)
set_option maxRecDepth 20000 in
theorem kc_X9_aLine : Cond.code yX9_aLine cX9_aLine 2 (some .boolean) ∈ gw := gw_mem 884 (by exact rfl) (by decide +kernel)
set_option maxRecDepth 20000 in
theorem km_X9_176 : Cond.methodLink RX9 176 yX9_bad ∈ gw := gw_mem 885 (by decide +kernel) (by decide +kernel)
set_option maxRecDepth 20000 in
theorem ki_X9_bad : Cond.instanceMethod yX9_bad ∈ gw := gw_mem 887 (by decide +kernel) (by decide +kernel)
set_option maxRecDepth 20000 in
theorem kc_X9_bad : Cond.code yX9_bad cX9_bad 2 (some .boolean) ∈ gw := gw_mem 888 (by exact rfl) (by decide +kernel)
set_option maxRecDepth 20000 in
theorem km_X9_188 : Cond.methodLink RX9 188 yX9_aNumber ∈ gw := gw_mem 889 (by decide +kernel) (by decide +kernel)
set_option maxRecDepth 20000 in
theorem ki_X9_aNumber : Cond.instanceMethod yX9_aNumber ∈ gw := gw_mem 891 (by decide +kernel) (by decide +kernel)
set_option maxRecDepth 20000 in
theorem kc_X9_aNumber : Cond.code yX9_aNumber cX9_aNumber 3 (some .boolean) ∈ gw := gw_mem 892 (by exact rfl) (by decide +kernel)
set_option maxRecDepth 20000 in
theorem km_X9_191 : Cond.methodLink RX9 191 yX9_need ∈ gw := gw_mem 893 (by decide +kernel) (by decide +kernel)
set_option maxRecDepth 20000 in
theorem ki_X9_need : Cond.instanceMethod yX9_need ∈ gw := gw_mem 895 (by decide +kernel) (by decide +kernel)
set_option maxRecDepth 20000 in
theorem kc_X9_need : Cond.code yX9_need cX9_need 2 (some .boolean) ∈ gw := gw_mem 896 (by exact rfl) (by decide +kernel)
set_option maxRecDepth 20000 in
theorem km_X9_201 : Cond.methodLink RX9 201 yX9_tells ∈ gw := gw_mem 897 (by decide +kernel) (by decide +kernel)
set_option maxRecDepth 20000 in
theorem ki_X9_tells : Cond.instanceMethod yX9_tells ∈ gw := gw_mem 899 (by decide +kernel) (by decide +kernel)
set_option maxRecDepth 20000 in
theorem kc_X9_tells : Cond.code yX9_tells cX9_tells 6 none ∈ gw := gw_mem 900 (by exact rfl) (by decide +kernel)
set_option maxRecDepth 20000 in
theorem km_L_60 : Cond.methodLink RL 60 yX9_fault ∈ gw := gw_mem 901 (by decide +kernel) (by decide +kernel)
set_option maxRecDepth 20000 in
theorem ki_X9_fault : Cond.instanceMethod yX9_fault ∈ gw := gw_mem 902 (by decide +kernel) (by decide +kernel)
set_option maxRecDepth 20000 in
theorem ks_X9_fault : Cond.selects RX9 yX9_fault yX9_fault ∈ gw := gw_mem 903 (by decide +kernel) (by decide +kernel)
set_option maxRecDepth 20000 in
theorem kc_X9_fault : Cond.code yX9_fault cX9_fault 2 (some .int) ∈ gw := gw_mem 904 (by exact rfl) (by decide +kernel)
set_option maxRecDepth 20000 in
theorem km_L_65 : Cond.methodLink RL 65 yX9_may ∈ gw := gw_mem 905 (by decide +kernel) (by decide +kernel)
set_option maxRecDepth 20000 in
theorem ki_X9_may : Cond.instanceMethod yX9_may ∈ gw := gw_mem 906 (by decide +kernel) (by decide +kernel)
set_option maxRecDepth 20000 in
theorem ks_X9_may : Cond.selects RX9 yX9_may yX9_may ∈ gw := gw_mem 907 (by decide +kernel) (by decide +kernel)
set_option maxRecDepth 20000 in
theorem kc_X9_may : Cond.code yX9_may cX9_may 4 (some .int) ∈ gw := gw_mem 908 (by exact rfl) (by decide +kernel)
set_option maxRecDepth 20000 in
theorem km_X9_204 : Cond.methodLink RX9 204 yX9_isAllowed ∈ gw := gw_mem 909 (by decide +kernel) (by decide +kernel)
set_option maxRecDepth 20000 in
theorem ki_X9_isAllowed : Cond.instanceMethod yX9_isAllowed ∈ gw := gw_mem 911 (by decide +kernel) (by decide +kernel)
set_option maxRecDepth 20000 in
theorem kc_X9_isAllowed : Cond.code yX9_isAllowed cX9_isAllowed 4 (some .boolean) ∈ gw := gw_mem 912 (by exact rfl) (by decide +kernel)
set_option maxRecDepth 20000 in
theorem km_L_69 : Cond.methodLink RL 69 yX9_look ∈ gw := gw_mem 913 (by decide +kernel) (by decide +kernel)
set_option maxRecDepth 20000 in
theorem ki_X9_look : Cond.instanceMethod yX9_look ∈ gw := gw_mem 914 (by decide +kernel) (by decide +kernel)
set_option maxRecDepth 20000 in
theorem ks_X9_look : Cond.selects RX9 yX9_look yX9_look ∈ gw := gw_mem 915 (by decide +kernel) (by decide +kernel)
set_option maxRecDepth 20000 in
theorem kc_X9_look : Cond.code yX9_look cX9_look 4 (some .int) ∈ gw := gw_mem 916 (by exact rfl) (by decide +kernel)
set_option maxRecDepth 20000 in
theorem km_L_74 : Cond.methodLink RL 74 yX9_of ∈ gw := gw_mem 917 (by decide +kernel) (by decide +kernel)
set_option maxRecDepth 20000 in
theorem ki_X9_of : Cond.instanceMethod yX9_of ∈ gw := gw_mem 918 (by decide +kernel) (by decide +kernel)
set_option maxRecDepth 20000 in
theorem ks_X9_of : Cond.selects RX9 yX9_of yX9_of ∈ gw := gw_mem 919 (by decide +kernel) (by decide +kernel)
set_option maxRecDepth 20000 in
theorem kc_X9_of : Cond.code yX9_of cX9_of 3 (some .int) ∈ gw := gw_mem 920 (by exact rfl) (by decide +kernel)
set_option maxRecDepth 20000 in
theorem km_L_78 : Cond.methodLink RL 78 yX9_best ∈ gw := gw_mem 921 (by decide +kernel) (by decide +kernel)
set_option maxRecDepth 20000 in
theorem ki_X9_best : Cond.instanceMethod yX9_best ∈ gw := gw_mem 922 (by decide +kernel) (by decide +kernel)
set_option maxRecDepth 20000 in
theorem ks_X9_best : Cond.selects RX9 yX9_best yX9_best ∈ gw := gw_mem 923 (by decide +kernel) (by decide +kernel)
set_option maxRecDepth 20000 in
theorem kc_X9_best : Cond.code yX9_best cX9_best 3 (some .int) ∈ gw := gw_mem 924 (by exact rfl) (by decide +kernel)
set_option maxRecDepth 20000 in
theorem km_X9_236 : Cond.methodLink RX9 236 yX9_finds ∈ gw := gw_mem 925 (by decide +kernel) (by decide +kernel)
set_option maxRecDepth 20000 in
theorem ki_X9_finds : Cond.instanceMethod yX9_finds ∈ gw := gw_mem 927 (by decide +kernel) (by decide +kernel)
set_option maxRecDepth 20000 in
theorem kc_X9_finds : Cond.code yX9_finds cX9_finds 3 none ∈ gw := gw_mem 928 (by exact rfl) (by decide +kernel)
set_option maxRecDepth 20000 in
theorem km_X9_230 : Cond.methodLink RX9 230 yX9_does ∈ gw := gw_mem 929 (by decide +kernel) (by decide +kernel)
set_option maxRecDepth 20000 in
theorem ki_X9_does : Cond.instanceMethod yX9_does ∈ gw := gw_mem 931 (by decide +kernel) (by decide +kernel)
set_option maxRecDepth 20000 in
theorem kc_X9_does : Cond.code yX9_does cX9_does 11 (some .boolean) ∈ gw := gw_mem 932 (by exact rfl) (by decide +kernel)
set_option maxRecDepth 20000 in
theorem km_X9_210 : Cond.methodLink RX9 210 yX9_sorts ∈ gw := gw_mem 933 (by decide +kernel) (by decide +kernel)
set_option maxRecDepth 20000 in
theorem ki_X9_sorts : Cond.instanceMethod yX9_sorts ∈ gw := gw_mem 935 (by decide +kernel) (by decide +kernel)
set_option maxRecDepth 20000 in
theorem kc_X9_sorts : Cond.code yX9_sorts cX9_sorts 4 none ∈ gw := gw_mem 936 (by exact rfl) (by decide +kernel)
set_option maxRecDepth 20000 in
theorem km_X9_213 : Cond.methodLink RX9 213 yX9_left ∈ gw := gw_mem 937 (by decide +kernel) (by decide +kernel)
set_option maxRecDepth 20000 in
theorem ki_X9_left : Cond.instanceMethod yX9_left ∈ gw := gw_mem 939 (by decide +kernel) (by decide +kernel)
set_option maxRecDepth 20000 in
theorem kc_X9_left : Cond.code yX9_left cX9_left 3 (some .int) ∈ gw := gw_mem 940 (by exact rfl) (by decide +kernel)
set_option maxRecDepth 20000 in
theorem km_X9_226 : Cond.methodLink RX9 226 yX9_tries ∈ gw := gw_mem 941 (by decide +kernel) (by decide +kernel)
set_option maxRecDepth 20000 in
theorem ki_X9_tries : Cond.instanceMethod yX9_tries ∈ gw := gw_mem 943 (by decide +kernel) (by decide +kernel)
set_option maxRecDepth 20000 in
theorem kc_X9_tries : Cond.code yX9_tries cX9_tries 5 none ∈ gw := gw_mem 944 (by exact rfl) (by decide +kernel)
set_option maxRecDepth 20000 in
theorem km_X9_223 : Cond.methodLink RX9 223 yX9_canAll ∈ gw := gw_mem 945 (by decide +kernel) (by decide +kernel)
set_option maxRecDepth 20000 in
theorem ki_X9_canAll : Cond.instanceMethod yX9_canAll ∈ gw := gw_mem 947 (by decide +kernel) (by decide +kernel)
set_option maxRecDepth 20000 in
theorem kc_X9_canAll : Cond.code yX9_canAll cX9_canAll 1 (some .boolean) ∈ gw := gw_mem 948 (by exact rfl) (by decide +kernel)
set_option maxRecDepth 20000 in
theorem km_X9_239 : Cond.methodLink RX9 239 yX9_setOf ∈ gw := gw_mem 949 (by decide +kernel) (by decide +kernel)
set_option maxRecDepth 20000 in
theorem ki_X9_setOf : Cond.instanceMethod yX9_setOf ∈ gw := gw_mem 951 (by decide +kernel) (by decide +kernel)
set_option maxRecDepth 20000 in
theorem kc_X9_setOf : Cond.code yX9_setOf cX9_setOf 4 (some .int) ∈ gw := gw_mem 952 (by exact rfl) (by decide +kernel)
set_option maxRecDepth 20000 in
theorem km_L_82 : Cond.methodLink RL 82 yX9_work ∈ gw := gw_mem 953 (by decide +kernel) (by decide +kernel)
set_option maxRecDepth 20000 in
theorem ki_X9_work : Cond.instanceMethod yX9_work ∈ gw := gw_mem 954 (by decide +kernel) (by decide +kernel)
set_option maxRecDepth 20000 in
theorem ks_X9_work : Cond.selects RX9 yX9_work yX9_work ∈ gw := gw_mem 955 (by decide +kernel) (by decide +kernel)
set_option maxRecDepth 20000 in
theorem kc_X9_work : Cond.code yX9_work cX9_work 2 (some .int) ∈ gw := gw_mem 956 (by exact rfl) (by decide +kernel)
set_option maxRecDepth 20000 in
theorem km_X9_242 : Cond.methodLink RX9 242 yX9_works ∈ gw := gw_mem 957 (by decide +kernel) (by decide +kernel)
set_option maxRecDepth 20000 in
theorem ki_X9_works : Cond.instanceMethod yX9_works ∈ gw := gw_mem 959 (by decide +kernel) (by decide +kernel)
set_option maxRecDepth 20000 in
theorem kc_X9_works : Cond.code yX9_works cX9_works 7 none ∈ gw := gw_mem 960 (by exact rfl) (by decide +kernel)
set_option maxRecDepth 20000 in
theorem kf_J0_9 : Cond.fieldLink RJ0 9 "java/lang/String" "value" "[B" ∈ gw := gw_mem 961 (by decide +kernel) (by decide +kernel)
set_option maxRecDepth 20000 in
theorem kf_J0_15 : Cond.fieldLink RJ0 15 "java/lang/String" "coder" "B" ∈ gw := gw_mem 962 (by decide +kernel) (by decide +kernel)
set_option maxRecDepth 20000 in
theorem ks_X8_isWeekToCome : Cond.selects RX8 yX8_isWeekToCome yX8_isWeekToCome ∈ gw := gw_mem 0 (by decide +kernel) (by decide +kernel)
set_option maxRecDepth 20000 in
theorem ks_X8_isOrder : Cond.selects RX8 yX8_isOrder yX8_isOrder ∈ gw := gw_mem 1 (by decide +kernel) (by decide +kernel)
set_option maxRecDepth 20000 in
theorem ks_X7_skipBlanks : Cond.selects RX7 yX7_skipBlanks yX7_skipBlanks ∈ gw := gw_mem 2 (by decide +kernel) (by decide +kernel)
set_option maxRecDepth 20000 in
theorem ks_X7_skipLetters : Cond.selects RX7 yX7_skipLetters yX7_skipLetters ∈ gw := gw_mem 3 (by decide +kernel) (by decide +kernel)
set_option maxRecDepth 20000 in
theorem ks_X7_keyword : Cond.selects RX7 yX7_keyword yX7_keyword ∈ gw := gw_mem 4 (by decide +kernel) (by decide +kernel)
set_option maxRecDepth 20000 in
theorem ks_X7_isWord : Cond.selects RX7 yX7_isWord yX7_isWord ∈ gw := gw_mem 5 (by decide +kernel) (by decide +kernel)
set_option maxRecDepth 20000 in
theorem ks_X7_readNumber : Cond.selects RX7 yX7_readNumber yX7_readNumber ∈ gw := gw_mem 6 (by decide +kernel) (by decide +kernel)
set_option maxRecDepth 20000 in
theorem ks_X1_readLine : Cond.selects RX1 yX1_readLine yX1_readLine ∈ gw := gw_mem 7 (by decide +kernel) (by decide +kernel)
set_option maxRecDepth 20000 in
theorem ks_X1_stopAt : Cond.selects RX1 yX1_stopAt yX1_stopAt ∈ gw := gw_mem 8 (by decide +kernel) (by decide +kernel)
set_option maxRecDepth 20000 in
theorem ks_X1_readParts : Cond.selects RX1 yX1_readParts yX1_readParts ∈ gw := gw_mem 9 (by decide +kernel) (by decide +kernel)
set_option maxRecDepth 20000 in
theorem ks_X1_leastOf : Cond.selects RX1 yX1_leastOf yX1_leastOf ∈ gw := gw_mem 10 (by decide +kernel) (by decide +kernel)
set_option maxRecDepth 20000 in
theorem ks_X1_tell : Cond.selects RX1 yX1_tell yX1_tell ∈ gw := gw_mem 11 (by decide +kernel) (by decide +kernel)
set_option maxRecDepth 20000 in
theorem ks_X8_countOrders : Cond.selects RX8 yX8_countOrders yX8_countOrders ∈ gw := gw_mem 12 (by decide +kernel) (by decide +kernel)
set_option maxRecDepth 20000 in
theorem ks_X8_bringPlanUpToDate : Cond.selects RX8 yX8_bringPlanUpToDate yX8_bringPlanUpToDate ∈ gw := gw_mem 13 (by decide +kernel) (by decide +kernel)
set_option maxRecDepth 20000 in
theorem ks_X4_lineUp : Cond.selects RX4 yX4_lineUp yX4_lineUp ∈ gw := gw_mem 14 (by decide +kernel) (by decide +kernel)
set_option maxRecDepth 20000 in
theorem ks_X4_startAt : Cond.selects RX4 yX4_startAt yX4_startAt ∈ gw := gw_mem 15 (by decide +kernel) (by decide +kernel)
set_option maxRecDepth 20000 in
theorem ks_X4_addToSets : Cond.selects RX4 yX4_addToSets yX4_addToSets ∈ gw := gw_mem 16 (by decide +kernel) (by decide +kernel)
set_option maxRecDepth 20000 in
theorem ks_X4_shareAlsoWith : Cond.selects RX4 yX4_shareAlsoWith yX4_shareAlsoWith ∈ gw := gw_mem 17 (by decide +kernel) (by decide +kernel)
set_option maxRecDepth 20000 in
theorem ks_X4_tellWay : Cond.selects RX4 yX4_tellWay yX4_tellWay ∈ gw := gw_mem 18 (by decide +kernel) (by decide +kernel)
set_option maxRecDepth 20000 in
theorem ks_X4_tellOrder : Cond.selects RX4 yX4_tellOrder yX4_tellOrder ∈ gw := gw_mem 19 (by decide +kernel) (by decide +kernel)
set_option maxRecDepth 20000 in
theorem ks_X8_workAsPlanned : Cond.selects RX8 yX8_workAsPlanned yX8_workAsPlanned ∈ gw := gw_mem 20 (by decide +kernel) (by decide +kernel)
set_option maxRecDepth 20000 in
theorem ks_X9_isOpen : Cond.selects RX9 yX9_isOpen yX9_isOpen ∈ gw := gw_mem 21 (by decide +kernel) (by decide +kernel)
set_option maxRecDepth 20000 in
theorem ks_X9_counts : Cond.selects RX9 yX9_counts yX9_counts ∈ gw := gw_mem 22 (by decide +kernel) (by decide +kernel)
set_option maxRecDepth 20000 in
theorem ks_X9_next0 : Cond.selects RX9 yX9_next0 yX9_next0 ∈ gw := gw_mem 23 (by decide +kernel) (by decide +kernel)
set_option maxRecDepth 20000 in
theorem ks_X9_see : Cond.selects RX9 yX9_see yX9_see ∈ gw := gw_mem 24 (by decide +kernel) (by decide +kernel)
set_option maxRecDepth 20000 in
theorem ks_X9_aLine : Cond.selects RX9 yX9_aLine yX9_aLine ∈ gw := gw_mem 25 (by decide +kernel) (by decide +kernel)
set_option maxRecDepth 20000 in
theorem ks_X9_bad : Cond.selects RX9 yX9_bad yX9_bad ∈ gw := gw_mem 26 (by decide +kernel) (by decide +kernel)
set_option maxRecDepth 20000 in
theorem ks_X9_aNumber : Cond.selects RX9 yX9_aNumber yX9_aNumber ∈ gw := gw_mem 27 (by decide +kernel) (by decide +kernel)
set_option maxRecDepth 20000 in
theorem ks_X9_need : Cond.selects RX9 yX9_need yX9_need ∈ gw := gw_mem 28 (by decide +kernel) (by decide +kernel)
set_option maxRecDepth 20000 in
theorem ks_X9_tells : Cond.selects RX9 yX9_tells yX9_tells ∈ gw := gw_mem 29 (by decide +kernel) (by decide +kernel)
set_option maxRecDepth 20000 in
theorem ks_X9_isAllowed : Cond.selects RX9 yX9_isAllowed yX9_isAllowed ∈ gw := gw_mem 30 (by decide +kernel) (by decide +kernel)
set_option maxRecDepth 20000 in
theorem ks_X9_finds : Cond.selects RX9 yX9_finds yX9_finds ∈ gw := gw_mem 31 (by decide +kernel) (by decide +kernel)
set_option maxRecDepth 20000 in
theorem ks_X9_does : Cond.selects RX9 yX9_does yX9_does ∈ gw := gw_mem 32 (by decide +kernel) (by decide +kernel)
set_option maxRecDepth 20000 in
theorem ks_X9_sorts : Cond.selects RX9 yX9_sorts yX9_sorts ∈ gw := gw_mem 33 (by decide +kernel) (by decide +kernel)
set_option maxRecDepth 20000 in
theorem ks_X9_left : Cond.selects RX9 yX9_left yX9_left ∈ gw := gw_mem 34 (by decide +kernel) (by decide +kernel)
set_option maxRecDepth 20000 in
theorem ks_X9_tries : Cond.selects RX9 yX9_tries yX9_tries ∈ gw := gw_mem 35 (by decide +kernel) (by decide +kernel)
set_option maxRecDepth 20000 in
theorem ks_X9_canAll : Cond.selects RX9 yX9_canAll yX9_canAll ∈ gw := gw_mem 36 (by decide +kernel) (by decide +kernel)
set_option maxRecDepth 20000 in
theorem ks_X9_setOf : Cond.selects RX9 yX9_setOf yX9_setOf ∈ gw := gw_mem 37 (by decide +kernel) (by decide +kernel)
set_option maxRecDepth 20000 in
theorem ks_X9_works : Cond.selects RX9 yX9_works yX9_works ∈ gw := gw_mem 38 (by decide +kernel) (by decide +kernel)
set_option maxRecDepth 20000 in
theorem inG_X0 : ∀ w ∈ u_ws RX0 TX0 2, w ∈ gw := fun w h => List.mem_filter.mpr ⟨List.mem_append_right _ ((by decide +kernel : ∀ w ∈ u_ws RX0 TX0 2, w ∈ tables_1) w h), (by decide +kernel : ∀ w ∈ u_ws RX0 TX0 2, goodWord w = true) w h⟩
set_option maxRecDepth 20000 in
theorem inG_X1 : ∀ w ∈ u_ws RX1 TX1 5, w ∈ gw := fun w h => List.mem_filter.mpr ⟨List.mem_append_right _ ((by decide +kernel : ∀ w ∈ u_ws RX1 TX1 5, w ∈ tables_1) w h), (by decide +kernel : ∀ w ∈ u_ws RX1 TX1 5, goodWord w = true) w h⟩
set_option maxRecDepth 20000 in
theorem inG_X2 : ∀ w ∈ u_ws RX2 TX2 4, w ∈ gw := fun w h => List.mem_filter.mpr ⟨List.mem_append_right _ ((by decide +kernel : ∀ w ∈ u_ws RX2 TX2 4, w ∈ tables_1) w h), (by decide +kernel : ∀ w ∈ u_ws RX2 TX2 4, goodWord w = true) w h⟩
set_option maxRecDepth 20000 in
theorem inG_X3 : ∀ w ∈ u_ws RX3 TX3 3, w ∈ gw := fun w h => List.mem_filter.mpr ⟨List.mem_append_right _ ((by decide +kernel : ∀ w ∈ u_ws RX3 TX3 3, w ∈ tables_1) w h), (by decide +kernel : ∀ w ∈ u_ws RX3 TX3 3, goodWord w = true) w h⟩
set_option maxRecDepth 20000 in
theorem inG_X4 : ∀ w ∈ u_ws RX4 TX4 15, w ∈ gw := fun w h => List.mem_filter.mpr ⟨List.mem_append_right _ ((by decide +kernel : ∀ w ∈ u_ws RX4 TX4 15, w ∈ tables_1) w h), (by decide +kernel : ∀ w ∈ u_ws RX4 TX4 15, goodWord w = true) w h⟩
set_option maxRecDepth 20000 in
theorem inG_X5 : ∀ w ∈ u_ws RX5 TX5 3, w ∈ gw := fun w h => List.mem_filter.mpr ⟨List.mem_append_right _ ((by decide +kernel : ∀ w ∈ u_ws RX5 TX5 3, w ∈ tables_1) w h), (by decide +kernel : ∀ w ∈ u_ws RX5 TX5 3, goodWord w = true) w h⟩
set_option maxRecDepth 20000 in
theorem inG_X6 : ∀ w ∈ u_ws RX6 TX6 11, w ∈ gw := fun w h => List.mem_filter.mpr ⟨List.mem_append_right _ ((by decide +kernel : ∀ w ∈ u_ws RX6 TX6 11, w ∈ tables_1) w h), (by decide +kernel : ∀ w ∈ u_ws RX6 TX6 11, goodWord w = true) w h⟩
set_option maxRecDepth 20000 in
theorem inG_X7 : ∀ w ∈ u_ws RX7 TX7 6, w ∈ gw := fun w h => List.mem_filter.mpr ⟨List.mem_append_right _ ((by decide +kernel : ∀ w ∈ u_ws RX7 TX7 6, w ∈ tables_1) w h), (by decide +kernel : ∀ w ∈ u_ws RX7 TX7 6, goodWord w = true) w h⟩
set_option maxRecDepth 20000 in
theorem inG_X8 : ∀ w ∈ u_ws RX8 TX8 11, w ∈ gw := fun w h => List.mem_filter.mpr ⟨List.mem_append_right _ ((by decide +kernel : ∀ w ∈ u_ws RX8 TX8 11, w ∈ tables_1) w h), (by decide +kernel : ∀ w ∈ u_ws RX8 TX8 11, goodWord w = true) w h⟩
set_option maxRecDepth 20000 in
theorem inG_X9 : ∀ w ∈ u_ws RX9 TX9 44, w ∈ gw := fun w h => List.mem_filter.mpr ⟨List.mem_append_right _ ((by decide +kernel : ∀ w ∈ u_ws RX9 TX9 44, w ∈ tables_1) w h), (by decide +kernel : ∀ w ∈ u_ws RX9 TX9 44, goodWord w = true) w h⟩
set_option maxRecDepth 20000 in
theorem mf_X0_lay : MFV yX0_lay cX0_lay 8 (some .boolean) RX0 3 := ⟨ki_X0_lay, ks_X0_lay, kn_X0, kc_X0_lay, by decide +kernel⟩
set_option maxRecDepth 20000 in
theorem mf_X1_readInto : MFV yX1_readInto cX1_readInto 3 (some .boolean) RX1 1 := ⟨ki_X1_readInto, ks_X1_readInto, kn_X1, kc_X1_readInto, by decide +kernel⟩
set_option maxRecDepth 20000 in
theorem mf_X1_readLine : MFV yX1_readLine cX1_readLine 3 (some .boolean) RX1 1 := ⟨ki_X1_readLine, ks_X1_readLine, kn_X1, kc_X1_readLine, by decide +kernel⟩
set_option maxRecDepth 20000 in
theorem mf_X1_formOf : MFS yX1_formOf cX1_formOf 1 (some (.array .int)) 1 := ⟨kt_X1_formOf, kn_X1, kc_X1_formOf, by decide +kernel⟩
set_option maxRecDepth 20000 in
theorem mf_X1_readParts : MFV yX1_readParts cX1_readParts 5 (some .boolean) RX1 1 := ⟨ki_X1_readParts, ks_X1_readParts, kn_X1, kc_X1_readParts, by decide +kernel⟩
set_option maxRecDepth 20000 in
theorem mf_X1_leastOf : MFV yX1_leastOf cX1_leastOf 2 (some .int) RX1 1 := ⟨ki_X1_leastOf, ks_X1_leastOf, kn_X1, kc_X1_leastOf, by decide +kernel⟩
set_option maxRecDepth 20000 in
theorem mf_X1_mostOf : MFS yX1_mostOf cX1_mostOf 1 (some .int) 1 := ⟨kt_X1_mostOf, kn_X1, kc_X1_mostOf, by decide +kernel⟩
set_option maxRecDepth 20000 in
theorem mf_X1_tell : MFV yX1_tell cX1_tell 3 none RX1 2 := ⟨ki_X1_tell, ks_X1_tell, kn_X1, kc_X1_tell, by decide +kernel⟩
set_option maxRecDepth 20000 in
theorem mf_X1_stopAt : MFV yX1_stopAt cX1_stopAt 2 (some .boolean) RX1 1 := ⟨ki_X1_stopAt, ks_X1_stopAt, kn_X1, kc_X1_stopAt, by decide +kernel⟩
set_option maxRecDepth 20000 in
theorem mf_X3_grossToMake : MFV yX3_grossToMake cX3_grossToMake 4 (some .int) RX3 1 := ⟨ki_X3_grossToMake, ks_X3_grossToMake, kn_X3, kc_X3_grossToMake, by decide +kernel⟩
set_option maxRecDepth 20000 in
theorem mf_X4_find : MFV yX4_find cX4_find 8 none RX4 5 := ⟨ki_X4_find, ks_X4_find, kn_X4, kc_X4_find, by decide +kernel⟩
set_option maxRecDepth 20000 in
theorem mf_X4_lineUp : MFV yX4_lineUp cX4_lineUp 5 none RX4 2 := ⟨ki_X4_lineUp, ks_X4_lineUp, kn_X4, kc_X4_lineUp, by decide +kernel⟩
set_option maxRecDepth 20000 in
theorem mf_X4_startAt : MFV yX4_startAt cX4_startAt 3 none RX4 2 := ⟨ki_X4_startAt, ks_X4_startAt, kn_X4, kc_X4_startAt, by decide +kernel⟩
set_option maxRecDepth 20000 in
theorem mf_X4_addToSets : MFV yX4_addToSets cX4_addToSets 10 none RX4 4 := ⟨ki_X4_addToSets, ks_X4_addToSets, kn_X4, kc_X4_addToSets, by decide +kernel⟩
set_option maxRecDepth 20000 in
theorem mf_X4_rankOf : MFS yX4_rankOf cX4_rankOf 2 (some .long) 2 := ⟨kt_X4_rankOf, kn_X4, kc_X4_rankOf, by decide +kernel⟩
set_option maxRecDepth 20000 in
theorem mf_X4_shareAlsoWith : MFV yX4_shareAlsoWith cX4_shareAlsoWith 7 none RX4 1 := ⟨ki_X4_shareAlsoWith, ks_X4_shareAlsoWith, kn_X4, kc_X4_shareAlsoWith, by decide +kernel⟩
set_option maxRecDepth 20000 in
theorem mf_X4_tellWay : MFV yX4_tellWay cX4_tellWay 9 none RX4 4 := ⟨ki_X4_tellWay, ks_X4_tellWay, kn_X4, kc_X4_tellWay, by decide +kernel⟩
set_option maxRecDepth 20000 in
theorem mf_X4_tellOrder : MFV yX4_tellOrder cX4_tellOrder 7 none RX4 4 := ⟨ki_X4_tellOrder, ks_X4_tellOrder, kn_X4, kc_X4_tellOrder, by decide +kernel⟩
set_option maxRecDepth 20000 in
theorem mf_X5_forget : MFV yX5_forget cX5_forget 2 none RX5 0 := ⟨ki_X5_forget, ks_X5_forget, kn_X5, kc_X5_forget, by decide +kernel⟩
set_option maxRecDepth 20000 in
theorem mf_X5_give : MFV yX5_give cX5_give 4 none RX5 2 := ⟨ki_X5_give, ks_X5_give, kn_X5, kc_X5_give, by decide +kernel⟩
set_option maxRecDepth 20000 in
theorem mf_X5_share : MFV yX5_share cX5_share 4 none RX5 3 := ⟨ki_X5_share, ks_X5_share, kn_X5, kc_X5_share, by decide +kernel⟩
set_option maxRecDepth 20000 in
theorem mf_X5_shut : MFV yX5_shut cX5_shut 5 none RX5 3 := ⟨ki_X5_shut, ks_X5_shut, kn_X5, kc_X5_shut, by decide +kernel⟩
set_option maxRecDepth 20000 in
theorem mf_X5_allow : MFV yX5_allow cX5_allow 4 (some .boolean) RX5 3 := ⟨ki_X5_allow, ks_X5_allow, kn_X5, kc_X5_allow, by decide +kernel⟩
set_option maxRecDepth 20000 in
theorem mf_X6_reckonAnew : MFV yX6_reckonAnew cX6_reckonAnew 2 none RX6 1 := ⟨ki_X6_reckonAnew, ks_X6_reckonAnew, kn_X6, kc_X6_reckonAnew, by decide +kernel⟩
set_option maxRecDepth 20000 in
theorem mf_X6_hoursLeftFor : MFV yX6_hoursLeftFor cX6_hoursLeftFor 2 (some .int) RX6 1 := ⟨ki_X6_hoursLeftFor, ks_X6_hoursLeftFor, kn_X6, kc_X6_hoursLeftFor, by decide +kernel⟩
set_option maxRecDepth 20000 in
theorem mf_X6_workBy : MFV yX6_workBy cX6_workBy 3 none RX6 2 := ⟨ki_X6_workBy, ks_X6_workBy, kn_X6, kc_X6_workBy, by decide +kernel⟩
set_option maxRecDepth 20000 in
theorem mf_X7_put : MFV yX7_put cX7_put 3 none RX7 1 := ⟨ki_X7_put, ks_X7_put, kn_X7, kc_X7_put, by decide +kernel⟩
set_option maxRecDepth 20000 in
theorem mf_X7_rewind : MFV yX7_rewind cX7_rewind 1 none RX7 0 := ⟨ki_X7_rewind, ks_X7_rewind, kn_X7, kc_X7_rewind, by decide +kernel⟩
set_option maxRecDepth 20000 in
theorem mf_X7_readToken : MFV yX7_readToken cX7_readToken 1 none RX7 0 := ⟨ki_X7_readToken, ks_X7_readToken, kn_X7, kc_X7_readToken, by decide +kernel⟩
set_option maxRecDepth 20000 in
theorem mf_X7_skipBlanks : MFV yX7_skipBlanks cX7_skipBlanks 1 none RX7 0 := ⟨ki_X7_skipBlanks, ks_X7_skipBlanks, kn_X7, kc_X7_skipBlanks, by decide +kernel⟩
set_option maxRecDepth 20000 in
theorem mf_X7_skipLetters : MFV yX7_skipLetters cX7_skipLetters 1 none RX7 0 := ⟨ki_X7_skipLetters, ks_X7_skipLetters, kn_X7, kc_X7_skipLetters, by decide +kernel⟩
set_option maxRecDepth 20000 in
theorem mf_X7_readNumber : MFV yX7_readNumber cX7_readNumber 1 none RX7 0 := ⟨ki_X7_readNumber, ks_X7_readNumber, kn_X7, kc_X7_readNumber, by decide +kernel⟩
set_option maxRecDepth 20000 in
theorem mf_X7_keyword : MFV yX7_keyword cX7_keyword 1 (some .int) RX7 0 := ⟨ki_X7_keyword, ks_X7_keyword, kn_X7, kc_X7_keyword, by decide +kernel⟩
set_option maxRecDepth 20000 in
theorem mf_X7_isWord : MFV yX7_isWord cX7_isWord 3 (some .boolean) RX7 1 := ⟨ki_X7_isWord, ks_X7_isWord, kn_X7, kc_X7_isWord, by decide +kernel⟩
set_option maxRecDepth 20000 in
theorem mf_X7_isLetter : MFS yX7_isLetter cX7_isLetter 1 (some .boolean) 1 := ⟨kt_X7_isLetter, kn_X7, kc_X7_isLetter, by decide +kernel⟩
set_option maxRecDepth 20000 in
theorem mf_X7_isDigit : MFS yX7_isDigit cX7_isDigit 1 (some .boolean) 1 := ⟨kt_X7_isDigit, kn_X7, kc_X7_isDigit, by decide +kernel⟩
set_option maxRecDepth 20000 in
theorem mf_X8_hours : MFV yX8_hours cX8_hours 4 (some .boolean) RX8 3 := ⟨ki_X8_hours, ks_X8_hours, kn_X8, kc_X8_hours, by decide +kernel⟩
set_option maxRecDepth 20000 in
theorem mf_X8_pattern : MFV yX8_pattern cX8_pattern 6 (some .boolean) RX8 4 := ⟨ki_X8_pattern, ks_X8_pattern, kn_X8, kc_X8_pattern, by decide +kernel⟩
set_option maxRecDepth 20000 in
theorem mf_X8_lend : MFV yX8_lend cX8_lend 3 (some .boolean) RX8 2 := ⟨ki_X8_lend, ks_X8_lend, kn_X8, kc_X8_lend, by decide +kernel⟩
set_option maxRecDepth 20000 in
theorem mf_X8_bring : MFV yX8_bring cX8_bring 3 (some .int) RX8 1 := ⟨ki_X8_bring, ks_X8_bring, kn_X8, kc_X8_bring, by decide +kernel⟩
set_option maxRecDepth 20000 in
theorem mf_X8_order : MFV yX8_order cX8_order 6 (some .int) RX8 4 := ⟨ki_X8_order, ks_X8_order, kn_X8, kc_X8_order, by decide +kernel⟩
set_option maxRecDepth 20000 in
theorem mf_X8_drop : MFV yX8_drop cX8_drop 2 (some .boolean) RX8 1 := ⟨ki_X8_drop, ks_X8_drop, kn_X8, kc_X8_drop, by decide +kernel⟩
set_option maxRecDepth 20000 in
theorem mf_X8_feed : MFV yX8_feed cX8_feed 7 (some .int) RX8 5 := ⟨ki_X8_feed, ks_X8_feed, kn_X8, kc_X8_feed, by decide +kernel⟩
set_option maxRecDepth 20000 in
theorem mf_X8_end : MFV yX8_end cX8_end 2 (some .boolean) RX8 1 := ⟨ki_X8_end, ks_X8_end, kn_X8, kc_X8_end, by decide +kernel⟩
set_option maxRecDepth 20000 in
theorem mf_X8_custom : MFV yX8_custom cX8_custom 3 (some .int) RX8 0 := ⟨ki_X8_custom, ks_X8_custom, kn_X8, kc_X8_custom, by decide +kernel⟩
set_option maxRecDepth 20000 in
theorem mf_X8_fault : MFV yX8_fault cX8_fault 2 (some .int) RX8 1 := ⟨ki_X8_fault, ks_X8_fault, kn_X8, kc_X8_fault, by decide +kernel⟩
set_option maxRecDepth 20000 in
theorem mf_X8_may : MFV yX8_may cX8_may 4 (some .int) RX8 3 := ⟨ki_X8_may, ks_X8_may, kn_X8, kc_X8_may, by decide +kernel⟩
set_option maxRecDepth 20000 in
theorem mf_X8_look : MFV yX8_look cX8_look 2 (some .int) RX8 1 := ⟨ki_X8_look, ks_X8_look, kn_X8, kc_X8_look, by decide +kernel⟩
set_option maxRecDepth 20000 in
theorem mf_X8_of : MFV yX8_of cX8_of 4 (some .int) RX8 2 := ⟨ki_X8_of, ks_X8_of, kn_X8, kc_X8_of, by decide +kernel⟩
set_option maxRecDepth 20000 in
theorem mf_X8_best : MFV yX8_best cX8_best 2 (some .int) RX8 1 := ⟨ki_X8_best, ks_X8_best, kn_X8, kc_X8_best, by decide +kernel⟩
set_option maxRecDepth 20000 in
theorem mf_X8_work : MFV yX8_work cX8_work 2 (some .int) RX8 0 := ⟨ki_X8_work, ks_X8_work, kn_X8, kc_X8_work, by decide +kernel⟩
set_option maxRecDepth 20000 in
theorem mf_X8_workAsPlanned : MFV yX8_workAsPlanned cX8_workAsPlanned 4 none RX8 1 := ⟨ki_X8_workAsPlanned, ks_X8_workAsPlanned, kn_X8, kc_X8_workAsPlanned, by decide +kernel⟩
set_option maxRecDepth 20000 in
theorem mf_X8_bringPlanUpToDate : MFV yX8_bringPlanUpToDate cX8_bringPlanUpToDate 1 none RX8 0 := ⟨ki_X8_bringPlanUpToDate, ks_X8_bringPlanUpToDate, kn_X8, kc_X8_bringPlanUpToDate, by decide +kernel⟩
set_option maxRecDepth 20000 in
theorem mf_X8_countOrders : MFV yX8_countOrders cX8_countOrders 4 (some .int) RX8 1 := ⟨ki_X8_countOrders, ks_X8_countOrders, kn_X8, kc_X8_countOrders, by decide +kernel⟩
set_option maxRecDepth 20000 in
theorem mf_X8_isOrder : MFV yX8_isOrder cX8_isOrder 2 (some .boolean) RX8 1 := ⟨ki_X8_isOrder, ks_X8_isOrder, kn_X8, kc_X8_isOrder, by decide +kernel⟩
set_option maxRecDepth 20000 in
theorem mf_X8_isWeekToCome : MFV yX8_isWeekToCome cX8_isWeekToCome 2 (some .boolean) RX8 1 := ⟨ki_X8_isWeekToCome, ks_X8_isWeekToCome, kn_X8, kc_X8_isWeekToCome, by decide +kernel⟩
set_option maxRecDepth 20000 in
theorem mf_X8_isFamily : MFS yX8_isFamily cX8_isFamily 1 (some .boolean) 1 := ⟨kt_X8_isFamily, kn_X8, kc_X8_isFamily, by decide +kernel⟩
set_option maxRecDepth 20000 in
theorem mf_X8_isPattern : MFS yX8_isPattern cX8_isPattern 1 (some .boolean) 1 := ⟨kt_X8_isPattern, kn_X8, kc_X8_isPattern, by decide +kernel⟩
set_option maxRecDepth 20000 in
theorem mf_X8_isWithin : MFS yX8_isWithin cX8_isWithin 3 (some .boolean) 3 := ⟨kt_X8_isWithin, kn_X8, kc_X8_isWithin, by decide +kernel⟩
set_option maxRecDepth 20000 in
theorem mf_X9_isIn : MFS yX9_isIn cX9_isIn 3 (some .boolean) 3 := ⟨kt_X9_isIn, kn_X9, kc_X9_isIn, by decide +kernel⟩
set_option maxRecDepth 20000 in
theorem mf_X9_isFamily : MFS yX9_isFamily cX9_isFamily 1 (some .boolean) 1 := ⟨kt_X9_isFamily, kn_X9, kc_X9_isFamily, by decide +kernel⟩
set_option maxRecDepth 20000 in
theorem mf_X9_isPattern : MFS yX9_isPattern cX9_isPattern 1 (some .boolean) 1 := ⟨kt_X9_isPattern, kn_X9, kc_X9_isPattern, by decide +kernel⟩
set_option maxRecDepth 20000 in
theorem mf_X9_isWeek : MFS yX9_isWeek cX9_isWeek 2 (some .boolean) 2 := ⟨kt_X9_isWeek, kn_X9, kc_X9_isWeek, by decide +kernel⟩
set_option maxRecDepth 20000 in
theorem mf_X9_hours : MFV yX9_hours cX9_hours 4 (some .boolean) RX9 3 := ⟨ki_X9_hours, ks_X9_hours, kn_X9, kc_X9_hours, by decide +kernel⟩
set_option maxRecDepth 20000 in
theorem mf_X9_counts : MFV yX9_counts cX9_counts 4 none RX9 1 := ⟨ki_X9_counts, ks_X9_counts, kn_X9, kc_X9_counts, by decide +kernel⟩
set_option maxRecDepth 20000 in
theorem mf_X9_isOpen : MFV yX9_isOpen cX9_isOpen 2 (some .boolean) RX9 1 := ⟨ki_X9_isOpen, ks_X9_isOpen, kn_X9, kc_X9_isOpen, by decide +kernel⟩
set_option maxRecDepth 20000 in
theorem mf_X9_pattern : MFV yX9_pattern cX9_pattern 6 (some .boolean) RX9 4 := ⟨ki_X9_pattern, ks_X9_pattern, kn_X9, kc_X9_pattern, by decide +kernel⟩
set_option maxRecDepth 20000 in
theorem mf_X9_lend : MFV yX9_lend cX9_lend 3 (some .boolean) RX9 2 := ⟨ki_X9_lend, ks_X9_lend, kn_X9, kc_X9_lend, by decide +kernel⟩
set_option maxRecDepth 20000 in
theorem mf_X9_bring : MFV yX9_bring cX9_bring 3 (some .int) RX9 1 := ⟨ki_X9_bring, ks_X9_bring, kn_X9, kc_X9_bring, by decide +kernel⟩
set_option maxRecDepth 20000 in
theorem mf_X9_order : MFV yX9_order cX9_order 6 (some .int) RX9 4 := ⟨ki_X9_order, ks_X9_order, kn_X9, kc_X9_order, by decide +kernel⟩
set_option maxRecDepth 20000 in
theorem mf_X9_drop : MFV yX9_drop cX9_drop 2 (some .boolean) RX9 1 := ⟨ki_X9_drop, ks_X9_drop, kn_X9, kc_X9_drop, by decide +kernel⟩
set_option maxRecDepth 20000 in
theorem mf_X9_feed : MFV yX9_feed cX9_feed 8 (some .int) RX9 5 := ⟨ki_X9_feed, ks_X9_feed, kn_X9, kc_X9_feed, by decide +kernel⟩
set_option maxRecDepth 20000 in
theorem mf_X9_end : MFV yX9_end cX9_end 2 (some .boolean) RX9 1 := ⟨ki_X9_end, ks_X9_end, kn_X9, kc_X9_end, by decide +kernel⟩
set_option maxRecDepth 20000 in
theorem mf_X9_see : MFV yX9_see cX9_see 2 (some .int) RX9 1 := ⟨ki_X9_see, ks_X9_see, kn_X9, kc_X9_see, by decide +kernel⟩
set_option maxRecDepth 20000 in
theorem mf_X9_isLetter : MFS yX9_isLetter cX9_isLetter 1 (some .boolean) 1 := ⟨kt_X9_isLetter, kn_X9, kc_X9_isLetter, by decide +kernel⟩
set_option maxRecDepth 20000 in
theorem mf_X9_isDigit : MFS yX9_isDigit cX9_isDigit 1 (some .boolean) 1 := ⟨kt_X9_isDigit, kn_X9, kc_X9_isDigit, by decide +kernel⟩
set_option maxRecDepth 20000 in
theorem mf_X9_word : MFS yX9_word cX9_word 2 (some .int) 1 := ⟨kt_X9_word, kn_X9, kc_X9_word, by decide +kernel⟩
set_option maxRecDepth 20000 in
theorem mf_X9_next0 : MFV yX9_next0 cX9_next0 5 none RX9 0 := ⟨ki_X9_next0, ks_X9_next0, kn_X9, kc_X9_next0, by decide +kernel⟩
set_option maxRecDepth 20000 in
theorem mf_X9_bad : MFV yX9_bad cX9_bad 2 (some .boolean) RX9 1 := ⟨ki_X9_bad, ks_X9_bad, kn_X9, kc_X9_bad, by decide +kernel⟩
set_option maxRecDepth 20000 in
theorem mf_X9_need : MFV yX9_need cX9_need 2 (some .boolean) RX9 1 := ⟨ki_X9_need, ks_X9_need, kn_X9, kc_X9_need, by decide +kernel⟩
set_option maxRecDepth 20000 in
theorem mf_X9_aNumber : MFV yX9_aNumber cX9_aNumber 3 (some .boolean) RX9 2 := ⟨ki_X9_aNumber, ks_X9_aNumber, kn_X9, kc_X9_aNumber, by decide +kernel⟩
set_option maxRecDepth 20000 in
theorem mf_X9_aLine : MFV yX9_aLine cX9_aLine 2 (some .boolean) RX9 0 := ⟨ki_X9_aLine, ks_X9_aLine, kn_X9, kc_X9_aLine, by decide +kernel⟩
set_option maxRecDepth 20000 in
theorem mf_X9_tells : MFV yX9_tells cX9_tells 6 none RX9 1 := ⟨ki_X9_tells, ks_X9_tells, kn_X9, kc_X9_tells, by decide +kernel⟩
set_option maxRecDepth 20000 in
theorem mf_X9_custom : MFV yX9_custom cX9_custom 4 (some .int) RX9 0 := ⟨ki_X9_custom, ks_X9_custom, kn_X9, kc_X9_custom, by decide +kernel⟩
set_option maxRecDepth 20000 in
theorem mf_X9_fault : MFV yX9_fault cX9_fault 2 (some .int) RX9 1 := ⟨ki_X9_fault, ks_X9_fault, kn_X9, kc_X9_fault, by decide +kernel⟩
set_option maxRecDepth 20000 in
theorem mf_X9_isAllowed : MFV yX9_isAllowed cX9_isAllowed 4 (some .boolean) RX9 3 := ⟨ki_X9_isAllowed, ks_X9_isAllowed, kn_X9, kc_X9_isAllowed, by decide +kernel⟩
set_option maxRecDepth 20000 in
theorem mf_X9_may : MFV yX9_may cX9_may 4 (some .int) RX9 3 := ⟨ki_X9_may, ks_X9_may, kn_X9, kc_X9_may, by decide +kernel⟩
set_option maxRecDepth 20000 in
theorem mf_X9_left : MFV yX9_left cX9_left 3 (some .int) RX9 2 := ⟨ki_X9_left, ks_X9_left, kn_X9, kc_X9_left, by decide +kernel⟩
set_option maxRecDepth 20000 in
theorem mf_X9_sorts : MFV yX9_sorts cX9_sorts 4 none RX9 1 := ⟨ki_X9_sorts, ks_X9_sorts, kn_X9, kc_X9_sorts, by decide +kernel⟩
set_option maxRecDepth 20000 in
theorem mf_X9_does : MFV yX9_does cX9_does 11 (some .boolean) RX9 2 := ⟨ki_X9_does, ks_X9_does, kn_X9, kc_X9_does, by decide +kernel⟩
set_option maxRecDepth 20000 in
theorem mf_X9_canAll : MFV yX9_canAll cX9_canAll 1 (some .boolean) RX9 0 := ⟨ki_X9_canAll, ks_X9_canAll, kn_X9, kc_X9_canAll, by decide +kernel⟩
set_option maxRecDepth 20000 in
theorem mf_X9_tries : MFV yX9_tries cX9_tries 5 none RX9 3 := ⟨ki_X9_tries, ks_X9_tries, kn_X9, kc_X9_tries, by decide +kernel⟩
set_option maxRecDepth 20000 in
theorem mf_X9_finds : MFV yX9_finds cX9_finds 3 none RX9 0 := ⟨ki_X9_finds, ks_X9_finds, kn_X9, kc_X9_finds, by decide +kernel⟩
set_option maxRecDepth 20000 in
theorem mf_X9_look : MFV yX9_look cX9_look 4 (some .int) RX9 1 := ⟨ki_X9_look, ks_X9_look, kn_X9, kc_X9_look, by decide +kernel⟩
set_option maxRecDepth 20000 in
theorem mf_X9_of : MFV yX9_of cX9_of 3 (some .int) RX9 2 := ⟨ki_X9_of, ks_X9_of, kn_X9, kc_X9_of, by decide +kernel⟩
set_option maxRecDepth 20000 in
theorem mf_X9_setOf : MFV yX9_setOf cX9_setOf 4 (some .int) RX9 1 := ⟨ki_X9_setOf, ks_X9_setOf, kn_X9, kc_X9_setOf, by decide +kernel⟩
set_option maxRecDepth 20000 in
theorem mf_X9_best : MFV yX9_best cX9_best 3 (some .int) RX9 1 := ⟨ki_X9_best, ks_X9_best, kn_X9, kc_X9_best, by decide +kernel⟩
set_option maxRecDepth 20000 in
theorem mf_X9_works : MFV yX9_works cX9_works 7 none RX9 1 := ⟨ki_X9_works, ks_X9_works, kn_X9, kc_X9_works, by decide +kernel⟩
set_option maxRecDepth 20000 in
theorem mf_X9_work : MFV yX9_work cX9_work 2 (some .int) RX9 0 := ⟨ki_X9_work, ks_X9_work, kn_X9, kc_X9_work, by decide +kernel⟩
set_option maxRecDepth 20000 in
theorem mf_J9_max_7cf53 : MFS yJ9_max_7cf53 cJ9_max_7cf53 2 (some .int) 2 := ⟨kt_J9_max_7cf53, kn_J9, kc_J9_max_7cf53, by decide +kernel⟩
set_option maxRecDepth 20000 in
theorem mf_J9_min_7cf53 : MFS yJ9_min_7cf53 cJ9_min_7cf53 2 (some .int) 2 := ⟨kt_J9_min_7cf53, kn_J9, kc_J9_min_7cf53, by decide +kernel⟩
set_option maxRecDepth 20000 in
theorem mf_J0_length_8abf5 : MFV yJ0_length_8abf5 cJ0_length_8abf5 1 (some .int) RJ0 0 := ⟨ki_J0_length_8abf5, ks_J0_length_8abf5, kn_J0, kc_J0_length_8abf5, by decide +kernel⟩
set_option maxRecDepth 20000 in
theorem mf_J0_charAt_5068e : MFV yJ0_charAt_5068e cJ0_charAt_5068e 2 (some .char) RJ0 1 := ⟨ki_J0_charAt_5068e, ks_J0_charAt_5068e, kn_J0, kc_J0_charAt_5068e, by decide +kernel⟩
set_option maxRecDepth 20000 in
theorem mf_J0_coder_7d493 : MFV yJ0_coder_7d493 cJ0_coder_7d493 1 (some .byte) RJ0 0 := ⟨ki_J0_coder_7d493, ks_J0_coder_7d493, kn_J0, kc_J0_coder_7d493, by decide +kernel⟩
set_option maxRecDepth 20000 in
theorem mf_J0_isLatin1_aae02 : MFV yJ0_isLatin1_aae02 cJ0_isLatin1_aae02 1 (some .boolean) RJ0 0 := ⟨ki_J0_isLatin1_aae02, ks_J0_isLatin1_aae02, kn_J0, kc_J0_isLatin1_aae02, by decide +kernel⟩
set_option maxRecDepth 20000 in
theorem mf_J0_checkIndex_df160 : MFS yJ0_checkIndex_df160 cJ0_checkIndex_df160 2 none 2 := ⟨kt_J0_checkIndex_df160, kn_J0, kc_J0_checkIndex_df160, by decide +kernel⟩
set_option maxRecDepth 20000 in
theorem mf_J1_charAt_3b067 : MFS yJ1_charAt_3b067 cJ1_charAt_3b067 2 (some .char) 2 := ⟨kt_J1_charAt_3b067, kn_J1, kc_J1_charAt_3b067, by decide +kernel⟩
set_option maxRecDepth 20000 in
theorem mf_J2_getChar_3b067 : MFS yJ2_getChar_3b067 cJ2_getChar_3b067 2 (some .char) 2 := ⟨kt_J2_getChar_3b067, kn_J2, kc_J2_getChar_3b067, by decide +kernel⟩
set_option maxRecDepth 20000 in
theorem mf_J2_length_9d52b : MFS yJ2_length_9d52b cJ2_length_9d52b 1 (some .int) 1 := ⟨kt_J2_length_9d52b, kn_J2, kc_J2_length_9d52b, by decide +kernel⟩
set_option maxRecDepth 20000 in
theorem mf_J2_charAt_3b067 : MFS yJ2_charAt_3b067 cJ2_charAt_3b067 2 (some .char) 2 := ⟨kt_J2_charAt_3b067, kn_J2, kc_J2_charAt_3b067, by decide +kernel⟩
set_option maxRecDepth 20000 in
theorem mf_J2_checkIndex_2214a : MFS yJ2_checkIndex_2214a cJ2_checkIndex_2214a 2 none 2 := ⟨kt_J2_checkIndex_2214a, kn_J2, kc_J2_checkIndex_2214a, by decide +kernel⟩
set_option maxRecDepth 20000 in
theorem mf_J3_checkIndex_8e157 : MFS yJ3_checkIndex_8e157 cJ3_checkIndex_8e157 3 (some .int) 3 := ⟨kt_J3_checkIndex_8e157, kn_J3, kc_J3_checkIndex_8e157, by decide +kernel⟩
