/-! words of the tables by their places; what a call, a field, an array needs -/
theorem q1029 : Cond.classLink RL 13 "java/lang/IllegalArgumentException" ∈ TG := tg_of (tI3 (List.mem_of_getElem? (i := 155) (by decide +kernel))) (by decide +kernel)
theorem q1030 : Cond.classLink RL 24 "java/util/NoSuchElementException" ∈ TG := tg_of (tI4 (List.mem_of_getElem? (i := 141) (by decide +kernel))) (by decide +kernel)
theorem q1031 : Cond.code yX10_add cX10_add 3 (some .int) ∈ TG := tg_of (tI3 (List.mem_of_getElem? (i := 159) (by decide +kernel))) (by decide +kernel)
theorem q1032 : Cond.methodLink RL 7 yX10_add ∈ TG := tg_of (tI3 (List.mem_of_getElem? (i := 156) (by decide +kernel))) (by decide +kernel)
theorem q1033 : Cond.instanceMethod yX10_add ∈ TG := tg_of (tI3 (List.mem_of_getElem? (i := 157) (by decide +kernel))) (by decide +kernel)
theorem q1034 : Cond.selects RX10 yX10_add yX10_add ∈ TG := tg_of (tI3 (List.mem_of_getElem? (i := 158) (by decide +kernel))) (by decide +kernel)
theorem q1035 : Cond.code yX10_ask cX10_ask 3 (some .int) ∈ TG := tg_of (tI4 (List.mem_of_getElem? (i := 40) (by decide +kernel))) (by decide +kernel)
theorem q1036 : Cond.methodLink RL 15 yX10_ask ∈ TG := tg_of (tI4 (List.mem_of_getElem? (i := 37) (by decide +kernel))) (by decide +kernel)
theorem q1037 : Cond.instanceMethod yX10_ask ∈ TG := tg_of (tI4 (List.mem_of_getElem? (i := 38) (by decide +kernel))) (by decide +kernel)
theorem q1038 : Cond.selects RX10 yX10_ask yX10_ask ∈ TG := tg_of (tI4 (List.mem_of_getElem? (i := 39) (by decide +kernel))) (by decide +kernel)
theorem q1039 : Cond.code yX10_find cX10_find 2 (some .int) ∈ TG := tg_of (tI4 (List.mem_of_getElem? (i := 130) (by decide +kernel))) (by decide +kernel)
theorem q1040 : Cond.methodLink RL 18 yX10_find ∈ TG := tg_of (tI4 (List.mem_of_getElem? (i := 127) (by decide +kernel))) (by decide +kernel)
theorem q1041 : Cond.instanceMethod yX10_find ∈ TG := tg_of (tI4 (List.mem_of_getElem? (i := 128) (by decide +kernel))) (by decide +kernel)
theorem q1042 : Cond.selects RX10 yX10_find yX10_find ∈ TG := tg_of (tI4 (List.mem_of_getElem? (i := 129) (by decide +kernel))) (by decide +kernel)
theorem q1043 : Cond.code yX10_remove cX10_remove 2 (some .int) ∈ TG := tg_of (tI4 (List.mem_of_getElem? (i := 145) (by decide +kernel))) (by decide +kernel)
theorem q1044 : Cond.methodLink RL 21 yX10_remove ∈ TG := tg_of (tI4 (List.mem_of_getElem? (i := 142) (by decide +kernel))) (by decide +kernel)
theorem q1045 : Cond.instanceMethod yX10_remove ∈ TG := tg_of (tI4 (List.mem_of_getElem? (i := 143) (by decide +kernel))) (by decide +kernel)
theorem q1046 : Cond.selects RX10 yX10_remove yX10_remove ∈ TG := tg_of (tI4 (List.mem_of_getElem? (i := 144) (by decide +kernel))) (by decide +kernel)
theorem q1047 : Cond.code yX10_repack cX10_repack 2 (some .int) ∈ TG := tg_of (tI4 (List.mem_of_getElem? (i := 180) (by decide +kernel))) (by decide +kernel)
theorem q1048 : Cond.methodLink RL 26 yX10_repack ∈ TG := tg_of (tI4 (List.mem_of_getElem? (i := 177) (by decide +kernel))) (by decide +kernel)
theorem q1049 : Cond.instanceMethod yX10_repack ∈ TG := tg_of (tI4 (List.mem_of_getElem? (i := 178) (by decide +kernel))) (by decide +kernel)
theorem q1050 : Cond.selects RX10 yX10_repack yX10_repack ∈ TG := tg_of (tI4 (List.mem_of_getElem? (i := 179) (by decide +kernel))) (by decide +kernel)
theorem q1051 : Cond.code yX10_told cX10_told 2 (some .int) ∈ TG := tg_of (tI4 (List.mem_of_getElem? (i := 200) (by decide +kernel))) (by decide +kernel)
theorem q1052 : Cond.methodLink RL 29 yX10_told ∈ TG := tg_of (tI4 (List.mem_of_getElem? (i := 197) (by decide +kernel))) (by decide +kernel)
theorem q1053 : Cond.instanceMethod yX10_told ∈ TG := tg_of (tI4 (List.mem_of_getElem? (i := 198) (by decide +kernel))) (by decide +kernel)
theorem q1054 : Cond.selects RX10 yX10_told yX10_told ∈ TG := tg_of (tI4 (List.mem_of_getElem? (i := 199) (by decide +kernel))) (by decide +kernel)
theorem q1055 : Cond.code yX10_document cX10_document 3 (some .int) ∈ TG := tg_of (tI4 (List.mem_of_getElem? (i := 215) (by decide +kernel))) (by decide +kernel)
theorem q1056 : Cond.methodLink RL 32 yX10_document ∈ TG := tg_of (tI4 (List.mem_of_getElem? (i := 212) (by decide +kernel))) (by decide +kernel)
theorem q1057 : Cond.instanceMethod yX10_document ∈ TG := tg_of (tI4 (List.mem_of_getElem? (i := 213) (by decide +kernel))) (by decide +kernel)
theorem q1058 : Cond.selects RX10 yX10_document yX10_document ∈ TG := tg_of (tI4 (List.mem_of_getElem? (i := 214) (by decide +kernel))) (by decide +kernel)
theorem q1059 : Cond.code yX10_at cX10_at 3 (some .int) ∈ TG := tg_of (tI4 (List.mem_of_getElem? (i := 234) (by decide +kernel))) (by decide +kernel)
theorem q1060 : Cond.methodLink RL 36 yX10_at ∈ TG := tg_of (tI4 (List.mem_of_getElem? (i := 231) (by decide +kernel))) (by decide +kernel)
theorem q1061 : Cond.instanceMethod yX10_at ∈ TG := tg_of (tI4 (List.mem_of_getElem? (i := 232) (by decide +kernel))) (by decide +kernel)
theorem q1062 : Cond.selects RX10 yX10_at yX10_at ∈ TG := tg_of (tI4 (List.mem_of_getElem? (i := 233) (by decide +kernel))) (by decide +kernel)
theorem q1063 : Cond.code yX10_word cX10_word 3 (some .int) ∈ TG := tg_of (tI5 (List.mem_of_getElem? (i := 1) (by decide +kernel))) (by decide +kernel)
theorem q1064 : Cond.methodLink RL 39 yX10_word ∈ TG := tg_of (tI4 (List.mem_of_getElem? (i := 238) (by decide +kernel))) (by decide +kernel)
theorem q1065 : Cond.instanceMethod yX10_word ∈ TG := tg_of (tI4 (List.mem_of_getElem? (i := 239) (by decide +kernel))) (by decide +kernel)
theorem q1066 : Cond.selects RX10 yX10_word yX10_word ∈ TG := tg_of (tI5 (List.mem_of_getElem? (i := 0) (by decide +kernel))) (by decide +kernel)
theorem q1067 : Cond.code yX10_letter cX10_letter 3 (some .int) ∈ TG := tg_of (tI5 (List.mem_of_getElem? (i := 29) (by decide +kernel))) (by decide +kernel)
theorem q1068 : Cond.methodLink RL 42 yX10_letter ∈ TG := tg_of (tI5 (List.mem_of_getElem? (i := 26) (by decide +kernel))) (by decide +kernel)
theorem q1069 : Cond.instanceMethod yX10_letter ∈ TG := tg_of (tI5 (List.mem_of_getElem? (i := 27) (by decide +kernel))) (by decide +kernel)
theorem q1070 : Cond.selects RX10 yX10_letter yX10_letter ∈ TG := tg_of (tI5 (List.mem_of_getElem? (i := 28) (by decide +kernel))) (by decide +kernel)
theorem q1071 : Cond.code yX10_block cX10_block 4 (some .int) ∈ TG := tg_of (tI5 (List.mem_of_getElem? (i := 41) (by decide +kernel))) (by decide +kernel)
theorem q1072 : Cond.methodLink RL 45 yX10_block ∈ TG := tg_of (tI5 (List.mem_of_getElem? (i := 38) (by decide +kernel))) (by decide +kernel)
theorem q1073 : Cond.instanceMethod yX10_block ∈ TG := tg_of (tI5 (List.mem_of_getElem? (i := 39) (by decide +kernel))) (by decide +kernel)
theorem q1074 : Cond.selects RX10 yX10_block yX10_block ∈ TG := tg_of (tI5 (List.mem_of_getElem? (i := 40) (by decide +kernel))) (by decide +kernel)
theorem q1075 : Cond.code yX10_posting cX10_posting 5 (some .int) ∈ TG := tg_of (tI5 (List.mem_of_getElem? (i := 53) (by decide +kernel))) (by decide +kernel)
theorem q1076 : Cond.methodLink RL 49 yX10_posting ∈ TG := tg_of (tI5 (List.mem_of_getElem? (i := 50) (by decide +kernel))) (by decide +kernel)
theorem q1077 : Cond.instanceMethod yX10_posting ∈ TG := tg_of (tI5 (List.mem_of_getElem? (i := 51) (by decide +kernel))) (by decide +kernel)
theorem q1078 : Cond.selects RX10 yX10_posting yX10_posting ∈ TG := tg_of (tI5 (List.mem_of_getElem? (i := 52) (by decide +kernel))) (by decide +kernel)
theorem q1079 : Cond.code yX10_position cX10_position 4 (some .int) ∈ TG := tg_of (tI5 (List.mem_of_getElem? (i := 69) (by decide +kernel))) (by decide +kernel)
theorem q1080 : Cond.methodLink RL 52 yX10_position ∈ TG := tg_of (tI5 (List.mem_of_getElem? (i := 66) (by decide +kernel))) (by decide +kernel)
theorem q1081 : Cond.instanceMethod yX10_position ∈ TG := tg_of (tI5 (List.mem_of_getElem? (i := 67) (by decide +kernel))) (by decide +kernel)
theorem q1082 : Cond.selects RX10 yX10_position yX10_position ∈ TG := tg_of (tI5 (List.mem_of_getElem? (i := 68) (by decide +kernel))) (by decide +kernel)
theorem q1083 : Cond.code yX10_common cX10_common 2 (some .int) ∈ TG := tg_of (tI5 (List.mem_of_getElem? (i := 80) (by decide +kernel))) (by decide +kernel)
theorem q1084 : Cond.methodLink RL 55 yX10_common ∈ TG := tg_of (tI5 (List.mem_of_getElem? (i := 77) (by decide +kernel))) (by decide +kernel)
theorem q1085 : Cond.instanceMethod yX10_common ∈ TG := tg_of (tI5 (List.mem_of_getElem? (i := 78) (by decide +kernel))) (by decide +kernel)
theorem q1086 : Cond.selects RX10 yX10_common yX10_common ∈ TG := tg_of (tI5 (List.mem_of_getElem? (i := 79) (by decide +kernel))) (by decide +kernel)
theorem q1087 : Cond.code yX10_alike cX10_alike 3 (some .int) ∈ TG := tg_of (tI5 (List.mem_of_getElem? (i := 91) (by decide +kernel))) (by decide +kernel)
theorem q1088 : Cond.methodLink RL 58 yX10_alike ∈ TG := tg_of (tI5 (List.mem_of_getElem? (i := 88) (by decide +kernel))) (by decide +kernel)
theorem q1089 : Cond.instanceMethod yX10_alike ∈ TG := tg_of (tI5 (List.mem_of_getElem? (i := 89) (by decide +kernel))) (by decide +kernel)
theorem q1090 : Cond.selects RX10 yX10_alike yX10_alike ∈ TG := tg_of (tI5 (List.mem_of_getElem? (i := 90) (by decide +kernel))) (by decide +kernel)
theorem q1091 : Cond.code yX10_scored cX10_scored 4 (some .int) ∈ TG := tg_of (tI5 (List.mem_of_getElem? (i := 99) (by decide +kernel))) (by decide +kernel)
theorem q1092 : Cond.methodLink RL 61 yX10_scored ∈ TG := tg_of (tI5 (List.mem_of_getElem? (i := 96) (by decide +kernel))) (by decide +kernel)
theorem q1093 : Cond.instanceMethod yX10_scored ∈ TG := tg_of (tI5 (List.mem_of_getElem? (i := 97) (by decide +kernel))) (by decide +kernel)
theorem q1094 : Cond.selects RX10 yX10_scored yX10_scored ∈ TG := tg_of (tI5 (List.mem_of_getElem? (i := 98) (by decide +kernel))) (by decide +kernel)
theorem q1095 : Cond.code yX10_why cX10_why 2 (some .int) ∈ TG := tg_of (tI5 (List.mem_of_getElem? (i := 110) (by decide +kernel))) (by decide +kernel)
theorem q1096 : Cond.methodLink RL 64 yX10_why ∈ TG := tg_of (tI5 (List.mem_of_getElem? (i := 107) (by decide +kernel))) (by decide +kernel)
theorem q1097 : Cond.instanceMethod yX10_why ∈ TG := tg_of (tI5 (List.mem_of_getElem? (i := 108) (by decide +kernel))) (by decide +kernel)
theorem q1098 : Cond.selects RX10 yX10_why yX10_why ∈ TG := tg_of (tI5 (List.mem_of_getElem? (i := 109) (by decide +kernel))) (by decide +kernel)
theorem q1099 : Cond.code yX10_score cX10_score 2 (some .int) ∈ TG := tg_of (tI5 (List.mem_of_getElem? (i := 118) (by decide +kernel))) (by decide +kernel)
theorem q1100 : Cond.methodLink RL 67 yX10_score ∈ TG := tg_of (tI5 (List.mem_of_getElem? (i := 115) (by decide +kernel))) (by decide +kernel)
theorem q1101 : Cond.instanceMethod yX10_score ∈ TG := tg_of (tI5 (List.mem_of_getElem? (i := 116) (by decide +kernel))) (by decide +kernel)
theorem q1102 : Cond.selects RX10 yX10_score yX10_score ∈ TG := tg_of (tI5 (List.mem_of_getElem? (i := 117) (by decide +kernel))) (by decide +kernel)
theorem q1103 : Cond.code yX10_near cX10_near 2 (some .int) ∈ TG := tg_of (tI5 (List.mem_of_getElem? (i := 126) (by decide +kernel))) (by decide +kernel)
theorem q1104 : Cond.methodLink RL 70 yX10_near ∈ TG := tg_of (tI5 (List.mem_of_getElem? (i := 123) (by decide +kernel))) (by decide +kernel)
theorem q1105 : Cond.instanceMethod yX10_near ∈ TG := tg_of (tI5 (List.mem_of_getElem? (i := 124) (by decide +kernel))) (by decide +kernel)
theorem q1106 : Cond.selects RX10 yX10_near yX10_near ∈ TG := tg_of (tI5 (List.mem_of_getElem? (i := 125) (by decide +kernel))) (by decide +kernel)
theorem q1107 : Cond.code yX10_window cX10_window 3 (some .int) ∈ TG := tg_of (tI5 (List.mem_of_getElem? (i := 134) (by decide +kernel))) (by decide +kernel)
theorem q1108 : Cond.methodLink RL 73 yX10_window ∈ TG := tg_of (tI5 (List.mem_of_getElem? (i := 131) (by decide +kernel))) (by decide +kernel)
theorem q1109 : Cond.instanceMethod yX10_window ∈ TG := tg_of (tI5 (List.mem_of_getElem? (i := 132) (by decide +kernel))) (by decide +kernel)
theorem q1110 : Cond.selects RX10 yX10_window yX10_window ∈ TG := tg_of (tI5 (List.mem_of_getElem? (i := 133) (by decide +kernel))) (by decide +kernel)
theorem q1111 : Cond.code yX10_answer cX10_answer 3 (some .int) ∈ TG := tg_of (tI5 (List.mem_of_getElem? (i := 153) (by decide +kernel))) (by decide +kernel)
theorem q1112 : Cond.methodLink RL 76 yX10_answer ∈ TG := tg_of (tI5 (List.mem_of_getElem? (i := 150) (by decide +kernel))) (by decide +kernel)
theorem q1113 : Cond.instanceMethod yX10_answer ∈ TG := tg_of (tI5 (List.mem_of_getElem? (i := 151) (by decide +kernel))) (by decide +kernel)
theorem q1114 : Cond.selects RX10 yX10_answer yX10_answer ∈ TG := tg_of (tI5 (List.mem_of_getElem? (i := 152) (by decide +kernel))) (by decide +kernel)
theorem q1115 : Cond.code yX10_place cX10_place 2 (some .int) ∈ TG := tg_of (tI5 (List.mem_of_getElem? (i := 160) (by decide +kernel))) (by decide +kernel)
theorem q1116 : Cond.methodLink RL 79 yX10_place ∈ TG := tg_of (tI5 (List.mem_of_getElem? (i := 157) (by decide +kernel))) (by decide +kernel)
theorem q1117 : Cond.instanceMethod yX10_place ∈ TG := tg_of (tI5 (List.mem_of_getElem? (i := 158) (by decide +kernel))) (by decide +kernel)
theorem q1118 : Cond.selects RX10 yX10_place yX10_place ∈ TG := tg_of (tI5 (List.mem_of_getElem? (i := 159) (by decide +kernel))) (by decide +kernel)
theorem q1119 : Cond.code yX10_early cX10_early 3 (some .int) ∈ TG := tg_of (tI5 (List.mem_of_getElem? (i := 171) (by decide +kernel))) (by decide +kernel)
theorem q1120 : Cond.methodLink RL 82 yX10_early ∈ TG := tg_of (tI5 (List.mem_of_getElem? (i := 168) (by decide +kernel))) (by decide +kernel)
theorem q1121 : Cond.instanceMethod yX10_early ∈ TG := tg_of (tI5 (List.mem_of_getElem? (i := 169) (by decide +kernel))) (by decide +kernel)
theorem q1122 : Cond.selects RX10 yX10_early yX10_early ∈ TG := tg_of (tI5 (List.mem_of_getElem? (i := 170) (by decide +kernel))) (by decide +kernel)
theorem q1123 : Cond.code yX10_best cX10_best 3 (some .int) ∈ TG := tg_of (tI6 (List.mem_of_getElem? (i := 41) (by decide +kernel))) (by decide +kernel)
theorem q1124 : Cond.methodLink RL 85 yX10_best ∈ TG := tg_of (tI6 (List.mem_of_getElem? (i := 38) (by decide +kernel))) (by decide +kernel)
theorem q1125 : Cond.instanceMethod yX10_best ∈ TG := tg_of (tI6 (List.mem_of_getElem? (i := 39) (by decide +kernel))) (by decide +kernel)
theorem q1126 : Cond.selects RX10 yX10_best yX10_best ∈ TG := tg_of (tI6 (List.mem_of_getElem? (i := 40) (by decide +kernel))) (by decide +kernel)
theorem q1127 : Cond.code yX10_opened cX10_opened 4 (some .int) ∈ TG := tg_of (tI6 (List.mem_of_getElem? (i := 48) (by decide +kernel))) (by decide +kernel)
theorem q1128 : Cond.methodLink RL 88 yX10_opened ∈ TG := tg_of (tI6 (List.mem_of_getElem? (i := 45) (by decide +kernel))) (by decide +kernel)
theorem q1129 : Cond.instanceMethod yX10_opened ∈ TG := tg_of (tI6 (List.mem_of_getElem? (i := 46) (by decide +kernel))) (by decide +kernel)
theorem q1130 : Cond.selects RX10 yX10_opened yX10_opened ∈ TG := tg_of (tI6 (List.mem_of_getElem? (i := 47) (by decide +kernel))) (by decide +kernel)
theorem q1131 : Cond.code yX10_inside cX10_inside 8 (some .int) ∈ TG := tg_of (tI6 (List.mem_of_getElem? (i := 59) (by decide +kernel))) (by decide +kernel)
theorem q1132 : Cond.methodLink RL 91 yX10_inside ∈ TG := tg_of (tI6 (List.mem_of_getElem? (i := 56) (by decide +kernel))) (by decide +kernel)
theorem q1133 : Cond.instanceMethod yX10_inside ∈ TG := tg_of (tI6 (List.mem_of_getElem? (i := 57) (by decide +kernel))) (by decide +kernel)
theorem q1134 : Cond.selects RX10 yX10_inside yX10_inside ∈ TG := tg_of (tI6 (List.mem_of_getElem? (i := 58) (by decide +kernel))) (by decide +kernel)
theorem q1135 : Cond.code yX10_bits cX10_bits 2 (some .int) ∈ TG := tg_of (tI6 (List.mem_of_getElem? (i := 67) (by decide +kernel))) (by decide +kernel)
theorem q1136 : Cond.methodLink RL 94 yX10_bits ∈ TG := tg_of (tI6 (List.mem_of_getElem? (i := 64) (by decide +kernel))) (by decide +kernel)
theorem q1137 : Cond.instanceMethod yX10_bits ∈ TG := tg_of (tI6 (List.mem_of_getElem? (i := 65) (by decide +kernel))) (by decide +kernel)
theorem q1138 : Cond.selects RX10 yX10_bits yX10_bits ∈ TG := tg_of (tI6 (List.mem_of_getElem? (i := 66) (by decide +kernel))) (by decide +kernel)
theorem q1139 : Cond.code yX10_swift cX10_swift 7 (some .int) ∈ TG := tg_of (tI6 (List.mem_of_getElem? (i := 74) (by decide +kernel))) (by decide +kernel)
theorem q1140 : Cond.methodLink RL 97 yX10_swift ∈ TG := tg_of (tI6 (List.mem_of_getElem? (i := 71) (by decide +kernel))) (by decide +kernel)
theorem q1141 : Cond.instanceMethod yX10_swift ∈ TG := tg_of (tI6 (List.mem_of_getElem? (i := 72) (by decide +kernel))) (by decide +kernel)
theorem q1142 : Cond.selects RX10 yX10_swift yX10_swift ∈ TG := tg_of (tI6 (List.mem_of_getElem? (i := 73) (by decide +kernel))) (by decide +kernel)
theorem q1143 : Cond.code yX10_blockOf cX10_blockOf 5 (some .int) ∈ TG := tg_of (tI6 (List.mem_of_getElem? (i := 85) (by decide +kernel))) (by decide +kernel)
theorem q1144 : Cond.methodLink RL 100 yX10_blockOf ∈ TG := tg_of (tI6 (List.mem_of_getElem? (i := 82) (by decide +kernel))) (by decide +kernel)
theorem q1145 : Cond.instanceMethod yX10_blockOf ∈ TG := tg_of (tI6 (List.mem_of_getElem? (i := 83) (by decide +kernel))) (by decide +kernel)
theorem q1146 : Cond.selects RX10 yX10_blockOf yX10_blockOf ∈ TG := tg_of (tI6 (List.mem_of_getElem? (i := 84) (by decide +kernel))) (by decide +kernel)
theorem q1147 : Cond.code yX10_spread cX10_spread 4 (some .int) ∈ TG := tg_of (tI6 (List.mem_of_getElem? (i := 92) (by decide +kernel))) (by decide +kernel)
theorem q1148 : Cond.methodLink RL 103 yX10_spread ∈ TG := tg_of (tI6 (List.mem_of_getElem? (i := 89) (by decide +kernel))) (by decide +kernel)
theorem q1149 : Cond.instanceMethod yX10_spread ∈ TG := tg_of (tI6 (List.mem_of_getElem? (i := 90) (by decide +kernel))) (by decide +kernel)
theorem q1150 : Cond.selects RX10 yX10_spread yX10_spread ∈ TG := tg_of (tI6 (List.mem_of_getElem? (i := 91) (by decide +kernel))) (by decide +kernel)
theorem q1151 : Cond.code yX10_nearest cX10_nearest 6 (some .int) ∈ TG := tg_of (tI6 (List.mem_of_getElem? (i := 99) (by decide +kernel))) (by decide +kernel)
theorem q1152 : Cond.methodLink RL 106 yX10_nearest ∈ TG := tg_of (tI6 (List.mem_of_getElem? (i := 96) (by decide +kernel))) (by decide +kernel)
theorem q1153 : Cond.instanceMethod yX10_nearest ∈ TG := tg_of (tI6 (List.mem_of_getElem? (i := 97) (by decide +kernel))) (by decide +kernel)
theorem q1154 : Cond.selects RX10 yX10_nearest yX10_nearest ∈ TG := tg_of (tI6 (List.mem_of_getElem? (i := 98) (by decide +kernel))) (by decide +kernel)
theorem q1155 : Cond.code yX10_rarest cX10_rarest 8 (some .int) ∈ TG := tg_of (tI6 (List.mem_of_getElem? (i := 106) (by decide +kernel))) (by decide +kernel)
theorem q1156 : Cond.methodLink RL 109 yX10_rarest ∈ TG := tg_of (tI6 (List.mem_of_getElem? (i := 103) (by decide +kernel))) (by decide +kernel)
theorem q1157 : Cond.instanceMethod yX10_rarest ∈ TG := tg_of (tI6 (List.mem_of_getElem? (i := 104) (by decide +kernel))) (by decide +kernel)
theorem q1158 : Cond.selects RX10 yX10_rarest yX10_rarest ∈ TG := tg_of (tI6 (List.mem_of_getElem? (i := 105) (by decide +kernel))) (by decide +kernel)
theorem q1159 : Cond.code yX10_points cX10_points 3 (some .int) ∈ TG := tg_of (tI6 (List.mem_of_getElem? (i := 113) (by decide +kernel))) (by decide +kernel)
theorem q1160 : Cond.methodLink RL 112 yX10_points ∈ TG := tg_of (tI6 (List.mem_of_getElem? (i := 110) (by decide +kernel))) (by decide +kernel)
theorem q1161 : Cond.instanceMethod yX10_points ∈ TG := tg_of (tI6 (List.mem_of_getElem? (i := 111) (by decide +kernel))) (by decide +kernel)
theorem q1162 : Cond.selects RX10 yX10_points yX10_points ∈ TG := tg_of (tI6 (List.mem_of_getElem? (i := 112) (by decide +kernel))) (by decide +kernel)
theorem q1163 : Cond.code yX10_phrase cX10_phrase 3 (some .int) ∈ TG := tg_of (tI6 (List.mem_of_getElem? (i := 121) (by decide +kernel))) (by decide +kernel)
theorem q1164 : Cond.methodLink RL 115 yX10_phrase ∈ TG := tg_of (tI6 (List.mem_of_getElem? (i := 118) (by decide +kernel))) (by decide +kernel)
theorem q1165 : Cond.instanceMethod yX10_phrase ∈ TG := tg_of (tI6 (List.mem_of_getElem? (i := 119) (by decide +kernel))) (by decide +kernel)
theorem q1166 : Cond.selects RX10 yX10_phrase yX10_phrase ∈ TG := tg_of (tI6 (List.mem_of_getElem? (i := 120) (by decide +kernel))) (by decide +kernel)
theorem q1167 : Cond.code yX10_depth cX10_depth 4 (some .int) ∈ TG := tg_of (tI6 (List.mem_of_getElem? (i := 129) (by decide +kernel))) (by decide +kernel)
theorem q1168 : Cond.methodLink RL 118 yX10_depth ∈ TG := tg_of (tI6 (List.mem_of_getElem? (i := 126) (by decide +kernel))) (by decide +kernel)
theorem q1169 : Cond.instanceMethod yX10_depth ∈ TG := tg_of (tI6 (List.mem_of_getElem? (i := 127) (by decide +kernel))) (by decide +kernel)
theorem q1170 : Cond.selects RX10 yX10_depth yX10_depth ∈ TG := tg_of (tI6 (List.mem_of_getElem? (i := 128) (by decide +kernel))) (by decide +kernel)
theorem q1171 : Cond.code yX10_without cX10_without 6 (some .int) ∈ TG := tg_of (tI6 (List.mem_of_getElem? (i := 136) (by decide +kernel))) (by decide +kernel)
theorem q1172 : Cond.methodLink RL 121 yX10_without ∈ TG := tg_of (tI6 (List.mem_of_getElem? (i := 133) (by decide +kernel))) (by decide +kernel)
theorem q1173 : Cond.instanceMethod yX10_without ∈ TG := tg_of (tI6 (List.mem_of_getElem? (i := 134) (by decide +kernel))) (by decide +kernel)
theorem q1174 : Cond.selects RX10 yX10_without yX10_without ∈ TG := tg_of (tI6 (List.mem_of_getElem? (i := 135) (by decide +kernel))) (by decide +kernel)
theorem sv_L_7 : SV RL 7 RX10 yX10_add cX10_add 3 (some .int) 1 := ⟨q1032, q1033, q1034, q274, q1031, rfl, by decide +kernel, by decide +kernel, by decide +kernel⟩
theorem sv_L_15 : SV RL 15 RX10 yX10_ask cX10_ask 3 (some .int) 1 := ⟨q1036, q1037, q1038, q274, q1035, rfl, by decide +kernel, by decide +kernel, by decide +kernel⟩
theorem sv_L_18 : SV RL 18 RX10 yX10_find cX10_find 2 (some .int) 1 := ⟨q1040, q1041, q1042, q274, q1039, rfl, by decide +kernel, by decide +kernel, by decide +kernel⟩
theorem sv_L_21 : SV RL 21 RX10 yX10_remove cX10_remove 2 (some .int) 1 := ⟨q1044, q1045, q1046, q274, q1043, rfl, by decide +kernel, by decide +kernel, by decide +kernel⟩
theorem sv_L_26 : SV RL 26 RX10 yX10_repack cX10_repack 2 (some .int) 1 := ⟨q1048, q1049, q1050, q274, q1047, rfl, by decide +kernel, by decide +kernel, by decide +kernel⟩
theorem sv_L_29 : SV RL 29 RX10 yX10_told cX10_told 2 (some .int) 1 := ⟨q1052, q1053, q1054, q274, q1051, rfl, by decide +kernel, by decide +kernel, by decide +kernel⟩
theorem sv_L_32 : SV RL 32 RX10 yX10_document cX10_document 3 (some .int) 2 := ⟨q1056, q1057, q1058, q274, q1055, rfl, by decide +kernel, by decide +kernel, by decide +kernel⟩
theorem sv_L_36 : SV RL 36 RX10 yX10_at cX10_at 3 (some .int) 2 := ⟨q1060, q1061, q1062, q274, q1059, rfl, by decide +kernel, by decide +kernel, by decide +kernel⟩
theorem sv_L_39 : SV RL 39 RX10 yX10_word cX10_word 3 (some .int) 2 := ⟨q1064, q1065, q1066, q274, q1063, rfl, by decide +kernel, by decide +kernel, by decide +kernel⟩
theorem sv_L_42 : SV RL 42 RX10 yX10_letter cX10_letter 3 (some .int) 2 := ⟨q1068, q1069, q1070, q274, q1067, rfl, by decide +kernel, by decide +kernel, by decide +kernel⟩
theorem sv_L_45 : SV RL 45 RX10 yX10_block cX10_block 4 (some .int) 3 := ⟨q1072, q1073, q1074, q274, q1071, rfl, by decide +kernel, by decide +kernel, by decide +kernel⟩
theorem sv_L_49 : SV RL 49 RX10 yX10_posting cX10_posting 5 (some .int) 3 := ⟨q1076, q1077, q1078, q274, q1075, rfl, by decide +kernel, by decide +kernel, by decide +kernel⟩
theorem sv_L_52 : SV RL 52 RX10 yX10_position cX10_position 4 (some .int) 3 := ⟨q1080, q1081, q1082, q274, q1079, rfl, by decide +kernel, by decide +kernel, by decide +kernel⟩
theorem sv_L_55 : SV RL 55 RX10 yX10_common cX10_common 2 (some .int) 1 := ⟨q1084, q1085, q1086, q274, q1083, rfl, by decide +kernel, by decide +kernel, by decide +kernel⟩
theorem sv_L_58 : SV RL 58 RX10 yX10_alike cX10_alike 3 (some .int) 2 := ⟨q1088, q1089, q1090, q274, q1087, rfl, by decide +kernel, by decide +kernel, by decide +kernel⟩
theorem sv_L_61 : SV RL 61 RX10 yX10_scored cX10_scored 4 (some .int) 2 := ⟨q1092, q1093, q1094, q274, q1091, rfl, by decide +kernel, by decide +kernel, by decide +kernel⟩
theorem sv_L_64 : SV RL 64 RX10 yX10_why cX10_why 2 (some .int) 1 := ⟨q1096, q1097, q1098, q274, q1095, rfl, by decide +kernel, by decide +kernel, by decide +kernel⟩
theorem sv_L_67 : SV RL 67 RX10 yX10_score cX10_score 2 (some .int) 1 := ⟨q1100, q1101, q1102, q274, q1099, rfl, by decide +kernel, by decide +kernel, by decide +kernel⟩
theorem sv_L_70 : SV RL 70 RX10 yX10_near cX10_near 2 (some .int) 1 := ⟨q1104, q1105, q1106, q274, q1103, rfl, by decide +kernel, by decide +kernel, by decide +kernel⟩
theorem sv_L_73 : SV RL 73 RX10 yX10_window cX10_window 3 (some .int) 2 := ⟨q1108, q1109, q1110, q274, q1107, rfl, by decide +kernel, by decide +kernel, by decide +kernel⟩
theorem sv_L_76 : SV RL 76 RX10 yX10_answer cX10_answer 3 (some .int) 2 := ⟨q1112, q1113, q1114, q274, q1111, rfl, by decide +kernel, by decide +kernel, by decide +kernel⟩
theorem sv_L_79 : SV RL 79 RX10 yX10_place cX10_place 2 (some .int) 1 := ⟨q1116, q1117, q1118, q274, q1115, rfl, by decide +kernel, by decide +kernel, by decide +kernel⟩
theorem sv_L_82 : SV RL 82 RX10 yX10_early cX10_early 3 (some .int) 2 := ⟨q1120, q1121, q1122, q274, q1119, rfl, by decide +kernel, by decide +kernel, by decide +kernel⟩
theorem sv_L_85 : SV RL 85 RX10 yX10_best cX10_best 3 (some .int) 2 := ⟨q1124, q1125, q1126, q274, q1123, rfl, by decide +kernel, by decide +kernel, by decide +kernel⟩
theorem sv_L_88 : SV RL 88 RX10 yX10_opened cX10_opened 4 (some .int) 3 := ⟨q1128, q1129, q1130, q274, q1127, rfl, by decide +kernel, by decide +kernel, by decide +kernel⟩
theorem sv_L_91 : SV RL 91 RX10 yX10_inside cX10_inside 8 (some .int) 2 := ⟨q1132, q1133, q1134, q274, q1131, rfl, by decide +kernel, by decide +kernel, by decide +kernel⟩
theorem sv_L_94 : SV RL 94 RX10 yX10_bits cX10_bits 2 (some .int) 1 := ⟨q1136, q1137, q1138, q274, q1135, rfl, by decide +kernel, by decide +kernel, by decide +kernel⟩
theorem sv_L_97 : SV RL 97 RX10 yX10_swift cX10_swift 7 (some .int) 2 := ⟨q1140, q1141, q1142, q274, q1139, rfl, by decide +kernel, by decide +kernel, by decide +kernel⟩
theorem sv_L_100 : SV RL 100 RX10 yX10_blockOf cX10_blockOf 5 (some .int) 2 := ⟨q1144, q1145, q1146, q274, q1143, rfl, by decide +kernel, by decide +kernel, by decide +kernel⟩
theorem sv_L_103 : SV RL 103 RX10 yX10_spread cX10_spread 4 (some .int) 1 := ⟨q1148, q1149, q1150, q274, q1147, rfl, by decide +kernel, by decide +kernel, by decide +kernel⟩
theorem sv_L_106 : SV RL 106 RX10 yX10_nearest cX10_nearest 6 (some .int) 1 := ⟨q1152, q1153, q1154, q274, q1151, rfl, by decide +kernel, by decide +kernel, by decide +kernel⟩
theorem sv_L_109 : SV RL 109 RX10 yX10_rarest cX10_rarest 8 (some .int) 1 := ⟨q1156, q1157, q1158, q274, q1155, rfl, by decide +kernel, by decide +kernel, by decide +kernel⟩
theorem sv_L_112 : SV RL 112 RX10 yX10_points cX10_points 3 (some .int) 2 := ⟨q1160, q1161, q1162, q274, q1159, rfl, by decide +kernel, by decide +kernel, by decide +kernel⟩
theorem sv_L_115 : SV RL 115 RX10 yX10_phrase cX10_phrase 3 (some .int) 2 := ⟨q1164, q1165, q1166, q274, q1163, rfl, by decide +kernel, by decide +kernel, by decide +kernel⟩
theorem sv_L_118 : SV RL 118 RX10 yX10_depth cX10_depth 4 (some .int) 2 := ⟨q1168, q1169, q1170, q274, q1167, rfl, by decide +kernel, by decide +kernel, by decide +kernel⟩
theorem sv_L_121 : SV RL 121 RX10 yX10_without cX10_without 6 (some .int) 2 := ⟨q1172, q1173, q1174, q274, q1171, rfl, by decide +kernel, by decide +kernel, by decide +kernel⟩
