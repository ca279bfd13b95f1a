set_option maxHeartbeats 400000
set_option maxRecDepth 100000
theorem dl_1051 : decode code 1051 = .ok (.aload_n 2, 1) := by decide +kernel
theorem dl_1052 : decode code 1052 = .ok (.aload_n 0, 1) := by decide +kernel
theorem dl_1053 : decode code 1053 = .ok (.iload_n 3, 1) := by decide +kernel
theorem dl_1054 : decode code 1054 = .ok (.iconst 1, 1) := by decide +kernel
theorem dl_1055 : decode code 1055 = .ok (.iadd, 1) := by decide +kernel
theorem dl_1056 : decode code 1056 = .ok (.iaload, 1) := by decide +kernel
theorem dl_1057 : decode code 1057 = .ok (.aload_n 0, 1) := by decide +kernel
theorem dl_1058 : decode code 1058 = .ok (.iload_n 3, 1) := by decide +kernel
theorem dl_1059 : decode code 1059 = .ok (.iconst 2, 1) := by decide +kernel
theorem dl_1060 : decode code 1060 = .ok (.iadd, 1) := by decide +kernel
theorem dl_1061 : decode code 1061 = .ok (.iaload, 1) := by decide +kernel
theorem dl_1062 : decode code 1062 = .ok (.aload_n 0, 1) := by decide +kernel
theorem dl_1063 : decode code 1063 = .ok (.iload_n 3, 1) := by decide +kernel
theorem dl_1064 : decode code 1064 = .ok (.iconst 3, 1) := by decide +kernel
theorem dl_1065 : decode code 1065 = .ok (.iadd, 1) := by decide +kernel
theorem dl_1066 : decode code 1066 = .ok (.iaload, 1) := by decide +kernel
theorem dl_1067 : decode code 1067 = .ok (.i2l, 1) := by decide +kernel
theorem dl_1068 : decode code 1068 = .ok (.bipush 32, 2) := by decide +kernel
theorem dl_1070 : decode code 1070 = .ok (.lshl, 1) := by decide +kernel
theorem dl_1071 : decode code 1071 = .ok (.aload_n 0, 1) := by decide +kernel
theorem dl_1072 : decode code 1072 = .ok (.iload_n 3, 1) := by decide +kernel
theorem dl_1073 : decode code 1073 = .ok (.iconst 4, 1) := by decide +kernel
theorem dl_1074 : decode code 1074 = .ok (.iadd, 1) := by decide +kernel
theorem dl_1075 : decode code 1075 = .ok (.iaload, 1) := by decide +kernel
theorem dl_1076 : decode code 1076 = .ok (.i2l, 1) := by decide +kernel
theorem dl_1077 : decode code 1077 = .ok (.ldc2_w 130, 3) := by decide +kernel
theorem dl_1080 : decode code 1080 = .ok (.land, 1) := by decide +kernel
theorem dl_1081 : decode code 1081 = .ok (.lor, 1) := by decide +kernel
theorem dl_1082 : decode code 1082 = .ok (.invokevirtual 136, 3) := by decide +kernel
theorem dl_1085 : decode code 1085 = .ok (.if_icmp .eq 74, 3) := by decide +kernel
theorem dl_1088 : decode code 1088 = .ok (.iconst 0, 1) := by decide +kernel
theorem dl_1089 : decode code 1089 = .ok (.ireturn, 1) := by decide +kernel
theorem dl_1090 : decode code 1090 = .ok (.aload_n 1, 1) := by decide +kernel
theorem dl_1091 : decode code 1091 = .ok (.invokevirtual 137, 3) := by decide +kernel
theorem dl_1094 : decode code 1094 = .ok (.aload_n 2, 1) := by decide +kernel
theorem dl_1095 : decode code 1095 = .ok (.invokevirtual 141, 3) := by decide +kernel
theorem dl_1098 : decode code 1098 = .ok (.if_icmp .eq 61, 3) := by decide +kernel
theorem dl_1101 : decode code 1101 = .ok (.iconst 0, 1) := by decide +kernel
theorem dl_1102 : decode code 1102 = .ok (.ireturn, 1) := by decide +kernel
theorem dl_1103 : decode code 1103 = .ok (.aload_n 1, 1) := by decide +kernel
theorem dl_1104 : decode code 1104 = .ok (.aload_n 0, 1) := by decide +kernel
theorem dl_1105 : decode code 1105 = .ok (.iload_n 3, 1) := by decide +kernel
theorem dl_1106 : decode code 1106 = .ok (.iconst 1, 1) := by decide +kernel
theorem dl_1107 : decode code 1107 = .ok (.iadd, 1) := by decide +kernel
theorem dl_1108 : decode code 1108 = .ok (.iaload, 1) := by decide +kernel
theorem dl_1109 : decode code 1109 = .ok (.aload_n 0, 1) := by decide +kernel
theorem dl_1110 : decode code 1110 = .ok (.iload_n 3, 1) := by decide +kernel
theorem dl_1111 : decode code 1111 = .ok (.iconst 2, 1) := by decide +kernel
theorem dl_1112 : decode code 1112 = .ok (.iadd, 1) := by decide +kernel
theorem dl_1113 : decode code 1113 = .ok (.iaload, 1) := by decide +kernel
theorem dl_1114 : decode code 1114 = .ok (.invokevirtual 142, 3) := by decide +kernel
theorem dl_1117 : decode code 1117 = .ok (.aload_n 2, 1) := by decide +kernel
theorem dl_1118 : decode code 1118 = .ok (.aload_n 0, 1) := by decide +kernel
theorem dl_1119 : decode code 1119 = .ok (.iload_n 3, 1) := by decide +kernel
theorem dl_1120 : decode code 1120 = .ok (.iconst 1, 1) := by decide +kernel
theorem dl_1121 : decode code 1121 = .ok (.iadd, 1) := by decide +kernel
theorem dl_1122 : decode code 1122 = .ok (.iaload, 1) := by decide +kernel
theorem dl_1123 : decode code 1123 = .ok (.aload_n 0, 1) := by decide +kernel
theorem dl_1124 : decode code 1124 = .ok (.iload_n 3, 1) := by decide +kernel
theorem dl_1125 : decode code 1125 = .ok (.iconst 2, 1) := by decide +kernel
theorem dl_1126 : decode code 1126 = .ok (.iadd, 1) := by decide +kernel
theorem dl_1127 : decode code 1127 = .ok (.iaload, 1) := by decide +kernel
theorem dl_1128 : decode code 1128 = .ok (.invokevirtual 145, 3) := by decide +kernel
theorem dl_1131 : decode code 1131 = .ok (.if_icmp .eq 28, 3) := by decide +kernel
theorem dl_1134 : decode code 1134 = .ok (.iconst 0, 1) := by decide +kernel
theorem dl_1135 : decode code 1135 = .ok (.ireturn, 1) := by decide +kernel
theorem dl_1136 : decode code 1136 = .ok (.aload_n 1, 1) := by decide +kernel
theorem dl_1137 : decode code 1137 = .ok (.aload_n 0, 1) := by decide +kernel
theorem dl_1138 : decode code 1138 = .ok (.iload_n 3, 1) := by decide +kernel
theorem dl_1139 : decode code 1139 = .ok (.iconst 1, 1) := by decide +kernel
theorem dl_1140 : decode code 1140 = .ok (.iadd, 1) := by decide +kernel
theorem dl_1141 : decode code 1141 = .ok (.iaload, 1) := by decide +kernel
theorem dl_1142 : decode code 1142 = .ok (.invokevirtual 146, 3) := by decide +kernel
theorem dl_1145 : decode code 1145 = .ok (.aload_n 2, 1) := by decide +kernel
theorem dl_1146 : decode code 1146 = .ok (.aload_n 0, 1) := by decide +kernel
theorem dl_1147 : decode code 1147 = .ok (.iload_n 3, 1) := by decide +kernel
theorem dl_1148 : decode code 1148 = .ok (.iconst 1, 1) := by decide +kernel
theorem dl_1149 : decode code 1149 = .ok (.iadd, 1) := by decide +kernel
theorem dl_1150 : decode code 1150 = .ok (.iaload, 1) := by decide +kernel
theorem dl_1151 : decode code 1151 = .ok (.invokevirtual 149, 3) := by decide +kernel
theorem dl_1154 : decode code 1154 = .ok (.if_icmp .eq 5, 3) := by decide +kernel
theorem dl_1157 : decode code 1157 = .ok (.iconst 0, 1) := by decide +kernel
theorem dl_1158 : decode code 1158 = .ok (.ireturn, 1) := by decide +kernel
theorem dl_1159 : decode code 1159 = .ok (.iinc 3 6, 3) := by decide +kernel
theorem dl_1162 : decode code 1162 = .ok (.goto (-1144), 3) := by decide +kernel
theorem dl_1165 : decode code 1165 = .ok (.iconst 1, 1) := by decide +kernel
theorem dl_1166 : decode code 1166 = .ok (.ireturn, 1) := by decide +kernel
