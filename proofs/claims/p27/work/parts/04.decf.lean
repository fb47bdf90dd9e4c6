theorem dg_f0 : (decode cL_law 1079 = .ok (.pop, 1)) ∧ (decode cL_law 1080 = .ok (.goto 201, 3)) ∧ (decode cL_law 1083 = .ok (.aload_n 1, 1)) ∧ (decode cL_law 1084 = .ok (.aload_n 0, 1)) ∧ (decode cL_law 1085 = .ok (.iload_n 3, 1)) ∧ (decode cL_law 1086 = .ok (.iconst 1, 1)) ∧ (decode cL_law 1087 = .ok (.iadd, 1)) ∧ (decode cL_law 1088 = .ok (.iaload, 1)) ∧ (decode cL_law 1089 = .ok (.invokevirtual 155, 3)) ∧ (decode cL_law 1092 = .ok (.pop, 1)) ∧ (decode cL_law 1093 = .ok (.aload_n 2, 1)) ∧ (decode cL_law 1094 = .ok (.aload_n 0, 1)) ∧ (decode cL_law 1095 = .ok (.iload_n 3, 1)) ∧ (decode cL_law 1096 = .ok (.iconst 1, 1)) ∧ (decode cL_law 1097 = .ok (.iadd, 1)) ∧ (decode cL_law 1098 = .ok (.iaload, 1)) := by decide +kernel
theorem dL_law_1079 : decode cL_law 1079 = .ok (.pop, 1) := dg_f0.1
theorem dL_law_1080 : decode cL_law 1080 = .ok (.goto 201, 3) := dg_f0.2.1
theorem dL_law_1083 : decode cL_law 1083 = .ok (.aload_n 1, 1) := dg_f0.2.2.1
theorem dL_law_1084 : decode cL_law 1084 = .ok (.aload_n 0, 1) := dg_f0.2.2.2.1
theorem dL_law_1085 : decode cL_law 1085 = .ok (.iload_n 3, 1) := dg_f0.2.2.2.2.1
theorem dL_law_1086 : decode cL_law 1086 = .ok (.iconst 1, 1) := dg_f0.2.2.2.2.2.1
theorem dL_law_1087 : decode cL_law 1087 = .ok (.iadd, 1) := dg_f0.2.2.2.2.2.2.1
theorem dL_law_1088 : decode cL_law 1088 = .ok (.iaload, 1) := dg_f0.2.2.2.2.2.2.2.1
theorem dL_law_1089 : decode cL_law 1089 = .ok (.invokevirtual 155, 3) := dg_f0.2.2.2.2.2.2.2.2.1
theorem dL_law_1092 : decode cL_law 1092 = .ok (.pop, 1) := dg_f0.2.2.2.2.2.2.2.2.2.1
theorem dL_law_1093 : decode cL_law 1093 = .ok (.aload_n 2, 1) := dg_f0.2.2.2.2.2.2.2.2.2.2.1
theorem dL_law_1094 : decode cL_law 1094 = .ok (.aload_n 0, 1) := dg_f0.2.2.2.2.2.2.2.2.2.2.2.1
theorem dL_law_1095 : decode cL_law 1095 = .ok (.iload_n 3, 1) := dg_f0.2.2.2.2.2.2.2.2.2.2.2.2.1
theorem dL_law_1096 : decode cL_law 1096 = .ok (.iconst 1, 1) := dg_f0.2.2.2.2.2.2.2.2.2.2.2.2.2.1
theorem dL_law_1097 : decode cL_law 1097 = .ok (.iadd, 1) := dg_f0.2.2.2.2.2.2.2.2.2.2.2.2.2.2.1
theorem dL_law_1098 : decode cL_law 1098 = .ok (.iaload, 1) := dg_f0.2.2.2.2.2.2.2.2.2.2.2.2.2.2.2
theorem dg_f1 : (decode cL_law 1099 = .ok (.invokevirtual 158, 3)) ∧ (decode cL_law 1102 = .ok (.pop, 1)) ∧ (decode cL_law 1103 = .ok (.goto 178, 3)) ∧ (decode cL_law 1106 = .ok (.aload_n 1, 1)) ∧ (decode cL_law 1107 = .ok (.aload_n 0, 1)) ∧ (decode cL_law 1108 = .ok (.iload_n 3, 1)) ∧ (decode cL_law 1109 = .ok (.iconst 1, 1)) ∧ (decode cL_law 1110 = .ok (.iadd, 1)) ∧ (decode cL_law 1111 = .ok (.iaload, 1)) ∧ (decode cL_law 1112 = .ok (.aload_n 0, 1)) ∧ (decode cL_law 1113 = .ok (.iload_n 3, 1)) ∧ (decode cL_law 1114 = .ok (.iconst 2, 1)) ∧ (decode cL_law 1115 = .ok (.iadd, 1)) ∧ (decode cL_law 1116 = .ok (.iaload, 1)) ∧ (decode cL_law 1117 = .ok (.aload_n 0, 1)) ∧ (decode cL_law 1118 = .ok (.iload_n 3, 1)) := by decide +kernel
theorem dL_law_1099 : decode cL_law 1099 = .ok (.invokevirtual 158, 3) := dg_f1.1
theorem dL_law_1102 : decode cL_law 1102 = .ok (.pop, 1) := dg_f1.2.1
theorem dL_law_1103 : decode cL_law 1103 = .ok (.goto 178, 3) := dg_f1.2.2.1
theorem dL_law_1106 : decode cL_law 1106 = .ok (.aload_n 1, 1) := dg_f1.2.2.2.1
theorem dL_law_1107 : decode cL_law 1107 = .ok (.aload_n 0, 1) := dg_f1.2.2.2.2.1
theorem dL_law_1108 : decode cL_law 1108 = .ok (.iload_n 3, 1) := dg_f1.2.2.2.2.2.1
theorem dL_law_1109 : decode cL_law 1109 = .ok (.iconst 1, 1) := dg_f1.2.2.2.2.2.2.1
theorem dL_law_1110 : decode cL_law 1110 = .ok (.iadd, 1) := dg_f1.2.2.2.2.2.2.2.1
theorem dL_law_1111 : decode cL_law 1111 = .ok (.iaload, 1) := dg_f1.2.2.2.2.2.2.2.2.1
theorem dL_law_1112 : decode cL_law 1112 = .ok (.aload_n 0, 1) := dg_f1.2.2.2.2.2.2.2.2.2.1
theorem dL_law_1113 : decode cL_law 1113 = .ok (.iload_n 3, 1) := dg_f1.2.2.2.2.2.2.2.2.2.2.1
theorem dL_law_1114 : decode cL_law 1114 = .ok (.iconst 2, 1) := dg_f1.2.2.2.2.2.2.2.2.2.2.2.1
theorem dL_law_1115 : decode cL_law 1115 = .ok (.iadd, 1) := dg_f1.2.2.2.2.2.2.2.2.2.2.2.2.1
theorem dL_law_1116 : decode cL_law 1116 = .ok (.iaload, 1) := dg_f1.2.2.2.2.2.2.2.2.2.2.2.2.2.1
theorem dL_law_1117 : decode cL_law 1117 = .ok (.aload_n 0, 1) := dg_f1.2.2.2.2.2.2.2.2.2.2.2.2.2.2.1
theorem dL_law_1118 : decode cL_law 1118 = .ok (.iload_n 3, 1) := dg_f1.2.2.2.2.2.2.2.2.2.2.2.2.2.2.2
theorem dg_f2 : (decode cL_law 1119 = .ok (.iconst 3, 1)) ∧ (decode cL_law 1120 = .ok (.iadd, 1)) ∧ (decode cL_law 1121 = .ok (.iaload, 1)) ∧ (decode cL_law 1122 = .ok (.invokevirtual 159, 3)) ∧ (decode cL_law 1125 = .ok (.pop, 1)) ∧ (decode cL_law 1126 = .ok (.aload_n 2, 1)) ∧ (decode cL_law 1127 = .ok (.aload_n 0, 1)) ∧ (decode cL_law 1128 = .ok (.iload_n 3, 1)) ∧ (decode cL_law 1129 = .ok (.iconst 1, 1)) ∧ (decode cL_law 1130 = .ok (.iadd, 1)) ∧ (decode cL_law 1131 = .ok (.iaload, 1)) ∧ (decode cL_law 1132 = .ok (.aload_n 0, 1)) ∧ (decode cL_law 1133 = .ok (.iload_n 3, 1)) ∧ (decode cL_law 1134 = .ok (.iconst 2, 1)) ∧ (decode cL_law 1135 = .ok (.iadd, 1)) ∧ (decode cL_law 1136 = .ok (.iaload, 1)) := by decide +kernel
theorem dL_law_1119 : decode cL_law 1119 = .ok (.iconst 3, 1) := dg_f2.1
theorem dL_law_1120 : decode cL_law 1120 = .ok (.iadd, 1) := dg_f2.2.1
theorem dL_law_1121 : decode cL_law 1121 = .ok (.iaload, 1) := dg_f2.2.2.1
theorem dL_law_1122 : decode cL_law 1122 = .ok (.invokevirtual 159, 3) := dg_f2.2.2.2.1
theorem dL_law_1125 : decode cL_law 1125 = .ok (.pop, 1) := dg_f2.2.2.2.2.1
theorem dL_law_1126 : decode cL_law 1126 = .ok (.aload_n 2, 1) := dg_f2.2.2.2.2.2.1
theorem dL_law_1127 : decode cL_law 1127 = .ok (.aload_n 0, 1) := dg_f2.2.2.2.2.2.2.1
theorem dL_law_1128 : decode cL_law 1128 = .ok (.iload_n 3, 1) := dg_f2.2.2.2.2.2.2.2.1
theorem dL_law_1129 : decode cL_law 1129 = .ok (.iconst 1, 1) := dg_f2.2.2.2.2.2.2.2.2.1
theorem dL_law_1130 : decode cL_law 1130 = .ok (.iadd, 1) := dg_f2.2.2.2.2.2.2.2.2.2.1
theorem dL_law_1131 : decode cL_law 1131 = .ok (.iaload, 1) := dg_f2.2.2.2.2.2.2.2.2.2.2.1
theorem dL_law_1132 : decode cL_law 1132 = .ok (.aload_n 0, 1) := dg_f2.2.2.2.2.2.2.2.2.2.2.2.1
theorem dL_law_1133 : decode cL_law 1133 = .ok (.iload_n 3, 1) := dg_f2.2.2.2.2.2.2.2.2.2.2.2.2.1
theorem dL_law_1134 : decode cL_law 1134 = .ok (.iconst 2, 1) := dg_f2.2.2.2.2.2.2.2.2.2.2.2.2.2.1
theorem dL_law_1135 : decode cL_law 1135 = .ok (.iadd, 1) := dg_f2.2.2.2.2.2.2.2.2.2.2.2.2.2.2.1
theorem dL_law_1136 : decode cL_law 1136 = .ok (.iaload, 1) := dg_f2.2.2.2.2.2.2.2.2.2.2.2.2.2.2.2
theorem dg_f3 : (decode cL_law 1137 = .ok (.aload_n 0, 1)) ∧ (decode cL_law 1138 = .ok (.iload_n 3, 1)) ∧ (decode cL_law 1139 = .ok (.iconst 3, 1)) ∧ (decode cL_law 1140 = .ok (.iadd, 1)) ∧ (decode cL_law 1141 = .ok (.iaload, 1)) ∧ (decode cL_law 1142 = .ok (.invokevirtual 162, 3)) ∧ (decode cL_law 1145 = .ok (.pop, 1)) ∧ (decode cL_law 1146 = .ok (.goto 135, 3)) ∧ (decode cL_law 1149 = .ok (.aload_n 1, 1)) ∧ (decode cL_law 1150 = .ok (.aload_n 0, 1)) ∧ (decode cL_law 1151 = .ok (.iload_n 3, 1)) ∧ (decode cL_law 1152 = .ok (.iconst 1, 1)) ∧ (decode cL_law 1153 = .ok (.iadd, 1)) ∧ (decode cL_law 1154 = .ok (.iaload, 1)) ∧ (decode cL_law 1155 = .ok (.aload_n 0, 1)) ∧ (decode cL_law 1156 = .ok (.iload_n 3, 1)) := by decide +kernel
theorem dL_law_1137 : decode cL_law 1137 = .ok (.aload_n 0, 1) := dg_f3.1
theorem dL_law_1138 : decode cL_law 1138 = .ok (.iload_n 3, 1) := dg_f3.2.1
theorem dL_law_1139 : decode cL_law 1139 = .ok (.iconst 3, 1) := dg_f3.2.2.1
theorem dL_law_1140 : decode cL_law 1140 = .ok (.iadd, 1) := dg_f3.2.2.2.1
theorem dL_law_1141 : decode cL_law 1141 = .ok (.iaload, 1) := dg_f3.2.2.2.2.1
theorem dL_law_1142 : decode cL_law 1142 = .ok (.invokevirtual 162, 3) := dg_f3.2.2.2.2.2.1
theorem dL_law_1145 : decode cL_law 1145 = .ok (.pop, 1) := dg_f3.2.2.2.2.2.2.1
theorem dL_law_1146 : decode cL_law 1146 = .ok (.goto 135, 3) := dg_f3.2.2.2.2.2.2.2.1
theorem dL_law_1149 : decode cL_law 1149 = .ok (.aload_n 1, 1) := dg_f3.2.2.2.2.2.2.2.2.1
theorem dL_law_1150 : decode cL_law 1150 = .ok (.aload_n 0, 1) := dg_f3.2.2.2.2.2.2.2.2.2.1
theorem dL_law_1151 : decode cL_law 1151 = .ok (.iload_n 3, 1) := dg_f3.2.2.2.2.2.2.2.2.2.2.1
theorem dL_law_1152 : decode cL_law 1152 = .ok (.iconst 1, 1) := dg_f3.2.2.2.2.2.2.2.2.2.2.2.1
theorem dL_law_1153 : decode cL_law 1153 = .ok (.iadd, 1) := dg_f3.2.2.2.2.2.2.2.2.2.2.2.2.1
theorem dL_law_1154 : decode cL_law 1154 = .ok (.iaload, 1) := dg_f3.2.2.2.2.2.2.2.2.2.2.2.2.2.1
theorem dL_law_1155 : decode cL_law 1155 = .ok (.aload_n 0, 1) := dg_f3.2.2.2.2.2.2.2.2.2.2.2.2.2.2.1
theorem dL_law_1156 : decode cL_law 1156 = .ok (.iload_n 3, 1) := dg_f3.2.2.2.2.2.2.2.2.2.2.2.2.2.2.2
theorem dg_f4 : (decode cL_law 1157 = .ok (.iconst 2, 1)) ∧ (decode cL_law 1158 = .ok (.iadd, 1)) ∧ (decode cL_law 1159 = .ok (.iaload, 1)) ∧ (decode cL_law 1160 = .ok (.aload_n 0, 1)) ∧ (decode cL_law 1161 = .ok (.iload_n 3, 1)) ∧ (decode cL_law 1162 = .ok (.iconst 3, 1)) ∧ (decode cL_law 1163 = .ok (.iadd, 1)) ∧ (decode cL_law 1164 = .ok (.iaload, 1)) ∧ (decode cL_law 1165 = .ok (.invokevirtual 163, 3)) ∧ (decode cL_law 1168 = .ok (.pop, 1)) ∧ (decode cL_law 1169 = .ok (.aload_n 2, 1)) ∧ (decode cL_law 1170 = .ok (.aload_n 0, 1)) ∧ (decode cL_law 1171 = .ok (.iload_n 3, 1)) ∧ (decode cL_law 1172 = .ok (.iconst 1, 1)) ∧ (decode cL_law 1173 = .ok (.iadd, 1)) ∧ (decode cL_law 1174 = .ok (.iaload, 1)) := by decide +kernel
theorem dL_law_1157 : decode cL_law 1157 = .ok (.iconst 2, 1) := dg_f4.1
theorem dL_law_1158 : decode cL_law 1158 = .ok (.iadd, 1) := dg_f4.2.1
theorem dL_law_1159 : decode cL_law 1159 = .ok (.iaload, 1) := dg_f4.2.2.1
theorem dL_law_1160 : decode cL_law 1160 = .ok (.aload_n 0, 1) := dg_f4.2.2.2.1
theorem dL_law_1161 : decode cL_law 1161 = .ok (.iload_n 3, 1) := dg_f4.2.2.2.2.1
theorem dL_law_1162 : decode cL_law 1162 = .ok (.iconst 3, 1) := dg_f4.2.2.2.2.2.1
theorem dL_law_1163 : decode cL_law 1163 = .ok (.iadd, 1) := dg_f4.2.2.2.2.2.2.1
theorem dL_law_1164 : decode cL_law 1164 = .ok (.iaload, 1) := dg_f4.2.2.2.2.2.2.2.1
theorem dL_law_1165 : decode cL_law 1165 = .ok (.invokevirtual 163, 3) := dg_f4.2.2.2.2.2.2.2.2.1
theorem dL_law_1168 : decode cL_law 1168 = .ok (.pop, 1) := dg_f4.2.2.2.2.2.2.2.2.2.1
theorem dL_law_1169 : decode cL_law 1169 = .ok (.aload_n 2, 1) := dg_f4.2.2.2.2.2.2.2.2.2.2.1
theorem dL_law_1170 : decode cL_law 1170 = .ok (.aload_n 0, 1) := dg_f4.2.2.2.2.2.2.2.2.2.2.2.1
theorem dL_law_1171 : decode cL_law 1171 = .ok (.iload_n 3, 1) := dg_f4.2.2.2.2.2.2.2.2.2.2.2.2.1
theorem dL_law_1172 : decode cL_law 1172 = .ok (.iconst 1, 1) := dg_f4.2.2.2.2.2.2.2.2.2.2.2.2.2.1
theorem dL_law_1173 : decode cL_law 1173 = .ok (.iadd, 1) := dg_f4.2.2.2.2.2.2.2.2.2.2.2.2.2.2.1
theorem dL_law_1174 : decode cL_law 1174 = .ok (.iaload, 1) := dg_f4.2.2.2.2.2.2.2.2.2.2.2.2.2.2.2
theorem dg_f5 : (decode cL_law 1175 = .ok (.aload_n 0, 1)) ∧ (decode cL_law 1176 = .ok (.iload_n 3, 1)) ∧ (decode cL_law 1177 = .ok (.iconst 2, 1)) ∧ (decode cL_law 1178 = .ok (.iadd, 1)) ∧ (decode cL_law 1179 = .ok (.iaload, 1)) ∧ (decode cL_law 1180 = .ok (.aload_n 0, 1)) ∧ (decode cL_law 1181 = .ok (.iload_n 3, 1)) ∧ (decode cL_law 1182 = .ok (.iconst 3, 1)) ∧ (decode cL_law 1183 = .ok (.iadd, 1)) ∧ (decode cL_law 1184 = .ok (.iaload, 1)) ∧ (decode cL_law 1185 = .ok (.invokevirtual 166, 3)) ∧ (decode cL_law 1188 = .ok (.pop, 1)) ∧ (decode cL_law 1189 = .ok (.goto 92, 3)) ∧ (decode cL_law 1192 = .ok (.aload_n 1, 1)) ∧ (decode cL_law 1193 = .ok (.aload_n 0, 1)) ∧ (decode cL_law 1194 = .ok (.iload_n 3, 1)) := by decide +kernel
theorem dL_law_1175 : decode cL_law 1175 = .ok (.aload_n 0, 1) := dg_f5.1
theorem dL_law_1176 : decode cL_law 1176 = .ok (.iload_n 3, 1) := dg_f5.2.1
theorem dL_law_1177 : decode cL_law 1177 = .ok (.iconst 2, 1) := dg_f5.2.2.1
theorem dL_law_1178 : decode cL_law 1178 = .ok (.iadd, 1) := dg_f5.2.2.2.1
theorem dL_law_1179 : decode cL_law 1179 = .ok (.iaload, 1) := dg_f5.2.2.2.2.1
theorem dL_law_1180 : decode cL_law 1180 = .ok (.aload_n 0, 1) := dg_f5.2.2.2.2.2.1
theorem dL_law_1181 : decode cL_law 1181 = .ok (.iload_n 3, 1) := dg_f5.2.2.2.2.2.2.1
theorem dL_law_1182 : decode cL_law 1182 = .ok (.iconst 3, 1) := dg_f5.2.2.2.2.2.2.2.1
theorem dL_law_1183 : decode cL_law 1183 = .ok (.iadd, 1) := dg_f5.2.2.2.2.2.2.2.2.1
theorem dL_law_1184 : decode cL_law 1184 = .ok (.iaload, 1) := dg_f5.2.2.2.2.2.2.2.2.2.1
theorem dL_law_1185 : decode cL_law 1185 = .ok (.invokevirtual 166, 3) := dg_f5.2.2.2.2.2.2.2.2.2.2.1
theorem dL_law_1188 : decode cL_law 1188 = .ok (.pop, 1) := dg_f5.2.2.2.2.2.2.2.2.2.2.2.1
theorem dL_law_1189 : decode cL_law 1189 = .ok (.goto 92, 3) := dg_f5.2.2.2.2.2.2.2.2.2.2.2.2.1
theorem dL_law_1192 : decode cL_law 1192 = .ok (.aload_n 1, 1) := dg_f5.2.2.2.2.2.2.2.2.2.2.2.2.2.1
theorem dL_law_1193 : decode cL_law 1193 = .ok (.aload_n 0, 1) := dg_f5.2.2.2.2.2.2.2.2.2.2.2.2.2.2.1
theorem dL_law_1194 : decode cL_law 1194 = .ok (.iload_n 3, 1) := dg_f5.2.2.2.2.2.2.2.2.2.2.2.2.2.2.2
theorem dg_f6 : (decode cL_law 1195 = .ok (.iconst 1, 1)) ∧ (decode cL_law 1196 = .ok (.iadd, 1)) ∧ (decode cL_law 1197 = .ok (.iaload, 1)) ∧ (decode cL_law 1198 = .ok (.aload_n 0, 1)) ∧ (decode cL_law 1199 = .ok (.iload_n 3, 1)) ∧ (decode cL_law 1200 = .ok (.iconst 2, 1)) ∧ (decode cL_law 1201 = .ok (.iadd, 1)) ∧ (decode cL_law 1202 = .ok (.iaload, 1)) ∧ (decode cL_law 1203 = .ok (.aload_n 0, 1)) ∧ (decode cL_law 1204 = .ok (.iload_n 3, 1)) ∧ (decode cL_law 1205 = .ok (.iconst 3, 1)) ∧ (decode cL_law 1206 = .ok (.iadd, 1)) ∧ (decode cL_law 1207 = .ok (.iaload, 1)) ∧ (decode cL_law 1208 = .ok (.aload_n 0, 1)) ∧ (decode cL_law 1209 = .ok (.iload_n 3, 1)) ∧ (decode cL_law 1210 = .ok (.iconst 4, 1)) := by decide +kernel
theorem dL_law_1195 : decode cL_law 1195 = .ok (.iconst 1, 1) := dg_f6.1
theorem dL_law_1196 : decode cL_law 1196 = .ok (.iadd, 1) := dg_f6.2.1
theorem dL_law_1197 : decode cL_law 1197 = .ok (.iaload, 1) := dg_f6.2.2.1
theorem dL_law_1198 : decode cL_law 1198 = .ok (.aload_n 0, 1) := dg_f6.2.2.2.1
theorem dL_law_1199 : decode cL_law 1199 = .ok (.iload_n 3, 1) := dg_f6.2.2.2.2.1
theorem dL_law_1200 : decode cL_law 1200 = .ok (.iconst 2, 1) := dg_f6.2.2.2.2.2.1
theorem dL_law_1201 : decode cL_law 1201 = .ok (.iadd, 1) := dg_f6.2.2.2.2.2.2.1
theorem dL_law_1202 : decode cL_law 1202 = .ok (.iaload, 1) := dg_f6.2.2.2.2.2.2.2.1
theorem dL_law_1203 : decode cL_law 1203 = .ok (.aload_n 0, 1) := dg_f6.2.2.2.2.2.2.2.2.1
theorem dL_law_1204 : decode cL_law 1204 = .ok (.iload_n 3, 1) := dg_f6.2.2.2.2.2.2.2.2.2.1
theorem dL_law_1205 : decode cL_law 1205 = .ok (.iconst 3, 1) := dg_f6.2.2.2.2.2.2.2.2.2.2.1
theorem dL_law_1206 : decode cL_law 1206 = .ok (.iadd, 1) := dg_f6.2.2.2.2.2.2.2.2.2.2.2.1
theorem dL_law_1207 : decode cL_law 1207 = .ok (.iaload, 1) := dg_f6.2.2.2.2.2.2.2.2.2.2.2.2.1
theorem dL_law_1208 : decode cL_law 1208 = .ok (.aload_n 0, 1) := dg_f6.2.2.2.2.2.2.2.2.2.2.2.2.2.1
theorem dL_law_1209 : decode cL_law 1209 = .ok (.iload_n 3, 1) := dg_f6.2.2.2.2.2.2.2.2.2.2.2.2.2.2.1
theorem dL_law_1210 : decode cL_law 1210 = .ok (.iconst 4, 1) := dg_f6.2.2.2.2.2.2.2.2.2.2.2.2.2.2.2
theorem dg_f7 : (decode cL_law 1211 = .ok (.iadd, 1)) ∧ (decode cL_law 1212 = .ok (.iaload, 1)) ∧ (decode cL_law 1213 = .ok (.invokevirtual 167, 3)) ∧ (decode cL_law 1216 = .ok (.pop, 1)) ∧ (decode cL_law 1217 = .ok (.aload_n 2, 1)) ∧ (decode cL_law 1218 = .ok (.aload_n 0, 1)) ∧ (decode cL_law 1219 = .ok (.iload_n 3, 1)) ∧ (decode cL_law 1220 = .ok (.iconst 1, 1)) ∧ (decode cL_law 1221 = .ok (.iadd, 1)) ∧ (decode cL_law 1222 = .ok (.iaload, 1)) ∧ (decode cL_law 1223 = .ok (.aload_n 0, 1)) ∧ (decode cL_law 1224 = .ok (.iload_n 3, 1)) ∧ (decode cL_law 1225 = .ok (.iconst 2, 1)) ∧ (decode cL_law 1226 = .ok (.iadd, 1)) ∧ (decode cL_law 1227 = .ok (.iaload, 1)) ∧ (decode cL_law 1228 = .ok (.aload_n 0, 1)) := by decide +kernel
theorem dL_law_1211 : decode cL_law 1211 = .ok (.iadd, 1) := dg_f7.1
theorem dL_law_1212 : decode cL_law 1212 = .ok (.iaload, 1) := dg_f7.2.1
theorem dL_law_1213 : decode cL_law 1213 = .ok (.invokevirtual 167, 3) := dg_f7.2.2.1
theorem dL_law_1216 : decode cL_law 1216 = .ok (.pop, 1) := dg_f7.2.2.2.1
theorem dL_law_1217 : decode cL_law 1217 = .ok (.aload_n 2, 1) := dg_f7.2.2.2.2.1
theorem dL_law_1218 : decode cL_law 1218 = .ok (.aload_n 0, 1) := dg_f7.2.2.2.2.2.1
theorem dL_law_1219 : decode cL_law 1219 = .ok (.iload_n 3, 1) := dg_f7.2.2.2.2.2.2.1
theorem dL_law_1220 : decode cL_law 1220 = .ok (.iconst 1, 1) := dg_f7.2.2.2.2.2.2.2.1
theorem dL_law_1221 : decode cL_law 1221 = .ok (.iadd, 1) := dg_f7.2.2.2.2.2.2.2.2.1
theorem dL_law_1222 : decode cL_law 1222 = .ok (.iaload, 1) := dg_f7.2.2.2.2.2.2.2.2.2.1
theorem dL_law_1223 : decode cL_law 1223 = .ok (.aload_n 0, 1) := dg_f7.2.2.2.2.2.2.2.2.2.2.1
theorem dL_law_1224 : decode cL_law 1224 = .ok (.iload_n 3, 1) := dg_f7.2.2.2.2.2.2.2.2.2.2.2.1
theorem dL_law_1225 : decode cL_law 1225 = .ok (.iconst 2, 1) := dg_f7.2.2.2.2.2.2.2.2.2.2.2.2.1
theorem dL_law_1226 : decode cL_law 1226 = .ok (.iadd, 1) := dg_f7.2.2.2.2.2.2.2.2.2.2.2.2.2.1
theorem dL_law_1227 : decode cL_law 1227 = .ok (.iaload, 1) := dg_f7.2.2.2.2.2.2.2.2.2.2.2.2.2.2.1
theorem dL_law_1228 : decode cL_law 1228 = .ok (.aload_n 0, 1) := dg_f7.2.2.2.2.2.2.2.2.2.2.2.2.2.2.2
theorem dg_f8 : (decode cL_law 1229 = .ok (.iload_n 3, 1)) ∧ (decode cL_law 1230 = .ok (.iconst 3, 1)) ∧ (decode cL_law 1231 = .ok (.iadd, 1)) ∧ (decode cL_law 1232 = .ok (.iaload, 1)) ∧ (decode cL_law 1233 = .ok (.aload_n 0, 1)) ∧ (decode cL_law 1234 = .ok (.iload_n 3, 1)) ∧ (decode cL_law 1235 = .ok (.iconst 4, 1)) ∧ (decode cL_law 1236 = .ok (.iadd, 1)) ∧ (decode cL_law 1237 = .ok (.iaload, 1)) ∧ (decode cL_law 1238 = .ok (.invokevirtual 171, 3)) ∧ (decode cL_law 1241 = .ok (.pop, 1)) ∧ (decode cL_law 1242 = .ok (.goto 39, 3)) ∧ (decode cL_law 1245 = .ok (.aload_n 1, 1)) ∧ (decode cL_law 1246 = .ok (.invokevirtual 172, 3)) ∧ (decode cL_law 1249 = .ok (.pop, 1)) ∧ (decode cL_law 1250 = .ok (.aload_n 2, 1)) := by decide +kernel
theorem dL_law_1229 : decode cL_law 1229 = .ok (.iload_n 3, 1) := dg_f8.1
theorem dL_law_1230 : decode cL_law 1230 = .ok (.iconst 3, 1) := dg_f8.2.1
theorem dL_law_1231 : decode cL_law 1231 = .ok (.iadd, 1) := dg_f8.2.2.1
theorem dL_law_1232 : decode cL_law 1232 = .ok (.iaload, 1) := dg_f8.2.2.2.1
theorem dL_law_1233 : decode cL_law 1233 = .ok (.aload_n 0, 1) := dg_f8.2.2.2.2.1
theorem dL_law_1234 : decode cL_law 1234 = .ok (.iload_n 3, 1) := dg_f8.2.2.2.2.2.1
theorem dL_law_1235 : decode cL_law 1235 = .ok (.iconst 4, 1) := dg_f8.2.2.2.2.2.2.1
theorem dL_law_1236 : decode cL_law 1236 = .ok (.iadd, 1) := dg_f8.2.2.2.2.2.2.2.1
theorem dL_law_1237 : decode cL_law 1237 = .ok (.iaload, 1) := dg_f8.2.2.2.2.2.2.2.2.1
theorem dL_law_1238 : decode cL_law 1238 = .ok (.invokevirtual 171, 3) := dg_f8.2.2.2.2.2.2.2.2.2.1
theorem dL_law_1241 : decode cL_law 1241 = .ok (.pop, 1) := dg_f8.2.2.2.2.2.2.2.2.2.2.1
theorem dL_law_1242 : decode cL_law 1242 = .ok (.goto 39, 3) := dg_f8.2.2.2.2.2.2.2.2.2.2.2.1
theorem dL_law_1245 : decode cL_law 1245 = .ok (.aload_n 1, 1) := dg_f8.2.2.2.2.2.2.2.2.2.2.2.2.1
theorem dL_law_1246 : decode cL_law 1246 = .ok (.invokevirtual 172, 3) := dg_f8.2.2.2.2.2.2.2.2.2.2.2.2.2.1
theorem dL_law_1249 : decode cL_law 1249 = .ok (.pop, 1) := dg_f8.2.2.2.2.2.2.2.2.2.2.2.2.2.2.1
theorem dL_law_1250 : decode cL_law 1250 = .ok (.aload_n 2, 1) := dg_f8.2.2.2.2.2.2.2.2.2.2.2.2.2.2.2
theorem dg_f9 : (decode cL_law 1251 = .ok (.invokevirtual 175, 3)) ∧ (decode cL_law 1254 = .ok (.pop, 1)) ∧ (decode cL_law 1255 = .ok (.goto 26, 3)) ∧ (decode cL_law 1258 = .ok (.aload_n 1, 1)) ∧ (decode cL_law 1259 = .ok (.aload_n 0, 1)) ∧ (decode cL_law 1260 = .ok (.iload_n 3, 1)) ∧ (decode cL_law 1261 = .ok (.iconst 1, 1)) ∧ (decode cL_law 1262 = .ok (.iadd, 1)) ∧ (decode cL_law 1263 = .ok (.iaload, 1)) ∧ (decode cL_law 1264 = .ok (.invokevirtual 176, 3)) ∧ (decode cL_law 1267 = .ok (.pop, 1)) ∧ (decode cL_law 1268 = .ok (.aload_n 2, 1)) ∧ (decode cL_law 1269 = .ok (.aload_n 0, 1)) ∧ (decode cL_law 1270 = .ok (.iload_n 3, 1)) ∧ (decode cL_law 1271 = .ok (.iconst 1, 1)) ∧ (decode cL_law 1272 = .ok (.iadd, 1)) := by decide +kernel
theorem dL_law_1251 : decode cL_law 1251 = .ok (.invokevirtual 175, 3) := dg_f9.1
theorem dL_law_1254 : decode cL_law 1254 = .ok (.pop, 1) := dg_f9.2.1
theorem dL_law_1255 : decode cL_law 1255 = .ok (.goto 26, 3) := dg_f9.2.2.1
theorem dL_law_1258 : decode cL_law 1258 = .ok (.aload_n 1, 1) := dg_f9.2.2.2.1
theorem dL_law_1259 : decode cL_law 1259 = .ok (.aload_n 0, 1) := dg_f9.2.2.2.2.1
theorem dL_law_1260 : decode cL_law 1260 = .ok (.iload_n 3, 1) := dg_f9.2.2.2.2.2.1
theorem dL_law_1261 : decode cL_law 1261 = .ok (.iconst 1, 1) := dg_f9.2.2.2.2.2.2.1
theorem dL_law_1262 : decode cL_law 1262 = .ok (.iadd, 1) := dg_f9.2.2.2.2.2.2.2.1
theorem dL_law_1263 : decode cL_law 1263 = .ok (.iaload, 1) := dg_f9.2.2.2.2.2.2.2.2.1
theorem dL_law_1264 : decode cL_law 1264 = .ok (.invokevirtual 176, 3) := dg_f9.2.2.2.2.2.2.2.2.2.1
theorem dL_law_1267 : decode cL_law 1267 = .ok (.pop, 1) := dg_f9.2.2.2.2.2.2.2.2.2.2.1
theorem dL_law_1268 : decode cL_law 1268 = .ok (.aload_n 2, 1) := dg_f9.2.2.2.2.2.2.2.2.2.2.2.1
theorem dL_law_1269 : decode cL_law 1269 = .ok (.aload_n 0, 1) := dg_f9.2.2.2.2.2.2.2.2.2.2.2.2.1
theorem dL_law_1270 : decode cL_law 1270 = .ok (.iload_n 3, 1) := dg_f9.2.2.2.2.2.2.2.2.2.2.2.2.2.1
theorem dL_law_1271 : decode cL_law 1271 = .ok (.iconst 1, 1) := dg_f9.2.2.2.2.2.2.2.2.2.2.2.2.2.2.1
theorem dL_law_1272 : decode cL_law 1272 = .ok (.iadd, 1) := dg_f9.2.2.2.2.2.2.2.2.2.2.2.2.2.2.2
theorem dg_f10 : (decode cL_law 1273 = .ok (.iaload, 1)) ∧ (decode cL_law 1274 = .ok (.invokevirtual 179, 3)) ∧ (decode cL_law 1277 = .ok (.pop, 1)) ∧ (decode cL_law 1278 = .ok (.goto 3, 3)) ∧ (decode cL_law 1281 = .ok (.iinc 3 5, 3)) ∧ (decode cL_law 1284 = .ok (.goto (-1266), 3)) ∧ (decode cL_law 1287 = .ok (.iconst 1, 1)) ∧ (decode cL_law 1288 = .ok (.ireturn, 1)) := by decide +kernel
theorem dL_law_1273 : decode cL_law 1273 = .ok (.iaload, 1) := dg_f10.1
theorem dL_law_1274 : decode cL_law 1274 = .ok (.invokevirtual 179, 3) := dg_f10.2.1
theorem dL_law_1277 : decode cL_law 1277 = .ok (.pop, 1) := dg_f10.2.2.1
theorem dL_law_1278 : decode cL_law 1278 = .ok (.goto 3, 3) := dg_f10.2.2.2.1
theorem dL_law_1281 : decode cL_law 1281 = .ok (.iinc 3 5, 3) := dg_f10.2.2.2.2.1
theorem dL_law_1284 : decode cL_law 1284 = .ok (.goto (-1266), 3) := dg_f10.2.2.2.2.2.1
theorem dL_law_1287 : decode cL_law 1287 = .ok (.iconst 1, 1) := dg_f10.2.2.2.2.2.2.1
theorem dL_law_1288 : decode cL_law 1288 = .ok (.ireturn, 1) := dg_f10.2.2.2.2.2.2.2
