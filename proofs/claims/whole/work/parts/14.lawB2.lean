theorem dL_960 : decode code 960 = .ok (.iload_n 3, 1) := by decide +kernel
theorem dL_961 : decode code 961 = .ok (.iconst 2, 1) := by decide +kernel
theorem dL_962 : decode code 962 = .ok (.iadd, 1) := by decide +kernel
theorem dL_963 : decode code 963 = .ok (.iaload, 1) := by decide +kernel
theorem dL_964 : decode code 964 = .ok (.aload_n 0, 1) := by decide +kernel
theorem dL_965 : decode code 965 = .ok (.iload_n 3, 1) := by decide +kernel
theorem dL_966 : decode code 966 = .ok (.iconst 3, 1) := by decide +kernel
theorem dL_967 : decode code 967 = .ok (.iadd, 1) := by decide +kernel
theorem dL_968 : decode code 968 = .ok (.iaload, 1) := by decide +kernel
theorem dL_969 : decode code 969 = .ok (.invokevirtual 112, 3) := by decide +kernel
theorem dL_972 : decode code 972 = .ok (.aload_n 2, 1) := by decide +kernel
theorem dL_973 : decode code 973 = .ok (.aload_n 0, 1) := by decide +kernel
theorem dL_974 : decode code 974 = .ok (.iload_n 3, 1) := by decide +kernel
theorem dL_975 : decode code 975 = .ok (.iconst 1, 1) := by decide +kernel
theorem dL_976 : decode code 976 = .ok (.iadd, 1) := by decide +kernel
theorem dL_977 : decode code 977 = .ok (.iaload, 1) := by decide +kernel
theorem dL_978 : decode code 978 = .ok (.aload_n 0, 1) := by decide +kernel
theorem dL_979 : decode code 979 = .ok (.iload_n 3, 1) := by decide +kernel
theorem dL_980 : decode code 980 = .ok (.iconst 2, 1) := by decide +kernel
theorem dL_981 : decode code 981 = .ok (.iadd, 1) := by decide +kernel
theorem dL_982 : decode code 982 = .ok (.iaload, 1) := by decide +kernel
theorem dL_983 : decode code 983 = .ok (.aload_n 0, 1) := by decide +kernel
theorem dL_984 : decode code 984 = .ok (.iload_n 3, 1) := by decide +kernel
theorem dL_985 : decode code 985 = .ok (.iconst 3, 1) := by decide +kernel
theorem dL_986 : decode code 986 = .ok (.iadd, 1) := by decide +kernel
theorem dL_987 : decode code 987 = .ok (.iaload, 1) := by decide +kernel
theorem dL_988 : decode code 988 = .ok (.invokevirtual 115, 3) := by decide +kernel
theorem dL_991 : decode code 991 = .ok (.if_icmp .eq 745, 3) := by decide +kernel
theorem dL_994 : decode code 994 = .ok (.iconst 0, 1) := by decide +kernel
theorem dL_995 : decode code 995 = .ok (.ireturn, 1) := by decide +kernel
theorem dL_996 : decode code 996 = .ok (.aload_n 1, 1) := by decide +kernel
theorem dL_997 : decode code 997 = .ok (.aload_n 0, 1) := by decide +kernel
theorem dL_998 : decode code 998 = .ok (.iload_n 3, 1) := by decide +kernel
theorem dL_999 : decode code 999 = .ok (.iconst 1, 1) := by decide +kernel
theorem dL_1000 : decode code 1000 = .ok (.iadd, 1) := by decide +kernel
theorem dL_1001 : decode code 1001 = .ok (.iaload, 1) := by decide +kernel
theorem dL_1002 : decode code 1002 = .ok (.aload_n 0, 1) := by decide +kernel
theorem dL_1003 : decode code 1003 = .ok (.iload_n 3, 1) := by decide +kernel
theorem dL_1004 : decode code 1004 = .ok (.iconst 2, 1) := by decide +kernel
theorem dL_1005 : decode code 1005 = .ok (.iadd, 1) := by decide +kernel
theorem dL_1006 : decode code 1006 = .ok (.iaload, 1) := by decide +kernel
theorem dL_1007 : decode code 1007 = .ok (.invokevirtual 116, 3) := by decide +kernel
theorem dL_1010 : decode code 1010 = .ok (.aload_n 2, 1) := by decide +kernel
theorem dL_1011 : decode code 1011 = .ok (.aload_n 0, 1) := by decide +kernel
theorem dL_1012 : decode code 1012 = .ok (.iload_n 3, 1) := by decide +kernel
theorem dL_1013 : decode code 1013 = .ok (.iconst 1, 1) := by decide +kernel
theorem dL_1014 : decode code 1014 = .ok (.iadd, 1) := by decide +kernel
theorem dL_1015 : decode code 1015 = .ok (.iaload, 1) := by decide +kernel
theorem dL_1016 : decode code 1016 = .ok (.aload_n 0, 1) := by decide +kernel
theorem dL_1017 : decode code 1017 = .ok (.iload_n 3, 1) := by decide +kernel
theorem dL_1018 : decode code 1018 = .ok (.iconst 2, 1) := by decide +kernel
theorem dL_1019 : decode code 1019 = .ok (.iadd, 1) := by decide +kernel
theorem dL_1020 : decode code 1020 = .ok (.iaload, 1) := by decide +kernel
theorem dL_1021 : decode code 1021 = .ok (.invokevirtual 119, 3) := by decide +kernel
theorem dL_1024 : decode code 1024 = .ok (.if_icmp .eq 712, 3) := by decide +kernel
theorem dL_1027 : decode code 1027 = .ok (.iconst 0, 1) := by decide +kernel
theorem dL_1028 : decode code 1028 = .ok (.ireturn, 1) := by decide +kernel
theorem dL_1029 : decode code 1029 = .ok (.aload_n 1, 1) := by decide +kernel
theorem dL_1030 : decode code 1030 = .ok (.aload_n 0, 1) := by decide +kernel
theorem dL_1031 : decode code 1031 = .ok (.iload_n 3, 1) := by decide +kernel
theorem dL_1032 : decode code 1032 = .ok (.iconst 1, 1) := by decide +kernel
theorem dL_1033 : decode code 1033 = .ok (.iadd, 1) := by decide +kernel
theorem dL_1034 : decode code 1034 = .ok (.iaload, 1) := by decide +kernel
theorem dL_1035 : decode code 1035 = .ok (.invokevirtual 120, 3) := by decide +kernel
theorem dL_1038 : decode code 1038 = .ok (.aload_n 2, 1) := by decide +kernel
theorem dL_1039 : decode code 1039 = .ok (.aload_n 0, 1) := by decide +kernel
theorem dL_1040 : decode code 1040 = .ok (.iload_n 3, 1) := by decide +kernel
theorem dL_1041 : decode code 1041 = .ok (.iconst 1, 1) := by decide +kernel
theorem dL_1042 : decode code 1042 = .ok (.iadd, 1) := by decide +kernel
theorem dL_1043 : decode code 1043 = .ok (.iaload, 1) := by decide +kernel
theorem dL_1044 : decode code 1044 = .ok (.invokevirtual 123, 3) := by decide +kernel
theorem dL_1047 : decode code 1047 = .ok (.if_icmp .eq 689, 3) := by decide +kernel
theorem dL_1050 : decode code 1050 = .ok (.iconst 0, 1) := by decide +kernel
theorem dL_1051 : decode code 1051 = .ok (.ireturn, 1) := by decide +kernel
theorem dL_1052 : decode code 1052 = .ok (.aload_n 1, 1) := by decide +kernel
theorem dL_1053 : decode code 1053 = .ok (.aload_n 0, 1) := by decide +kernel
theorem dL_1054 : decode code 1054 = .ok (.iload_n 3, 1) := by decide +kernel
theorem dL_1055 : decode code 1055 = .ok (.iconst 1, 1) := by decide +kernel
theorem dL_1056 : decode code 1056 = .ok (.iadd, 1) := by decide +kernel
theorem dL_1057 : decode code 1057 = .ok (.iaload, 1) := by decide +kernel
theorem dL_1058 : decode code 1058 = .ok (.aload_n 0, 1) := by decide +kernel
theorem dL_1059 : decode code 1059 = .ok (.iload_n 3, 1) := by decide +kernel
theorem dL_1060 : decode code 1060 = .ok (.iconst 2, 1) := by decide +kernel
theorem dL_1061 : decode code 1061 = .ok (.iadd, 1) := by decide +kernel
theorem dL_1062 : decode code 1062 = .ok (.iaload, 1) := by decide +kernel
theorem dL_1063 : decode code 1063 = .ok (.aload_n 0, 1) := by decide +kernel
theorem dL_1064 : decode code 1064 = .ok (.iload_n 3, 1) := by decide +kernel
theorem dL_1065 : decode code 1065 = .ok (.iconst 3, 1) := by decide +kernel
theorem dL_1066 : decode code 1066 = .ok (.iadd, 1) := by decide +kernel
theorem dL_1067 : decode code 1067 = .ok (.iaload, 1) := by decide +kernel
theorem dL_1068 : decode code 1068 = .ok (.aload_n 0, 1) := by decide +kernel
theorem dL_1069 : decode code 1069 = .ok (.iload_n 3, 1) := by decide +kernel
theorem dL_1070 : decode code 1070 = .ok (.iconst 4, 1) := by decide +kernel
theorem dL_1071 : decode code 1071 = .ok (.iadd, 1) := by decide +kernel
theorem dL_1072 : decode code 1072 = .ok (.iaload, 1) := by decide +kernel
theorem dL_1073 : decode code 1073 = .ok (.ifCond .eq 7, 3) := by decide +kernel
theorem dL_1076 : decode code 1076 = .ok (.iconst 1, 1) := by decide +kernel
theorem dL_1077 : decode code 1077 = .ok (.goto 4, 3) := by decide +kernel
theorem dL_1080 : decode code 1080 = .ok (.iconst 0, 1) := by decide +kernel
theorem dL_1081 : decode code 1081 = .ok (.invokevirtual 124, 3) := by decide +kernel
theorem dL_1084 : decode code 1084 = .ok (.aload_n 2, 1) := by decide +kernel
theorem dL_1085 : decode code 1085 = .ok (.aload_n 0, 1) := by decide +kernel
theorem dL_1086 : decode code 1086 = .ok (.iload_n 3, 1) := by decide +kernel
theorem dL_1087 : decode code 1087 = .ok (.iconst 1, 1) := by decide +kernel
theorem dL_1088 : decode code 1088 = .ok (.iadd, 1) := by decide +kernel
theorem dL_1089 : decode code 1089 = .ok (.iaload, 1) := by decide +kernel
theorem dL_1090 : decode code 1090 = .ok (.aload_n 0, 1) := by decide +kernel
theorem dL_1091 : decode code 1091 = .ok (.iload_n 3, 1) := by decide +kernel
theorem dL_1092 : decode code 1092 = .ok (.iconst 2, 1) := by decide +kernel
theorem dL_1093 : decode code 1093 = .ok (.iadd, 1) := by decide +kernel
theorem dL_1094 : decode code 1094 = .ok (.iaload, 1) := by decide +kernel
theorem dL_1095 : decode code 1095 = .ok (.aload_n 0, 1) := by decide +kernel
theorem dL_1096 : decode code 1096 = .ok (.iload_n 3, 1) := by decide +kernel
theorem dL_1097 : decode code 1097 = .ok (.iconst 3, 1) := by decide +kernel
theorem dL_1098 : decode code 1098 = .ok (.iadd, 1) := by decide +kernel
theorem dL_1099 : decode code 1099 = .ok (.iaload, 1) := by decide +kernel
theorem dL_1100 : decode code 1100 = .ok (.aload_n 0, 1) := by decide +kernel
theorem dL_1101 : decode code 1101 = .ok (.iload_n 3, 1) := by decide +kernel
theorem dL_1102 : decode code 1102 = .ok (.iconst 4, 1) := by decide +kernel
theorem dL_1103 : decode code 1103 = .ok (.iadd, 1) := by decide +kernel
theorem dL_1104 : decode code 1104 = .ok (.iaload, 1) := by decide +kernel
theorem dL_1105 : decode code 1105 = .ok (.ifCond .eq 7, 3) := by decide +kernel
theorem dL_1108 : decode code 1108 = .ok (.iconst 1, 1) := by decide +kernel
theorem dL_1109 : decode code 1109 = .ok (.goto 4, 3) := by decide +kernel
theorem dL_1112 : decode code 1112 = .ok (.iconst 0, 1) := by decide +kernel
theorem dL_1113 : decode code 1113 = .ok (.invokevirtual 128, 3) := by decide +kernel
theorem dL_1116 : decode code 1116 = .ok (.lcmp, 1) := by decide +kernel
theorem dL_1117 : decode code 1117 = .ok (.ifCond .eq 619, 3) := by decide +kernel
theorem dL_1120 : decode code 1120 = .ok (.iconst 0, 1) := by decide +kernel
theorem dL_1121 : decode code 1121 = .ok (.ireturn, 1) := by decide +kernel
theorem dL_1122 : decode code 1122 = .ok (.aload_n 1, 1) := by decide +kernel
theorem dL_1123 : decode code 1123 = .ok (.aload_n 0, 1) := by decide +kernel
theorem dL_1124 : decode code 1124 = .ok (.iload_n 3, 1) := by decide +kernel
theorem dL_1125 : decode code 1125 = .ok (.iconst 1, 1) := by decide +kernel
theorem dL_1126 : decode code 1126 = .ok (.iadd, 1) := by decide +kernel
theorem dL_1127 : decode code 1127 = .ok (.iaload, 1) := by decide +kernel
theorem dL_1128 : decode code 1128 = .ok (.aload_n 0, 1) := by decide +kernel
theorem dL_1129 : decode code 1129 = .ok (.iload_n 3, 1) := by decide +kernel
theorem dL_1130 : decode code 1130 = .ok (.iconst 2, 1) := by decide +kernel
theorem dL_1131 : decode code 1131 = .ok (.iadd, 1) := by decide +kernel
theorem dL_1132 : decode code 1132 = .ok (.iaload, 1) := by decide +kernel
theorem dL_1133 : decode code 1133 = .ok (.aload_n 0, 1) := by decide +kernel
theorem dL_1134 : decode code 1134 = .ok (.iload_n 3, 1) := by decide +kernel
theorem dL_1135 : decode code 1135 = .ok (.iconst 3, 1) := by decide +kernel
theorem dL_1136 : decode code 1136 = .ok (.iadd, 1) := by decide +kernel
theorem dL_1137 : decode code 1137 = .ok (.iaload, 1) := by decide +kernel
theorem dL_1138 : decode code 1138 = .ok (.invokevirtual 129, 3) := by decide +kernel
theorem dL_1141 : decode code 1141 = .ok (.aload_n 2, 1) := by decide +kernel
theorem dL_1142 : decode code 1142 = .ok (.aload_n 0, 1) := by decide +kernel
theorem dL_1143 : decode code 1143 = .ok (.iload_n 3, 1) := by decide +kernel
theorem dL_1144 : decode code 1144 = .ok (.iconst 1, 1) := by decide +kernel
theorem dL_1145 : decode code 1145 = .ok (.iadd, 1) := by decide +kernel
theorem dL_1146 : decode code 1146 = .ok (.iaload, 1) := by decide +kernel
theorem dL_1147 : decode code 1147 = .ok (.aload_n 0, 1) := by decide +kernel
theorem dL_1148 : decode code 1148 = .ok (.iload_n 3, 1) := by decide +kernel
theorem dL_1149 : decode code 1149 = .ok (.iconst 2, 1) := by decide +kernel
theorem dL_1150 : decode code 1150 = .ok (.iadd, 1) := by decide +kernel
theorem dL_1151 : decode code 1151 = .ok (.iaload, 1) := by decide +kernel
theorem dL_1152 : decode code 1152 = .ok (.aload_n 0, 1) := by decide +kernel
theorem dL_1153 : decode code 1153 = .ok (.iload_n 3, 1) := by decide +kernel
theorem dL_1154 : decode code 1154 = .ok (.iconst 3, 1) := by decide +kernel
theorem dL_1155 : decode code 1155 = .ok (.iadd, 1) := by decide +kernel
theorem dL_1156 : decode code 1156 = .ok (.iaload, 1) := by decide +kernel
theorem dL_1157 : decode code 1157 = .ok (.invokevirtual 132, 3) := by decide +kernel
theorem dL_1160 : decode code 1160 = .ok (.if_icmp .eq 576, 3) := by decide +kernel
theorem dL_1163 : decode code 1163 = .ok (.iconst 0, 1) := by decide +kernel
theorem dL_1164 : decode code 1164 = .ok (.ireturn, 1) := by decide +kernel
theorem dL_1165 : decode code 1165 = .ok (.aload_n 1, 1) := by decide +kernel
theorem dL_1166 : decode code 1166 = .ok (.aload_n 0, 1) := by decide +kernel
theorem dL_1167 : decode code 1167 = .ok (.iload_n 3, 1) := by decide +kernel
theorem dL_1168 : decode code 1168 = .ok (.iconst 1, 1) := by decide +kernel
theorem dL_1169 : decode code 1169 = .ok (.iadd, 1) := by decide +kernel
theorem dL_1170 : decode code 1170 = .ok (.iaload, 1) := by decide +kernel
theorem dL_1171 : decode code 1171 = .ok (.aload_n 0, 1) := by decide +kernel
theorem dL_1172 : decode code 1172 = .ok (.iload_n 3, 1) := by decide +kernel
theorem dL_1173 : decode code 1173 = .ok (.iconst 2, 1) := by decide +kernel
theorem dL_1174 : decode code 1174 = .ok (.iadd, 1) := by decide +kernel
theorem dL_1175 : decode code 1175 = .ok (.iaload, 1) := by decide +kernel
theorem dL_1176 : decode code 1176 = .ok (.aload_n 0, 1) := by decide +kernel
theorem dL_1177 : decode code 1177 = .ok (.iload_n 3, 1) := by decide +kernel
theorem dL_1178 : decode code 1178 = .ok (.iconst 3, 1) := by decide +kernel
theorem dL_1179 : decode code 1179 = .ok (.iadd, 1) := by decide +kernel
theorem dL_1180 : decode code 1180 = .ok (.iaload, 1) := by decide +kernel
theorem dL_1181 : decode code 1181 = .ok (.invokevirtual 133, 3) := by decide +kernel
theorem dL_1184 : decode code 1184 = .ok (.aload_n 2, 1) := by decide +kernel
theorem dL_1185 : decode code 1185 = .ok (.aload_n 0, 1) := by decide +kernel
theorem dL_1186 : decode code 1186 = .ok (.iload_n 3, 1) := by decide +kernel
theorem dL_1187 : decode code 1187 = .ok (.iconst 1, 1) := by decide +kernel
theorem dL_1188 : decode code 1188 = .ok (.iadd, 1) := by decide +kernel
theorem dL_1189 : decode code 1189 = .ok (.iaload, 1) := by decide +kernel
theorem dL_1190 : decode code 1190 = .ok (.aload_n 0, 1) := by decide +kernel
theorem dL_1191 : decode code 1191 = .ok (.iload_n 3, 1) := by decide +kernel
theorem dL_1192 : decode code 1192 = .ok (.iconst 2, 1) := by decide +kernel
theorem dL_1193 : decode code 1193 = .ok (.iadd, 1) := by decide +kernel
theorem dL_1194 : decode code 1194 = .ok (.iaload, 1) := by decide +kernel
theorem dL_1195 : decode code 1195 = .ok (.aload_n 0, 1) := by decide +kernel
theorem dL_1196 : decode code 1196 = .ok (.iload_n 3, 1) := by decide +kernel
theorem dL_1197 : decode code 1197 = .ok (.iconst 3, 1) := by decide +kernel
theorem dL_1198 : decode code 1198 = .ok (.iadd, 1) := by decide +kernel
theorem dL_1199 : decode code 1199 = .ok (.iaload, 1) := by decide +kernel
theorem dL_1200 : decode code 1200 = .ok (.invokevirtual 137, 3) := by decide +kernel
theorem dL_1203 : decode code 1203 = .ok (.if_icmp .eq 533, 3) := by decide +kernel
theorem dL_1206 : decode code 1206 = .ok (.iconst 0, 1) := by decide +kernel
theorem dL_1207 : decode code 1207 = .ok (.ireturn, 1) := by decide +kernel
theorem dL_1208 : decode code 1208 = .ok (.aload_n 1, 1) := by decide +kernel
theorem dL_1209 : decode code 1209 = .ok (.aload_n 0, 1) := by decide +kernel
theorem dL_1210 : decode code 1210 = .ok (.iload_n 3, 1) := by decide +kernel
theorem dL_1211 : decode code 1211 = .ok (.iconst 1, 1) := by decide +kernel
theorem dL_1212 : decode code 1212 = .ok (.iadd, 1) := by decide +kernel
theorem dL_1213 : decode code 1213 = .ok (.iaload, 1) := by decide +kernel
theorem dL_1214 : decode code 1214 = .ok (.invokevirtual 138, 3) := by decide +kernel
theorem dL_1217 : decode code 1217 = .ok (.aload_n 2, 1) := by decide +kernel
theorem dL_1218 : decode code 1218 = .ok (.aload_n 0, 1) := by decide +kernel
theorem dL_1219 : decode code 1219 = .ok (.iload_n 3, 1) := by decide +kernel
theorem dL_1220 : decode code 1220 = .ok (.iconst 1, 1) := by decide +kernel
theorem dL_1221 : decode code 1221 = .ok (.iadd, 1) := by decide +kernel
theorem dL_1222 : decode code 1222 = .ok (.iaload, 1) := by decide +kernel
theorem dL_1223 : decode code 1223 = .ok (.invokevirtual 141, 3) := by decide +kernel
theorem dL_1226 : decode code 1226 = .ok (.if_icmp .eq 510, 3) := by decide +kernel
theorem dL_1229 : decode code 1229 = .ok (.iconst 0, 1) := by decide +kernel
theorem dL_1230 : decode code 1230 = .ok (.ireturn, 1) := by decide +kernel
theorem dL_1231 : decode code 1231 = .ok (.aload_n 1, 1) := by decide +kernel
theorem dL_1232 : decode code 1232 = .ok (.aload_n 0, 1) := by decide +kernel
theorem dL_1233 : decode code 1233 = .ok (.iload_n 3, 1) := by decide +kernel
theorem dL_1234 : decode code 1234 = .ok (.iconst 1, 1) := by decide +kernel
theorem dL_1235 : decode code 1235 = .ok (.iadd, 1) := by decide +kernel
theorem dL_1236 : decode code 1236 = .ok (.iaload, 1) := by decide +kernel
theorem dL_1237 : decode code 1237 = .ok (.aload_n 0, 1) := by decide +kernel
theorem dL_1238 : decode code 1238 = .ok (.iload_n 3, 1) := by decide +kernel
theorem dL_1239 : decode code 1239 = .ok (.iconst 2, 1) := by decide +kernel
theorem dL_1240 : decode code 1240 = .ok (.iadd, 1) := by decide +kernel
theorem dL_1241 : decode code 1241 = .ok (.iaload, 1) := by decide +kernel
theorem dL_1242 : decode code 1242 = .ok (.invokevirtual 142, 3) := by decide +kernel
theorem dL_1245 : decode code 1245 = .ok (.aload_n 2, 1) := by decide +kernel
theorem dL_1246 : decode code 1246 = .ok (.aload_n 0, 1) := by decide +kernel
theorem dL_1247 : decode code 1247 = .ok (.iload_n 3, 1) := by decide +kernel
theorem dL_1248 : decode code 1248 = .ok (.iconst 1, 1) := by decide +kernel
theorem dL_1249 : decode code 1249 = .ok (.iadd, 1) := by decide +kernel
theorem dL_1250 : decode code 1250 = .ok (.iaload, 1) := by decide +kernel
theorem dL_1251 : decode code 1251 = .ok (.aload_n 0, 1) := by decide +kernel
theorem dL_1252 : decode code 1252 = .ok (.iload_n 3, 1) := by decide +kernel
theorem dL_1253 : decode code 1253 = .ok (.iconst 2, 1) := by decide +kernel
theorem dL_1254 : decode code 1254 = .ok (.iadd, 1) := by decide +kernel
theorem dL_1255 : decode code 1255 = .ok (.iaload, 1) := by decide +kernel
theorem dL_1256 : decode code 1256 = .ok (.invokevirtual 145, 3) := by decide +kernel
theorem dL_1259 : decode code 1259 = .ok (.if_icmp .eq 477, 3) := by decide +kernel
theorem dL_1262 : decode code 1262 = .ok (.iconst 0, 1) := by decide +kernel
theorem dL_1263 : decode code 1263 = .ok (.ireturn, 1) := by decide +kernel
theorem dL_1264 : decode code 1264 = .ok (.aload_n 1, 1) := by decide +kernel
theorem dL_1265 : decode code 1265 = .ok (.aload_n 0, 1) := by decide +kernel
theorem dL_1266 : decode code 1266 = .ok (.iload_n 3, 1) := by decide +kernel
theorem dL_1267 : decode code 1267 = .ok (.iconst 1, 1) := by decide +kernel
theorem dL_1268 : decode code 1268 = .ok (.iadd, 1) := by decide +kernel
theorem dL_1269 : decode code 1269 = .ok (.iaload, 1) := by decide +kernel
theorem dL_1270 : decode code 1270 = .ok (.invokevirtual 146, 3) := by decide +kernel
theorem dL_1273 : decode code 1273 = .ok (.aload_n 2, 1) := by decide +kernel
theorem dL_1274 : decode code 1274 = .ok (.aload_n 0, 1) := by decide +kernel
theorem dL_1275 : decode code 1275 = .ok (.iload_n 3, 1) := by decide +kernel
theorem dL_1276 : decode code 1276 = .ok (.iconst 1, 1) := by decide +kernel
theorem dL_1277 : decode code 1277 = .ok (.iadd, 1) := by decide +kernel
theorem dL_1278 : decode code 1278 = .ok (.iaload, 1) := by decide +kernel
theorem dL_1279 : decode code 1279 = .ok (.invokevirtual 149, 3) := by decide +kernel
theorem dL_1282 : decode code 1282 = .ok (.if_icmp .eq 454, 3) := by decide +kernel
theorem dL_1285 : decode code 1285 = .ok (.iconst 0, 1) := by decide +kernel
theorem dL_1286 : decode code 1286 = .ok (.ireturn, 1) := by decide +kernel
theorem dL_1287 : decode code 1287 = .ok (.aload_n 1, 1) := by decide +kernel
theorem dL_1288 : decode code 1288 = .ok (.invokevirtual 150, 3) := by decide +kernel
theorem dL_1291 : decode code 1291 = .ok (.aload_n 2, 1) := by decide +kernel
theorem dL_1292 : decode code 1292 = .ok (.invokevirtual 153, 3) := by decide +kernel
theorem dL_1295 : decode code 1295 = .ok (.if_icmp .eq 441, 3) := by decide +kernel
theorem dL_1298 : decode code 1298 = .ok (.iconst 0, 1) := by decide +kernel
theorem dL_1299 : decode code 1299 = .ok (.ireturn, 1) := by decide +kernel
theorem dL_1300 : decode code 1300 = .ok (.aload_n 1, 1) := by decide +kernel
theorem dL_1301 : decode code 1301 = .ok (.aload_n 0, 1) := by decide +kernel
theorem dL_1302 : decode code 1302 = .ok (.iload_n 3, 1) := by decide +kernel
theorem dL_1303 : decode code 1303 = .ok (.iconst 1, 1) := by decide +kernel
theorem dL_1304 : decode code 1304 = .ok (.iadd, 1) := by decide +kernel
theorem dL_1305 : decode code 1305 = .ok (.iaload, 1) := by decide +kernel
theorem dL_1306 : decode code 1306 = .ok (.aload_n 0, 1) := by decide +kernel
theorem dL_1307 : decode code 1307 = .ok (.iload_n 3, 1) := by decide +kernel
theorem dL_1308 : decode code 1308 = .ok (.iconst 2, 1) := by decide +kernel
theorem dL_1309 : decode code 1309 = .ok (.iadd, 1) := by decide +kernel
theorem dL_1310 : decode code 1310 = .ok (.iaload, 1) := by decide +kernel
theorem dL_1311 : decode code 1311 = .ok (.aload_n 0, 1) := by decide +kernel
theorem dL_1312 : decode code 1312 = .ok (.iload_n 3, 1) := by decide +kernel
theorem dL_1313 : decode code 1313 = .ok (.iconst 3, 1) := by decide +kernel
theorem dL_1314 : decode code 1314 = .ok (.iadd, 1) := by decide +kernel
theorem dL_1315 : decode code 1315 = .ok (.iaload, 1) := by decide +kernel
theorem dL_1316 : decode code 1316 = .ok (.ifCond .eq 7, 3) := by decide +kernel
theorem dL_1319 : decode code 1319 = .ok (.iconst 1, 1) := by decide +kernel
theorem dL_1320 : decode code 1320 = .ok (.goto 4, 3) := by decide +kernel
theorem dL_1323 : decode code 1323 = .ok (.iconst 0, 1) := by decide +kernel
theorem dL_1324 : decode code 1324 = .ok (.invokevirtual 154, 3) := by decide +kernel
theorem dL_1327 : decode code 1327 = .ok (.aload_n 2, 1) := by decide +kernel
theorem dL_1328 : decode code 1328 = .ok (.aload_n 0, 1) := by decide +kernel
theorem dL_1329 : decode code 1329 = .ok (.iload_n 3, 1) := by decide +kernel
theorem dL_1330 : decode code 1330 = .ok (.iconst 1, 1) := by decide +kernel
theorem dL_1331 : decode code 1331 = .ok (.iadd, 1) := by decide +kernel
theorem dL_1332 : decode code 1332 = .ok (.iaload, 1) := by decide +kernel
theorem dL_1333 : decode code 1333 = .ok (.aload_n 0, 1) := by decide +kernel
