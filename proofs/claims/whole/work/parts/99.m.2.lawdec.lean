theorem dL_926 : decode code 926 = .ok (.iload_n 3, 1) := by decide +kernel
theorem dL_927 : decode code 927 = .ok (.iconst 1, 1) := by decide +kernel
theorem dL_928 : decode code 928 = .ok (.iadd, 1) := by decide +kernel
theorem dL_929 : decode code 929 = .ok (.iaload, 1) := by decide +kernel
theorem dL_930 : decode code 930 = .ok (.aload_n 0, 1) := by decide +kernel
theorem dL_931 : decode code 931 = .ok (.iload_n 3, 1) := by decide +kernel
theorem dL_932 : decode code 932 = .ok (.iconst 2, 1) := by decide +kernel
theorem dL_933 : decode code 933 = .ok (.iadd, 1) := by decide +kernel
theorem dL_934 : decode code 934 = .ok (.iaload, 1) := by decide +kernel
theorem dL_935 : decode code 935 = .ok (.aload_n 0, 1) := by decide +kernel
theorem dL_936 : decode code 936 = .ok (.iload_n 3, 1) := by decide +kernel
theorem dL_937 : decode code 937 = .ok (.iconst 3, 1) := by decide +kernel
theorem dL_938 : decode code 938 = .ok (.iadd, 1) := by decide +kernel
theorem dL_939 : decode code 939 = .ok (.iaload, 1) := by decide +kernel
theorem dL_940 : decode code 940 = .ok (.aload_n 0, 1) := by decide +kernel
theorem dL_941 : decode code 941 = .ok (.iload_n 3, 1) := by decide +kernel
theorem dL_942 : decode code 942 = .ok (.iconst 4, 1) := by decide +kernel
theorem dL_943 : decode code 943 = .ok (.iadd, 1) := by decide +kernel
theorem dL_944 : decode code 944 = .ok (.iaload, 1) := by decide +kernel
theorem dL_945 : decode code 945 = .ok (.invokevirtual 104, 3) := by decide +kernel
theorem dL_948 : decode code 948 = .ok (.lcmp, 1) := by decide +kernel
theorem dL_949 : decode code 949 = .ok (.ifCond .eq 692, 3) := by decide +kernel
theorem dL_952 : decode code 952 = .ok (.iconst 0, 1) := by decide +kernel
theorem dL_953 : decode code 953 = .ok (.ireturn, 1) := by decide +kernel
theorem dL_954 : decode code 954 = .ok (.aload_n 1, 1) := by decide +kernel
theorem dL_955 : decode code 955 = .ok (.aload_n 0, 1) := by decide +kernel
theorem dL_956 : decode code 956 = .ok (.iload_n 3, 1) := by decide +kernel
theorem dL_957 : decode code 957 = .ok (.iconst 1, 1) := by decide +kernel
theorem dL_958 : decode code 958 = .ok (.iadd, 1) := by decide +kernel
theorem dL_959 : decode code 959 = .ok (.iaload, 1) := by decide +kernel
theorem dL_960 : decode code 960 = .ok (.aload_n 0, 1) := by decide +kernel
theorem dL_961 : decode code 961 = .ok (.iload_n 3, 1) := by decide +kernel
theorem dL_962 : decode code 962 = .ok (.iconst 2, 1) := by decide +kernel
theorem dL_963 : decode code 963 = .ok (.iadd, 1) := by decide +kernel
theorem dL_964 : decode code 964 = .ok (.iaload, 1) := by decide +kernel
theorem dL_965 : decode code 965 = .ok (.aload_n 0, 1) := by decide +kernel
theorem dL_966 : decode code 966 = .ok (.iload_n 3, 1) := by decide +kernel
theorem dL_967 : decode code 967 = .ok (.iconst 3, 1) := by decide +kernel
theorem dL_968 : decode code 968 = .ok (.iadd, 1) := by decide +kernel
theorem dL_969 : decode code 969 = .ok (.iaload, 1) := by decide +kernel
theorem dL_970 : decode code 970 = .ok (.invokevirtual 105, 3) := by decide +kernel
theorem dL_973 : decode code 973 = .ok (.aload_n 2, 1) := by decide +kernel
theorem dL_974 : decode code 974 = .ok (.aload_n 0, 1) := by decide +kernel
theorem dL_975 : decode code 975 = .ok (.iload_n 3, 1) := by decide +kernel
theorem dL_976 : decode code 976 = .ok (.iconst 1, 1) := by decide +kernel
theorem dL_977 : decode code 977 = .ok (.iadd, 1) := by decide +kernel
theorem dL_978 : decode code 978 = .ok (.iaload, 1) := by decide +kernel
theorem dL_979 : decode code 979 = .ok (.aload_n 0, 1) := by decide +kernel
theorem dL_980 : decode code 980 = .ok (.iload_n 3, 1) := by decide +kernel
theorem dL_981 : decode code 981 = .ok (.iconst 2, 1) := by decide +kernel
theorem dL_982 : decode code 982 = .ok (.iadd, 1) := by decide +kernel
theorem dL_983 : decode code 983 = .ok (.iaload, 1) := by decide +kernel
theorem dL_984 : decode code 984 = .ok (.aload_n 0, 1) := by decide +kernel
theorem dL_985 : decode code 985 = .ok (.iload_n 3, 1) := by decide +kernel
theorem dL_986 : decode code 986 = .ok (.iconst 3, 1) := by decide +kernel
theorem dL_987 : decode code 987 = .ok (.iadd, 1) := by decide +kernel
theorem dL_988 : decode code 988 = .ok (.iaload, 1) := by decide +kernel
theorem dL_989 : decode code 989 = .ok (.invokevirtual 109, 3) := by decide +kernel
theorem dL_992 : decode code 992 = .ok (.lcmp, 1) := by decide +kernel
theorem dL_993 : decode code 993 = .ok (.ifCond .eq 648, 3) := by decide +kernel
theorem dL_996 : decode code 996 = .ok (.iconst 0, 1) := by decide +kernel
theorem dL_997 : decode code 997 = .ok (.ireturn, 1) := by decide +kernel
theorem dL_998 : decode code 998 = .ok (.aload_n 1, 1) := by decide +kernel
theorem dL_999 : decode code 999 = .ok (.aload_n 0, 1) := by decide +kernel
theorem dL_1000 : decode code 1000 = .ok (.iload_n 3, 1) := by decide +kernel
theorem dL_1001 : decode code 1001 = .ok (.iconst 1, 1) := by decide +kernel
theorem dL_1002 : decode code 1002 = .ok (.iadd, 1) := by decide +kernel
theorem dL_1003 : decode code 1003 = .ok (.iaload, 1) := by decide +kernel
theorem dL_1004 : decode code 1004 = .ok (.invokevirtual 110, 3) := by decide +kernel
theorem dL_1007 : decode code 1007 = .ok (.aload_n 2, 1) := by decide +kernel
theorem dL_1008 : decode code 1008 = .ok (.aload_n 0, 1) := by decide +kernel
theorem dL_1009 : decode code 1009 = .ok (.iload_n 3, 1) := by decide +kernel
theorem dL_1010 : decode code 1010 = .ok (.iconst 1, 1) := by decide +kernel
theorem dL_1011 : decode code 1011 = .ok (.iadd, 1) := by decide +kernel
theorem dL_1012 : decode code 1012 = .ok (.iaload, 1) := by decide +kernel
theorem dL_1013 : decode code 1013 = .ok (.invokevirtual 113, 3) := by decide +kernel
theorem dL_1016 : decode code 1016 = .ok (.if_icmp .eq 625, 3) := by decide +kernel
theorem dL_1019 : decode code 1019 = .ok (.iconst 0, 1) := by decide +kernel
theorem dL_1020 : decode code 1020 = .ok (.ireturn, 1) := by decide +kernel
theorem dL_1021 : decode code 1021 = .ok (.aload_n 1, 1) := by decide +kernel
theorem dL_1022 : decode code 1022 = .ok (.aload_n 0, 1) := by decide +kernel
theorem dL_1023 : decode code 1023 = .ok (.iload_n 3, 1) := by decide +kernel
theorem dL_1024 : decode code 1024 = .ok (.iconst 1, 1) := by decide +kernel
theorem dL_1025 : decode code 1025 = .ok (.iadd, 1) := by decide +kernel
theorem dL_1026 : decode code 1026 = .ok (.iaload, 1) := by decide +kernel
theorem dL_1027 : decode code 1027 = .ok (.invokevirtual 114, 3) := by decide +kernel
theorem dL_1030 : decode code 1030 = .ok (.aload_n 2, 1) := by decide +kernel
theorem dL_1031 : decode code 1031 = .ok (.aload_n 0, 1) := by decide +kernel
theorem dL_1032 : decode code 1032 = .ok (.iload_n 3, 1) := by decide +kernel
theorem dL_1033 : decode code 1033 = .ok (.iconst 1, 1) := by decide +kernel
theorem dL_1034 : decode code 1034 = .ok (.iadd, 1) := by decide +kernel
theorem dL_1035 : decode code 1035 = .ok (.iaload, 1) := by decide +kernel
theorem dL_1036 : decode code 1036 = .ok (.invokevirtual 117, 3) := by decide +kernel
theorem dL_1039 : decode code 1039 = .ok (.if_icmp .eq 602, 3) := by decide +kernel
theorem dL_1042 : decode code 1042 = .ok (.iconst 0, 1) := by decide +kernel
theorem dL_1043 : decode code 1043 = .ok (.ireturn, 1) := by decide +kernel
theorem dL_1044 : decode code 1044 = .ok (.aload_n 1, 1) := by decide +kernel
theorem dL_1045 : decode code 1045 = .ok (.aload_n 0, 1) := by decide +kernel
theorem dL_1046 : decode code 1046 = .ok (.iload_n 3, 1) := by decide +kernel
theorem dL_1047 : decode code 1047 = .ok (.iconst 1, 1) := by decide +kernel
theorem dL_1048 : decode code 1048 = .ok (.iadd, 1) := by decide +kernel
theorem dL_1049 : decode code 1049 = .ok (.iaload, 1) := by decide +kernel
theorem dL_1050 : decode code 1050 = .ok (.invokevirtual 118, 3) := by decide +kernel
theorem dL_1053 : decode code 1053 = .ok (.aload_n 2, 1) := by decide +kernel
theorem dL_1054 : decode code 1054 = .ok (.aload_n 0, 1) := by decide +kernel
theorem dL_1055 : decode code 1055 = .ok (.iload_n 3, 1) := by decide +kernel
theorem dL_1056 : decode code 1056 = .ok (.iconst 1, 1) := by decide +kernel
theorem dL_1057 : decode code 1057 = .ok (.iadd, 1) := by decide +kernel
theorem dL_1058 : decode code 1058 = .ok (.iaload, 1) := by decide +kernel
theorem dL_1059 : decode code 1059 = .ok (.invokevirtual 121, 3) := by decide +kernel
theorem dL_1062 : decode code 1062 = .ok (.if_icmp .eq 579, 3) := by decide +kernel
theorem dL_1065 : decode code 1065 = .ok (.iconst 0, 1) := by decide +kernel
theorem dL_1066 : decode code 1066 = .ok (.ireturn, 1) := by decide +kernel
theorem dL_1067 : decode code 1067 = .ok (.aload_n 1, 1) := by decide +kernel
theorem dL_1068 : decode code 1068 = .ok (.aload_n 0, 1) := by decide +kernel
theorem dL_1069 : decode code 1069 = .ok (.iload_n 3, 1) := by decide +kernel
theorem dL_1070 : decode code 1070 = .ok (.iconst 1, 1) := by decide +kernel
theorem dL_1071 : decode code 1071 = .ok (.iadd, 1) := by decide +kernel
theorem dL_1072 : decode code 1072 = .ok (.iaload, 1) := by decide +kernel
theorem dL_1073 : decode code 1073 = .ok (.invokevirtual 122, 3) := by decide +kernel
theorem dL_1076 : decode code 1076 = .ok (.aload_n 2, 1) := by decide +kernel
theorem dL_1077 : decode code 1077 = .ok (.aload_n 0, 1) := by decide +kernel
theorem dL_1078 : decode code 1078 = .ok (.iload_n 3, 1) := by decide +kernel
theorem dL_1079 : decode code 1079 = .ok (.iconst 1, 1) := by decide +kernel
theorem dL_1080 : decode code 1080 = .ok (.iadd, 1) := by decide +kernel
theorem dL_1081 : decode code 1081 = .ok (.iaload, 1) := by decide +kernel
theorem dL_1082 : decode code 1082 = .ok (.invokevirtual 125, 3) := by decide +kernel
theorem dL_1085 : decode code 1085 = .ok (.if_icmp .eq 556, 3) := by decide +kernel
theorem dL_1088 : decode code 1088 = .ok (.iconst 0, 1) := by decide +kernel
theorem dL_1089 : decode code 1089 = .ok (.ireturn, 1) := by decide +kernel
theorem dL_1090 : decode code 1090 = .ok (.aload_n 1, 1) := by decide +kernel
theorem dL_1091 : decode code 1091 = .ok (.aload_n 0, 1) := by decide +kernel
theorem dL_1092 : decode code 1092 = .ok (.iload_n 3, 1) := by decide +kernel
theorem dL_1093 : decode code 1093 = .ok (.iconst 1, 1) := by decide +kernel
theorem dL_1094 : decode code 1094 = .ok (.iadd, 1) := by decide +kernel
theorem dL_1095 : decode code 1095 = .ok (.iaload, 1) := by decide +kernel
theorem dL_1096 : decode code 1096 = .ok (.aload_n 0, 1) := by decide +kernel
theorem dL_1097 : decode code 1097 = .ok (.iload_n 3, 1) := by decide +kernel
theorem dL_1098 : decode code 1098 = .ok (.iconst 2, 1) := by decide +kernel
theorem dL_1099 : decode code 1099 = .ok (.iadd, 1) := by decide +kernel
theorem dL_1100 : decode code 1100 = .ok (.iaload, 1) := by decide +kernel
theorem dL_1101 : decode code 1101 = .ok (.invokevirtual 126, 3) := by decide +kernel
theorem dL_1104 : decode code 1104 = .ok (.aload_n 2, 1) := by decide +kernel
theorem dL_1105 : decode code 1105 = .ok (.aload_n 0, 1) := by decide +kernel
theorem dL_1106 : decode code 1106 = .ok (.iload_n 3, 1) := by decide +kernel
theorem dL_1107 : decode code 1107 = .ok (.iconst 1, 1) := by decide +kernel
theorem dL_1108 : decode code 1108 = .ok (.iadd, 1) := by decide +kernel
theorem dL_1109 : decode code 1109 = .ok (.iaload, 1) := by decide +kernel
theorem dL_1110 : decode code 1110 = .ok (.aload_n 0, 1) := by decide +kernel
theorem dL_1111 : decode code 1111 = .ok (.iload_n 3, 1) := by decide +kernel
theorem dL_1112 : decode code 1112 = .ok (.iconst 2, 1) := by decide +kernel
theorem dL_1113 : decode code 1113 = .ok (.iadd, 1) := by decide +kernel
theorem dL_1114 : decode code 1114 = .ok (.iaload, 1) := by decide +kernel
theorem dL_1115 : decode code 1115 = .ok (.invokevirtual 129, 3) := by decide +kernel
theorem dL_1118 : decode code 1118 = .ok (.if_icmp .eq 523, 3) := by decide +kernel
theorem dL_1121 : decode code 1121 = .ok (.iconst 0, 1) := by decide +kernel
theorem dL_1122 : decode code 1122 = .ok (.ireturn, 1) := by decide +kernel
theorem dL_1123 : decode code 1123 = .ok (.aload_n 1, 1) := by decide +kernel
theorem dL_1124 : decode code 1124 = .ok (.invokevirtual 130, 3) := by decide +kernel
theorem dL_1127 : decode code 1127 = .ok (.aload_n 2, 1) := by decide +kernel
theorem dL_1128 : decode code 1128 = .ok (.invokevirtual 133, 3) := by decide +kernel
theorem dL_1131 : decode code 1131 = .ok (.if_icmp .eq 510, 3) := by decide +kernel
theorem dL_1134 : decode code 1134 = .ok (.iconst 0, 1) := by decide +kernel
theorem dL_1135 : decode code 1135 = .ok (.ireturn, 1) := by decide +kernel
theorem dL_1136 : decode code 1136 = .ok (.aload_n 1, 1) := by decide +kernel
theorem dL_1137 : decode code 1137 = .ok (.aload_n 0, 1) := by decide +kernel
theorem dL_1138 : decode code 1138 = .ok (.iload_n 3, 1) := by decide +kernel
theorem dL_1139 : decode code 1139 = .ok (.iconst 1, 1) := by decide +kernel
theorem dL_1140 : decode code 1140 = .ok (.iadd, 1) := by decide +kernel
theorem dL_1141 : decode code 1141 = .ok (.iaload, 1) := by decide +kernel
theorem dL_1142 : decode code 1142 = .ok (.aload_n 0, 1) := by decide +kernel
theorem dL_1143 : decode code 1143 = .ok (.iload_n 3, 1) := by decide +kernel
theorem dL_1144 : decode code 1144 = .ok (.iconst 2, 1) := by decide +kernel
theorem dL_1145 : decode code 1145 = .ok (.iadd, 1) := by decide +kernel
theorem dL_1146 : decode code 1146 = .ok (.iaload, 1) := by decide +kernel
theorem dL_1147 : decode code 1147 = .ok (.aload_n 0, 1) := by decide +kernel
theorem dL_1148 : decode code 1148 = .ok (.iload_n 3, 1) := by decide +kernel
theorem dL_1149 : decode code 1149 = .ok (.iconst 3, 1) := by decide +kernel
theorem dL_1150 : decode code 1150 = .ok (.iadd, 1) := by decide +kernel
theorem dL_1151 : decode code 1151 = .ok (.iaload, 1) := by decide +kernel
theorem dL_1152 : decode code 1152 = .ok (.aload_n 0, 1) := by decide +kernel
theorem dL_1153 : decode code 1153 = .ok (.iload_n 3, 1) := by decide +kernel
theorem dL_1154 : decode code 1154 = .ok (.iconst 4, 1) := by decide +kernel
theorem dL_1155 : decode code 1155 = .ok (.iadd, 1) := by decide +kernel
theorem dL_1156 : decode code 1156 = .ok (.iaload, 1) := by decide +kernel
theorem dL_1157 : decode code 1157 = .ok (.invokevirtual 134, 3) := by decide +kernel
theorem dL_1160 : decode code 1160 = .ok (.aload_n 2, 1) := by decide +kernel
theorem dL_1161 : decode code 1161 = .ok (.aload_n 0, 1) := by decide +kernel
theorem dL_1162 : decode code 1162 = .ok (.iload_n 3, 1) := by decide +kernel
theorem dL_1163 : decode code 1163 = .ok (.iconst 1, 1) := by decide +kernel
theorem dL_1164 : decode code 1164 = .ok (.iadd, 1) := by decide +kernel
theorem dL_1165 : decode code 1165 = .ok (.iaload, 1) := by decide +kernel
theorem dL_1166 : decode code 1166 = .ok (.aload_n 0, 1) := by decide +kernel
theorem dL_1167 : decode code 1167 = .ok (.iload_n 3, 1) := by decide +kernel
theorem dL_1168 : decode code 1168 = .ok (.iconst 2, 1) := by decide +kernel
theorem dL_1169 : decode code 1169 = .ok (.iadd, 1) := by decide +kernel
theorem dL_1170 : decode code 1170 = .ok (.iaload, 1) := by decide +kernel
theorem dL_1171 : decode code 1171 = .ok (.aload_n 0, 1) := by decide +kernel
theorem dL_1172 : decode code 1172 = .ok (.iload_n 3, 1) := by decide +kernel
theorem dL_1173 : decode code 1173 = .ok (.iconst 3, 1) := by decide +kernel
theorem dL_1174 : decode code 1174 = .ok (.iadd, 1) := by decide +kernel
theorem dL_1175 : decode code 1175 = .ok (.iaload, 1) := by decide +kernel
theorem dL_1176 : decode code 1176 = .ok (.aload_n 0, 1) := by decide +kernel
theorem dL_1177 : decode code 1177 = .ok (.iload_n 3, 1) := by decide +kernel
theorem dL_1178 : decode code 1178 = .ok (.iconst 4, 1) := by decide +kernel
theorem dL_1179 : decode code 1179 = .ok (.iadd, 1) := by decide +kernel
theorem dL_1180 : decode code 1180 = .ok (.iaload, 1) := by decide +kernel
theorem dL_1181 : decode code 1181 = .ok (.invokevirtual 138, 3) := by decide +kernel
theorem dL_1184 : decode code 1184 = .ok (.if_icmp .eq 457, 3) := by decide +kernel
theorem dL_1187 : decode code 1187 = .ok (.iconst 0, 1) := by decide +kernel
theorem dL_1188 : decode code 1188 = .ok (.ireturn, 1) := by decide +kernel
theorem dL_1189 : decode code 1189 = .ok (.aload_n 1, 1) := by decide +kernel
theorem dL_1190 : decode code 1190 = .ok (.aload_n 0, 1) := by decide +kernel
theorem dL_1191 : decode code 1191 = .ok (.iload_n 3, 1) := by decide +kernel
theorem dL_1192 : decode code 1192 = .ok (.iconst 1, 1) := by decide +kernel
theorem dL_1193 : decode code 1193 = .ok (.iadd, 1) := by decide +kernel
theorem dL_1194 : decode code 1194 = .ok (.iaload, 1) := by decide +kernel
theorem dL_1195 : decode code 1195 = .ok (.aload_n 0, 1) := by decide +kernel
theorem dL_1196 : decode code 1196 = .ok (.iload_n 3, 1) := by decide +kernel
theorem dL_1197 : decode code 1197 = .ok (.iconst 2, 1) := by decide +kernel
theorem dL_1198 : decode code 1198 = .ok (.iadd, 1) := by decide +kernel
theorem dL_1199 : decode code 1199 = .ok (.iaload, 1) := by decide +kernel
theorem dL_1200 : decode code 1200 = .ok (.invokevirtual 139, 3) := by decide +kernel
theorem dL_1203 : decode code 1203 = .ok (.aload_n 2, 1) := by decide +kernel
theorem dL_1204 : decode code 1204 = .ok (.aload_n 0, 1) := by decide +kernel
theorem dL_1205 : decode code 1205 = .ok (.iload_n 3, 1) := by decide +kernel
theorem dL_1206 : decode code 1206 = .ok (.iconst 1, 1) := by decide +kernel
theorem dL_1207 : decode code 1207 = .ok (.iadd, 1) := by decide +kernel
theorem dL_1208 : decode code 1208 = .ok (.iaload, 1) := by decide +kernel
theorem dL_1209 : decode code 1209 = .ok (.aload_n 0, 1) := by decide +kernel
theorem dL_1210 : decode code 1210 = .ok (.iload_n 3, 1) := by decide +kernel
theorem dL_1211 : decode code 1211 = .ok (.iconst 2, 1) := by decide +kernel
theorem dL_1212 : decode code 1212 = .ok (.iadd, 1) := by decide +kernel
theorem dL_1213 : decode code 1213 = .ok (.iaload, 1) := by decide +kernel
theorem dL_1214 : decode code 1214 = .ok (.invokevirtual 142, 3) := by decide +kernel
theorem dL_1217 : decode code 1217 = .ok (.if_icmp .eq 424, 3) := by decide +kernel
theorem dL_1220 : decode code 1220 = .ok (.iconst 0, 1) := by decide +kernel
theorem dL_1221 : decode code 1221 = .ok (.ireturn, 1) := by decide +kernel
theorem dL_1222 : decode code 1222 = .ok (.aload_n 1, 1) := by decide +kernel
theorem dL_1223 : decode code 1223 = .ok (.aload_n 0, 1) := by decide +kernel
theorem dL_1224 : decode code 1224 = .ok (.iload_n 3, 1) := by decide +kernel
theorem dL_1225 : decode code 1225 = .ok (.iconst 1, 1) := by decide +kernel
theorem dL_1226 : decode code 1226 = .ok (.iadd, 1) := by decide +kernel
theorem dL_1227 : decode code 1227 = .ok (.iaload, 1) := by decide +kernel
theorem dL_1228 : decode code 1228 = .ok (.aload_n 0, 1) := by decide +kernel
theorem dL_1229 : decode code 1229 = .ok (.iload_n 3, 1) := by decide +kernel
theorem dL_1230 : decode code 1230 = .ok (.iconst 2, 1) := by decide +kernel
theorem dL_1231 : decode code 1231 = .ok (.iadd, 1) := by decide +kernel
theorem dL_1232 : decode code 1232 = .ok (.iaload, 1) := by decide +kernel
theorem dL_1233 : decode code 1233 = .ok (.invokevirtual 143, 3) := by decide +kernel
theorem dL_1236 : decode code 1236 = .ok (.aload_n 2, 1) := by decide +kernel
theorem dL_1237 : decode code 1237 = .ok (.aload_n 0, 1) := by decide +kernel
theorem dL_1238 : decode code 1238 = .ok (.iload_n 3, 1) := by decide +kernel
theorem dL_1239 : decode code 1239 = .ok (.iconst 1, 1) := by decide +kernel
theorem dL_1240 : decode code 1240 = .ok (.iadd, 1) := by decide +kernel
theorem dL_1241 : decode code 1241 = .ok (.iaload, 1) := by decide +kernel
theorem dL_1242 : decode code 1242 = .ok (.aload_n 0, 1) := by decide +kernel
theorem dL_1243 : decode code 1243 = .ok (.iload_n 3, 1) := by decide +kernel
theorem dL_1244 : decode code 1244 = .ok (.iconst 2, 1) := by decide +kernel
theorem dL_1245 : decode code 1245 = .ok (.iadd, 1) := by decide +kernel
theorem dL_1246 : decode code 1246 = .ok (.iaload, 1) := by decide +kernel
theorem dL_1247 : decode code 1247 = .ok (.invokevirtual 146, 3) := by decide +kernel
theorem dL_1250 : decode code 1250 = .ok (.if_icmp .eq 391, 3) := by decide +kernel
theorem dL_1253 : decode code 1253 = .ok (.iconst 0, 1) := by decide +kernel
theorem dL_1254 : decode code 1254 = .ok (.ireturn, 1) := by decide +kernel
theorem dL_1255 : decode code 1255 = .ok (.aload_n 1, 1) := by decide +kernel
theorem dL_1256 : decode code 1256 = .ok (.aload_n 0, 1) := by decide +kernel
theorem dL_1257 : decode code 1257 = .ok (.iload_n 3, 1) := by decide +kernel
theorem dL_1258 : decode code 1258 = .ok (.iconst 1, 1) := by decide +kernel
theorem dL_1259 : decode code 1259 = .ok (.iadd, 1) := by decide +kernel
theorem dL_1260 : decode code 1260 = .ok (.iaload, 1) := by decide +kernel
theorem dL_1261 : decode code 1261 = .ok (.aload_n 0, 1) := by decide +kernel
theorem dL_1262 : decode code 1262 = .ok (.iload_n 3, 1) := by decide +kernel
theorem dL_1263 : decode code 1263 = .ok (.iconst 2, 1) := by decide +kernel
theorem dL_1264 : decode code 1264 = .ok (.iadd, 1) := by decide +kernel
theorem dL_1265 : decode code 1265 = .ok (.iaload, 1) := by decide +kernel
theorem dL_1266 : decode code 1266 = .ok (.aload_n 0, 1) := by decide +kernel
theorem dL_1267 : decode code 1267 = .ok (.iload_n 3, 1) := by decide +kernel
theorem dL_1268 : decode code 1268 = .ok (.iconst 3, 1) := by decide +kernel
theorem dL_1269 : decode code 1269 = .ok (.iadd, 1) := by decide +kernel
theorem dL_1270 : decode code 1270 = .ok (.iaload, 1) := by decide +kernel
theorem dL_1271 : decode code 1271 = .ok (.invokevirtual 147, 3) := by decide +kernel
theorem dL_1274 : decode code 1274 = .ok (.aload_n 2, 1) := by decide +kernel
theorem dL_1275 : decode code 1275 = .ok (.aload_n 0, 1) := by decide +kernel
theorem dL_1276 : decode code 1276 = .ok (.iload_n 3, 1) := by decide +kernel
theorem dL_1277 : decode code 1277 = .ok (.iconst 1, 1) := by decide +kernel
theorem dL_1278 : decode code 1278 = .ok (.iadd, 1) := by decide +kernel
theorem dL_1279 : decode code 1279 = .ok (.iaload, 1) := by decide +kernel
theorem dL_1280 : decode code 1280 = .ok (.aload_n 0, 1) := by decide +kernel
theorem dL_1281 : decode code 1281 = .ok (.iload_n 3, 1) := by decide +kernel
theorem dL_1282 : decode code 1282 = .ok (.iconst 2, 1) := by decide +kernel
theorem dL_1283 : decode code 1283 = .ok (.iadd, 1) := by decide +kernel
theorem dL_1284 : decode code 1284 = .ok (.iaload, 1) := by decide +kernel
theorem dL_1285 : decode code 1285 = .ok (.aload_n 0, 1) := by decide +kernel
theorem dL_1286 : decode code 1286 = .ok (.iload_n 3, 1) := by decide +kernel
theorem dL_1287 : decode code 1287 = .ok (.iconst 3, 1) := by decide +kernel
theorem dL_1288 : decode code 1288 = .ok (.iadd, 1) := by decide +kernel
theorem dL_1289 : decode code 1289 = .ok (.iaload, 1) := by decide +kernel
theorem dL_1290 : decode code 1290 = .ok (.invokevirtual 150, 3) := by decide +kernel
theorem dL_1293 : decode code 1293 = .ok (.if_icmp .eq 348, 3) := by decide +kernel
