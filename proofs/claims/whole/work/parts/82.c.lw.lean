/-! the law: calls -/
theorem dL_law_836 : decode code 836 = .ok (.aload_n 1, 1) := by decide +kernel
theorem dL_law_837 : decode code 837 = .ok (.aload_n 0, 1) := by decide +kernel
theorem dL_law_838 : decode code 838 = .ok (.iload 5, 2) := by decide +kernel
theorem dL_law_840 : decode code 840 = .ok (.iconst 1, 1) := by decide +kernel
theorem dL_law_841 : decode code 841 = .ok (.iadd, 1) := by decide +kernel
theorem dL_law_842 : decode code 842 = .ok (.iaload, 1) := by decide +kernel
theorem dL_law_843 : decode code 843 = .ok (.aload_n 0, 1) := by decide +kernel
theorem dL_law_844 : decode code 844 = .ok (.iload 5, 2) := by decide +kernel
theorem dL_law_846 : decode code 846 = .ok (.iconst 2, 1) := by decide +kernel
theorem dL_law_847 : decode code 847 = .ok (.iadd, 1) := by decide +kernel
theorem dL_law_848 : decode code 848 = .ok (.iaload, 1) := by decide +kernel
theorem dL_law_849 : decode code 849 = .ok (.aload_n 3, 1) := by decide +kernel
theorem dL_law_850 : decode code 850 = .ok (.invokestatic 200, 3) := by decide +kernel
theorem dL_law_853 : decode code 853 = .ok (.istore 6, 2) := by decide +kernel
theorem dL_law_855 : decode code 855 = .ok (.aload_n 2, 1) := by decide +kernel
theorem dL_law_856 : decode code 856 = .ok (.aload_n 0, 1) := by decide +kernel
theorem dL_law_857 : decode code 857 = .ok (.iload 5, 2) := by decide +kernel
theorem dL_law_859 : decode code 859 = .ok (.iconst 1, 1) := by decide +kernel
theorem dL_law_860 : decode code 860 = .ok (.iadd, 1) := by decide +kernel
theorem dL_law_861 : decode code 861 = .ok (.iaload, 1) := by decide +kernel
theorem dL_law_862 : decode code 862 = .ok (.aload_n 0, 1) := by decide +kernel
theorem dL_law_863 : decode code 863 = .ok (.iload 5, 2) := by decide +kernel
theorem dL_law_865 : decode code 865 = .ok (.iconst 2, 1) := by decide +kernel
theorem dL_law_866 : decode code 866 = .ok (.iadd, 1) := by decide +kernel
theorem dL_law_867 : decode code 867 = .ok (.iaload, 1) := by decide +kernel
theorem dL_law_868 : decode code 868 = .ok (.invokevirtual 202, 3) := by decide +kernel
theorem dL_law_871 : decode code 871 = .ok (.istore 7, 2) := by decide +kernel
theorem dL_law_873 : decode code 873 = .ok (.aload_n 2, 1) := by decide +kernel
theorem dL_law_874 : decode code 874 = .ok (.invokevirtual 154, 3) := by decide +kernel
theorem dL_law_877 : decode code 877 = .ok (.iload 6, 2) := by decide +kernel
theorem dL_law_879 : decode code 879 = .ok (.if_icmp .eq 5, 3) := by decide +kernel
theorem dL_law_884 : decode code 884 = .ok (.iload 6, 2) := by decide +kernel
theorem dL_law_886 : decode code 886 = .ok (.ifCond .ne 15, 3) := by decide +kernel
theorem dL_law_889 : decode code 889 = .ok (.aload_n 3, 1) := by decide +kernel
theorem dL_law_890 : decode code 890 = .ok (.iconst 0, 1) := by decide +kernel
theorem dL_law_891 : decode code 891 = .ok (.laload, 1) := by decide +kernel
theorem dL_law_892 : decode code 892 = .ok (.iload 7, 2) := by decide +kernel
theorem dL_law_894 : decode code 894 = .ok (.i2l, 1) := by decide +kernel
theorem dL_law_895 : decode code 895 = .ok (.lcmp, 1) := by decide +kernel
theorem dL_law_896 : decode code 896 = .ok (.ifCond .eq 5, 3) := by decide +kernel
theorem dL_law_901 : decode code 901 = .ok (.goto 2138, 3) := by decide +kernel
theorem dL_law_904 : decode code 904 = .ok (.aload_n 1, 1) := by decide +kernel
theorem dL_law_905 : decode code 905 = .ok (.invokevirtual 203, 3) := by decide +kernel
theorem dL_law_908 : decode code 908 = .ok (.aload_n 2, 1) := by decide +kernel
theorem dL_law_909 : decode code 909 = .ok (.invokevirtual 206, 3) := by decide +kernel
theorem dL_law_912 : decode code 912 = .ok (.if_icmp .eq 2127, 3) := by decide +kernel
theorem dL_law_917 : decode code 917 = .ok (.aload_n 1, 1) := by decide +kernel
theorem dL_law_918 : decode code 918 = .ok (.invokevirtual 207, 3) := by decide +kernel
theorem dL_law_921 : decode code 921 = .ok (.aload_n 2, 1) := by decide +kernel
theorem dL_law_922 : decode code 922 = .ok (.invokevirtual 210, 3) := by decide +kernel
theorem dL_law_925 : decode code 925 = .ok (.if_icmp .eq 2114, 3) := by decide +kernel
theorem dL_law_930 : decode code 930 = .ok (.aload_n 1, 1) := by decide +kernel
theorem dL_law_931 : decode code 931 = .ok (.aload_n 0, 1) := by decide +kernel
theorem dL_law_932 : decode code 932 = .ok (.iload 5, 2) := by decide +kernel
theorem dL_law_934 : decode code 934 = .ok (.iconst 1, 1) := by decide +kernel
theorem dL_law_935 : decode code 935 = .ok (.iadd, 1) := by decide +kernel
theorem dL_law_936 : decode code 936 = .ok (.iaload, 1) := by decide +kernel
theorem dL_law_937 : decode code 937 = .ok (.aload_n 3, 1) := by decide +kernel
theorem dL_law_938 : decode code 938 = .ok (.invokestatic 211, 3) := by decide +kernel
theorem dL_law_941 : decode code 941 = .ok (.istore 6, 2) := by decide +kernel
theorem dL_law_943 : decode code 943 = .ok (.aload_n 2, 1) := by decide +kernel
theorem dL_law_944 : decode code 944 = .ok (.aload_n 0, 1) := by decide +kernel
theorem dL_law_945 : decode code 945 = .ok (.iload 5, 2) := by decide +kernel
theorem dL_law_947 : decode code 947 = .ok (.iconst 1, 1) := by decide +kernel
theorem dL_law_948 : decode code 948 = .ok (.iadd, 1) := by decide +kernel
theorem dL_law_949 : decode code 949 = .ok (.iaload, 1) := by decide +kernel
theorem dL_law_950 : decode code 950 = .ok (.invokevirtual 213, 3) := by decide +kernel
theorem dL_law_953 : decode code 953 = .ok (.istore 7, 2) := by decide +kernel
theorem dL_law_955 : decode code 955 = .ok (.aload_n 2, 1) := by decide +kernel
theorem dL_law_956 : decode code 956 = .ok (.invokevirtual 154, 3) := by decide +kernel
theorem dL_law_959 : decode code 959 = .ok (.iload 6, 2) := by decide +kernel
theorem dL_law_961 : decode code 961 = .ok (.if_icmp .eq 5, 3) := by decide +kernel
theorem dL_law_966 : decode code 966 = .ok (.iload 6, 2) := by decide +kernel
theorem dL_law_968 : decode code 968 = .ok (.ifCond .ne 15, 3) := by decide +kernel
theorem dL_law_971 : decode code 971 = .ok (.aload_n 3, 1) := by decide +kernel
theorem dL_law_972 : decode code 972 = .ok (.iconst 0, 1) := by decide +kernel
theorem dL_law_973 : decode code 973 = .ok (.laload, 1) := by decide +kernel
theorem dL_law_974 : decode code 974 = .ok (.iload 7, 2) := by decide +kernel
theorem dL_law_976 : decode code 976 = .ok (.i2l, 1) := by decide +kernel
theorem dL_law_977 : decode code 977 = .ok (.lcmp, 1) := by decide +kernel
theorem dL_law_978 : decode code 978 = .ok (.ifCond .eq 5, 3) := by decide +kernel
theorem dL_law_983 : decode code 983 = .ok (.goto 2056, 3) := by decide +kernel
theorem dL_law_986 : decode code 986 = .ok (.aload_n 1, 1) := by decide +kernel
theorem dL_law_987 : decode code 987 = .ok (.invokevirtual 214, 3) := by decide +kernel
theorem dL_law_990 : decode code 990 = .ok (.aload_n 2, 1) := by decide +kernel
theorem dL_law_991 : decode code 991 = .ok (.invokevirtual 217, 3) := by decide +kernel
theorem dL_law_994 : decode code 994 = .ok (.if_icmp .eq 2045, 3) := by decide +kernel
theorem dL_law_999 : decode code 999 = .ok (.aload_n 1, 1) := by decide +kernel
theorem dL_law_1000 : decode code 1000 = .ok (.aload_n 0, 1) := by decide +kernel
theorem dL_law_1001 : decode code 1001 = .ok (.iload 5, 2) := by decide +kernel
theorem dL_law_1003 : decode code 1003 = .ok (.iconst 1, 1) := by decide +kernel
theorem dL_law_1004 : decode code 1004 = .ok (.iadd, 1) := by decide +kernel
theorem dL_law_1005 : decode code 1005 = .ok (.iaload, 1) := by decide +kernel
theorem dL_law_1006 : decode code 1006 = .ok (.aload_n 3, 1) := by decide +kernel
theorem dL_law_1007 : decode code 1007 = .ok (.invokestatic 218, 3) := by decide +kernel
theorem dL_law_1010 : decode code 1010 = .ok (.istore 6, 2) := by decide +kernel
theorem dL_law_1012 : decode code 1012 = .ok (.aload_n 2, 1) := by decide +kernel
theorem dL_law_1013 : decode code 1013 = .ok (.aload_n 0, 1) := by decide +kernel
theorem dL_law_1014 : decode code 1014 = .ok (.iload 5, 2) := by decide +kernel
theorem dL_law_1016 : decode code 1016 = .ok (.iconst 1, 1) := by decide +kernel
theorem dL_law_1017 : decode code 1017 = .ok (.iadd, 1) := by decide +kernel
theorem dL_law_1018 : decode code 1018 = .ok (.iaload, 1) := by decide +kernel
theorem dL_law_1019 : decode code 1019 = .ok (.invokevirtual 220, 3) := by decide +kernel
theorem dL_law_1022 : decode code 1022 = .ok (.istore 7, 2) := by decide +kernel
theorem dL_law_1024 : decode code 1024 = .ok (.aload_n 2, 1) := by decide +kernel
theorem dL_law_1025 : decode code 1025 = .ok (.invokevirtual 154, 3) := by decide +kernel
theorem dL_law_1028 : decode code 1028 = .ok (.iload 6, 2) := by decide +kernel
theorem dL_law_1030 : decode code 1030 = .ok (.if_icmp .eq 5, 3) := by decide +kernel
theorem dL_law_1035 : decode code 1035 = .ok (.iload 6, 2) := by decide +kernel
theorem dL_law_1037 : decode code 1037 = .ok (.ifCond .ne 15, 3) := by decide +kernel
theorem dL_law_1040 : decode code 1040 = .ok (.aload_n 3, 1) := by decide +kernel
theorem dL_law_1041 : decode code 1041 = .ok (.iconst 0, 1) := by decide +kernel
theorem dL_law_1042 : decode code 1042 = .ok (.laload, 1) := by decide +kernel
theorem dL_law_1043 : decode code 1043 = .ok (.iload 7, 2) := by decide +kernel
theorem dL_law_1045 : decode code 1045 = .ok (.i2l, 1) := by decide +kernel
theorem dL_law_1046 : decode code 1046 = .ok (.lcmp, 1) := by decide +kernel
theorem dL_law_1047 : decode code 1047 = .ok (.ifCond .eq 5, 3) := by decide +kernel
theorem dL_law_1052 : decode code 1052 = .ok (.goto 1987, 3) := by decide +kernel
theorem dL_law_1055 : decode code 1055 = .ok (.aload_n 1, 1) := by decide +kernel
theorem dL_law_1056 : decode code 1056 = .ok (.aload_n 0, 1) := by decide +kernel
theorem dL_law_1057 : decode code 1057 = .ok (.iload 5, 2) := by decide +kernel
theorem dL_law_1059 : decode code 1059 = .ok (.iconst 1, 1) := by decide +kernel
theorem dL_law_1060 : decode code 1060 = .ok (.iadd, 1) := by decide +kernel
theorem dL_law_1061 : decode code 1061 = .ok (.iaload, 1) := by decide +kernel
theorem dL_law_1062 : decode code 1062 = .ok (.aload_n 0, 1) := by decide +kernel
theorem dL_law_1063 : decode code 1063 = .ok (.iload 5, 2) := by decide +kernel
theorem dL_law_1065 : decode code 1065 = .ok (.iconst 2, 1) := by decide +kernel
theorem dL_law_1066 : decode code 1066 = .ok (.iadd, 1) := by decide +kernel
theorem dL_law_1067 : decode code 1067 = .ok (.iaload, 1) := by decide +kernel
theorem dL_law_1068 : decode code 1068 = .ok (.aload_n 0, 1) := by decide +kernel
theorem dL_law_1069 : decode code 1069 = .ok (.iload 5, 2) := by decide +kernel
theorem dL_law_1071 : decode code 1071 = .ok (.iconst 3, 1) := by decide +kernel
theorem dL_law_1072 : decode code 1072 = .ok (.iadd, 1) := by decide +kernel
theorem dL_law_1073 : decode code 1073 = .ok (.iaload, 1) := by decide +kernel
theorem dL_law_1074 : decode code 1074 = .ok (.aload_n 3, 1) := by decide +kernel
theorem dL_law_1075 : decode code 1075 = .ok (.invokestatic 221, 3) := by decide +kernel
theorem dL_law_1078 : decode code 1078 = .ok (.istore 6, 2) := by decide +kernel
theorem dL_law_1080 : decode code 1080 = .ok (.aload_n 2, 1) := by decide +kernel
theorem dL_law_1081 : decode code 1081 = .ok (.aload_n 0, 1) := by decide +kernel
theorem dL_law_1082 : decode code 1082 = .ok (.iload 5, 2) := by decide +kernel
theorem dL_law_1084 : decode code 1084 = .ok (.iconst 1, 1) := by decide +kernel
theorem dL_law_1085 : decode code 1085 = .ok (.iadd, 1) := by decide +kernel
theorem dL_law_1086 : decode code 1086 = .ok (.iaload, 1) := by decide +kernel
theorem dL_law_1087 : decode code 1087 = .ok (.aload_n 0, 1) := by decide +kernel
theorem dL_law_1088 : decode code 1088 = .ok (.iload 5, 2) := by decide +kernel
theorem dL_law_1090 : decode code 1090 = .ok (.iconst 2, 1) := by decide +kernel
theorem dL_law_1091 : decode code 1091 = .ok (.iadd, 1) := by decide +kernel
theorem dL_law_1092 : decode code 1092 = .ok (.iaload, 1) := by decide +kernel
theorem dL_law_1093 : decode code 1093 = .ok (.aload_n 0, 1) := by decide +kernel
theorem dL_law_1094 : decode code 1094 = .ok (.iload 5, 2) := by decide +kernel
theorem dL_law_1096 : decode code 1096 = .ok (.iconst 3, 1) := by decide +kernel
theorem dL_law_1097 : decode code 1097 = .ok (.iadd, 1) := by decide +kernel
theorem dL_law_1098 : decode code 1098 = .ok (.iaload, 1) := by decide +kernel
theorem dL_law_1099 : decode code 1099 = .ok (.invokevirtual 224, 3) := by decide +kernel
theorem dL_law_1102 : decode code 1102 = .ok (.istore 7, 2) := by decide +kernel
theorem dL_law_1104 : decode code 1104 = .ok (.aload_n 2, 1) := by decide +kernel
theorem dL_law_1105 : decode code 1105 = .ok (.invokevirtual 154, 3) := by decide +kernel
theorem dL_law_1108 : decode code 1108 = .ok (.iload 6, 2) := by decide +kernel
theorem dL_law_1110 : decode code 1110 = .ok (.if_icmp .eq 5, 3) := by decide +kernel
theorem dL_law_1115 : decode code 1115 = .ok (.iload 6, 2) := by decide +kernel
theorem dL_law_1117 : decode code 1117 = .ok (.ifCond .ne 15, 3) := by decide +kernel
theorem dL_law_1120 : decode code 1120 = .ok (.aload_n 3, 1) := by decide +kernel
theorem dL_law_1121 : decode code 1121 = .ok (.iconst 0, 1) := by decide +kernel
theorem dL_law_1122 : decode code 1122 = .ok (.laload, 1) := by decide +kernel
theorem dL_law_1123 : decode code 1123 = .ok (.iload 7, 2) := by decide +kernel
theorem dL_law_1125 : decode code 1125 = .ok (.i2l, 1) := by decide +kernel
theorem dL_law_1126 : decode code 1126 = .ok (.lcmp, 1) := by decide +kernel
theorem dL_law_1127 : decode code 1127 = .ok (.ifCond .eq 5, 3) := by decide +kernel
theorem dL_law_1132 : decode code 1132 = .ok (.goto 1907, 3) := by decide +kernel
theorem dL_law_1135 : decode code 1135 = .ok (.aload_n 1, 1) := by decide +kernel
theorem dL_law_1136 : decode code 1136 = .ok (.aload_n 0, 1) := by decide +kernel
theorem dL_law_1137 : decode code 1137 = .ok (.iload 5, 2) := by decide +kernel
theorem dL_law_1139 : decode code 1139 = .ok (.iconst 1, 1) := by decide +kernel
theorem dL_law_1140 : decode code 1140 = .ok (.iadd, 1) := by decide +kernel
theorem dL_law_1141 : decode code 1141 = .ok (.iaload, 1) := by decide +kernel
theorem dL_law_1142 : decode code 1142 = .ok (.aload_n 3, 1) := by decide +kernel
theorem dL_law_1143 : decode code 1143 = .ok (.invokestatic 225, 3) := by decide +kernel
theorem dL_law_1146 : decode code 1146 = .ok (.istore 6, 2) := by decide +kernel
theorem dL_law_1148 : decode code 1148 = .ok (.aload_n 2, 1) := by decide +kernel
theorem dL_law_1149 : decode code 1149 = .ok (.aload_n 0, 1) := by decide +kernel
theorem dL_law_1150 : decode code 1150 = .ok (.iload 5, 2) := by decide +kernel
theorem dL_law_1152 : decode code 1152 = .ok (.iconst 1, 1) := by decide +kernel
theorem dL_law_1153 : decode code 1153 = .ok (.iadd, 1) := by decide +kernel
theorem dL_law_1154 : decode code 1154 = .ok (.iaload, 1) := by decide +kernel
theorem dL_law_1155 : decode code 1155 = .ok (.invokevirtual 227, 3) := by decide +kernel
theorem dL_law_1158 : decode code 1158 = .ok (.istore 7, 2) := by decide +kernel
theorem dL_law_1160 : decode code 1160 = .ok (.aload_n 2, 1) := by decide +kernel
theorem dL_law_1161 : decode code 1161 = .ok (.invokevirtual 154, 3) := by decide +kernel
theorem dL_law_1164 : decode code 1164 = .ok (.iload 6, 2) := by decide +kernel
theorem dL_law_1166 : decode code 1166 = .ok (.if_icmp .eq 5, 3) := by decide +kernel
theorem dL_law_1171 : decode code 1171 = .ok (.iload 6, 2) := by decide +kernel
theorem dL_law_1173 : decode code 1173 = .ok (.ifCond .ne 15, 3) := by decide +kernel
theorem dL_law_1176 : decode code 1176 = .ok (.aload_n 3, 1) := by decide +kernel
theorem dL_law_1177 : decode code 1177 = .ok (.iconst 0, 1) := by decide +kernel
theorem dL_law_1178 : decode code 1178 = .ok (.laload, 1) := by decide +kernel
theorem dL_law_1179 : decode code 1179 = .ok (.iload 7, 2) := by decide +kernel
theorem dL_law_1181 : decode code 1181 = .ok (.i2l, 1) := by decide +kernel
theorem dL_law_1182 : decode code 1182 = .ok (.lcmp, 1) := by decide +kernel
theorem dL_law_1183 : decode code 1183 = .ok (.ifCond .eq 5, 3) := by decide +kernel
theorem dL_law_1188 : decode code 1188 = .ok (.goto 1851, 3) := by decide +kernel
theorem dL_law_1191 : decode code 1191 = .ok (.aload_n 1, 1) := by decide +kernel
theorem dL_law_1192 : decode code 1192 = .ok (.aload_n 0, 1) := by decide +kernel
theorem dL_law_1193 : decode code 1193 = .ok (.iload 5, 2) := by decide +kernel
theorem dL_law_1195 : decode code 1195 = .ok (.iconst 1, 1) := by decide +kernel
theorem dL_law_1196 : decode code 1196 = .ok (.iadd, 1) := by decide +kernel
theorem dL_law_1197 : decode code 1197 = .ok (.iaload, 1) := by decide +kernel
theorem dL_law_1198 : decode code 1198 = .ok (.aload_n 0, 1) := by decide +kernel
theorem dL_law_1199 : decode code 1199 = .ok (.iload 5, 2) := by decide +kernel
theorem dL_law_1201 : decode code 1201 = .ok (.iconst 2, 1) := by decide +kernel
theorem dL_law_1202 : decode code 1202 = .ok (.iadd, 1) := by decide +kernel
theorem dL_law_1203 : decode code 1203 = .ok (.iaload, 1) := by decide +kernel
theorem dL_law_1204 : decode code 1204 = .ok (.aload_n 3, 1) := by decide +kernel
theorem dL_law_1205 : decode code 1205 = .ok (.invokestatic 228, 3) := by decide +kernel
theorem dL_law_1208 : decode code 1208 = .ok (.istore 6, 2) := by decide +kernel
theorem dL_law_1210 : decode code 1210 = .ok (.aload_n 2, 1) := by decide +kernel
theorem dL_law_1211 : decode code 1211 = .ok (.aload_n 0, 1) := by decide +kernel
theorem dL_law_1212 : decode code 1212 = .ok (.iload 5, 2) := by decide +kernel
theorem dL_law_1214 : decode code 1214 = .ok (.iconst 1, 1) := by decide +kernel
theorem dL_law_1215 : decode code 1215 = .ok (.iadd, 1) := by decide +kernel
theorem dL_law_1216 : decode code 1216 = .ok (.iaload, 1) := by decide +kernel
theorem dL_law_1217 : decode code 1217 = .ok (.aload_n 0, 1) := by decide +kernel
theorem dL_law_1218 : decode code 1218 = .ok (.iload 5, 2) := by decide +kernel
theorem dL_law_1220 : decode code 1220 = .ok (.iconst 2, 1) := by decide +kernel
theorem dL_law_1221 : decode code 1221 = .ok (.iadd, 1) := by decide +kernel
theorem dL_law_1222 : decode code 1222 = .ok (.iaload, 1) := by decide +kernel
theorem dL_law_1223 : decode code 1223 = .ok (.invokevirtual 230, 3) := by decide +kernel
theorem dL_law_1226 : decode code 1226 = .ok (.istore 7, 2) := by decide +kernel
theorem dL_law_1228 : decode code 1228 = .ok (.aload_n 2, 1) := by decide +kernel
theorem dL_law_1229 : decode code 1229 = .ok (.invokevirtual 154, 3) := by decide +kernel
theorem dL_law_1232 : decode code 1232 = .ok (.iload 6, 2) := by decide +kernel
theorem dL_law_1234 : decode code 1234 = .ok (.if_icmp .eq 5, 3) := by decide +kernel
theorem dL_law_1239 : decode code 1239 = .ok (.iload 6, 2) := by decide +kernel
theorem dL_law_1241 : decode code 1241 = .ok (.ifCond .ne 15, 3) := by decide +kernel
theorem dL_law_1244 : decode code 1244 = .ok (.aload_n 3, 1) := by decide +kernel
theorem dL_law_1245 : decode code 1245 = .ok (.iconst 0, 1) := by decide +kernel
theorem dL_law_1246 : decode code 1246 = .ok (.laload, 1) := by decide +kernel
theorem dL_law_1247 : decode code 1247 = .ok (.iload 7, 2) := by decide +kernel
theorem dL_law_1249 : decode code 1249 = .ok (.i2l, 1) := by decide +kernel
theorem dL_law_1250 : decode code 1250 = .ok (.lcmp, 1) := by decide +kernel
theorem dL_law_1251 : decode code 1251 = .ok (.ifCond .eq 5, 3) := by decide +kernel
theorem dL_law_1256 : decode code 1256 = .ok (.goto 1783, 3) := by decide +kernel
theorem w_law_13 {l : Launch} {G : GT} {b L : Nat} {xs : Nat → Int32} {x a o v u q i n er : Int} {M B : Row} {T : Int → Bool} {S : Int → Row} {Y : Int → Int} {cs sl : Nat} {H : AH} (C : LC l G b L xs x a o v u q i cs sl) (W0 : LW H x a o v u M B n er T S M B n er T S Y) (h3 : ok3 M q) (hS : ∀ k, 0 ≤ k → k < 2 → T k = true → ok3 (S k) q) : LA l G b x a o v i 836 vU vU vU vU [] cs sl H := by
  obtain ⟨⟨hG, hT, hN, hNc⟩, hX, hA, hL, hR, fin⟩ := C
  have hR0 := W0.1.1
  refine a_aload_n dL_law_836 rfl rfl ?_
  refine a_xload_n dL_law_837 rfl rfl ?_
  refine a_iload dL_law_838 rfl ?_
  refine a_iconst dL_law_840 ⟨by decide, by decide⟩ ?_
  refine a_iadd dL_law_841 (by unfold inI; omega) ?_
  refine a_sld hX dL_law_842 (by omega) ?_
  refine a_xload_n dL_law_843 rfl rfl ?_
  refine a_iload dL_law_844 rfl ?_
  refine a_iconst dL_law_846 ⟨by decide, by decide⟩ ?_
  refine a_iadd dL_law_847 (by unfold inI; omega) ?_
  refine a_sld hX dL_law_848 (by omega) ?_
  refine a_aload_n dL_law_849 rfl rfl ?_
  refine a_callSH (d' := 998 + 1) dL_law_850 lc_200 (as := [vR x, vI (xs (i + 1).toNat).toInt, vI (xs (i + 2).toNat).toInt, vR o]) rfl rfl (Nat.le_refl _) (Nat.le_of_ble_eq_true rfl) (nocov rfl) (by omega) (by omega) (CLH.mono (l_separation (d := 998) hG (kRun_0 hR0.la) (fun r9 H9 q9 => ⟨ans_I q9.1, by rw [q9.2.1.2.1]; exact W0.2.2.2.2.1⟩) (k_separation hG hR0)) ?_)
  intro r1 H1 q1
  obtain ⟨rfl, W1, hv⟩ := lqx vI_in vI_nt (fun c i => pX_in) hA (Or.inl rfl) W0 (th01 _) q1
  show LA l G b x a o v i 853 vU vU vU vU [vI _] (cs + 4) (sl + 24) H1
  refine a_istore dL_law_853 (by decide) rfl ?_
  show LA l G b x a o v i 855 (vI _) vU vU vU [] (cs + 4) (sl + 24) H1
  refine a_aload_n dL_law_855 rfl rfl ?_
  refine a_xload_n dL_law_856 rfl rfl ?_
  refine a_iload dL_law_857 rfl ?_
  refine a_iconst dL_law_859 ⟨by decide, by decide⟩ ?_
  refine a_iadd dL_law_860 (by unfold inI; omega) ?_
  refine a_sld hX dL_law_861 (by omega) ?_
  refine a_xload_n dL_law_862 rfl rfl ?_
  refine a_iload dL_law_863 rfl ?_
  refine a_iconst dL_law_865 ⟨by decide, by decide⟩ ?_
  refine a_iadd dL_law_866 (by unfold inI; omega) ?_
  refine a_sld hX dL_law_867 (by omega) ?_
  refine a_callV (d' := 999) dL_law_868 lc_202 (as := [vI (xs (i + 1).toNat).toInt, vI (xs (i + 2).toNat).toInt]) rfl rfl (kMod_0 W1.2.1.1.1) (Nat.le_refl _) (Nat.le_of_ble_eq_true rfl) (nocov rfl) (by omega) (by omega) (CL.mono (c_separation W1.2.1.1) ?_)
  rintro r2 H2 ⟨rfl, w2⟩
  obtain ⟨W2, e2, e2v⟩ := W1.pub hA w2
  show LA l G b x a o v i 871 (vI _) vU vU vU [vI _] (cs + 4) (sl + 24) H2
  refine a_istore dL_law_871 (by decide) rfl ?_
  show LA l G b x a o v i 873 (vI _) (vI _) vU vU [] (cs + 4) (sl + 24) H2
  refine a_aload_n dL_law_873 rfl rfl ?_
  refine a_callV (d' := 999) dL_law_874 lc_154 (as := []) rfl rfl (kMod_0 W2.2.1.1.1) (Nat.le_refl _) (Nat.le_of_ble_eq_true rfl) (nocov rfl) (by omega) (by omega) (CL.mono (c_thrown W2.2.1.1.1) ?_)
  rintro r3 H3 ⟨rfl, rfl⟩
  show LA l G b x a o v i 877 (vI _) (vI _) vU vU [vI _] (cs + 4) (sl + 24) H3
  refine a_iload dL_law_877 rfl ?_
  refine a_icmp_eq dL_law_879 (tgt := 884) rfl (fun _ => ?_) (fun c9 => absurd w2.1 c9)
  refine a_iload dL_law_884 rfl ?_
  refine a_if_ne dL_law_886 (tgt := 901) rfl (fun _ => ?_) (fun c9 => ?_)
  · exact a_goto dL_law_901 (tgt := 3039) rfl (fin _ _ _ _ _ _ _ ⟨_, _, _, _, _, _, _, W2, h3.up (by omega), fun k k1 k2 t => (hS k k1 k2 t).up (by omega)⟩ (by omega) (by omega))
  · refine a_aload_n dL_law_889 rfl rfl ?_
    refine a_iconst dL_law_890 ⟨by decide, by decide⟩ ?_
    refine b_lald dL_law_891 (congrArg Prod.fst W2.2.2.2.2.1) (congrArg Prod.snd W2.2.2.2.2.1) (by omega) ?_
    refine a_iload dL_law_892 rfl ?_
    refine a_i2l dL_law_894 ?_
    refine a_lcmp_eq dL_law_895 dL_law_896 (tgt := 901) rfl (fun _ => ?_) (fun c8 => absurd ((e2 0).trans (hv c9)) c8)
    exact a_goto dL_law_901 (tgt := 3039) rfl (fin _ _ _ _ _ _ _ ⟨_, _, _, _, _, _, _, W2, h3.up (by omega), fun k k1 k2 t => (hS k k1 k2 t).up (by omega)⟩ (by omega) (by omega))
theorem w_law_14 {l : Launch} {G : GT} {b L : Nat} {xs : Nat → Int32} {x a o v u q i n er : Int} {M B : Row} {T : Int → Bool} {S : Int → Row} {Y : Int → Int} {cs sl : Nat} {H : AH} (C : LC l G b L xs x a o v u q i cs sl) (W0 : LW H x a o v u M B n er T S M B n er T S Y) (h3 : ok3 M q) (hS : ∀ k, 0 ≤ k → k < 2 → T k = true → ok3 (S k) q) : LA l G b x a o v i 904 vU vU vU vU [] cs sl H := by
  obtain ⟨⟨hG, hT, hN, hNc⟩, hX, hA, hL, hR, fin⟩ := C
  have hR0 := W0.1.1
  refine a_aload_n dL_law_904 rfl rfl ?_
  refine a_callV (d' := 999) dL_law_905 lc_203 (as := []) rfl rfl (kRun_0 hR0.la) (Nat.le_refl _) (Nat.le_of_ble_eq_true rfl) (nocov rfl) (by omega) (by omega) (CL.mono (k_longerTriples hR0) ?_)
  rintro r1 H1 ⟨e1, o1, R1⟩
  rw [ans_0] at e1
  subst e1
  have W1 := W0.cla hA o1 (fun c i => pX_in) R1
  show LA l G b x a o v i 908 vU vU vU vU [vI _] cs sl H1
  refine a_aload_n dL_law_908 rfl rfl ?_
  refine a_callV (d' := 999) dL_law_909 lc_206 (as := []) rfl rfl (kMod_0 W1.2.1.1.1) (Nat.le_refl _) (Nat.le_of_ble_eq_true rfl) (nocov rfl) (by omega) (by omega) (CL.mono (c_longerTriples W1.2.1.1) ?_)
  rintro r2 H2 ⟨rfl, w2⟩
  obtain ⟨W2, e2, e2v⟩ := W1.pub hA w2
  show LA l G b x a o v i 912 vU vU vU vU [vI _, vI _] cs sl H2
  exact a_icmp_eq dL_law_912 (tgt := 3039) rfl (fun _ => (fin _ _ _ _ _ _ _ ⟨_, _, _, _, _, _, _, W2, h3.up (by omega), fun k k1 k2 t => (hS k k1 k2 t).up (by omega)⟩ (by omega) (by omega))) (fun c8 => absurd rfl c8)
theorem w_law_15 {l : Launch} {G : GT} {b L : Nat} {xs : Nat → Int32} {x a o v u q i n er : Int} {M B : Row} {T : Int → Bool} {S : Int → Row} {Y : Int → Int} {cs sl : Nat} {H : AH} (C : LC l G b L xs x a o v u q i cs sl) (W0 : LW H x a o v u M B n er T S M B n er T S Y) (h3 : ok3 M q) (hS : ∀ k, 0 ≤ k → k < 2 → T k = true → ok3 (S k) q) : LA l G b x a o v i 917 vU vU vU vU [] cs sl H := by
  obtain ⟨⟨hG, hT, hN, hNc⟩, hX, hA, hL, hR, fin⟩ := C
  have hR0 := W0.1.1
  refine a_aload_n dL_law_917 rfl rfl ?_
  refine a_callV (d' := 999) dL_law_918 lc_207 (as := []) rfl rfl (kRun_0 hR0.la) (Nat.le_refl _) (Nat.le_of_ble_eq_true rfl) (nocov rfl) (by omega) (by omega) (CL.mono (k_now hR0) ?_)
  rintro r1 H1 ⟨e1, o1, R1⟩
  rw [ans_0] at e1
  subst e1
  have W1 := W0.cla hA o1 (fun c i => pX_in) R1
  show LA l G b x a o v i 921 vU vU vU vU [vI _] cs sl H1
  refine a_aload_n dL_law_921 rfl rfl ?_
  refine a_callV (d' := 999) dL_law_922 lc_210 (as := []) rfl rfl (kMod_0 W1.2.1.1.1) (Nat.le_refl _) (Nat.le_of_ble_eq_true rfl) (nocov rfl) (by omega) (by omega) (CL.mono (c_now W1.2.1.1) ?_)
  rintro r2 H2 ⟨rfl, w2⟩
  obtain ⟨W2, e2, e2v⟩ := W1.pub hA w2
  show LA l G b x a o v i 925 vU vU vU vU [vI _, vI _] cs sl H2
  exact a_icmp_eq dL_law_925 (tgt := 3039) rfl (fun _ => (fin _ _ _ _ _ _ _ ⟨_, _, _, _, _, _, _, W2, h3.up (by omega), fun k k1 k2 t => (hS k k1 k2 t).up (by omega)⟩ (by omega) (by omega))) (fun c8 => absurd rfl c8)
theorem w_law_16 {l : Launch} {G : GT} {b L : Nat} {xs : Nat → Int32} {x a o v u q i n er : Int} {M B : Row} {T : Int → Bool} {S : Int → Row} {Y : Int → Int} {cs sl : Nat} {H : AH} (C : LC l G b L xs x a o v u q i cs sl) (W0 : LW H x a o v u M B n er T S M B n er T S Y) (h3 : ok3 M q) (hS : ∀ k, 0 ≤ k → k < 2 → T k = true → ok3 (S k) q) : LA l G b x a o v i 930 vU vU vU vU [] cs sl H := by
  obtain ⟨⟨hG, hT, hN, hNc⟩, hX, hA, hL, hR, fin⟩ := C
  have hR0 := W0.1.1
  refine a_aload_n dL_law_930 rfl rfl ?_
  refine a_xload_n dL_law_931 rfl rfl ?_
  refine a_iload dL_law_932 rfl ?_
  refine a_iconst dL_law_934 ⟨by decide, by decide⟩ ?_
  refine a_iadd dL_law_935 (by unfold inI; omega) ?_
  refine a_sld hX dL_law_936 (by omega) ?_
  refine a_aload_n dL_law_937 rfl rfl ?_
  refine a_callSH (d' := 998 + 1) dL_law_938 lc_211 (as := [vR x, vI (xs (i + 1).toNat).toInt, vR o]) rfl rfl (Nat.le_refl _) (Nat.le_of_ble_eq_true rfl) (nocov rfl) (by omega) (by omega) (CLH.mono (l_advance (d := 998) hG (kRun_0 hR0.la) (fun r9 H9 q9 => ⟨ans_I q9.1, by rw [q9.2.1.2.1]; exact W0.2.2.2.2.1⟩) (k_advance hG hR0 h3.1)) ?_)
  intro r1 H1 q1
  obtain ⟨rfl, W1, hv⟩ := lqx vI_in vI_nt (fun c i => pX_in) hA (Or.inl rfl) W0 (th01 _) q1
  show LA l G b x a o v i 941 vU vU vU vU [vI _] (cs + 4) (sl + 24) H1
  refine a_istore dL_law_941 (by decide) rfl ?_
  show LA l G b x a o v i 943 (vI _) vU vU vU [] (cs + 4) (sl + 24) H1
  refine a_aload_n dL_law_943 rfl rfl ?_
  refine a_xload_n dL_law_944 rfl rfl ?_
  refine a_iload dL_law_945 rfl ?_
  refine a_iconst dL_law_947 ⟨by decide, by decide⟩ ?_
  refine a_iadd dL_law_948 (by unfold inI; omega) ?_
  refine a_sld hX dL_law_949 (by omega) ?_
  refine a_callV (d' := 999) dL_law_950 lc_213 (as := [vI (xs (i + 1).toNat).toInt]) rfl rfl (kMod_0 W1.2.1.1.1) (Nat.le_refl _) (Nat.le_of_ble_eq_true rfl) (nocov rfl) (by omega) (by omega) (CL.mono (c_advance W1.2.1.1 h3.1) ?_)
  rintro r2 H2 ⟨rfl, w2⟩
  obtain ⟨W2, e2, e2v⟩ := W1.mut hA w2
  show LA l G b x a o v i 953 (vI _) vU vU vU [vI _] (cs + 4) (sl + 24) H2
  refine a_istore dL_law_953 (by decide) rfl ?_
  show LA l G b x a o v i 955 (vI _) (vI _) vU vU [] (cs + 4) (sl + 24) H2
  refine a_aload_n dL_law_955 rfl rfl ?_
  refine a_callV (d' := 999) dL_law_956 lc_154 (as := []) rfl rfl (kMod_0 W2.2.1.1.1) (Nat.le_refl _) (Nat.le_of_ble_eq_true rfl) (nocov rfl) (by omega) (by omega) (CL.mono (c_thrown W2.2.1.1.1) ?_)
  rintro r3 H3 ⟨rfl, rfl⟩
  show LA l G b x a o v i 959 (vI _) (vI _) vU vU [vI _] (cs + 4) (sl + 24) H3
  refine a_iload dL_law_959 rfl ?_
  refine a_icmp_eq dL_law_961 (tgt := 966) rfl (fun _ => ?_) (fun c9 => absurd w2.1 c9)
  refine a_iload dL_law_966 rfl ?_
  refine a_if_ne dL_law_968 (tgt := 983) rfl (fun _ => ?_) (fun c9 => ?_)
  · exact a_goto dL_law_983 (tgt := 3039) rfl (fin _ _ _ _ _ _ _ ⟨_, _, _, _, _, _, _, W2, (h3.up (by omega)).adv hR0.ok, fun k k1 k2 t => (hS k k1 k2 t).up (by omega)⟩ (by omega) (by omega))
  · refine a_aload_n dL_law_971 rfl rfl ?_
    refine a_iconst dL_law_972 ⟨by decide, by decide⟩ ?_
    refine b_lald dL_law_973 (congrArg Prod.fst W2.2.2.2.2.1) (congrArg Prod.snd W2.2.2.2.2.1) (by omega) ?_
    refine a_iload dL_law_974 rfl ?_
    refine a_i2l dL_law_976 ?_
    refine a_lcmp_eq dL_law_977 dL_law_978 (tgt := 983) rfl (fun _ => ?_) (fun c8 => absurd ((e2 0).trans (hv c9)) c8)
    exact a_goto dL_law_983 (tgt := 3039) rfl (fin _ _ _ _ _ _ _ ⟨_, _, _, _, _, _, _, W2, (h3.up (by omega)).adv hR0.ok, fun k k1 k2 t => (hS k k1 k2 t).up (by omega)⟩ (by omega) (by omega))
theorem w_law_17 {l : Launch} {G : GT} {b L : Nat} {xs : Nat → Int32} {x a o v u q i n er : Int} {M B : Row} {T : Int → Bool} {S : Int → Row} {Y : Int → Int} {cs sl : Nat} {H : AH} (C : LC l G b L xs x a o v u q i cs sl) (W0 : LW H x a o v u M B n er T S M B n er T S Y) (h3 : ok3 M q) (hS : ∀ k, 0 ≤ k → k < 2 → T k = true → ok3 (S k) q) : LA l G b x a o v i 986 vU vU vU vU [] cs sl H := by
  obtain ⟨⟨hG, hT, hN, hNc⟩, hX, hA, hL, hR, fin⟩ := C
  have hR0 := W0.1.1
  refine a_aload_n dL_law_986 rfl rfl ?_
  refine a_callV (d' := 999) dL_law_987 lc_214 (as := []) rfl rfl (kRun_0 hR0.la) (Nat.le_refl _) (Nat.le_of_ble_eq_true rfl) (nocov rfl) (by omega) (by omega) (CL.mono (k_shift hR0) ?_)
  rintro r1 H1 ⟨e1, o1, R1⟩
  rw [ans_0] at e1
  subst e1
  have W1 := W0.cla hA o1 (fun c i => pX_in) R1
  show LA l G b x a o v i 990 vU vU vU vU [vI _] cs sl H1
  refine a_aload_n dL_law_990 rfl rfl ?_
  refine a_callV (d' := 999) dL_law_991 lc_217 (as := []) rfl rfl (kMod_0 W1.2.1.1.1) (Nat.le_refl _) (Nat.le_of_ble_eq_true rfl) (nocov rfl) (by omega) (by omega) (CL.mono (c_shift W1.2.1.1) ?_)
  rintro r2 H2 ⟨rfl, w2⟩
  obtain ⟨W2, e2, e2v⟩ := W1.pub hA w2
  show LA l G b x a o v i 994 vU vU vU vU [vI _, vI _] cs sl H2
  exact a_icmp_eq dL_law_994 (tgt := 3039) rfl (fun _ => (fin _ _ _ _ _ _ _ ⟨_, _, _, _, _, _, _, W2, h3.up (by omega), fun k k1 k2 t => (hS k k1 k2 t).up (by omega)⟩ (by omega) (by omega))) (fun c8 => absurd rfl c8)
theorem w_law_18 {l : Launch} {G : GT} {b L : Nat} {xs : Nat → Int32} {x a o v u q i n er : Int} {M B : Row} {T : Int → Bool} {S : Int → Row} {Y : Int → Int} {cs sl : Nat} {H : AH} (C : LC l G b L xs x a o v u q i cs sl) (W0 : LW H x a o v u M B n er T S M B n er T S Y) (h3 : ok3 M q) (hS : ∀ k, 0 ≤ k → k < 2 → T k = true → ok3 (S k) q) : LA l G b x a o v i 999 vU vU vU vU [] cs sl H := by
  obtain ⟨⟨hG, hT, hN, hNc⟩, hX, hA, hL, hR, fin⟩ := C
  have hR0 := W0.1.1
  refine a_aload_n dL_law_999 rfl rfl ?_
  refine a_xload_n dL_law_1000 rfl rfl ?_
  refine a_iload dL_law_1001 rfl ?_
  refine a_iconst dL_law_1003 ⟨by decide, by decide⟩ ?_
  refine a_iadd dL_law_1004 (by unfold inI; omega) ?_
  refine a_sld hX dL_law_1005 (by omega) ?_
  refine a_aload_n dL_law_1006 rfl rfl ?_
  refine a_callSH (d' := 998 + 1) dL_law_1007 lc_218 (as := [vR x, vI (xs (i + 1).toNat).toInt, vR o]) rfl rfl (Nat.le_refl _) (Nat.le_of_ble_eq_true rfl) (nocov rfl) (by omega) (by omega) (CLH.mono (l_setShift (d := 998) hG (kRun_0 hR0.la) (fun r9 H9 q9 => ⟨ans_I q9.1, by rw [q9.2.1.2.1]; exact W0.2.2.2.2.1⟩) (k_setShift hG hR0)) ?_)
  intro r1 H1 q1
  obtain ⟨rfl, W1, hv⟩ := lqx vI_in vI_nt (fun c i => pX_in) hA (Or.inl rfl) W0 (th01 _) q1
  show LA l G b x a o v i 1010 vU vU vU vU [vI _] (cs + 4) (sl + 24) H1
  refine a_istore dL_law_1010 (by decide) rfl ?_
  show LA l G b x a o v i 1012 (vI _) vU vU vU [] (cs + 4) (sl + 24) H1
  refine a_aload_n dL_law_1012 rfl rfl ?_
  refine a_xload_n dL_law_1013 rfl rfl ?_
  refine a_iload dL_law_1014 rfl ?_
  refine a_iconst dL_law_1016 ⟨by decide, by decide⟩ ?_
  refine a_iadd dL_law_1017 (by unfold inI; omega) ?_
  refine a_sld hX dL_law_1018 (by omega) ?_
  refine a_callV (d' := 999) dL_law_1019 lc_220 (as := [vI (xs (i + 1).toNat).toInt]) rfl rfl (kMod_0 W1.2.1.1.1) (Nat.le_refl _) (Nat.le_of_ble_eq_true rfl) (nocov rfl) (by omega) (by omega) (CL.mono (c_setShift W1.2.1.1) ?_)
  rintro r2 H2 ⟨rfl, w2⟩
  obtain ⟨W2, e2, e2v⟩ := W1.mut hA w2
  show LA l G b x a o v i 1022 (vI _) vU vU vU [vI _] (cs + 4) (sl + 24) H2
  refine a_istore dL_law_1022 (by decide) rfl ?_
  show LA l G b x a o v i 1024 (vI _) (vI _) vU vU [] (cs + 4) (sl + 24) H2
  refine a_aload_n dL_law_1024 rfl rfl ?_
  refine a_callV (d' := 999) dL_law_1025 lc_154 (as := []) rfl rfl (kMod_0 W2.2.1.1.1) (Nat.le_refl _) (Nat.le_of_ble_eq_true rfl) (nocov rfl) (by omega) (by omega) (CL.mono (c_thrown W2.2.1.1.1) ?_)
  rintro r3 H3 ⟨rfl, rfl⟩
  show LA l G b x a o v i 1028 (vI _) (vI _) vU vU [vI _] (cs + 4) (sl + 24) H3
  refine a_iload dL_law_1028 rfl ?_
  refine a_icmp_eq dL_law_1030 (tgt := 1035) rfl (fun _ => ?_) (fun c9 => absurd w2.1 c9)
  refine a_iload dL_law_1035 rfl ?_
  refine a_if_ne dL_law_1037 (tgt := 1052) rfl (fun _ => ?_) (fun c9 => ?_)
  · exact a_goto dL_law_1052 (tgt := 3039) rfl (fin _ _ _ _ _ _ _ ⟨_, _, _, _, _, _, _, W2, (h3.up (by omega)).shift, fun k k1 k2 t => (hS k k1 k2 t).up (by omega)⟩ (by omega) (by omega))
  · refine a_aload_n dL_law_1040 rfl rfl ?_
    refine a_iconst dL_law_1041 ⟨by decide, by decide⟩ ?_
    refine b_lald dL_law_1042 (congrArg Prod.fst W2.2.2.2.2.1) (congrArg Prod.snd W2.2.2.2.2.1) (by omega) ?_
    refine a_iload dL_law_1043 rfl ?_
    refine a_i2l dL_law_1045 ?_
    refine a_lcmp_eq dL_law_1046 dL_law_1047 (tgt := 1052) rfl (fun _ => ?_) (fun c8 => absurd ((e2 0).trans (hv c9)) c8)
    exact a_goto dL_law_1052 (tgt := 3039) rfl (fin _ _ _ _ _ _ _ ⟨_, _, _, _, _, _, _, W2, (h3.up (by omega)).shift, fun k k1 k2 t => (hS k k1 k2 t).up (by omega)⟩ (by omega) (by omega))
theorem w_law_19 {l : Launch} {G : GT} {b L : Nat} {xs : Nat → Int32} {x a o v u q i n er : Int} {M B : Row} {T : Int → Bool} {S : Int → Row} {Y : Int → Int} {cs sl : Nat} {H : AH} (C : LC l G b L xs x a o v u q i cs sl) (W0 : LW H x a o v u M B n er T S M B n er T S Y) (h3 : ok3 M q) (hS : ∀ k, 0 ≤ k → k < 2 → T k = true → ok3 (S k) q) : LA l G b x a o v i 1055 vU vU vU vU [] cs sl H := by
  obtain ⟨⟨hG, hT, hN, hNc⟩, hX, hA, hL, hR, fin⟩ := C
  have hR0 := W0.1.1
  refine a_aload_n dL_law_1055 rfl rfl ?_
  refine a_xload_n dL_law_1056 rfl rfl ?_
  refine a_iload dL_law_1057 rfl ?_
  refine a_iconst dL_law_1059 ⟨by decide, by decide⟩ ?_
  refine a_iadd dL_law_1060 (by unfold inI; omega) ?_
  refine a_sld hX dL_law_1061 (by omega) ?_
  refine a_xload_n dL_law_1062 rfl rfl ?_
  refine a_iload dL_law_1063 rfl ?_
  refine a_iconst dL_law_1065 ⟨by decide, by decide⟩ ?_
  refine a_iadd dL_law_1066 (by unfold inI; omega) ?_
  refine a_sld hX dL_law_1067 (by omega) ?_
  refine a_xload_n dL_law_1068 rfl rfl ?_
  refine a_iload dL_law_1069 rfl ?_
  refine a_iconst dL_law_1071 ⟨by decide, by decide⟩ ?_
  refine a_iadd dL_law_1072 (by unfold inI; omega) ?_
  refine a_sld hX dL_law_1073 (by omega) ?_
  refine a_aload_n dL_law_1074 rfl rfl ?_
  refine a_callSH (d' := 998 + 1) dL_law_1075 lc_221 (as := [vR x, vI (xs (i + 1).toNat).toInt, vI (xs (i + 2).toNat).toInt, vI (xs (i + 3).toNat).toInt, vR o]) rfl rfl (Nat.le_refl _) (Nat.le_of_ble_eq_true rfl) (nocov rfl) (by omega) (by omega) (CLH.mono (l_setWake (d := 998) hG (kRun_0 hR0.la) (fun r9 H9 q9 => ⟨ans_I q9.1, by rw [q9.2.1.2.1]; exact W0.2.2.2.2.1⟩) (k_setWake hG hR0)) ?_)
  intro r1 H1 q1
  obtain ⟨rfl, W1, hv⟩ := lqx vI_in vI_nt (fun c i => pX_in) hA (Or.inl rfl) W0 (th01 _) q1
  show LA l G b x a o v i 1078 vU vU vU vU [vI _] (cs + 4) (sl + 24) H1
  refine a_istore dL_law_1078 (by decide) rfl ?_
  show LA l G b x a o v i 1080 (vI _) vU vU vU [] (cs + 4) (sl + 24) H1
  refine a_aload_n dL_law_1080 rfl rfl ?_
  refine a_xload_n dL_law_1081 rfl rfl ?_
  refine a_iload dL_law_1082 rfl ?_
  refine a_iconst dL_law_1084 ⟨by decide, by decide⟩ ?_
  refine a_iadd dL_law_1085 (by unfold inI; omega) ?_
  refine a_sld hX dL_law_1086 (by omega) ?_
  refine a_xload_n dL_law_1087 rfl rfl ?_
  refine a_iload dL_law_1088 rfl ?_
  refine a_iconst dL_law_1090 ⟨by decide, by decide⟩ ?_
  refine a_iadd dL_law_1091 (by unfold inI; omega) ?_
  refine a_sld hX dL_law_1092 (by omega) ?_
  refine a_xload_n dL_law_1093 rfl rfl ?_
  refine a_iload dL_law_1094 rfl ?_
  refine a_iconst dL_law_1096 ⟨by decide, by decide⟩ ?_
  refine a_iadd dL_law_1097 (by unfold inI; omega) ?_
  refine a_sld hX dL_law_1098 (by omega) ?_
  refine a_callV (d' := 999) dL_law_1099 lc_224 (as := [vI (xs (i + 1).toNat).toInt, vI (xs (i + 2).toNat).toInt, vI (xs (i + 3).toNat).toInt]) rfl rfl (kMod_0 W1.2.1.1.1) (Nat.le_refl _) (Nat.le_of_ble_eq_true rfl) (nocov rfl) (by omega) (by omega) (CL.mono (c_setWake W1.2.1.1) ?_)
  rintro r2 H2 ⟨rfl, w2⟩
  obtain ⟨W2, e2, e2v⟩ := W1.mut hA w2
  show LA l G b x a o v i 1102 (vI _) vU vU vU [vI _] (cs + 4) (sl + 24) H2
  refine a_istore dL_law_1102 (by decide) rfl ?_
  show LA l G b x a o v i 1104 (vI _) (vI _) vU vU [] (cs + 4) (sl + 24) H2
  refine a_aload_n dL_law_1104 rfl rfl ?_
  refine a_callV (d' := 999) dL_law_1105 lc_154 (as := []) rfl rfl (kMod_0 W2.2.1.1.1) (Nat.le_refl _) (Nat.le_of_ble_eq_true rfl) (nocov rfl) (by omega) (by omega) (CL.mono (c_thrown W2.2.1.1.1) ?_)
  rintro r3 H3 ⟨rfl, rfl⟩
  show LA l G b x a o v i 1108 (vI _) (vI _) vU vU [vI _] (cs + 4) (sl + 24) H3
  refine a_iload dL_law_1108 rfl ?_
  refine a_icmp_eq dL_law_1110 (tgt := 1115) rfl (fun _ => ?_) (fun c9 => absurd w2.1 c9)
  refine a_iload dL_law_1115 rfl ?_
  refine a_if_ne dL_law_1117 (tgt := 1132) rfl (fun _ => ?_) (fun c9 => ?_)
  · exact a_goto dL_law_1132 (tgt := 3039) rfl (fin _ _ _ _ _ _ _ ⟨_, _, _, _, _, _, _, W2, (h3.up (by omega)).wake, fun k k1 k2 t => (hS k k1 k2 t).up (by omega)⟩ (by omega) (by omega))
  · refine a_aload_n dL_law_1120 rfl rfl ?_
    refine a_iconst dL_law_1121 ⟨by decide, by decide⟩ ?_
    refine b_lald dL_law_1122 (congrArg Prod.fst W2.2.2.2.2.1) (congrArg Prod.snd W2.2.2.2.2.1) (by omega) ?_
    refine a_iload dL_law_1123 rfl ?_
    refine a_i2l dL_law_1125 ?_
    refine a_lcmp_eq dL_law_1126 dL_law_1127 (tgt := 1132) rfl (fun _ => ?_) (fun c8 => absurd ((e2 0).trans (hv c9)) c8)
    exact a_goto dL_law_1132 (tgt := 3039) rfl (fin _ _ _ _ _ _ _ ⟨_, _, _, _, _, _, _, W2, (h3.up (by omega)).wake, fun k k1 k2 t => (hS k k1 k2 t).up (by omega)⟩ (by omega) (by omega))
theorem w_law_20 {l : Launch} {G : GT} {b L : Nat} {xs : Nat → Int32} {x a o v u q i n er : Int} {M B : Row} {T : Int → Bool} {S : Int → Row} {Y : Int → Int} {cs sl : Nat} {H : AH} (C : LC l G b L xs x a o v u q i cs sl) (W0 : LW H x a o v u M B n er T S M B n er T S Y) (h3 : ok3 M q) (hS : ∀ k, 0 ≤ k → k < 2 → T k = true → ok3 (S k) q) : LA l G b x a o v i 1135 vU vU vU vU [] cs sl H := by
  obtain ⟨⟨hG, hT, hN, hNc⟩, hX, hA, hL, hR, fin⟩ := C
  have hR0 := W0.1.1
  refine a_aload_n dL_law_1135 rfl rfl ?_
  refine a_xload_n dL_law_1136 rfl rfl ?_
  refine a_iload dL_law_1137 rfl ?_
  refine a_iconst dL_law_1139 ⟨by decide, by decide⟩ ?_
  refine a_iadd dL_law_1140 (by unfold inI; omega) ?_
  refine a_sld hX dL_law_1141 (by omega) ?_
  refine a_aload_n dL_law_1142 rfl rfl ?_
  refine a_callSH (d' := 998 + 1) dL_law_1143 lc_225 (as := [vR x, vI (xs (i + 1).toNat).toInt, vR o]) rfl rfl (Nat.le_refl _) (Nat.le_of_ble_eq_true rfl) (nocov rfl) (by omega) (by omega) (CLH.mono (l_runwayOf (d := 998) hG (kRun_0 hR0.la) (fun r9 H9 q9 => ⟨ans_I q9.1, by rw [q9.2.1.2.1]; exact W0.2.2.2.2.1⟩) (k_runwayOf hG hR0)) ?_)
  intro r1 H1 q1
  obtain ⟨rfl, W1, hv⟩ := lqx vI_in vI_nt (fun c i => pX_in) hA (Or.inl rfl) W0 (th01 _) q1
  show LA l G b x a o v i 1146 vU vU vU vU [vI _] (cs + 4) (sl + 24) H1
  refine a_istore dL_law_1146 (by decide) rfl ?_
  show LA l G b x a o v i 1148 (vI _) vU vU vU [] (cs + 4) (sl + 24) H1
  refine a_aload_n dL_law_1148 rfl rfl ?_
  refine a_xload_n dL_law_1149 rfl rfl ?_
  refine a_iload dL_law_1150 rfl ?_
  refine a_iconst dL_law_1152 ⟨by decide, by decide⟩ ?_
  refine a_iadd dL_law_1153 (by unfold inI; omega) ?_
  refine a_sld hX dL_law_1154 (by omega) ?_
  refine a_callV (d' := 999) dL_law_1155 lc_227 (as := [vI (xs (i + 1).toNat).toInt]) rfl rfl (kMod_0 W1.2.1.1.1) (Nat.le_refl _) (Nat.le_of_ble_eq_true rfl) (nocov rfl) (by omega) (by omega) (CL.mono (c_runwayOf W1.2.1.1) ?_)
  rintro r2 H2 ⟨rfl, w2⟩
  obtain ⟨W2, e2, e2v⟩ := W1.pub hA w2
  show LA l G b x a o v i 1158 (vI _) vU vU vU [vI _] (cs + 4) (sl + 24) H2
  refine a_istore dL_law_1158 (by decide) rfl ?_
  show LA l G b x a o v i 1160 (vI _) (vI _) vU vU [] (cs + 4) (sl + 24) H2
  refine a_aload_n dL_law_1160 rfl rfl ?_
  refine a_callV (d' := 999) dL_law_1161 lc_154 (as := []) rfl rfl (kMod_0 W2.2.1.1.1) (Nat.le_refl _) (Nat.le_of_ble_eq_true rfl) (nocov rfl) (by omega) (by omega) (CL.mono (c_thrown W2.2.1.1.1) ?_)
  rintro r3 H3 ⟨rfl, rfl⟩
  show LA l G b x a o v i 1164 (vI _) (vI _) vU vU [vI _] (cs + 4) (sl + 24) H3
  refine a_iload dL_law_1164 rfl ?_
  refine a_icmp_eq dL_law_1166 (tgt := 1171) rfl (fun _ => ?_) (fun c9 => absurd w2.1 c9)
  refine a_iload dL_law_1171 rfl ?_
  refine a_if_ne dL_law_1173 (tgt := 1188) rfl (fun _ => ?_) (fun c9 => ?_)
  · exact a_goto dL_law_1188 (tgt := 3039) rfl (fin _ _ _ _ _ _ _ ⟨_, _, _, _, _, _, _, W2, h3.up (by omega), fun k k1 k2 t => (hS k k1 k2 t).up (by omega)⟩ (by omega) (by omega))
  · refine a_aload_n dL_law_1176 rfl rfl ?_
    refine a_iconst dL_law_1177 ⟨by decide, by decide⟩ ?_
    refine b_lald dL_law_1178 (congrArg Prod.fst W2.2.2.2.2.1) (congrArg Prod.snd W2.2.2.2.2.1) (by omega) ?_
    refine a_iload dL_law_1179 rfl ?_
    refine a_i2l dL_law_1181 ?_
    refine a_lcmp_eq dL_law_1182 dL_law_1183 (tgt := 1188) rfl (fun _ => ?_) (fun c8 => absurd ((e2 0).trans (hv c9)) c8)
    exact a_goto dL_law_1188 (tgt := 3039) rfl (fin _ _ _ _ _ _ _ ⟨_, _, _, _, _, _, _, W2, h3.up (by omega), fun k k1 k2 t => (hS k k1 k2 t).up (by omega)⟩ (by omega) (by omega))
theorem w_law_21 {l : Launch} {G : GT} {b L : Nat} {xs : Nat → Int32} {x a o v u q i n er : Int} {M B : Row} {T : Int → Bool} {S : Int → Row} {Y : Int → Int} {cs sl : Nat} {H : AH} (C : LC l G b L xs x a o v u q i cs sl) (W0 : LW H x a o v u M B n er T S M B n er T S Y) (h3 : ok3 M q) (hS : ∀ k, 0 ≤ k → k < 2 → T k = true → ok3 (S k) q) : LA l G b x a o v i 1191 vU vU vU vU [] cs sl H := by
  obtain ⟨⟨hG, hT, hN, hNc⟩, hX, hA, hL, hR, fin⟩ := C
  have hR0 := W0.1.1
  refine a_aload_n dL_law_1191 rfl rfl ?_
  refine a_xload_n dL_law_1192 rfl rfl ?_
  refine a_iload dL_law_1193 rfl ?_
  refine a_iconst dL_law_1195 ⟨by decide, by decide⟩ ?_
  refine a_iadd dL_law_1196 (by unfold inI; omega) ?_
  refine a_sld hX dL_law_1197 (by omega) ?_
  refine a_xload_n dL_law_1198 rfl rfl ?_
  refine a_iload dL_law_1199 rfl ?_
  refine a_iconst dL_law_1201 ⟨by decide, by decide⟩ ?_
  refine a_iadd dL_law_1202 (by unfold inI; omega) ?_
  refine a_sld hX dL_law_1203 (by omega) ?_
  refine a_aload_n dL_law_1204 rfl rfl ?_
  refine a_callSH (d' := 998 + 1) dL_law_1205 lc_228 (as := [vR x, vI (xs (i + 1).toNat).toInt, vI (xs (i + 2).toNat).toInt, vR o]) rfl rfl (Nat.le_refl _) (Nat.le_of_ble_eq_true rfl) (nocov rfl) (by omega) (by omega) (CLH.mono (l_assign (d := 998) hG (kRun_0 hR0.la) (fun r9 H9 q9 => ⟨ans_I q9.1, by rw [q9.2.1.2.1]; exact W0.2.2.2.2.1⟩) (k_assign hG hR0)) ?_)
  intro r1 H1 q1
  obtain ⟨rfl, W1, hv⟩ := lqx vI_in vI_nt (fun c i => pX_in) hA (Or.inl rfl) W0 (th01 _) q1
  show LA l G b x a o v i 1208 vU vU vU vU [vI _] (cs + 4) (sl + 24) H1
  refine a_istore dL_law_1208 (by decide) rfl ?_
  show LA l G b x a o v i 1210 (vI _) vU vU vU [] (cs + 4) (sl + 24) H1
  refine a_aload_n dL_law_1210 rfl rfl ?_
  refine a_xload_n dL_law_1211 rfl rfl ?_
  refine a_iload dL_law_1212 rfl ?_
  refine a_iconst dL_law_1214 ⟨by decide, by decide⟩ ?_
  refine a_iadd dL_law_1215 (by unfold inI; omega) ?_
  refine a_sld hX dL_law_1216 (by omega) ?_
  refine a_xload_n dL_law_1217 rfl rfl ?_
  refine a_iload dL_law_1218 rfl ?_
  refine a_iconst dL_law_1220 ⟨by decide, by decide⟩ ?_
  refine a_iadd dL_law_1221 (by unfold inI; omega) ?_
  refine a_sld hX dL_law_1222 (by omega) ?_
  refine a_callV (d' := 999) dL_law_1223 lc_230 (as := [vI (xs (i + 1).toNat).toInt, vI (xs (i + 2).toNat).toInt]) rfl rfl (kMod_0 W1.2.1.1.1) (Nat.le_refl _) (Nat.le_of_ble_eq_true rfl) (nocov rfl) (by omega) (by omega) (CL.mono (c_assign W1.2.1.1) ?_)
  rintro r2 H2 ⟨rfl, w2⟩
  obtain ⟨W2, e2, e2v⟩ := W1.mut hA w2
  show LA l G b x a o v i 1226 (vI _) vU vU vU [vI _] (cs + 4) (sl + 24) H2
  refine a_istore dL_law_1226 (by decide) rfl ?_
  show LA l G b x a o v i 1228 (vI _) (vI _) vU vU [] (cs + 4) (sl + 24) H2
  refine a_aload_n dL_law_1228 rfl rfl ?_
  refine a_callV (d' := 999) dL_law_1229 lc_154 (as := []) rfl rfl (kMod_0 W2.2.1.1.1) (Nat.le_refl _) (Nat.le_of_ble_eq_true rfl) (nocov rfl) (by omega) (by omega) (CL.mono (c_thrown W2.2.1.1.1) ?_)
  rintro r3 H3 ⟨rfl, rfl⟩
  show LA l G b x a o v i 1232 (vI _) (vI _) vU vU [vI _] (cs + 4) (sl + 24) H3
  refine a_iload dL_law_1232 rfl ?_
  refine a_icmp_eq dL_law_1234 (tgt := 1239) rfl (fun _ => ?_) (fun c9 => absurd w2.1 c9)
  refine a_iload dL_law_1239 rfl ?_
  refine a_if_ne dL_law_1241 (tgt := 1256) rfl (fun _ => ?_) (fun c9 => ?_)
  · exact a_goto dL_law_1256 (tgt := 3039) rfl (fin _ _ _ _ _ _ _ ⟨_, _, _, _, _, _, _, W2, (h3.up (by omega)).asgn, fun k k1 k2 t => (hS k k1 k2 t).up (by omega)⟩ (by omega) (by omega))
  · refine a_aload_n dL_law_1244 rfl rfl ?_
    refine a_iconst dL_law_1245 ⟨by decide, by decide⟩ ?_
    refine b_lald dL_law_1246 (congrArg Prod.fst W2.2.2.2.2.1) (congrArg Prod.snd W2.2.2.2.2.1) (by omega) ?_
    refine a_iload dL_law_1247 rfl ?_
    refine a_i2l dL_law_1249 ?_
    refine a_lcmp_eq dL_law_1250 dL_law_1251 (tgt := 1256) rfl (fun _ => ?_) (fun c8 => absurd ((e2 0).trans (hv c9)) c8)
    exact a_goto dL_law_1256 (tgt := 3039) rfl (fin _ _ _ _ _ _ _ ⟨_, _, _, _, _, _, _, W2, (h3.up (by omega)).asgn, fun k k1 k2 t => (hS k k1 k2 t).up (by omega)⟩ (by omega) (by omega))
