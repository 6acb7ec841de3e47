theorem dL_law_855 : decode cL_law 855 = .ok (.iaload, 1) := by decide +kernel
theorem dL_law_856 : decode cL_law 856 = .ok (.aload_n 3, 1) := by decide +kernel
theorem dL_law_857 : decode cL_law 857 = .ok (.invokestatic 198, 3) := by decide +kernel
theorem dL_law_860 : decode cL_law 860 = .ok (.istore 5, 2) := by decide +kernel
theorem dL_law_862 : decode cL_law 862 = .ok (.aload_n 2, 1) := by decide +kernel
theorem dL_law_863 : decode cL_law 863 = .ok (.aload_n 0, 1) := by decide +kernel
theorem dL_law_864 : decode cL_law 864 = .ok (.iload 4, 2) := by decide +kernel
theorem dL_law_866 : decode cL_law 866 = .ok (.iconst 1, 1) := by decide +kernel
theorem dL_law_867 : decode cL_law 867 = .ok (.iadd, 1) := by decide +kernel
theorem dL_law_868 : decode cL_law 868 = .ok (.iaload, 1) := by decide +kernel
theorem dL_law_869 : decode cL_law 869 = .ok (.invokevirtual 200, 3) := by decide +kernel
theorem dL_law_872 : decode cL_law 872 = .ok (.istore 6, 2) := by decide +kernel
theorem dL_law_874 : decode cL_law 874 = .ok (.aload_n 2, 1) := by decide +kernel
theorem dL_law_875 : decode cL_law 875 = .ok (.invokevirtual 163, 3) := by decide +kernel
theorem dL_law_878 : decode cL_law 878 = .ok (.iload 5, 2) := by decide +kernel
theorem dL_law_880 : decode cL_law 880 = .ok (.if_icmp .eq 5, 3) := by decide +kernel
theorem dL_law_883 : decode cL_law 883 = .ok (.iconst 0, 1) := by decide +kernel
theorem dL_law_884 : decode cL_law 884 = .ok (.ireturn, 1) := by decide +kernel
theorem dL_law_885 : decode cL_law 885 = .ok (.iload 5, 2) := by decide +kernel
theorem dL_law_887 : decode cL_law 887 = .ok (.ifCond .ne 15, 3) := by decide +kernel
theorem dL_law_890 : decode cL_law 890 = .ok (.aload_n 3, 1) := by decide +kernel
theorem dL_law_891 : decode cL_law 891 = .ok (.iconst 0, 1) := by decide +kernel
theorem dL_law_892 : decode cL_law 892 = .ok (.laload, 1) := by decide +kernel
theorem dL_law_893 : decode cL_law 893 = .ok (.iload 6, 2) := by decide +kernel
theorem dL_law_895 : decode cL_law 895 = .ok (.i2l, 1) := by decide +kernel
theorem dL_law_896 : decode cL_law 896 = .ok (.lcmp, 1) := by decide +kernel
theorem dL_law_897 : decode cL_law 897 = .ok (.ifCond .eq 5, 3) := by decide +kernel
theorem dL_law_900 : decode cL_law 900 = .ok (.iconst 0, 1) := by decide +kernel
theorem dL_law_901 : decode cL_law 901 = .ok (.ireturn, 1) := by decide +kernel
theorem dL_law_902 : decode cL_law 902 = .ok (.goto 2238, 3) := by decide +kernel
theorem dL_law_905 : decode cL_law 905 = .ok (.aload_n 1, 1) := by decide +kernel
theorem dL_law_906 : decode cL_law 906 = .ok (.aload_n 0, 1) := by decide +kernel
theorem dL_law_907 : decode cL_law 907 = .ok (.iload 4, 2) := by decide +kernel
theorem dL_law_909 : decode cL_law 909 = .ok (.iconst 1, 1) := by decide +kernel
theorem dL_law_910 : decode cL_law 910 = .ok (.iadd, 1) := by decide +kernel
theorem dL_law_911 : decode cL_law 911 = .ok (.iaload, 1) := by decide +kernel
theorem dL_law_912 : decode cL_law 912 = .ok (.aload_n 0, 1) := by decide +kernel
theorem dL_law_913 : decode cL_law 913 = .ok (.iload 4, 2) := by decide +kernel
theorem dL_law_915 : decode cL_law 915 = .ok (.iconst 2, 1) := by decide +kernel
theorem dL_law_916 : decode cL_law 916 = .ok (.iadd, 1) := by decide +kernel
theorem dL_law_917 : decode cL_law 917 = .ok (.iaload, 1) := by decide +kernel
theorem dL_law_918 : decode cL_law 918 = .ok (.aload_n 3, 1) := by decide +kernel
theorem dL_law_919 : decode cL_law 919 = .ok (.invokestatic 201, 3) := by decide +kernel
theorem dL_law_922 : decode cL_law 922 = .ok (.istore 5, 2) := by decide +kernel
theorem dL_law_924 : decode cL_law 924 = .ok (.aload_n 2, 1) := by decide +kernel
theorem dL_law_925 : decode cL_law 925 = .ok (.aload_n 0, 1) := by decide +kernel
theorem dL_law_926 : decode cL_law 926 = .ok (.iload 4, 2) := by decide +kernel
theorem dL_law_928 : decode cL_law 928 = .ok (.iconst 1, 1) := by decide +kernel
theorem dL_law_929 : decode cL_law 929 = .ok (.iadd, 1) := by decide +kernel
theorem dL_law_930 : decode cL_law 930 = .ok (.iaload, 1) := by decide +kernel
theorem dL_law_931 : decode cL_law 931 = .ok (.aload_n 0, 1) := by decide +kernel
theorem dL_law_932 : decode cL_law 932 = .ok (.iload 4, 2) := by decide +kernel
theorem dL_law_934 : decode cL_law 934 = .ok (.iconst 2, 1) := by decide +kernel
theorem dL_law_935 : decode cL_law 935 = .ok (.iadd, 1) := by decide +kernel
theorem dL_law_936 : decode cL_law 936 = .ok (.iaload, 1) := by decide +kernel
theorem dL_law_937 : decode cL_law 937 = .ok (.invokevirtual 203, 3) := by decide +kernel
theorem dL_law_940 : decode cL_law 940 = .ok (.istore 6, 2) := by decide +kernel
theorem dL_law_942 : decode cL_law 942 = .ok (.aload_n 2, 1) := by decide +kernel
theorem dL_law_943 : decode cL_law 943 = .ok (.invokevirtual 163, 3) := by decide +kernel
theorem dL_law_946 : decode cL_law 946 = .ok (.iload 5, 2) := by decide +kernel
theorem dL_law_948 : decode cL_law 948 = .ok (.if_icmp .eq 5, 3) := by decide +kernel
theorem dL_law_951 : decode cL_law 951 = .ok (.iconst 0, 1) := by decide +kernel
theorem dL_law_952 : decode cL_law 952 = .ok (.ireturn, 1) := by decide +kernel
theorem dL_law_953 : decode cL_law 953 = .ok (.iload 5, 2) := by decide +kernel
theorem dL_law_955 : decode cL_law 955 = .ok (.ifCond .ne 15, 3) := by decide +kernel
theorem dL_law_958 : decode cL_law 958 = .ok (.aload_n 3, 1) := by decide +kernel
theorem dL_law_959 : decode cL_law 959 = .ok (.iconst 0, 1) := by decide +kernel
theorem dL_law_960 : decode cL_law 960 = .ok (.laload, 1) := by decide +kernel
theorem dL_law_961 : decode cL_law 961 = .ok (.iload 6, 2) := by decide +kernel
theorem dL_law_963 : decode cL_law 963 = .ok (.i2l, 1) := by decide +kernel
theorem dL_law_964 : decode cL_law 964 = .ok (.lcmp, 1) := by decide +kernel
theorem dL_law_965 : decode cL_law 965 = .ok (.ifCond .eq 5, 3) := by decide +kernel
theorem dL_law_968 : decode cL_law 968 = .ok (.iconst 0, 1) := by decide +kernel
theorem dL_law_969 : decode cL_law 969 = .ok (.ireturn, 1) := by decide +kernel
theorem dL_law_970 : decode cL_law 970 = .ok (.goto 2170, 3) := by decide +kernel
theorem dL_law_973 : decode cL_law 973 = .ok (.aload_n 1, 1) := by decide +kernel
theorem dL_law_974 : decode cL_law 974 = .ok (.invokevirtual 204, 3) := by decide +kernel
theorem dL_law_977 : decode cL_law 977 = .ok (.aload_n 2, 1) := by decide +kernel
theorem dL_law_978 : decode cL_law 978 = .ok (.invokevirtual 207, 3) := by decide +kernel
theorem dL_law_981 : decode cL_law 981 = .ok (.if_icmp .eq 2159, 3) := by decide +kernel
theorem dL_law_984 : decode cL_law 984 = .ok (.iconst 0, 1) := by decide +kernel
theorem dL_law_985 : decode cL_law 985 = .ok (.ireturn, 1) := by decide +kernel
theorem dL_law_986 : decode cL_law 986 = .ok (.aload_n 1, 1) := by decide +kernel
theorem dL_law_987 : decode cL_law 987 = .ok (.aload_n 0, 1) := by decide +kernel
theorem dL_law_988 : decode cL_law 988 = .ok (.iload 4, 2) := by decide +kernel
theorem dL_law_990 : decode cL_law 990 = .ok (.iconst 1, 1) := by decide +kernel
theorem dL_law_991 : decode cL_law 991 = .ok (.iadd, 1) := by decide +kernel
theorem dL_law_992 : decode cL_law 992 = .ok (.iaload, 1) := by decide +kernel
theorem dL_law_993 : decode cL_law 993 = .ok (.aload_n 3, 1) := by decide +kernel
theorem dL_law_994 : decode cL_law 994 = .ok (.invokestatic 208, 3) := by decide +kernel
theorem dL_law_997 : decode cL_law 997 = .ok (.istore 5, 2) := by decide +kernel
theorem dL_law_999 : decode cL_law 999 = .ok (.aload_n 2, 1) := by decide +kernel
theorem dL_law_1000 : decode cL_law 1000 = .ok (.aload_n 0, 1) := by decide +kernel
theorem dL_law_1001 : decode cL_law 1001 = .ok (.iload 4, 2) := by decide +kernel
theorem dL_law_1003 : decode cL_law 1003 = .ok (.iconst 1, 1) := by decide +kernel
theorem dL_law_1004 : decode cL_law 1004 = .ok (.iadd, 1) := by decide +kernel
theorem dL_law_1005 : decode cL_law 1005 = .ok (.iaload, 1) := by decide +kernel
theorem dL_law_1006 : decode cL_law 1006 = .ok (.invokevirtual 210, 3) := by decide +kernel
theorem dL_law_1009 : decode cL_law 1009 = .ok (.istore 6, 2) := by decide +kernel
theorem dL_law_1011 : decode cL_law 1011 = .ok (.aload_n 2, 1) := by decide +kernel
theorem dL_law_1012 : decode cL_law 1012 = .ok (.invokevirtual 163, 3) := by decide +kernel
theorem dL_law_1015 : decode cL_law 1015 = .ok (.iload 5, 2) := by decide +kernel
theorem dL_law_1017 : decode cL_law 1017 = .ok (.if_icmp .eq 5, 3) := by decide +kernel
theorem dL_law_1020 : decode cL_law 1020 = .ok (.iconst 0, 1) := by decide +kernel
theorem dL_law_1021 : decode cL_law 1021 = .ok (.ireturn, 1) := by decide +kernel
theorem dL_law_1022 : decode cL_law 1022 = .ok (.iload 5, 2) := by decide +kernel
theorem dL_law_1024 : decode cL_law 1024 = .ok (.ifCond .ne 15, 3) := by decide +kernel
theorem dL_law_1027 : decode cL_law 1027 = .ok (.aload_n 3, 1) := by decide +kernel
theorem dL_law_1028 : decode cL_law 1028 = .ok (.iconst 0, 1) := by decide +kernel
theorem dL_law_1029 : decode cL_law 1029 = .ok (.laload, 1) := by decide +kernel
theorem dL_law_1030 : decode cL_law 1030 = .ok (.iload 6, 2) := by decide +kernel
theorem dL_law_1032 : decode cL_law 1032 = .ok (.i2l, 1) := by decide +kernel
theorem dL_law_1033 : decode cL_law 1033 = .ok (.lcmp, 1) := by decide +kernel
theorem dL_law_1034 : decode cL_law 1034 = .ok (.ifCond .eq 5, 3) := by decide +kernel
theorem dL_law_1037 : decode cL_law 1037 = .ok (.iconst 0, 1) := by decide +kernel
theorem dL_law_1038 : decode cL_law 1038 = .ok (.ireturn, 1) := by decide +kernel
theorem dL_law_1039 : decode cL_law 1039 = .ok (.goto 2101, 3) := by decide +kernel
theorem dL_law_1042 : decode cL_law 1042 = .ok (.aload_n 1, 1) := by decide +kernel
theorem dL_law_1043 : decode cL_law 1043 = .ok (.aload_n 0, 1) := by decide +kernel
theorem dL_law_1044 : decode cL_law 1044 = .ok (.iload 4, 2) := by decide +kernel
theorem dL_law_1046 : decode cL_law 1046 = .ok (.iconst 1, 1) := by decide +kernel
theorem dL_law_1047 : decode cL_law 1047 = .ok (.iadd, 1) := by decide +kernel
theorem dL_law_1048 : decode cL_law 1048 = .ok (.iaload, 1) := by decide +kernel
theorem dL_law_1049 : decode cL_law 1049 = .ok (.aload_n 3, 1) := by decide +kernel
theorem dL_law_1050 : decode cL_law 1050 = .ok (.invokestatic 211, 3) := by decide +kernel
theorem dL_law_1053 : decode cL_law 1053 = .ok (.istore 5, 2) := by decide +kernel
theorem dL_law_1055 : decode cL_law 1055 = .ok (.aload_n 2, 1) := by decide +kernel
theorem dL_law_1056 : decode cL_law 1056 = .ok (.aload_n 0, 1) := by decide +kernel
theorem dL_law_1057 : decode cL_law 1057 = .ok (.iload 4, 2) := by decide +kernel
theorem dL_law_1059 : decode cL_law 1059 = .ok (.iconst 1, 1) := by decide +kernel
theorem dL_law_1060 : decode cL_law 1060 = .ok (.iadd, 1) := by decide +kernel
theorem dL_law_1061 : decode cL_law 1061 = .ok (.iaload, 1) := by decide +kernel
theorem dL_law_1062 : decode cL_law 1062 = .ok (.invokevirtual 213, 3) := by decide +kernel
theorem dL_law_1065 : decode cL_law 1065 = .ok (.istore 6, 2) := by decide +kernel
theorem dL_law_1067 : decode cL_law 1067 = .ok (.aload_n 2, 1) := by decide +kernel
theorem dL_law_1068 : decode cL_law 1068 = .ok (.invokevirtual 163, 3) := by decide +kernel
theorem dL_law_1071 : decode cL_law 1071 = .ok (.iload 5, 2) := by decide +kernel
theorem dL_law_1073 : decode cL_law 1073 = .ok (.if_icmp .eq 5, 3) := by decide +kernel
theorem dL_law_1076 : decode cL_law 1076 = .ok (.iconst 0, 1) := by decide +kernel
theorem dL_law_1077 : decode cL_law 1077 = .ok (.ireturn, 1) := by decide +kernel
theorem dL_law_1078 : decode cL_law 1078 = .ok (.iload 5, 2) := by decide +kernel
theorem dL_law_1080 : decode cL_law 1080 = .ok (.ifCond .ne 15, 3) := by decide +kernel
theorem dL_law_1083 : decode cL_law 1083 = .ok (.aload_n 3, 1) := by decide +kernel
theorem dL_law_1084 : decode cL_law 1084 = .ok (.iconst 0, 1) := by decide +kernel
theorem dL_law_1085 : decode cL_law 1085 = .ok (.laload, 1) := by decide +kernel
theorem dL_law_1086 : decode cL_law 1086 = .ok (.iload 6, 2) := by decide +kernel
theorem dL_law_1088 : decode cL_law 1088 = .ok (.i2l, 1) := by decide +kernel
theorem dL_law_1089 : decode cL_law 1089 = .ok (.lcmp, 1) := by decide +kernel
theorem dL_law_1090 : decode cL_law 1090 = .ok (.ifCond .eq 5, 3) := by decide +kernel
theorem dL_law_1093 : decode cL_law 1093 = .ok (.iconst 0, 1) := by decide +kernel
theorem dL_law_1094 : decode cL_law 1094 = .ok (.ireturn, 1) := by decide +kernel
theorem dL_law_1095 : decode cL_law 1095 = .ok (.goto 2045, 3) := by decide +kernel
theorem dL_law_1098 : decode cL_law 1098 = .ok (.aload_n 1, 1) := by decide +kernel
theorem dL_law_1099 : decode cL_law 1099 = .ok (.aload_n 0, 1) := by decide +kernel
theorem dL_law_1100 : decode cL_law 1100 = .ok (.iload 4, 2) := by decide +kernel
theorem dL_law_1102 : decode cL_law 1102 = .ok (.iconst 1, 1) := by decide +kernel
theorem dL_law_1103 : decode cL_law 1103 = .ok (.iadd, 1) := by decide +kernel
theorem dL_law_1104 : decode cL_law 1104 = .ok (.iaload, 1) := by decide +kernel
theorem dL_law_1105 : decode cL_law 1105 = .ok (.aload_n 3, 1) := by decide +kernel
theorem dL_law_1106 : decode cL_law 1106 = .ok (.invokestatic 214, 3) := by decide +kernel
theorem dL_law_1109 : decode cL_law 1109 = .ok (.istore 5, 2) := by decide +kernel
theorem dL_law_1111 : decode cL_law 1111 = .ok (.aload_n 2, 1) := by decide +kernel
theorem dL_law_1112 : decode cL_law 1112 = .ok (.aload_n 0, 1) := by decide +kernel
theorem dL_law_1113 : decode cL_law 1113 = .ok (.iload 4, 2) := by decide +kernel
theorem dL_law_1115 : decode cL_law 1115 = .ok (.iconst 1, 1) := by decide +kernel
theorem dL_law_1116 : decode cL_law 1116 = .ok (.iadd, 1) := by decide +kernel
theorem dL_law_1117 : decode cL_law 1117 = .ok (.iaload, 1) := by decide +kernel
theorem dL_law_1118 : decode cL_law 1118 = .ok (.invokevirtual 216, 3) := by decide +kernel
theorem dL_law_1121 : decode cL_law 1121 = .ok (.istore 6, 2) := by decide +kernel
theorem dL_law_1123 : decode cL_law 1123 = .ok (.aload_n 2, 1) := by decide +kernel
theorem dL_law_1124 : decode cL_law 1124 = .ok (.invokevirtual 163, 3) := by decide +kernel
theorem dL_law_1127 : decode cL_law 1127 = .ok (.iload 5, 2) := by decide +kernel
theorem dL_law_1129 : decode cL_law 1129 = .ok (.if_icmp .eq 5, 3) := by decide +kernel
theorem dL_law_1132 : decode cL_law 1132 = .ok (.iconst 0, 1) := by decide +kernel
theorem dL_law_1133 : decode cL_law 1133 = .ok (.ireturn, 1) := by decide +kernel
theorem dL_law_1134 : decode cL_law 1134 = .ok (.iload 5, 2) := by decide +kernel
theorem dL_law_1136 : decode cL_law 1136 = .ok (.ifCond .ne 15, 3) := by decide +kernel
theorem dL_law_1139 : decode cL_law 1139 = .ok (.aload_n 3, 1) := by decide +kernel
theorem dL_law_1140 : decode cL_law 1140 = .ok (.iconst 0, 1) := by decide +kernel
theorem dL_law_1141 : decode cL_law 1141 = .ok (.laload, 1) := by decide +kernel
theorem dL_law_1142 : decode cL_law 1142 = .ok (.iload 6, 2) := by decide +kernel
theorem dL_law_1144 : decode cL_law 1144 = .ok (.i2l, 1) := by decide +kernel
theorem dL_law_1145 : decode cL_law 1145 = .ok (.lcmp, 1) := by decide +kernel
theorem dL_law_1146 : decode cL_law 1146 = .ok (.ifCond .eq 5, 3) := by decide +kernel
theorem dL_law_1149 : decode cL_law 1149 = .ok (.iconst 0, 1) := by decide +kernel
theorem dL_law_1150 : decode cL_law 1150 = .ok (.ireturn, 1) := by decide +kernel
theorem dL_law_1151 : decode cL_law 1151 = .ok (.goto 1989, 3) := by decide +kernel
theorem dL_law_1154 : decode cL_law 1154 = .ok (.aload_n 1, 1) := by decide +kernel
theorem dL_law_1155 : decode cL_law 1155 = .ok (.aload_n 0, 1) := by decide +kernel
theorem dL_law_1156 : decode cL_law 1156 = .ok (.iload 4, 2) := by decide +kernel
theorem dL_law_1158 : decode cL_law 1158 = .ok (.iconst 1, 1) := by decide +kernel
theorem dL_law_1159 : decode cL_law 1159 = .ok (.iadd, 1) := by decide +kernel
theorem dL_law_1160 : decode cL_law 1160 = .ok (.iaload, 1) := by decide +kernel
theorem dL_law_1161 : decode cL_law 1161 = .ok (.aload_n 3, 1) := by decide +kernel
theorem dL_law_1162 : decode cL_law 1162 = .ok (.invokestatic 217, 3) := by decide +kernel
theorem dL_law_1165 : decode cL_law 1165 = .ok (.istore 5, 2) := by decide +kernel
theorem dL_law_1167 : decode cL_law 1167 = .ok (.aload_n 2, 1) := by decide +kernel
theorem dL_law_1168 : decode cL_law 1168 = .ok (.aload_n 0, 1) := by decide +kernel
theorem dL_law_1169 : decode cL_law 1169 = .ok (.iload 4, 2) := by decide +kernel
theorem dL_law_1171 : decode cL_law 1171 = .ok (.iconst 1, 1) := by decide +kernel
theorem dL_law_1172 : decode cL_law 1172 = .ok (.iadd, 1) := by decide +kernel
theorem dL_law_1173 : decode cL_law 1173 = .ok (.iaload, 1) := by decide +kernel
theorem dL_law_1174 : decode cL_law 1174 = .ok (.invokevirtual 219, 3) := by decide +kernel
theorem dL_law_1177 : decode cL_law 1177 = .ok (.istore 6, 2) := by decide +kernel
theorem dL_law_1179 : decode cL_law 1179 = .ok (.aload_n 2, 1) := by decide +kernel
theorem dL_law_1180 : decode cL_law 1180 = .ok (.invokevirtual 163, 3) := by decide +kernel
theorem dL_law_1183 : decode cL_law 1183 = .ok (.iload 5, 2) := by decide +kernel
theorem dL_law_1185 : decode cL_law 1185 = .ok (.if_icmp .eq 5, 3) := by decide +kernel
theorem dL_law_1188 : decode cL_law 1188 = .ok (.iconst 0, 1) := by decide +kernel
theorem dL_law_1189 : decode cL_law 1189 = .ok (.ireturn, 1) := by decide +kernel
theorem dL_law_1190 : decode cL_law 1190 = .ok (.iload 5, 2) := by decide +kernel
theorem dL_law_1192 : decode cL_law 1192 = .ok (.ifCond .ne 15, 3) := by decide +kernel
theorem dL_law_1195 : decode cL_law 1195 = .ok (.aload_n 3, 1) := by decide +kernel
theorem dL_law_1196 : decode cL_law 1196 = .ok (.iconst 0, 1) := by decide +kernel
theorem dL_law_1197 : decode cL_law 1197 = .ok (.laload, 1) := by decide +kernel
theorem dL_law_1198 : decode cL_law 1198 = .ok (.iload 6, 2) := by decide +kernel
theorem dL_law_1200 : decode cL_law 1200 = .ok (.i2l, 1) := by decide +kernel
theorem dL_law_1201 : decode cL_law 1201 = .ok (.lcmp, 1) := by decide +kernel
theorem dL_law_1202 : decode cL_law 1202 = .ok (.ifCond .eq 5, 3) := by decide +kernel
theorem dL_law_1205 : decode cL_law 1205 = .ok (.iconst 0, 1) := by decide +kernel
theorem dL_law_1206 : decode cL_law 1206 = .ok (.ireturn, 1) := by decide +kernel
theorem dL_law_1207 : decode cL_law 1207 = .ok (.goto 1933, 3) := by decide +kernel
theorem dL_law_1210 : decode cL_law 1210 = .ok (.aload_n 1, 1) := by decide +kernel
theorem dL_law_1211 : decode cL_law 1211 = .ok (.aload_n 0, 1) := by decide +kernel
theorem dL_law_1212 : decode cL_law 1212 = .ok (.iload 4, 2) := by decide +kernel
theorem dL_law_1214 : decode cL_law 1214 = .ok (.iconst 1, 1) := by decide +kernel
theorem dL_law_1215 : decode cL_law 1215 = .ok (.iadd, 1) := by decide +kernel
theorem dL_law_1216 : decode cL_law 1216 = .ok (.iaload, 1) := by decide +kernel
theorem dL_law_1217 : decode cL_law 1217 = .ok (.aload_n 3, 1) := by decide +kernel
theorem dL_law_1218 : decode cL_law 1218 = .ok (.invokestatic 220, 3) := by decide +kernel
theorem dL_law_1221 : decode cL_law 1221 = .ok (.istore 5, 2) := by decide +kernel
theorem dL_law_1223 : decode cL_law 1223 = .ok (.aload_n 2, 1) := by decide +kernel
theorem dL_law_1224 : decode cL_law 1224 = .ok (.aload_n 0, 1) := by decide +kernel
theorem dL_law_1225 : decode cL_law 1225 = .ok (.iload 4, 2) := by decide +kernel
theorem dL_law_1227 : decode cL_law 1227 = .ok (.iconst 1, 1) := by decide +kernel
theorem dL_law_1228 : decode cL_law 1228 = .ok (.iadd, 1) := by decide +kernel
theorem dL_law_1229 : decode cL_law 1229 = .ok (.iaload, 1) := by decide +kernel
theorem dL_law_1230 : decode cL_law 1230 = .ok (.invokevirtual 222, 3) := by decide +kernel
theorem dL_law_1233 : decode cL_law 1233 = .ok (.istore 6, 2) := by decide +kernel
theorem dL_law_1235 : decode cL_law 1235 = .ok (.aload_n 2, 1) := by decide +kernel
theorem dL_law_1236 : decode cL_law 1236 = .ok (.invokevirtual 163, 3) := by decide +kernel
theorem dL_law_1239 : decode cL_law 1239 = .ok (.iload 5, 2) := by decide +kernel
theorem dL_law_1241 : decode cL_law 1241 = .ok (.if_icmp .eq 5, 3) := by decide +kernel
theorem dL_law_1244 : decode cL_law 1244 = .ok (.iconst 0, 1) := by decide +kernel
theorem dL_law_1245 : decode cL_law 1245 = .ok (.ireturn, 1) := by decide +kernel
theorem dL_law_1246 : decode cL_law 1246 = .ok (.iload 5, 2) := by decide +kernel
theorem dL_law_1248 : decode cL_law 1248 = .ok (.ifCond .ne 15, 3) := by decide +kernel
theorem dL_law_1251 : decode cL_law 1251 = .ok (.aload_n 3, 1) := by decide +kernel
theorem dL_law_1252 : decode cL_law 1252 = .ok (.iconst 0, 1) := by decide +kernel
theorem dL_law_1253 : decode cL_law 1253 = .ok (.laload, 1) := by decide +kernel
theorem dL_law_1254 : decode cL_law 1254 = .ok (.iload 6, 2) := by decide +kernel
theorem dL_law_1256 : decode cL_law 1256 = .ok (.i2l, 1) := by decide +kernel
theorem dL_law_1257 : decode cL_law 1257 = .ok (.lcmp, 1) := by decide +kernel
theorem dL_law_1258 : decode cL_law 1258 = .ok (.ifCond .eq 5, 3) := by decide +kernel
theorem dL_law_1261 : decode cL_law 1261 = .ok (.iconst 0, 1) := by decide +kernel
theorem dL_law_1262 : decode cL_law 1262 = .ok (.ireturn, 1) := by decide +kernel
theorem dL_law_1263 : decode cL_law 1263 = .ok (.goto 1877, 3) := by decide +kernel
theorem dL_law_1266 : decode cL_law 1266 = .ok (.aload_n 1, 1) := by decide +kernel
theorem dL_law_1267 : decode cL_law 1267 = .ok (.aload_n 0, 1) := by decide +kernel
theorem dL_law_1268 : decode cL_law 1268 = .ok (.iload 4, 2) := by decide +kernel
theorem dL_law_1270 : decode cL_law 1270 = .ok (.iconst 1, 1) := by decide +kernel
theorem dL_law_1271 : decode cL_law 1271 = .ok (.iadd, 1) := by decide +kernel
theorem dL_law_1272 : decode cL_law 1272 = .ok (.iaload, 1) := by decide +kernel
theorem dL_law_1273 : decode cL_law 1273 = .ok (.aload_n 3, 1) := by decide +kernel
theorem dL_law_1274 : decode cL_law 1274 = .ok (.invokestatic 223, 3) := by decide +kernel
theorem dL_law_1277 : decode cL_law 1277 = .ok (.istore 5, 2) := by decide +kernel
theorem dL_law_1279 : decode cL_law 1279 = .ok (.aload_n 2, 1) := by decide +kernel
theorem dL_law_1280 : decode cL_law 1280 = .ok (.aload_n 0, 1) := by decide +kernel
theorem dL_law_1281 : decode cL_law 1281 = .ok (.iload 4, 2) := by decide +kernel
theorem dL_law_1283 : decode cL_law 1283 = .ok (.iconst 1, 1) := by decide +kernel
theorem dL_law_1284 : decode cL_law 1284 = .ok (.iadd, 1) := by decide +kernel
theorem dL_law_1285 : decode cL_law 1285 = .ok (.iaload, 1) := by decide +kernel
theorem dL_law_1286 : decode cL_law 1286 = .ok (.invokevirtual 225, 3) := by decide +kernel
theorem dL_law_1289 : decode cL_law 1289 = .ok (.istore 6, 2) := by decide +kernel
theorem dL_law_1291 : decode cL_law 1291 = .ok (.aload_n 2, 1) := by decide +kernel
theorem dL_law_1292 : decode cL_law 1292 = .ok (.invokevirtual 163, 3) := by decide +kernel
theorem dL_law_1295 : decode cL_law 1295 = .ok (.iload 5, 2) := by decide +kernel
theorem dL_law_1297 : decode cL_law 1297 = .ok (.if_icmp .eq 5, 3) := by decide +kernel
theorem dL_law_1300 : decode cL_law 1300 = .ok (.iconst 0, 1) := by decide +kernel
theorem dL_law_1301 : decode cL_law 1301 = .ok (.ireturn, 1) := by decide +kernel
theorem dL_law_1302 : decode cL_law 1302 = .ok (.iload 5, 2) := by decide +kernel
theorem dL_law_1304 : decode cL_law 1304 = .ok (.ifCond .ne 15, 3) := by decide +kernel
theorem dL_law_1307 : decode cL_law 1307 = .ok (.aload_n 3, 1) := by decide +kernel
theorem dL_law_1308 : decode cL_law 1308 = .ok (.iconst 0, 1) := by decide +kernel
theorem dL_law_1309 : decode cL_law 1309 = .ok (.laload, 1) := by decide +kernel
theorem dL_law_1310 : decode cL_law 1310 = .ok (.iload 6, 2) := by decide +kernel
theorem dL_law_1312 : decode cL_law 1312 = .ok (.i2l, 1) := by decide +kernel
theorem dL_law_1313 : decode cL_law 1313 = .ok (.lcmp, 1) := by decide +kernel
theorem dL_law_1314 : decode cL_law 1314 = .ok (.ifCond .eq 5, 3) := by decide +kernel
theorem dL_law_1317 : decode cL_law 1317 = .ok (.iconst 0, 1) := by decide +kernel
theorem dL_law_1318 : decode cL_law 1318 = .ok (.ireturn, 1) := by decide +kernel
theorem dL_law_1319 : decode cL_law 1319 = .ok (.goto 1821, 3) := by decide +kernel
theorem dL_law_1322 : decode cL_law 1322 = .ok (.aload_n 1, 1) := by decide +kernel
theorem dL_law_1323 : decode cL_law 1323 = .ok (.aload_n 0, 1) := by decide +kernel
theorem dL_law_1324 : decode cL_law 1324 = .ok (.iload 4, 2) := by decide +kernel
theorem dL_law_1326 : decode cL_law 1326 = .ok (.iconst 1, 1) := by decide +kernel
theorem dL_law_1327 : decode cL_law 1327 = .ok (.iadd, 1) := by decide +kernel
theorem dL_law_1328 : decode cL_law 1328 = .ok (.iaload, 1) := by decide +kernel
theorem dL_law_1329 : decode cL_law 1329 = .ok (.aload_n 0, 1) := by decide +kernel
theorem dL_law_1330 : decode cL_law 1330 = .ok (.iload 4, 2) := by decide +kernel
theorem dL_law_1332 : decode cL_law 1332 = .ok (.iconst 2, 1) := by decide +kernel
theorem dL_law_1333 : decode cL_law 1333 = .ok (.iadd, 1) := by decide +kernel
theorem dL_law_1334 : decode cL_law 1334 = .ok (.iaload, 1) := by decide +kernel
theorem dL_law_1335 : decode cL_law 1335 = .ok (.aload_n 3, 1) := by decide +kernel
theorem dL_law_1336 : decode cL_law 1336 = .ok (.invokestatic 226, 3) := by decide +kernel
theorem dL_law_1339 : decode cL_law 1339 = .ok (.istore 5, 2) := by decide +kernel
theorem dL_law_1341 : decode cL_law 1341 = .ok (.aload_n 2, 1) := by decide +kernel
theorem dL_law_1342 : decode cL_law 1342 = .ok (.aload_n 0, 1) := by decide +kernel
theorem dL_law_1343 : decode cL_law 1343 = .ok (.iload 4, 2) := by decide +kernel
theorem dL_law_1345 : decode cL_law 1345 = .ok (.iconst 1, 1) := by decide +kernel
theorem dL_law_1346 : decode cL_law 1346 = .ok (.iadd, 1) := by decide +kernel
theorem dL_law_1347 : decode cL_law 1347 = .ok (.iaload, 1) := by decide +kernel
theorem dL_law_1348 : decode cL_law 1348 = .ok (.aload_n 0, 1) := by decide +kernel
theorem dL_law_1349 : decode cL_law 1349 = .ok (.iload 4, 2) := by decide +kernel
theorem dL_law_1351 : decode cL_law 1351 = .ok (.iconst 2, 1) := by decide +kernel
theorem dL_law_1352 : decode cL_law 1352 = .ok (.iadd, 1) := by decide +kernel
theorem dL_law_1353 : decode cL_law 1353 = .ok (.iaload, 1) := by decide +kernel
theorem dL_law_1354 : decode cL_law 1354 = .ok (.invokevirtual 228, 3) := by decide +kernel
theorem dL_law_1357 : decode cL_law 1357 = .ok (.istore 6, 2) := by decide +kernel
theorem dL_law_1359 : decode cL_law 1359 = .ok (.aload_n 2, 1) := by decide +kernel
theorem dL_law_1360 : decode cL_law 1360 = .ok (.invokevirtual 163, 3) := by decide +kernel
theorem dL_law_1363 : decode cL_law 1363 = .ok (.iload 5, 2) := by decide +kernel
theorem dL_law_1365 : decode cL_law 1365 = .ok (.if_icmp .eq 5, 3) := by decide +kernel
theorem dL_law_1368 : decode cL_law 1368 = .ok (.iconst 0, 1) := by decide +kernel
theorem dL_law_1369 : decode cL_law 1369 = .ok (.ireturn, 1) := by decide +kernel
theorem dL_law_1370 : decode cL_law 1370 = .ok (.iload 5, 2) := by decide +kernel
theorem dL_law_1372 : decode cL_law 1372 = .ok (.ifCond .ne 15, 3) := by decide +kernel
theorem dL_law_1375 : decode cL_law 1375 = .ok (.aload_n 3, 1) := by decide +kernel
theorem dL_law_1376 : decode cL_law 1376 = .ok (.iconst 0, 1) := by decide +kernel
theorem dL_law_1377 : decode cL_law 1377 = .ok (.laload, 1) := by decide +kernel
theorem dL_law_1378 : decode cL_law 1378 = .ok (.iload 6, 2) := by decide +kernel
theorem dL_law_1380 : decode cL_law 1380 = .ok (.i2l, 1) := by decide +kernel
theorem dL_law_1381 : decode cL_law 1381 = .ok (.lcmp, 1) := by decide +kernel
theorem dL_law_1382 : decode cL_law 1382 = .ok (.ifCond .eq 5, 3) := by decide +kernel
theorem dL_law_1385 : decode cL_law 1385 = .ok (.iconst 0, 1) := by decide +kernel
theorem dL_law_1386 : decode cL_law 1386 = .ok (.ireturn, 1) := by decide +kernel
theorem dL_law_1387 : decode cL_law 1387 = .ok (.goto 1753, 3) := by decide +kernel
theorem dL_law_1390 : decode cL_law 1390 = .ok (.aload_n 1, 1) := by decide +kernel
theorem dL_law_1391 : decode cL_law 1391 = .ok (.aload_n 0, 1) := by decide +kernel
theorem dL_law_1392 : decode cL_law 1392 = .ok (.iload 4, 2) := by decide +kernel
theorem dL_law_1394 : decode cL_law 1394 = .ok (.iconst 1, 1) := by decide +kernel
theorem dL_law_1395 : decode cL_law 1395 = .ok (.iadd, 1) := by decide +kernel
theorem dL_law_1396 : decode cL_law 1396 = .ok (.iaload, 1) := by decide +kernel
theorem dL_law_1397 : decode cL_law 1397 = .ok (.aload_n 3, 1) := by decide +kernel
theorem dL_law_1398 : decode cL_law 1398 = .ok (.invokestatic 229, 3) := by decide +kernel
theorem dL_law_1401 : decode cL_law 1401 = .ok (.istore 5, 2) := by decide +kernel
theorem dL_law_1403 : decode cL_law 1403 = .ok (.aload_n 2, 1) := by decide +kernel
theorem dL_law_1404 : decode cL_law 1404 = .ok (.aload_n 0, 1) := by decide +kernel
theorem dL_law_1405 : decode cL_law 1405 = .ok (.iload 4, 2) := by decide +kernel
theorem dL_law_1407 : decode cL_law 1407 = .ok (.iconst 1, 1) := by decide +kernel
theorem dL_law_1408 : decode cL_law 1408 = .ok (.iadd, 1) := by decide +kernel
theorem dL_law_1409 : decode cL_law 1409 = .ok (.iaload, 1) := by decide +kernel
theorem dL_law_1410 : decode cL_law 1410 = .ok (.invokevirtual 231, 3) := by decide +kernel
theorem dL_law_1413 : decode cL_law 1413 = .ok (.istore 6, 2) := by decide +kernel
theorem dL_law_1415 : decode cL_law 1415 = .ok (.aload_n 2, 1) := by decide +kernel
theorem dL_law_1416 : decode cL_law 1416 = .ok (.invokevirtual 163, 3) := by decide +kernel
theorem dL_law_1419 : decode cL_law 1419 = .ok (.iload 5, 2) := by decide +kernel
theorem dL_law_1421 : decode cL_law 1421 = .ok (.if_icmp .eq 5, 3) := by decide +kernel
theorem dL_law_1424 : decode cL_law 1424 = .ok (.iconst 0, 1) := by decide +kernel
theorem dL_law_1425 : decode cL_law 1425 = .ok (.ireturn, 1) := by decide +kernel
theorem dL_law_1426 : decode cL_law 1426 = .ok (.iload 5, 2) := by decide +kernel
theorem dL_law_1428 : decode cL_law 1428 = .ok (.ifCond .ne 15, 3) := by decide +kernel
theorem dL_law_1431 : decode cL_law 1431 = .ok (.aload_n 3, 1) := by decide +kernel
theorem dL_law_1432 : decode cL_law 1432 = .ok (.iconst 0, 1) := by decide +kernel
theorem dL_law_1433 : decode cL_law 1433 = .ok (.laload, 1) := by decide +kernel
theorem dL_law_1434 : decode cL_law 1434 = .ok (.iload 6, 2) := by decide +kernel
theorem dL_law_1436 : decode cL_law 1436 = .ok (.i2l, 1) := by decide +kernel
theorem dL_law_1437 : decode cL_law 1437 = .ok (.lcmp, 1) := by decide +kernel
theorem dL_law_1438 : decode cL_law 1438 = .ok (.ifCond .eq 5, 3) := by decide +kernel
theorem dL_law_1441 : decode cL_law 1441 = .ok (.iconst 0, 1) := by decide +kernel
theorem dL_law_1442 : decode cL_law 1442 = .ok (.ireturn, 1) := by decide +kernel
theorem dL_law_1443 : decode cL_law 1443 = .ok (.goto 1697, 3) := by decide +kernel
theorem dL_law_1446 : decode cL_law 1446 = .ok (.aload_n 1, 1) := by decide +kernel
theorem dL_law_1447 : decode cL_law 1447 = .ok (.aload_n 0, 1) := by decide +kernel
theorem dL_law_1448 : decode cL_law 1448 = .ok (.iload 4, 2) := by decide +kernel
theorem dL_law_1450 : decode cL_law 1450 = .ok (.iconst 1, 1) := by decide +kernel
theorem dL_law_1451 : decode cL_law 1451 = .ok (.iadd, 1) := by decide +kernel
theorem dL_law_1452 : decode cL_law 1452 = .ok (.iaload, 1) := by decide +kernel
theorem dL_law_1453 : decode cL_law 1453 = .ok (.aload_n 3, 1) := by decide +kernel
theorem dL_law_1454 : decode cL_law 1454 = .ok (.invokestatic 232, 3) := by decide +kernel
theorem dL_law_1457 : decode cL_law 1457 = .ok (.istore 5, 2) := by decide +kernel
theorem dL_law_1459 : decode cL_law 1459 = .ok (.aload_n 2, 1) := by decide +kernel
theorem dL_law_1460 : decode cL_law 1460 = .ok (.aload_n 0, 1) := by decide +kernel
theorem dL_law_1461 : decode cL_law 1461 = .ok (.iload 4, 2) := by decide +kernel
theorem dL_law_1463 : decode cL_law 1463 = .ok (.iconst 1, 1) := by decide +kernel
theorem dL_law_1464 : decode cL_law 1464 = .ok (.iadd, 1) := by decide +kernel
theorem dL_law_1465 : decode cL_law 1465 = .ok (.iaload, 1) := by decide +kernel
theorem dL_law_1466 : decode cL_law 1466 = .ok (.invokevirtual 234, 3) := by decide +kernel
theorem dL_law_1469 : decode cL_law 1469 = .ok (.istore 6, 2) := by decide +kernel
theorem dL_law_1471 : decode cL_law 1471 = .ok (.aload_n 2, 1) := by decide +kernel
theorem dL_law_1472 : decode cL_law 1472 = .ok (.invokevirtual 163, 3) := by decide +kernel
theorem dL_law_1475 : decode cL_law 1475 = .ok (.iload 5, 2) := by decide +kernel
theorem dL_law_1477 : decode cL_law 1477 = .ok (.if_icmp .eq 5, 3) := by decide +kernel
theorem dL_law_1480 : decode cL_law 1480 = .ok (.iconst 0, 1) := by decide +kernel
theorem dL_law_1481 : decode cL_law 1481 = .ok (.ireturn, 1) := by decide +kernel
theorem dL_law_1482 : decode cL_law 1482 = .ok (.iload 5, 2) := by decide +kernel
theorem dL_law_1484 : decode cL_law 1484 = .ok (.ifCond .ne 15, 3) := by decide +kernel
theorem dL_law_1487 : decode cL_law 1487 = .ok (.aload_n 3, 1) := by decide +kernel
theorem dL_law_1488 : decode cL_law 1488 = .ok (.iconst 0, 1) := by decide +kernel
theorem dL_law_1489 : decode cL_law 1489 = .ok (.laload, 1) := by decide +kernel
