/-! The law: its loop and its body, as a function of the script (by a program of ours) -/
theorem g613 : Cond.methodLink RL 13 yX11_feed ∈ gt := gt_at 613 (by decide +kernel) (by decide +kernel)
theorem g614 : Cond.instanceMethod yX11_feed ∈ gt := gt_at 614 (by decide +kernel) (by decide +kernel)
theorem g615 : Cond.selects RX11 yX11_feed yX11_feed ∈ gt := gt_at 615 (by decide +kernel) (by decide +kernel)
theorem g616 : Cond.code yX11_feed cX11_feed 6 (some .int) ∈ gt := gt_at 616 (by decide +kernel) (by decide +kernel)
theorem g621 : Cond.methodLink RL 18 yX11_end ∈ gt := gt_at 621 (by decide +kernel) (by decide +kernel)
theorem g622 : Cond.instanceMethod yX11_end ∈ gt := gt_at 622 (by decide +kernel) (by decide +kernel)
theorem g623 : Cond.selects RX11 yX11_end yX11_end ∈ gt := gt_at 623 (by decide +kernel) (by decide +kernel)
theorem g624 : Cond.code yX11_end cX11_end 2 (some .int) ∈ gt := gt_at 624 (by decide +kernel) (by decide +kernel)
theorem g625 : Cond.methodLink RL 23 yX11_train ∈ gt := gt_at 625 (by decide +kernel) (by decide +kernel)
theorem g626 : Cond.instanceMethod yX11_train ∈ gt := gt_at 626 (by decide +kernel) (by decide +kernel)
theorem g627 : Cond.selects RX11 yX11_train yX11_train ∈ gt := gt_at 627 (by decide +kernel) (by decide +kernel)
theorem g628 : Cond.code yX11_train cX11_train 2 (some .int) ∈ gt := gt_at 628 (by decide +kernel) (by decide +kernel)
theorem g803 : Cond.methodLink RL 28 yX11_rule ∈ gt := gt_at 803 (by decide +kernel) (by decide +kernel)
theorem g804 : Cond.instanceMethod yX11_rule ∈ gt := gt_at 804 (by decide +kernel) (by decide +kernel)
theorem g805 : Cond.selects RX11 yX11_rule yX11_rule ∈ gt := gt_at 805 (by decide +kernel) (by decide +kernel)
theorem g806 : Cond.code yX11_rule cX11_rule 2 (some .int) ∈ gt := gt_at 806 (by decide +kernel) (by decide +kernel)
theorem g895 : Cond.methodLink RL 32 yX11_force ∈ gt := gt_at 895 (by decide +kernel) (by decide +kernel)
theorem g896 : Cond.instanceMethod yX11_force ∈ gt := gt_at 896 (by decide +kernel) (by decide +kernel)
theorem g897 : Cond.selects RX11 yX11_force yX11_force ∈ gt := gt_at 897 (by decide +kernel) (by decide +kernel)
theorem g898 : Cond.code yX11_force cX11_force 3 (some .int) ∈ gt := gt_at 898 (by decide +kernel) (by decide +kernel)
theorem g903 : Cond.methodLink RL 36 yX11_person ∈ gt := gt_at 903 (by decide +kernel) (by decide +kernel)
theorem g904 : Cond.instanceMethod yX11_person ∈ gt := gt_at 904 (by decide +kernel) (by decide +kernel)
theorem g905 : Cond.selects RX11 yX11_person yX11_person ∈ gt := gt_at 905 (by decide +kernel) (by decide +kernel)
theorem g906 : Cond.code yX11_person cX11_person 6 (some .int) ∈ gt := gt_at 906 (by decide +kernel) (by decide +kernel)
theorem g941 : Cond.methodLink RL 41 yX11_air ∈ gt := gt_at 941 (by decide +kernel) (by decide +kernel)
theorem g942 : Cond.instanceMethod yX11_air ∈ gt := gt_at 942 (by decide +kernel) (by decide +kernel)
theorem g943 : Cond.selects RX11 yX11_air yX11_air ∈ gt := gt_at 943 (by decide +kernel) (by decide +kernel)
theorem g944 : Cond.code yX11_air cX11_air 3 (some .int) ∈ gt := gt_at 944 (by decide +kernel) (by decide +kernel)
theorem g952 : Cond.methodLink RL 45 yX11_seat ∈ gt := gt_at 952 (by decide +kernel) (by decide +kernel)
theorem g953 : Cond.instanceMethod yX11_seat ∈ gt := gt_at 953 (by decide +kernel) (by decide +kernel)
theorem g954 : Cond.selects RX11 yX11_seat yX11_seat ∈ gt := gt_at 954 (by decide +kernel) (by decide +kernel)
theorem g955 : Cond.code yX11_seat cX11_seat 2 (some .int) ∈ gt := gt_at 955 (by decide +kernel) (by decide +kernel)
theorem g964 : Cond.methodLink RL 49 yX11_stretch ∈ gt := gt_at 964 (by decide +kernel) (by decide +kernel)
theorem g965 : Cond.instanceMethod yX11_stretch ∈ gt := gt_at 965 (by decide +kernel) (by decide +kernel)
theorem g966 : Cond.selects RX11 yX11_stretch yX11_stretch ∈ gt := gt_at 966 (by decide +kernel) (by decide +kernel)
theorem g967 : Cond.code yX11_stretch cX11_stretch 3 (some .int) ∈ gt := gt_at 967 (by decide +kernel) (by decide +kernel)
theorem g973 : Cond.methodLink RL 53 yX11_mile ∈ gt := gt_at 973 (by decide +kernel) (by decide +kernel)
theorem g974 : Cond.instanceMethod yX11_mile ∈ gt := gt_at 974 (by decide +kernel) (by decide +kernel)
theorem g975 : Cond.selects RX11 yX11_mile yX11_mile ∈ gt := gt_at 975 (by decide +kernel) (by decide +kernel)
theorem g976 : Cond.code yX11_mile cX11_mile 1 (some .int) ∈ gt := gt_at 976 (by decide +kernel) (by decide +kernel)
theorem g1074 : Cond.methodLink RL 57 yX11_pull ∈ gt := gt_at 1074 (by decide +kernel) (by decide +kernel)
theorem g1075 : Cond.instanceMethod yX11_pull ∈ gt := gt_at 1075 (by decide +kernel) (by decide +kernel)
theorem g1076 : Cond.selects RX11 yX11_pull yX11_pull ∈ gt := gt_at 1076 (by decide +kernel) (by decide +kernel)
theorem g1077 : Cond.code yX11_pull cX11_pull 3 (some .int) ∈ gt := gt_at 1077 (by decide +kernel) (by decide +kernel)
theorem g1078 : Cond.methodLink RL 61 yX11_turn ∈ gt := gt_at 1078 (by decide +kernel) (by decide +kernel)
theorem g1079 : Cond.instanceMethod yX11_turn ∈ gt := gt_at 1079 (by decide +kernel) (by decide +kernel)
theorem g1080 : Cond.selects RX11 yX11_turn yX11_turn ∈ gt := gt_at 1080 (by decide +kernel) (by decide +kernel)
theorem g1081 : Cond.code yX11_turn cX11_turn 4 (some .int) ∈ gt := gt_at 1081 (by decide +kernel) (by decide +kernel)
theorem g1086 : Cond.methodLink RL 65 yX11_seats ∈ gt := gt_at 1086 (by decide +kernel) (by decide +kernel)
theorem g1087 : Cond.instanceMethod yX11_seats ∈ gt := gt_at 1087 (by decide +kernel) (by decide +kernel)
theorem g1088 : Cond.selects RX11 yX11_seats yX11_seats ∈ gt := gt_at 1088 (by decide +kernel) (by decide +kernel)
theorem g1089 : Cond.code yX11_seats cX11_seats 3 (some .boolean) ∈ gt := gt_at 1089 (by decide +kernel) (by decide +kernel)
theorem g1102 : Cond.methodLink RL 70 yX11_say ∈ gt := gt_at 1102 (by decide +kernel) (by decide +kernel)
theorem g1103 : Cond.instanceMethod yX11_say ∈ gt := gt_at 1103 (by decide +kernel) (by decide +kernel)
theorem g1104 : Cond.selects RX11 yX11_say yX11_say ∈ gt := gt_at 1104 (by decide +kernel) (by decide +kernel)
theorem g1105 : Cond.code yX11_say cX11_say 5 (some .int) ∈ gt := gt_at 1105 (by decide +kernel) (by decide +kernel)
theorem g1106 : Cond.methodLink RL 74 yX11_undo ∈ gt := gt_at 1106 (by decide +kernel) (by decide +kernel)
theorem g1107 : Cond.instanceMethod yX11_undo ∈ gt := gt_at 1107 (by decide +kernel) (by decide +kernel)
theorem g1108 : Cond.selects RX11 yX11_undo yX11_undo ∈ gt := gt_at 1108 (by decide +kernel) (by decide +kernel)
theorem g1109 : Cond.code yX11_undo cX11_undo 1 (some .int) ∈ gt := gt_at 1109 (by decide +kernel) (by decide +kernel)
theorem g1114 : Cond.methodLink RL 78 yX11_ahead ∈ gt := gt_at 1114 (by decide +kernel) (by decide +kernel)
theorem g1115 : Cond.instanceMethod yX11_ahead ∈ gt := gt_at 1115 (by decide +kernel) (by decide +kernel)
theorem g1116 : Cond.selects RX11 yX11_ahead yX11_ahead ∈ gt := gt_at 1116 (by decide +kernel) (by decide +kernel)
theorem g1117 : Cond.code yX11_ahead cX11_ahead 3 (some .int) ∈ gt := gt_at 1117 (by decide +kernel) (by decide +kernel)
theorem g1127 : Cond.methodLink RL 82 yX11_which ∈ gt := gt_at 1127 (by decide +kernel) (by decide +kernel)
theorem g1128 : Cond.instanceMethod yX11_which ∈ gt := gt_at 1128 (by decide +kernel) (by decide +kernel)
theorem g1129 : Cond.selects RX11 yX11_which yX11_which ∈ gt := gt_at 1129 (by decide +kernel) (by decide +kernel)
theorem g1130 : Cond.code yX11_which cX11_which 7 (some .int) ∈ gt := gt_at 1130 (by decide +kernel) (by decide +kernel)
theorem g1136 : Cond.methodLink RL 87 yX11_sit ∈ gt := gt_at 1136 (by decide +kernel) (by decide +kernel)
theorem g1137 : Cond.instanceMethod yX11_sit ∈ gt := gt_at 1137 (by decide +kernel) (by decide +kernel)
theorem g1138 : Cond.selects RX11 yX11_sit yX11_sit ∈ gt := gt_at 1138 (by decide +kernel) (by decide +kernel)
theorem g1139 : Cond.code yX11_sit cX11_sit 3 (some .int) ∈ gt := gt_at 1139 (by decide +kernel) (by decide +kernel)
theorem g1184 : Cond.methodLink RL 91 yX11_plan ∈ gt := gt_at 1184 (by decide +kernel) (by decide +kernel)
theorem g1185 : Cond.instanceMethod yX11_plan ∈ gt := gt_at 1185 (by decide +kernel) (by decide +kernel)
theorem g1186 : Cond.selects RX11 yX11_plan yX11_plan ∈ gt := gt_at 1186 (by decide +kernel) (by decide +kernel)
theorem g1187 : Cond.code yX11_plan cX11_plan 3 (some .int) ∈ gt := gt_at 1187 (by decide +kernel) (by decide +kernel)
theorem g1231 : Cond.methodLink RL 95 yX11_comes ∈ gt := gt_at 1231 (by decide +kernel) (by decide +kernel)
theorem g1232 : Cond.instanceMethod yX11_comes ∈ gt := gt_at 1232 (by decide +kernel) (by decide +kernel)
theorem g1233 : Cond.selects RX11 yX11_comes yX11_comes ∈ gt := gt_at 1233 (by decide +kernel) (by decide +kernel)
theorem g1234 : Cond.code yX11_comes cX11_comes 4 (some .int) ∈ gt := gt_at 1234 (by decide +kernel) (by decide +kernel)
theorem g1247 : Cond.methodLink RL 100 yX11_gains ∈ gt := gt_at 1247 (by decide +kernel) (by decide +kernel)
theorem g1248 : Cond.instanceMethod yX11_gains ∈ gt := gt_at 1248 (by decide +kernel) (by decide +kernel)
theorem g1249 : Cond.selects RX11 yX11_gains yX11_gains ∈ gt := gt_at 1249 (by decide +kernel) (by decide +kernel)
theorem g1250 : Cond.code yX11_gains cX11_gains 12 (some .int) ∈ gt := gt_at 1250 (by decide +kernel) (by decide +kernel)
theorem g1255 : Cond.methodLink RL 105 yX11_rests ∈ gt := gt_at 1255 (by decide +kernel) (by decide +kernel)
theorem g1256 : Cond.instanceMethod yX11_rests ∈ gt := gt_at 1256 (by decide +kernel) (by decide +kernel)
theorem g1257 : Cond.selects RX11 yX11_rests yX11_rests ∈ gt := gt_at 1257 (by decide +kernel) (by decide +kernel)
theorem g1258 : Cond.code yX11_rests cX11_rests 8 (some .int) ∈ gt := gt_at 1258 (by decide +kernel) (by decide +kernel)
theorem g1276 : Cond.methodLink RL 109 yX11_swing ∈ gt := gt_at 1276 (by decide +kernel) (by decide +kernel)
theorem g1277 : Cond.instanceMethod yX11_swing ∈ gt := gt_at 1277 (by decide +kernel) (by decide +kernel)
theorem g1278 : Cond.selects RX11 yX11_swing yX11_swing ∈ gt := gt_at 1278 (by decide +kernel) (by decide +kernel)
theorem g1279 : Cond.code yX11_swing cX11_swing 2 (some .int) ∈ gt := gt_at 1279 (by decide +kernel) (by decide +kernel)
theorem g1297 : Cond.methodLink RL 113 yX11_log ∈ gt := gt_at 1297 (by decide +kernel) (by decide +kernel)
theorem g1298 : Cond.instanceMethod yX11_log ∈ gt := gt_at 1298 (by decide +kernel) (by decide +kernel)
theorem g1299 : Cond.selects RX11 yX11_log yX11_log ∈ gt := gt_at 1299 (by decide +kernel) (by decide +kernel)
theorem g1300 : Cond.code yX11_log cX11_log 3 (some .int) ∈ gt := gt_at 1300 (by decide +kernel) (by decide +kernel)
theorem g1305 : Cond.methodLink RL 117 yX11_ruled ∈ gt := gt_at 1305 (by decide +kernel) (by decide +kernel)
theorem g1306 : Cond.instanceMethod yX11_ruled ∈ gt := gt_at 1306 (by decide +kernel) (by decide +kernel)
theorem g1307 : Cond.selects RX11 yX11_ruled yX11_ruled ∈ gt := gt_at 1307 (by decide +kernel) (by decide +kernel)
theorem g1308 : Cond.code yX11_ruled cX11_ruled 3 (some .int) ∈ gt := gt_at 1308 (by decide +kernel) (by decide +kernel)
theorem g1331 : Cond.methodLink RL 121 yX11_look ∈ gt := gt_at 1331 (by decide +kernel) (by decide +kernel)
theorem g1332 : Cond.instanceMethod yX11_look ∈ gt := gt_at 1332 (by decide +kernel) (by decide +kernel)
theorem g1333 : Cond.selects RX11 yX11_look yX11_look ∈ gt := gt_at 1333 (by decide +kernel) (by decide +kernel)
theorem g1334 : Cond.code yX11_look cX11_look 2 (some .int) ∈ gt := gt_at 1334 (by decide +kernel) (by decide +kernel)
theorem g1345 : Cond.methodLink RL 125 yX11_seed ∈ gt := gt_at 1345 (by decide +kernel) (by decide +kernel)
theorem g1346 : Cond.instanceMethod yX11_seed ∈ gt := gt_at 1346 (by decide +kernel) (by decide +kernel)
theorem g1347 : Cond.selects RX11 yX11_seed yX11_seed ∈ gt := gt_at 1347 (by decide +kernel) (by decide +kernel)
theorem g1348 : Cond.code yX11_seed cX11_seed 3 (some .int) ∈ gt := gt_at 1348 (by decide +kernel) (by decide +kernel)
theorem g1349 : Cond.methodLink RL 129 yX11_journeys ∈ gt := gt_at 1349 (by decide +kernel) (by decide +kernel)
theorem g1350 : Cond.instanceMethod yX11_journeys ∈ gt := gt_at 1350 (by decide +kernel) (by decide +kernel)
theorem g1351 : Cond.selects RX11 yX11_journeys yX11_journeys ∈ gt := gt_at 1351 (by decide +kernel) (by decide +kernel)
theorem g1352 : Cond.code yX11_journeys cX11_journeys 8 (some .int) ∈ gt := gt_at 1352 (by decide +kernel) (by decide +kernel)
theorem g1379 : Cond.methodLink RL 133 yX11_count ∈ gt := gt_at 1379 (by decide +kernel) (by decide +kernel)
theorem g1380 : Cond.instanceMethod yX11_count ∈ gt := gt_at 1380 (by decide +kernel) (by decide +kernel)
theorem g1381 : Cond.selects RX11 yX11_count yX11_count ∈ gt := gt_at 1381 (by decide +kernel) (by decide +kernel)
theorem g1382 : Cond.code yX11_count cX11_count 3 (some .int) ∈ gt := gt_at 1382 (by decide +kernel) (by decide +kernel)
theorem g1383 : Cond.methodLink RL 137 yX11_image ∈ gt := gt_at 1383 (by decide +kernel) (by decide +kernel)
theorem g1384 : Cond.instanceMethod yX11_image ∈ gt := gt_at 1384 (by decide +kernel) (by decide +kernel)
theorem g1385 : Cond.selects RX11 yX11_image yX11_image ∈ gt := gt_at 1385 (by decide +kernel) (by decide +kernel)
theorem g1386 : Cond.code yX11_image cX11_image 2 (some .int) ∈ gt := gt_at 1386 (by decide +kernel) (by decide +kernel)
theorem g1392 : Cond.methodLink RL 141 yX11_back ∈ gt := gt_at 1392 (by decide +kernel) (by decide +kernel)
theorem g1393 : Cond.instanceMethod yX11_back ∈ gt := gt_at 1393 (by decide +kernel) (by decide +kernel)
theorem g1394 : Cond.selects RX11 yX11_back yX11_back ∈ gt := gt_at 1394 (by decide +kernel) (by decide +kernel)
theorem g1395 : Cond.code yX11_back cX11_back 2 (some .int) ∈ gt := gt_at 1395 (by decide +kernel) (by decide +kernel)
theorem g1658 : Cond.methodLink RL 17 yX12_feed ∈ gt := gt_at 1658 (by decide +kernel) (by decide +kernel)
theorem g1659 : Cond.instanceMethod yX12_feed ∈ gt := gt_at 1659 (by decide +kernel) (by decide +kernel)
theorem g1660 : Cond.selects RX12 yX12_feed yX12_feed ∈ gt := gt_at 1660 (by decide +kernel) (by decide +kernel)
theorem g1661 : Cond.code yX12_feed cX12_feed 6 (some .int) ∈ gt := gt_at 1661 (by decide +kernel) (by decide +kernel)
theorem g1666 : Cond.methodLink RL 22 yX12_end ∈ gt := gt_at 1666 (by decide +kernel) (by decide +kernel)
theorem g1667 : Cond.instanceMethod yX12_end ∈ gt := gt_at 1667 (by decide +kernel) (by decide +kernel)
theorem g1668 : Cond.selects RX12 yX12_end yX12_end ∈ gt := gt_at 1668 (by decide +kernel) (by decide +kernel)
theorem g1669 : Cond.code yX12_end cX12_end 2 (some .int) ∈ gt := gt_at 1669 (by decide +kernel) (by decide +kernel)
theorem g1670 : Cond.methodLink RL 27 yX12_train ∈ gt := gt_at 1670 (by decide +kernel) (by decide +kernel)
theorem g1671 : Cond.instanceMethod yX12_train ∈ gt := gt_at 1671 (by decide +kernel) (by decide +kernel)
theorem g1672 : Cond.selects RX12 yX12_train yX12_train ∈ gt := gt_at 1672 (by decide +kernel) (by decide +kernel)
theorem g1673 : Cond.code yX12_train cX12_train 2 (some .int) ∈ gt := gt_at 1673 (by decide +kernel) (by decide +kernel)
theorem g1782 : Cond.methodLink RL 31 yX12_rule ∈ gt := gt_at 1782 (by decide +kernel) (by decide +kernel)
theorem g1783 : Cond.instanceMethod yX12_rule ∈ gt := gt_at 1783 (by decide +kernel) (by decide +kernel)
theorem g1784 : Cond.selects RX12 yX12_rule yX12_rule ∈ gt := gt_at 1784 (by decide +kernel) (by decide +kernel)
theorem g1785 : Cond.code yX12_rule cX12_rule 3 (some .int) ∈ gt := gt_at 1785 (by decide +kernel) (by decide +kernel)
theorem g1857 : Cond.methodLink RL 35 yX12_force ∈ gt := gt_at 1857 (by decide +kernel) (by decide +kernel)
theorem g1858 : Cond.instanceMethod yX12_force ∈ gt := gt_at 1858 (by decide +kernel) (by decide +kernel)
theorem g1859 : Cond.selects RX12 yX12_force yX12_force ∈ gt := gt_at 1859 (by decide +kernel) (by decide +kernel)
theorem g1860 : Cond.code yX12_force cX12_force 3 (some .int) ∈ gt := gt_at 1860 (by decide +kernel) (by decide +kernel)
theorem g1862 : Cond.methodLink RL 40 yX12_person ∈ gt := gt_at 1862 (by decide +kernel) (by decide +kernel)
theorem g1863 : Cond.instanceMethod yX12_person ∈ gt := gt_at 1863 (by decide +kernel) (by decide +kernel)
theorem g1864 : Cond.selects RX12 yX12_person yX12_person ∈ gt := gt_at 1864 (by decide +kernel) (by decide +kernel)
theorem g1865 : Cond.code yX12_person cX12_person 3 (some .int) ∈ gt := gt_at 1865 (by decide +kernel) (by decide +kernel)
theorem g1897 : Cond.methodLink RL 44 yX12_air ∈ gt := gt_at 1897 (by decide +kernel) (by decide +kernel)
theorem g1898 : Cond.instanceMethod yX12_air ∈ gt := gt_at 1898 (by decide +kernel) (by decide +kernel)
theorem g1899 : Cond.selects RX12 yX12_air yX12_air ∈ gt := gt_at 1899 (by decide +kernel) (by decide +kernel)
theorem g1900 : Cond.code yX12_air cX12_air 3 (some .int) ∈ gt := gt_at 1900 (by decide +kernel) (by decide +kernel)
theorem g1903 : Cond.methodLink RL 48 yX12_seat ∈ gt := gt_at 1903 (by decide +kernel) (by decide +kernel)
theorem g1904 : Cond.instanceMethod yX12_seat ∈ gt := gt_at 1904 (by decide +kernel) (by decide +kernel)
theorem g1905 : Cond.selects RX12 yX12_seat yX12_seat ∈ gt := gt_at 1905 (by decide +kernel) (by decide +kernel)
theorem g1906 : Cond.code yX12_seat cX12_seat 2 (some .int) ∈ gt := gt_at 1906 (by decide +kernel) (by decide +kernel)
theorem g1911 : Cond.methodLink RL 52 yX12_stretch ∈ gt := gt_at 1911 (by decide +kernel) (by decide +kernel)
theorem g1912 : Cond.instanceMethod yX12_stretch ∈ gt := gt_at 1912 (by decide +kernel) (by decide +kernel)
theorem g1913 : Cond.selects RX12 yX12_stretch yX12_stretch ∈ gt := gt_at 1913 (by decide +kernel) (by decide +kernel)
theorem g1914 : Cond.code yX12_stretch cX12_stretch 3 (some .int) ∈ gt := gt_at 1914 (by decide +kernel) (by decide +kernel)
theorem g1920 : Cond.methodLink RL 77 yX12_undo ∈ gt := gt_at 1920 (by decide +kernel) (by decide +kernel)
theorem g1921 : Cond.instanceMethod yX12_undo ∈ gt := gt_at 1921 (by decide +kernel) (by decide +kernel)
theorem g1922 : Cond.selects RX12 yX12_undo yX12_undo ∈ gt := gt_at 1922 (by decide +kernel) (by decide +kernel)
theorem g1923 : Cond.code yX12_undo cX12_undo 1 (some .int) ∈ gt := gt_at 1923 (by decide +kernel) (by decide +kernel)
theorem g1936 : Cond.methodLink RL 56 yX12_mile ∈ gt := gt_at 1936 (by decide +kernel) (by decide +kernel)
theorem g1937 : Cond.instanceMethod yX12_mile ∈ gt := gt_at 1937 (by decide +kernel) (by decide +kernel)
theorem g1938 : Cond.selects RX12 yX12_mile yX12_mile ∈ gt := gt_at 1938 (by decide +kernel) (by decide +kernel)
theorem g1939 : Cond.code yX12_mile cX12_mile 1 (some .int) ∈ gt := gt_at 1939 (by decide +kernel) (by decide +kernel)
theorem g2000 : Cond.methodLink RL 60 yX12_pull ∈ gt := gt_at 2000 (by decide +kernel) (by decide +kernel)
theorem g2001 : Cond.instanceMethod yX12_pull ∈ gt := gt_at 2001 (by decide +kernel) (by decide +kernel)
theorem g2002 : Cond.selects RX12 yX12_pull yX12_pull ∈ gt := gt_at 2002 (by decide +kernel) (by decide +kernel)
theorem g2003 : Cond.code yX12_pull cX12_pull 3 (some .int) ∈ gt := gt_at 2003 (by decide +kernel) (by decide +kernel)
theorem g2004 : Cond.methodLink RL 64 yX12_turn ∈ gt := gt_at 2004 (by decide +kernel) (by decide +kernel)
theorem g2005 : Cond.instanceMethod yX12_turn ∈ gt := gt_at 2005 (by decide +kernel) (by decide +kernel)
theorem g2006 : Cond.selects RX12 yX12_turn yX12_turn ∈ gt := gt_at 2006 (by decide +kernel) (by decide +kernel)
theorem g2007 : Cond.code yX12_turn cX12_turn 3 (some .int) ∈ gt := gt_at 2007 (by decide +kernel) (by decide +kernel)
theorem g2009 : Cond.methodLink RL 69 yX12_seats ∈ gt := gt_at 2009 (by decide +kernel) (by decide +kernel)
theorem g2010 : Cond.instanceMethod yX12_seats ∈ gt := gt_at 2010 (by decide +kernel) (by decide +kernel)
theorem g2011 : Cond.selects RX12 yX12_seats yX12_seats ∈ gt := gt_at 2011 (by decide +kernel) (by decide +kernel)
theorem g2012 : Cond.code yX12_seats cX12_seats 4 (some .boolean) ∈ gt := gt_at 2012 (by decide +kernel) (by decide +kernel)
theorem g2013 : Cond.methodLink RL 73 yX12_say ∈ gt := gt_at 2013 (by decide +kernel) (by decide +kernel)
theorem g2014 : Cond.instanceMethod yX12_say ∈ gt := gt_at 2014 (by decide +kernel) (by decide +kernel)
theorem g2015 : Cond.selects RX12 yX12_say yX12_say ∈ gt := gt_at 2015 (by decide +kernel) (by decide +kernel)
theorem g2016 : Cond.code yX12_say cX12_say 4 (some .int) ∈ gt := gt_at 2016 (by decide +kernel) (by decide +kernel)
theorem g2019 : Cond.methodLink RL 81 yX12_ahead ∈ gt := gt_at 2019 (by decide +kernel) (by decide +kernel)
theorem g2020 : Cond.instanceMethod yX12_ahead ∈ gt := gt_at 2020 (by decide +kernel) (by decide +kernel)
theorem g2021 : Cond.selects RX12 yX12_ahead yX12_ahead ∈ gt := gt_at 2021 (by decide +kernel) (by decide +kernel)
theorem g2022 : Cond.code yX12_ahead cX12_ahead 4 (some .int) ∈ gt := gt_at 2022 (by decide +kernel) (by decide +kernel)
theorem g2048 : Cond.methodLink RL 86 yX12_which ∈ gt := gt_at 2048 (by decide +kernel) (by decide +kernel)
theorem g2049 : Cond.instanceMethod yX12_which ∈ gt := gt_at 2049 (by decide +kernel) (by decide +kernel)
theorem g2050 : Cond.selects RX12 yX12_which yX12_which ∈ gt := gt_at 2050 (by decide +kernel) (by decide +kernel)
theorem g2051 : Cond.code yX12_which cX12_which 5 (some .int) ∈ gt := gt_at 2051 (by decide +kernel) (by decide +kernel)
theorem g2056 : Cond.methodLink RL 90 yX12_sit ∈ gt := gt_at 2056 (by decide +kernel) (by decide +kernel)
theorem g2057 : Cond.instanceMethod yX12_sit ∈ gt := gt_at 2057 (by decide +kernel) (by decide +kernel)
theorem g2058 : Cond.selects RX12 yX12_sit yX12_sit ∈ gt := gt_at 2058 (by decide +kernel) (by decide +kernel)
theorem g2059 : Cond.code yX12_sit cX12_sit 4 (some .int) ∈ gt := gt_at 2059 (by decide +kernel) (by decide +kernel)
theorem g2083 : Cond.methodLink RL 94 yX12_plan ∈ gt := gt_at 2083 (by decide +kernel) (by decide +kernel)
theorem g2084 : Cond.instanceMethod yX12_plan ∈ gt := gt_at 2084 (by decide +kernel) (by decide +kernel)
theorem g2085 : Cond.selects RX12 yX12_plan yX12_plan ∈ gt := gt_at 2085 (by decide +kernel) (by decide +kernel)
theorem g2086 : Cond.code yX12_plan cX12_plan 4 (some .int) ∈ gt := gt_at 2086 (by decide +kernel) (by decide +kernel)
theorem g2109 : Cond.methodLink RL 99 yX12_comes ∈ gt := gt_at 2109 (by decide +kernel) (by decide +kernel)
theorem g2110 : Cond.instanceMethod yX12_comes ∈ gt := gt_at 2110 (by decide +kernel) (by decide +kernel)
theorem g2111 : Cond.selects RX12 yX12_comes yX12_comes ∈ gt := gt_at 2111 (by decide +kernel) (by decide +kernel)
theorem g2112 : Cond.code yX12_comes cX12_comes 8 (some .int) ∈ gt := gt_at 2112 (by decide +kernel) (by decide +kernel)
theorem g2118 : Cond.methodLink RL 104 yX12_gains ∈ gt := gt_at 2118 (by decide +kernel) (by decide +kernel)
theorem g2119 : Cond.instanceMethod yX12_gains ∈ gt := gt_at 2119 (by decide +kernel) (by decide +kernel)
theorem g2120 : Cond.selects RX12 yX12_gains yX12_gains ∈ gt := gt_at 2120 (by decide +kernel) (by decide +kernel)
theorem g2121 : Cond.code yX12_gains cX12_gains 10 (some .int) ∈ gt := gt_at 2121 (by decide +kernel) (by decide +kernel)
theorem g2130 : Cond.methodLink RL 108 yX12_rests ∈ gt := gt_at 2130 (by decide +kernel) (by decide +kernel)
theorem g2131 : Cond.instanceMethod yX12_rests ∈ gt := gt_at 2131 (by decide +kernel) (by decide +kernel)
theorem g2132 : Cond.selects RX12 yX12_rests yX12_rests ∈ gt := gt_at 2132 (by decide +kernel) (by decide +kernel)
theorem g2133 : Cond.code yX12_rests cX12_rests 9 (some .int) ∈ gt := gt_at 2133 (by decide +kernel) (by decide +kernel)
theorem g2152 : Cond.methodLink RL 112 yX12_swing ∈ gt := gt_at 2152 (by decide +kernel) (by decide +kernel)
theorem g2153 : Cond.instanceMethod yX12_swing ∈ gt := gt_at 2153 (by decide +kernel) (by decide +kernel)
theorem g2154 : Cond.selects RX12 yX12_swing yX12_swing ∈ gt := gt_at 2154 (by decide +kernel) (by decide +kernel)
theorem g2155 : Cond.code yX12_swing cX12_swing 4 (some .int) ∈ gt := gt_at 2155 (by decide +kernel) (by decide +kernel)
theorem g2174 : Cond.methodLink RL 116 yX12_log ∈ gt := gt_at 2174 (by decide +kernel) (by decide +kernel)
theorem g2175 : Cond.instanceMethod yX12_log ∈ gt := gt_at 2175 (by decide +kernel) (by decide +kernel)
theorem g2176 : Cond.selects RX12 yX12_log yX12_log ∈ gt := gt_at 2176 (by decide +kernel) (by decide +kernel)
theorem g2177 : Cond.code yX12_log cX12_log 4 (some .int) ∈ gt := gt_at 2177 (by decide +kernel) (by decide +kernel)
theorem g2178 : Cond.methodLink RL 120 yX12_ruled ∈ gt := gt_at 2178 (by decide +kernel) (by decide +kernel)
theorem g2179 : Cond.instanceMethod yX12_ruled ∈ gt := gt_at 2179 (by decide +kernel) (by decide +kernel)
theorem g2180 : Cond.selects RX12 yX12_ruled yX12_ruled ∈ gt := gt_at 2180 (by decide +kernel) (by decide +kernel)
theorem g2181 : Cond.code yX12_ruled cX12_ruled 5 (some .int) ∈ gt := gt_at 2181 (by decide +kernel) (by decide +kernel)
theorem g2186 : Cond.methodLink RL 124 yX12_look ∈ gt := gt_at 2186 (by decide +kernel) (by decide +kernel)
theorem g2187 : Cond.instanceMethod yX12_look ∈ gt := gt_at 2187 (by decide +kernel) (by decide +kernel)
theorem g2188 : Cond.selects RX12 yX12_look yX12_look ∈ gt := gt_at 2188 (by decide +kernel) (by decide +kernel)
theorem g2189 : Cond.code yX12_look cX12_look 6 (some .int) ∈ gt := gt_at 2189 (by decide +kernel) (by decide +kernel)
theorem g2194 : Cond.methodLink RL 128 yX12_seed ∈ gt := gt_at 2194 (by decide +kernel) (by decide +kernel)
theorem g2195 : Cond.instanceMethod yX12_seed ∈ gt := gt_at 2195 (by decide +kernel) (by decide +kernel)
theorem g2196 : Cond.selects RX12 yX12_seed yX12_seed ∈ gt := gt_at 2196 (by decide +kernel) (by decide +kernel)
theorem g2197 : Cond.code yX12_seed cX12_seed 3 (some .int) ∈ gt := gt_at 2197 (by decide +kernel) (by decide +kernel)
theorem g2198 : Cond.methodLink RL 132 yX12_journeys ∈ gt := gt_at 2198 (by decide +kernel) (by decide +kernel)
theorem g2199 : Cond.instanceMethod yX12_journeys ∈ gt := gt_at 2199 (by decide +kernel) (by decide +kernel)
theorem g2200 : Cond.selects RX12 yX12_journeys yX12_journeys ∈ gt := gt_at 2200 (by decide +kernel) (by decide +kernel)
theorem g2201 : Cond.code yX12_journeys cX12_journeys 11 (some .int) ∈ gt := gt_at 2201 (by decide +kernel) (by decide +kernel)
theorem g2224 : Cond.methodLink RL 136 yX12_count ∈ gt := gt_at 2224 (by decide +kernel) (by decide +kernel)
theorem g2225 : Cond.instanceMethod yX12_count ∈ gt := gt_at 2225 (by decide +kernel) (by decide +kernel)
theorem g2226 : Cond.selects RX12 yX12_count yX12_count ∈ gt := gt_at 2226 (by decide +kernel) (by decide +kernel)
theorem g2227 : Cond.code yX12_count cX12_count 2 (some .int) ∈ gt := gt_at 2227 (by decide +kernel) (by decide +kernel)
theorem g2232 : Cond.methodLink RL 140 yX12_image ∈ gt := gt_at 2232 (by decide +kernel) (by decide +kernel)
theorem g2233 : Cond.instanceMethod yX12_image ∈ gt := gt_at 2233 (by decide +kernel) (by decide +kernel)
theorem g2234 : Cond.selects RX12 yX12_image yX12_image ∈ gt := gt_at 2234 (by decide +kernel) (by decide +kernel)
theorem g2235 : Cond.code yX12_image cX12_image 2 (some .int) ∈ gt := gt_at 2235 (by decide +kernel) (by decide +kernel)
theorem g2236 : Cond.methodLink RL 144 yX12_back ∈ gt := gt_at 2236 (by decide +kernel) (by decide +kernel)
theorem g2237 : Cond.instanceMethod yX12_back ∈ gt := gt_at 2237 (by decide +kernel) (by decide +kernel)
theorem g2238 : Cond.selects RX12 yX12_back yX12_back ∈ gt := gt_at 2238 (by decide +kernel) (by decide +kernel)
theorem g2239 : Cond.code yX12_back cX12_back 2 (some .int) ∈ gt := gt_at 2239 (by decide +kernel) (by decide +kernel)
theorem hd_X11_ahead : yX11_ahead.cls ≠ "java/lang/invoke/MethodHandle" ∧ yX11_ahead.cls ≠ "java/lang/invoke/VarHandle" ∧ (parseMethodDescriptor yX11_ahead.desc).map (fun d => d.parameters.length) = some 2 := ⟨by decide +kernel, by decide +kernel, by decide +kernel⟩
theorem hd_X11_air : yX11_air.cls ≠ "java/lang/invoke/MethodHandle" ∧ yX11_air.cls ≠ "java/lang/invoke/VarHandle" ∧ (parseMethodDescriptor yX11_air.desc).map (fun d => d.parameters.length) = some 2 := ⟨by decide +kernel, by decide +kernel, by decide +kernel⟩
theorem hd_X11_back : yX11_back.cls ≠ "java/lang/invoke/MethodHandle" ∧ yX11_back.cls ≠ "java/lang/invoke/VarHandle" ∧ (parseMethodDescriptor yX11_back.desc).map (fun d => d.parameters.length) = some 1 := ⟨by decide +kernel, by decide +kernel, by decide +kernel⟩
theorem hd_X11_comes : yX11_comes.cls ≠ "java/lang/invoke/MethodHandle" ∧ yX11_comes.cls ≠ "java/lang/invoke/VarHandle" ∧ (parseMethodDescriptor yX11_comes.desc).map (fun d => d.parameters.length) = some 3 := ⟨by decide +kernel, by decide +kernel, by decide +kernel⟩
theorem hd_X11_count : yX11_count.cls ≠ "java/lang/invoke/MethodHandle" ∧ yX11_count.cls ≠ "java/lang/invoke/VarHandle" ∧ (parseMethodDescriptor yX11_count.desc).map (fun d => d.parameters.length) = some 1 := ⟨by decide +kernel, by decide +kernel, by decide +kernel⟩
theorem hd_X11_end : yX11_end.cls ≠ "java/lang/invoke/MethodHandle" ∧ yX11_end.cls ≠ "java/lang/invoke/VarHandle" ∧ (parseMethodDescriptor yX11_end.desc).map (fun d => d.parameters.length) = some 1 := ⟨by decide +kernel, by decide +kernel, by decide +kernel⟩
theorem hd_X11_feed : yX11_feed.cls ≠ "java/lang/invoke/MethodHandle" ∧ yX11_feed.cls ≠ "java/lang/invoke/VarHandle" ∧ (parseMethodDescriptor yX11_feed.desc).map (fun d => d.parameters.length) = some 5 := ⟨by decide +kernel, by decide +kernel, by decide +kernel⟩
theorem hd_X11_force : yX11_force.cls ≠ "java/lang/invoke/MethodHandle" ∧ yX11_force.cls ≠ "java/lang/invoke/VarHandle" ∧ (parseMethodDescriptor yX11_force.desc).map (fun d => d.parameters.length) = some 1 := ⟨by decide +kernel, by decide +kernel, by decide +kernel⟩
theorem hd_X11_gains : yX11_gains.cls ≠ "java/lang/invoke/MethodHandle" ∧ yX11_gains.cls ≠ "java/lang/invoke/VarHandle" ∧ (parseMethodDescriptor yX11_gains.desc).map (fun d => d.parameters.length) = some 4 := ⟨by decide +kernel, by decide +kernel, by decide +kernel⟩
theorem hd_X11_image : yX11_image.cls ≠ "java/lang/invoke/MethodHandle" ∧ yX11_image.cls ≠ "java/lang/invoke/VarHandle" ∧ (parseMethodDescriptor yX11_image.desc).map (fun d => d.parameters.length) = some 1 := ⟨by decide +kernel, by decide +kernel, by decide +kernel⟩
theorem hd_X11_journeys : yX11_journeys.cls ≠ "java/lang/invoke/MethodHandle" ∧ yX11_journeys.cls ≠ "java/lang/invoke/VarHandle" ∧ (parseMethodDescriptor yX11_journeys.desc).map (fun d => d.parameters.length) = some 4 := ⟨by decide +kernel, by decide +kernel, by decide +kernel⟩
theorem hd_X11_log : yX11_log.cls ≠ "java/lang/invoke/MethodHandle" ∧ yX11_log.cls ≠ "java/lang/invoke/VarHandle" ∧ (parseMethodDescriptor yX11_log.desc).map (fun d => d.parameters.length) = some 2 := ⟨by decide +kernel, by decide +kernel, by decide +kernel⟩
theorem hd_X11_look : yX11_look.cls ≠ "java/lang/invoke/MethodHandle" ∧ yX11_look.cls ≠ "java/lang/invoke/VarHandle" ∧ (parseMethodDescriptor yX11_look.desc).map (fun d => d.parameters.length) = some 1 := ⟨by decide +kernel, by decide +kernel, by decide +kernel⟩
theorem hd_X11_mile : yX11_mile.cls ≠ "java/lang/invoke/MethodHandle" ∧ yX11_mile.cls ≠ "java/lang/invoke/VarHandle" ∧ (parseMethodDescriptor yX11_mile.desc).map (fun d => d.parameters.length) = some 0 := ⟨by decide +kernel, by decide +kernel, by decide +kernel⟩
theorem hd_X11_person : yX11_person.cls ≠ "java/lang/invoke/MethodHandle" ∧ yX11_person.cls ≠ "java/lang/invoke/VarHandle" ∧ (parseMethodDescriptor yX11_person.desc).map (fun d => d.parameters.length) = some 2 := ⟨by decide +kernel, by decide +kernel, by decide +kernel⟩
theorem hd_X11_plan : yX11_plan.cls ≠ "java/lang/invoke/MethodHandle" ∧ yX11_plan.cls ≠ "java/lang/invoke/VarHandle" ∧ (parseMethodDescriptor yX11_plan.desc).map (fun d => d.parameters.length) = some 2 := ⟨by decide +kernel, by decide +kernel, by decide +kernel⟩
theorem hd_X11_pull : yX11_pull.cls ≠ "java/lang/invoke/MethodHandle" ∧ yX11_pull.cls ≠ "java/lang/invoke/VarHandle" ∧ (parseMethodDescriptor yX11_pull.desc).map (fun d => d.parameters.length) = some 1 := ⟨by decide +kernel, by decide +kernel, by decide +kernel⟩
theorem hd_X11_rests : yX11_rests.cls ≠ "java/lang/invoke/MethodHandle" ∧ yX11_rests.cls ≠ "java/lang/invoke/VarHandle" ∧ (parseMethodDescriptor yX11_rests.desc).map (fun d => d.parameters.length) = some 3 := ⟨by decide +kernel, by decide +kernel, by decide +kernel⟩
theorem hd_X11_rule : yX11_rule.cls ≠ "java/lang/invoke/MethodHandle" ∧ yX11_rule.cls ≠ "java/lang/invoke/VarHandle" ∧ (parseMethodDescriptor yX11_rule.desc).map (fun d => d.parameters.length) = some 0 := ⟨by decide +kernel, by decide +kernel, by decide +kernel⟩
theorem hd_X11_ruled : yX11_ruled.cls ≠ "java/lang/invoke/MethodHandle" ∧ yX11_ruled.cls ≠ "java/lang/invoke/VarHandle" ∧ (parseMethodDescriptor yX11_ruled.desc).map (fun d => d.parameters.length) = some 1 := ⟨by decide +kernel, by decide +kernel, by decide +kernel⟩
theorem hd_X11_say : yX11_say.cls ≠ "java/lang/invoke/MethodHandle" ∧ yX11_say.cls ≠ "java/lang/invoke/VarHandle" ∧ (parseMethodDescriptor yX11_say.desc).map (fun d => d.parameters.length) = some 2 := ⟨by decide +kernel, by decide +kernel, by decide +kernel⟩
theorem hd_X11_seat : yX11_seat.cls ≠ "java/lang/invoke/MethodHandle" ∧ yX11_seat.cls ≠ "java/lang/invoke/VarHandle" ∧ (parseMethodDescriptor yX11_seat.desc).map (fun d => d.parameters.length) = some 1 := ⟨by decide +kernel, by decide +kernel, by decide +kernel⟩
theorem hd_X11_seats : yX11_seats.cls ≠ "java/lang/invoke/MethodHandle" ∧ yX11_seats.cls ≠ "java/lang/invoke/VarHandle" ∧ (parseMethodDescriptor yX11_seats.desc).map (fun d => d.parameters.length) = some 2 := ⟨by decide +kernel, by decide +kernel, by decide +kernel⟩
theorem hd_X11_seed : yX11_seed.cls ≠ "java/lang/invoke/MethodHandle" ∧ yX11_seed.cls ≠ "java/lang/invoke/VarHandle" ∧ (parseMethodDescriptor yX11_seed.desc).map (fun d => d.parameters.length) = some 1 := ⟨by decide +kernel, by decide +kernel, by decide +kernel⟩
theorem hd_X11_sit : yX11_sit.cls ≠ "java/lang/invoke/MethodHandle" ∧ yX11_sit.cls ≠ "java/lang/invoke/VarHandle" ∧ (parseMethodDescriptor yX11_sit.desc).map (fun d => d.parameters.length) = some 2 := ⟨by decide +kernel, by decide +kernel, by decide +kernel⟩
theorem hd_X11_stretch : yX11_stretch.cls ≠ "java/lang/invoke/MethodHandle" ∧ yX11_stretch.cls ≠ "java/lang/invoke/VarHandle" ∧ (parseMethodDescriptor yX11_stretch.desc).map (fun d => d.parameters.length) = some 2 := ⟨by decide +kernel, by decide +kernel, by decide +kernel⟩
theorem hd_X11_swing : yX11_swing.cls ≠ "java/lang/invoke/MethodHandle" ∧ yX11_swing.cls ≠ "java/lang/invoke/VarHandle" ∧ (parseMethodDescriptor yX11_swing.desc).map (fun d => d.parameters.length) = some 1 := ⟨by decide +kernel, by decide +kernel, by decide +kernel⟩
theorem hd_X11_train : yX11_train.cls ≠ "java/lang/invoke/MethodHandle" ∧ yX11_train.cls ≠ "java/lang/invoke/VarHandle" ∧ (parseMethodDescriptor yX11_train.desc).map (fun d => d.parameters.length) = some 0 := ⟨by decide +kernel, by decide +kernel, by decide +kernel⟩
theorem hd_X11_turn : yX11_turn.cls ≠ "java/lang/invoke/MethodHandle" ∧ yX11_turn.cls ≠ "java/lang/invoke/VarHandle" ∧ (parseMethodDescriptor yX11_turn.desc).map (fun d => d.parameters.length) = some 1 := ⟨by decide +kernel, by decide +kernel, by decide +kernel⟩
theorem hd_X11_undo : yX11_undo.cls ≠ "java/lang/invoke/MethodHandle" ∧ yX11_undo.cls ≠ "java/lang/invoke/VarHandle" ∧ (parseMethodDescriptor yX11_undo.desc).map (fun d => d.parameters.length) = some 0 := ⟨by decide +kernel, by decide +kernel, by decide +kernel⟩
theorem hd_X11_which : yX11_which.cls ≠ "java/lang/invoke/MethodHandle" ∧ yX11_which.cls ≠ "java/lang/invoke/VarHandle" ∧ (parseMethodDescriptor yX11_which.desc).map (fun d => d.parameters.length) = some 2 := ⟨by decide +kernel, by decide +kernel, by decide +kernel⟩
theorem hd_X12_ahead : yX12_ahead.cls ≠ "java/lang/invoke/MethodHandle" ∧ yX12_ahead.cls ≠ "java/lang/invoke/VarHandle" ∧ (parseMethodDescriptor yX12_ahead.desc).map (fun d => d.parameters.length) = some 2 := ⟨by decide +kernel, by decide +kernel, by decide +kernel⟩
theorem hd_X12_air : yX12_air.cls ≠ "java/lang/invoke/MethodHandle" ∧ yX12_air.cls ≠ "java/lang/invoke/VarHandle" ∧ (parseMethodDescriptor yX12_air.desc).map (fun d => d.parameters.length) = some 2 := ⟨by decide +kernel, by decide +kernel, by decide +kernel⟩
theorem hd_X12_back : yX12_back.cls ≠ "java/lang/invoke/MethodHandle" ∧ yX12_back.cls ≠ "java/lang/invoke/VarHandle" ∧ (parseMethodDescriptor yX12_back.desc).map (fun d => d.parameters.length) = some 1 := ⟨by decide +kernel, by decide +kernel, by decide +kernel⟩
theorem hd_X12_comes : yX12_comes.cls ≠ "java/lang/invoke/MethodHandle" ∧ yX12_comes.cls ≠ "java/lang/invoke/VarHandle" ∧ (parseMethodDescriptor yX12_comes.desc).map (fun d => d.parameters.length) = some 3 := ⟨by decide +kernel, by decide +kernel, by decide +kernel⟩
theorem hd_X12_count : yX12_count.cls ≠ "java/lang/invoke/MethodHandle" ∧ yX12_count.cls ≠ "java/lang/invoke/VarHandle" ∧ (parseMethodDescriptor yX12_count.desc).map (fun d => d.parameters.length) = some 1 := ⟨by decide +kernel, by decide +kernel, by decide +kernel⟩
theorem hd_X12_end : yX12_end.cls ≠ "java/lang/invoke/MethodHandle" ∧ yX12_end.cls ≠ "java/lang/invoke/VarHandle" ∧ (parseMethodDescriptor yX12_end.desc).map (fun d => d.parameters.length) = some 1 := ⟨by decide +kernel, by decide +kernel, by decide +kernel⟩
theorem hd_X12_feed : yX12_feed.cls ≠ "java/lang/invoke/MethodHandle" ∧ yX12_feed.cls ≠ "java/lang/invoke/VarHandle" ∧ (parseMethodDescriptor yX12_feed.desc).map (fun d => d.parameters.length) = some 5 := ⟨by decide +kernel, by decide +kernel, by decide +kernel⟩
theorem hd_X12_force : yX12_force.cls ≠ "java/lang/invoke/MethodHandle" ∧ yX12_force.cls ≠ "java/lang/invoke/VarHandle" ∧ (parseMethodDescriptor yX12_force.desc).map (fun d => d.parameters.length) = some 1 := ⟨by decide +kernel, by decide +kernel, by decide +kernel⟩
theorem hd_X12_gains : yX12_gains.cls ≠ "java/lang/invoke/MethodHandle" ∧ yX12_gains.cls ≠ "java/lang/invoke/VarHandle" ∧ (parseMethodDescriptor yX12_gains.desc).map (fun d => d.parameters.length) = some 4 := ⟨by decide +kernel, by decide +kernel, by decide +kernel⟩
theorem hd_X12_image : yX12_image.cls ≠ "java/lang/invoke/MethodHandle" ∧ yX12_image.cls ≠ "java/lang/invoke/VarHandle" ∧ (parseMethodDescriptor yX12_image.desc).map (fun d => d.parameters.length) = some 1 := ⟨by decide +kernel, by decide +kernel, by decide +kernel⟩
theorem hd_X12_journeys : yX12_journeys.cls ≠ "java/lang/invoke/MethodHandle" ∧ yX12_journeys.cls ≠ "java/lang/invoke/VarHandle" ∧ (parseMethodDescriptor yX12_journeys.desc).map (fun d => d.parameters.length) = some 4 := ⟨by decide +kernel, by decide +kernel, by decide +kernel⟩
theorem hd_X12_log : yX12_log.cls ≠ "java/lang/invoke/MethodHandle" ∧ yX12_log.cls ≠ "java/lang/invoke/VarHandle" ∧ (parseMethodDescriptor yX12_log.desc).map (fun d => d.parameters.length) = some 2 := ⟨by decide +kernel, by decide +kernel, by decide +kernel⟩
theorem hd_X12_look : yX12_look.cls ≠ "java/lang/invoke/MethodHandle" ∧ yX12_look.cls ≠ "java/lang/invoke/VarHandle" ∧ (parseMethodDescriptor yX12_look.desc).map (fun d => d.parameters.length) = some 1 := ⟨by decide +kernel, by decide +kernel, by decide +kernel⟩
theorem hd_X12_mile : yX12_mile.cls ≠ "java/lang/invoke/MethodHandle" ∧ yX12_mile.cls ≠ "java/lang/invoke/VarHandle" ∧ (parseMethodDescriptor yX12_mile.desc).map (fun d => d.parameters.length) = some 0 := ⟨by decide +kernel, by decide +kernel, by decide +kernel⟩
theorem hd_X12_person : yX12_person.cls ≠ "java/lang/invoke/MethodHandle" ∧ yX12_person.cls ≠ "java/lang/invoke/VarHandle" ∧ (parseMethodDescriptor yX12_person.desc).map (fun d => d.parameters.length) = some 2 := ⟨by decide +kernel, by decide +kernel, by decide +kernel⟩
theorem hd_X12_plan : yX12_plan.cls ≠ "java/lang/invoke/MethodHandle" ∧ yX12_plan.cls ≠ "java/lang/invoke/VarHandle" ∧ (parseMethodDescriptor yX12_plan.desc).map (fun d => d.parameters.length) = some 2 := ⟨by decide +kernel, by decide +kernel, by decide +kernel⟩
theorem hd_X12_pull : yX12_pull.cls ≠ "java/lang/invoke/MethodHandle" ∧ yX12_pull.cls ≠ "java/lang/invoke/VarHandle" ∧ (parseMethodDescriptor yX12_pull.desc).map (fun d => d.parameters.length) = some 1 := ⟨by decide +kernel, by decide +kernel, by decide +kernel⟩
theorem hd_X12_rests : yX12_rests.cls ≠ "java/lang/invoke/MethodHandle" ∧ yX12_rests.cls ≠ "java/lang/invoke/VarHandle" ∧ (parseMethodDescriptor yX12_rests.desc).map (fun d => d.parameters.length) = some 3 := ⟨by decide +kernel, by decide +kernel, by decide +kernel⟩
theorem hd_X12_rule : yX12_rule.cls ≠ "java/lang/invoke/MethodHandle" ∧ yX12_rule.cls ≠ "java/lang/invoke/VarHandle" ∧ (parseMethodDescriptor yX12_rule.desc).map (fun d => d.parameters.length) = some 0 := ⟨by decide +kernel, by decide +kernel, by decide +kernel⟩
theorem hd_X12_ruled : yX12_ruled.cls ≠ "java/lang/invoke/MethodHandle" ∧ yX12_ruled.cls ≠ "java/lang/invoke/VarHandle" ∧ (parseMethodDescriptor yX12_ruled.desc).map (fun d => d.parameters.length) = some 1 := ⟨by decide +kernel, by decide +kernel, by decide +kernel⟩
theorem hd_X12_say : yX12_say.cls ≠ "java/lang/invoke/MethodHandle" ∧ yX12_say.cls ≠ "java/lang/invoke/VarHandle" ∧ (parseMethodDescriptor yX12_say.desc).map (fun d => d.parameters.length) = some 2 := ⟨by decide +kernel, by decide +kernel, by decide +kernel⟩
theorem hd_X12_seat : yX12_seat.cls ≠ "java/lang/invoke/MethodHandle" ∧ yX12_seat.cls ≠ "java/lang/invoke/VarHandle" ∧ (parseMethodDescriptor yX12_seat.desc).map (fun d => d.parameters.length) = some 1 := ⟨by decide +kernel, by decide +kernel, by decide +kernel⟩
theorem hd_X12_seats : yX12_seats.cls ≠ "java/lang/invoke/MethodHandle" ∧ yX12_seats.cls ≠ "java/lang/invoke/VarHandle" ∧ (parseMethodDescriptor yX12_seats.desc).map (fun d => d.parameters.length) = some 2 := ⟨by decide +kernel, by decide +kernel, by decide +kernel⟩
theorem hd_X12_seed : yX12_seed.cls ≠ "java/lang/invoke/MethodHandle" ∧ yX12_seed.cls ≠ "java/lang/invoke/VarHandle" ∧ (parseMethodDescriptor yX12_seed.desc).map (fun d => d.parameters.length) = some 1 := ⟨by decide +kernel, by decide +kernel, by decide +kernel⟩
theorem hd_X12_sit : yX12_sit.cls ≠ "java/lang/invoke/MethodHandle" ∧ yX12_sit.cls ≠ "java/lang/invoke/VarHandle" ∧ (parseMethodDescriptor yX12_sit.desc).map (fun d => d.parameters.length) = some 2 := ⟨by decide +kernel, by decide +kernel, by decide +kernel⟩
theorem hd_X12_stretch : yX12_stretch.cls ≠ "java/lang/invoke/MethodHandle" ∧ yX12_stretch.cls ≠ "java/lang/invoke/VarHandle" ∧ (parseMethodDescriptor yX12_stretch.desc).map (fun d => d.parameters.length) = some 2 := ⟨by decide +kernel, by decide +kernel, by decide +kernel⟩
theorem hd_X12_swing : yX12_swing.cls ≠ "java/lang/invoke/MethodHandle" ∧ yX12_swing.cls ≠ "java/lang/invoke/VarHandle" ∧ (parseMethodDescriptor yX12_swing.desc).map (fun d => d.parameters.length) = some 1 := ⟨by decide +kernel, by decide +kernel, by decide +kernel⟩
theorem hd_X12_train : yX12_train.cls ≠ "java/lang/invoke/MethodHandle" ∧ yX12_train.cls ≠ "java/lang/invoke/VarHandle" ∧ (parseMethodDescriptor yX12_train.desc).map (fun d => d.parameters.length) = some 0 := ⟨by decide +kernel, by decide +kernel, by decide +kernel⟩
theorem hd_X12_turn : yX12_turn.cls ≠ "java/lang/invoke/MethodHandle" ∧ yX12_turn.cls ≠ "java/lang/invoke/VarHandle" ∧ (parseMethodDescriptor yX12_turn.desc).map (fun d => d.parameters.length) = some 1 := ⟨by decide +kernel, by decide +kernel, by decide +kernel⟩
theorem hd_X12_undo : yX12_undo.cls ≠ "java/lang/invoke/MethodHandle" ∧ yX12_undo.cls ≠ "java/lang/invoke/VarHandle" ∧ (parseMethodDescriptor yX12_undo.desc).map (fun d => d.parameters.length) = some 0 := ⟨by decide +kernel, by decide +kernel, by decide +kernel⟩
theorem hd_X12_which : yX12_which.cls ≠ "java/lang/invoke/MethodHandle" ∧ yX12_which.cls ≠ "java/lang/invoke/VarHandle" ∧ (parseMethodDescriptor yX12_which.desc).map (fun d => d.parameters.length) = some 2 := ⟨by decide +kernel, by decide +kernel, by decide +kernel⟩
section LAWX
variable {G : GG} {p : Program} {l : Launch} {e : Env} {R : Room} {s : State} {m : MethodId} {args : Array Value} {below : List Frame} {meth : Method} {c : Code} {z : Option Value × AH} {mc ms pc ce sl : Nat} {lv : List (Nat × Value)} {st : List Value} {h : AH} {cc : ByteArray} {own : String}
theorem e_slenX {b L : Nat} {xs : Nat → Int32} (C : Cx G cc own p s m args meth c) (hX : va_X b L xs s s.heap) (hbl : b < s.heap.size) (hB : ¬ G.1 ≤ b) (d : decode cc pc = .ok (.arraylength, 1)) (k : EE G p l e R s m args below meth c z mc ms (pc + 1) lv (.int (nI L) :: st) h ce sl) : EE G p l e R s m args below meth c z mc ms pc lv (.ref b :: st) h ce sl := fun H locs la hR hS hl => va_slen C.1 C.2.1 hX hbl hB hS d (k H locs la hR hS hl)
theorem e_sldX {b L : Nat} {xs : Nat → Int32} {i : Int32} (C : Cx G cc own p s m args meth c) (hX : va_X b L xs s s.heap) (hbl : b < s.heap.size) (hB : ¬ G.1 ≤ b) (hin : ¬ (i < 0 ∨ L ≤ i.toNatClampNeg)) (d : decode cc pc = .ok (.iaload, 1)) (k : EE G p l e R s m args below meth c z mc ms (pc + 1) lv (.int (xs i.toNatClampNeg) :: st) h ce sl) : EE G p l e R s m args below meth c z mc ms pc lv (.int i :: .ref b :: st) h ce sl := fun H locs la hR hS hl => va_sld C.1 C.2.1 hX hbl hB hS hin d (k H locs la hR hS hl)
end LAWX
theorem dL_law_0 : decode cL_law 0 = .ok (.new 7, 3) := by decide +kernel
theorem dL_law_3 : decode cL_law 3 = .ok (.dup, 1) := by decide +kernel
theorem dL_law_4 : decode cL_law 4 = .ok (.invokespecial 9, 3) := by decide +kernel
theorem dL_law_7 : decode cL_law 7 = .ok (.astore_n 1, 1) := by decide +kernel
theorem dL_law_8 : decode cL_law 8 = .ok (.new 10, 3) := by decide +kernel
theorem dL_law_11 : decode cL_law 11 = .ok (.dup, 1) := by decide +kernel
theorem dL_law_12 : decode cL_law 12 = .ok (.invokespecial 12, 3) := by decide +kernel
theorem dL_law_15 : decode cL_law 15 = .ok (.astore_n 2, 1) := by decide +kernel
theorem dL_law_16 : decode cL_law 16 = .ok (.iconst 0, 1) := by decide +kernel
theorem dL_law_17 : decode cL_law 17 = .ok (.istore_n 3, 1) := by decide +kernel
theorem dL_law_18 : decode cL_law 18 = .ok (.iload_n 3, 1) := by decide +kernel
theorem dL_law_19 : decode cL_law 19 = .ok (.aload_n 0, 1) := by decide +kernel
theorem dL_law_20 : decode cL_law 20 = .ok (.arraylength, 1) := by decide +kernel
theorem dL_law_21 : decode cL_law 21 = .ok (.bipush 6, 2) := by decide +kernel
theorem dL_law_23 : decode cL_law 23 = .ok (.isub, 1) := by decide +kernel
theorem dL_law_24 : decode cL_law 24 = .ok (.if_icmp .gt 1099, 3) := by decide +kernel
theorem dL_law_27 : decode cL_law 27 = .ok (.aload_n 0, 1) := by decide +kernel
theorem dL_law_28 : decode cL_law 28 = .ok (.iload_n 3, 1) := by decide +kernel
theorem dL_law_29 : decode cL_law 29 = .ok (.iaload, 1) := by decide +kernel
theorem dL_law_30 : decode cL_law 30 = .ok (.bipush 31, 2) := by decide +kernel
theorem dL_law_32 : decode cL_law 32 = .ok (.iand, 1) := by decide +kernel
theorem dL_law_33 : decode cL_law 33 = .ok (.tableswitch 1084 0 30 #[139, 202, 225, 238, 251, 274, 307, 340, 363, 396, 409, 432, 455, 488, 521, 534, 567, 616, 665, 698, 741, 794, 837, 860, 893, 916, 939, 962, 1015, 1038, 1061], 139) := by decide +kernel
theorem dL_law_172 : decode cL_law 172 = .ok (.aload_n 1, 1) := by decide +kernel
theorem dL_law_173 : decode cL_law 173 = .ok (.aload_n 0, 1) := by decide +kernel
theorem dL_law_174 : decode cL_law 174 = .ok (.iload_n 3, 1) := by decide +kernel
theorem dL_law_175 : decode cL_law 175 = .ok (.iconst 1, 1) := by decide +kernel
theorem dL_law_176 : decode cL_law 176 = .ok (.iadd, 1) := by decide +kernel
theorem dL_law_177 : decode cL_law 177 = .ok (.iaload, 1) := by decide +kernel
theorem dL_law_178 : decode cL_law 178 = .ok (.aload_n 0, 1) := by decide +kernel
theorem dL_law_179 : decode cL_law 179 = .ok (.iload_n 3, 1) := by decide +kernel
theorem dL_law_180 : decode cL_law 180 = .ok (.iconst 2, 1) := by decide +kernel
theorem dL_law_181 : decode cL_law 181 = .ok (.iadd, 1) := by decide +kernel
theorem dL_law_182 : decode cL_law 182 = .ok (.iaload, 1) := by decide +kernel
theorem dL_law_183 : decode cL_law 183 = .ok (.aload_n 0, 1) := by decide +kernel
theorem dL_law_184 : decode cL_law 184 = .ok (.iload_n 3, 1) := by decide +kernel
theorem dL_law_185 : decode cL_law 185 = .ok (.iconst 3, 1) := by decide +kernel
theorem dL_law_186 : decode cL_law 186 = .ok (.iadd, 1) := by decide +kernel
theorem dL_law_187 : decode cL_law 187 = .ok (.iaload, 1) := by decide +kernel
theorem dL_law_188 : decode cL_law 188 = .ok (.aload_n 0, 1) := by decide +kernel
theorem dL_law_189 : decode cL_law 189 = .ok (.iload_n 3, 1) := by decide +kernel
theorem dL_law_190 : decode cL_law 190 = .ok (.iconst 4, 1) := by decide +kernel
theorem dL_law_191 : decode cL_law 191 = .ok (.iadd, 1) := by decide +kernel
theorem dL_law_192 : decode cL_law 192 = .ok (.iaload, 1) := by decide +kernel
theorem dL_law_193 : decode cL_law 193 = .ok (.aload_n 0, 1) := by decide +kernel
theorem dL_law_194 : decode cL_law 194 = .ok (.iload_n 3, 1) := by decide +kernel
theorem dL_law_195 : decode cL_law 195 = .ok (.iconst 5, 1) := by decide +kernel
theorem dL_law_196 : decode cL_law 196 = .ok (.iadd, 1) := by decide +kernel
theorem dL_law_197 : decode cL_law 197 = .ok (.iaload, 1) := by decide +kernel
theorem dL_law_198 : decode cL_law 198 = .ok (.invokevirtual 13, 3) := by decide +kernel
theorem dL_law_201 : decode cL_law 201 = .ok (.aload_n 2, 1) := by decide +kernel
theorem dL_law_202 : decode cL_law 202 = .ok (.aload_n 0, 1) := by decide +kernel
theorem dL_law_203 : decode cL_law 203 = .ok (.iload_n 3, 1) := by decide +kernel
theorem dL_law_204 : decode cL_law 204 = .ok (.iconst 1, 1) := by decide +kernel
theorem dL_law_205 : decode cL_law 205 = .ok (.iadd, 1) := by decide +kernel
theorem dL_law_206 : decode cL_law 206 = .ok (.iaload, 1) := by decide +kernel
theorem dL_law_207 : decode cL_law 207 = .ok (.aload_n 0, 1) := by decide +kernel
theorem dL_law_208 : decode cL_law 208 = .ok (.iload_n 3, 1) := by decide +kernel
theorem dL_law_209 : decode cL_law 209 = .ok (.iconst 2, 1) := by decide +kernel
theorem dL_law_210 : decode cL_law 210 = .ok (.iadd, 1) := by decide +kernel
theorem dL_law_211 : decode cL_law 211 = .ok (.iaload, 1) := by decide +kernel
theorem dL_law_212 : decode cL_law 212 = .ok (.aload_n 0, 1) := by decide +kernel
theorem dL_law_213 : decode cL_law 213 = .ok (.iload_n 3, 1) := by decide +kernel
theorem dL_law_214 : decode cL_law 214 = .ok (.iconst 3, 1) := by decide +kernel
theorem dL_law_215 : decode cL_law 215 = .ok (.iadd, 1) := by decide +kernel
theorem dL_law_216 : decode cL_law 216 = .ok (.iaload, 1) := by decide +kernel
theorem dL_law_217 : decode cL_law 217 = .ok (.aload_n 0, 1) := by decide +kernel
theorem dL_law_218 : decode cL_law 218 = .ok (.iload_n 3, 1) := by decide +kernel
theorem dL_law_219 : decode cL_law 219 = .ok (.iconst 4, 1) := by decide +kernel
theorem dL_law_220 : decode cL_law 220 = .ok (.iadd, 1) := by decide +kernel
theorem dL_law_221 : decode cL_law 221 = .ok (.iaload, 1) := by decide +kernel
theorem dL_law_222 : decode cL_law 222 = .ok (.aload_n 0, 1) := by decide +kernel
theorem dL_law_223 : decode cL_law 223 = .ok (.iload_n 3, 1) := by decide +kernel
theorem dL_law_224 : decode cL_law 224 = .ok (.iconst 5, 1) := by decide +kernel
theorem dL_law_225 : decode cL_law 225 = .ok (.iadd, 1) := by decide +kernel
theorem dL_law_226 : decode cL_law 226 = .ok (.iaload, 1) := by decide +kernel
theorem dL_law_227 : decode cL_law 227 = .ok (.invokevirtual 17, 3) := by decide +kernel
theorem dL_law_230 : decode cL_law 230 = .ok (.if_icmp .eq 887, 3) := by decide +kernel
theorem dL_law_233 : decode cL_law 233 = .ok (.iconst 0, 1) := by decide +kernel
theorem dL_law_234 : decode cL_law 234 = .ok (.ireturn, 1) := by decide +kernel
theorem dL_law_235 : decode cL_law 235 = .ok (.aload_n 1, 1) := by decide +kernel
theorem dL_law_236 : decode cL_law 236 = .ok (.aload_n 0, 1) := by decide +kernel
theorem dL_law_237 : decode cL_law 237 = .ok (.iload_n 3, 1) := by decide +kernel
theorem dL_law_238 : decode cL_law 238 = .ok (.iconst 1, 1) := by decide +kernel
theorem dL_law_239 : decode cL_law 239 = .ok (.iadd, 1) := by decide +kernel
theorem dL_law_240 : decode cL_law 240 = .ok (.iaload, 1) := by decide +kernel
theorem dL_law_241 : decode cL_law 241 = .ok (.invokevirtual 18, 3) := by decide +kernel
theorem dL_law_244 : decode cL_law 244 = .ok (.aload_n 2, 1) := by decide +kernel
theorem dL_law_245 : decode cL_law 245 = .ok (.aload_n 0, 1) := by decide +kernel
theorem dL_law_246 : decode cL_law 246 = .ok (.iload_n 3, 1) := by decide +kernel
theorem dL_law_247 : decode cL_law 247 = .ok (.iconst 1, 1) := by decide +kernel
theorem dL_law_248 : decode cL_law 248 = .ok (.iadd, 1) := by decide +kernel
theorem dL_law_249 : decode cL_law 249 = .ok (.iaload, 1) := by decide +kernel
theorem dL_law_250 : decode cL_law 250 = .ok (.invokevirtual 22, 3) := by decide +kernel
theorem dL_law_253 : decode cL_law 253 = .ok (.if_icmp .eq 864, 3) := by decide +kernel
theorem dL_law_256 : decode cL_law 256 = .ok (.iconst 0, 1) := by decide +kernel
theorem dL_law_257 : decode cL_law 257 = .ok (.ireturn, 1) := by decide +kernel
theorem dL_law_258 : decode cL_law 258 = .ok (.aload_n 1, 1) := by decide +kernel
theorem dL_law_259 : decode cL_law 259 = .ok (.invokevirtual 23, 3) := by decide +kernel
theorem dL_law_262 : decode cL_law 262 = .ok (.aload_n 2, 1) := by decide +kernel
theorem dL_law_263 : decode cL_law 263 = .ok (.invokevirtual 27, 3) := by decide +kernel
theorem dL_law_266 : decode cL_law 266 = .ok (.if_icmp .eq 851, 3) := by decide +kernel
theorem dL_law_269 : decode cL_law 269 = .ok (.iconst 0, 1) := by decide +kernel
theorem dL_law_270 : decode cL_law 270 = .ok (.ireturn, 1) := by decide +kernel
theorem dL_law_271 : decode cL_law 271 = .ok (.aload_n 1, 1) := by decide +kernel
theorem dL_law_272 : decode cL_law 272 = .ok (.invokevirtual 28, 3) := by decide +kernel
theorem dL_law_275 : decode cL_law 275 = .ok (.aload_n 2, 1) := by decide +kernel
theorem dL_law_276 : decode cL_law 276 = .ok (.invokevirtual 31, 3) := by decide +kernel
theorem dL_law_279 : decode cL_law 279 = .ok (.if_icmp .eq 838, 3) := by decide +kernel
theorem dL_law_282 : decode cL_law 282 = .ok (.iconst 0, 1) := by decide +kernel
theorem dL_law_283 : decode cL_law 283 = .ok (.ireturn, 1) := by decide +kernel
theorem dL_law_284 : decode cL_law 284 = .ok (.aload_n 1, 1) := by decide +kernel
theorem dL_law_285 : decode cL_law 285 = .ok (.aload_n 0, 1) := by decide +kernel
theorem dL_law_286 : decode cL_law 286 = .ok (.iload_n 3, 1) := by decide +kernel
theorem dL_law_287 : decode cL_law 287 = .ok (.iconst 1, 1) := by decide +kernel
theorem dL_law_288 : decode cL_law 288 = .ok (.iadd, 1) := by decide +kernel
theorem dL_law_289 : decode cL_law 289 = .ok (.iaload, 1) := by decide +kernel
theorem dL_law_290 : decode cL_law 290 = .ok (.invokevirtual 32, 3) := by decide +kernel
theorem dL_law_293 : decode cL_law 293 = .ok (.aload_n 2, 1) := by decide +kernel
theorem dL_law_294 : decode cL_law 294 = .ok (.aload_n 0, 1) := by decide +kernel
theorem dL_law_295 : decode cL_law 295 = .ok (.iload_n 3, 1) := by decide +kernel
theorem dL_law_296 : decode cL_law 296 = .ok (.iconst 1, 1) := by decide +kernel
theorem dL_law_297 : decode cL_law 297 = .ok (.iadd, 1) := by decide +kernel
theorem dL_law_298 : decode cL_law 298 = .ok (.iaload, 1) := by decide +kernel
theorem dL_law_299 : decode cL_law 299 = .ok (.invokevirtual 35, 3) := by decide +kernel
theorem dL_law_302 : decode cL_law 302 = .ok (.if_icmp .eq 815, 3) := by decide +kernel
theorem dL_law_305 : decode cL_law 305 = .ok (.iconst 0, 1) := by decide +kernel
theorem dL_law_306 : decode cL_law 306 = .ok (.ireturn, 1) := by decide +kernel
theorem dL_law_307 : decode cL_law 307 = .ok (.aload_n 1, 1) := by decide +kernel
theorem dL_law_308 : decode cL_law 308 = .ok (.aload_n 0, 1) := by decide +kernel
theorem dL_law_309 : decode cL_law 309 = .ok (.iload_n 3, 1) := by decide +kernel
theorem dL_law_310 : decode cL_law 310 = .ok (.iconst 1, 1) := by decide +kernel
theorem dL_law_311 : decode cL_law 311 = .ok (.iadd, 1) := by decide +kernel
theorem dL_law_312 : decode cL_law 312 = .ok (.iaload, 1) := by decide +kernel
theorem dL_law_313 : decode cL_law 313 = .ok (.aload_n 0, 1) := by decide +kernel
theorem dL_law_314 : decode cL_law 314 = .ok (.iload_n 3, 1) := by decide +kernel
theorem dL_law_315 : decode cL_law 315 = .ok (.iconst 2, 1) := by decide +kernel
theorem dL_law_316 : decode cL_law 316 = .ok (.iadd, 1) := by decide +kernel
theorem dL_law_317 : decode cL_law 317 = .ok (.iaload, 1) := by decide +kernel
theorem dL_law_318 : decode cL_law 318 = .ok (.invokevirtual 36, 3) := by decide +kernel
theorem dL_law_321 : decode cL_law 321 = .ok (.aload_n 2, 1) := by decide +kernel
theorem dL_law_322 : decode cL_law 322 = .ok (.aload_n 0, 1) := by decide +kernel
theorem dL_law_323 : decode cL_law 323 = .ok (.iload_n 3, 1) := by decide +kernel
theorem dL_law_324 : decode cL_law 324 = .ok (.iconst 1, 1) := by decide +kernel
theorem dL_law_325 : decode cL_law 325 = .ok (.iadd, 1) := by decide +kernel
theorem dL_law_326 : decode cL_law 326 = .ok (.iaload, 1) := by decide +kernel
theorem dL_law_327 : decode cL_law 327 = .ok (.aload_n 0, 1) := by decide +kernel
theorem dL_law_328 : decode cL_law 328 = .ok (.iload_n 3, 1) := by decide +kernel
theorem dL_law_329 : decode cL_law 329 = .ok (.iconst 2, 1) := by decide +kernel
theorem dL_law_330 : decode cL_law 330 = .ok (.iadd, 1) := by decide +kernel
theorem dL_law_331 : decode cL_law 331 = .ok (.iaload, 1) := by decide +kernel
theorem dL_law_332 : decode cL_law 332 = .ok (.invokevirtual 40, 3) := by decide +kernel
theorem dL_law_335 : decode cL_law 335 = .ok (.if_icmp .eq 782, 3) := by decide +kernel
theorem dL_law_338 : decode cL_law 338 = .ok (.iconst 0, 1) := by decide +kernel
theorem dL_law_339 : decode cL_law 339 = .ok (.ireturn, 1) := by decide +kernel
theorem dL_law_340 : decode cL_law 340 = .ok (.aload_n 1, 1) := by decide +kernel
theorem dL_law_341 : decode cL_law 341 = .ok (.aload_n 0, 1) := by decide +kernel
theorem dL_law_342 : decode cL_law 342 = .ok (.iload_n 3, 1) := by decide +kernel
theorem dL_law_343 : decode cL_law 343 = .ok (.iconst 1, 1) := by decide +kernel
theorem dL_law_344 : decode cL_law 344 = .ok (.iadd, 1) := by decide +kernel
theorem dL_law_345 : decode cL_law 345 = .ok (.iaload, 1) := by decide +kernel
theorem dL_law_346 : decode cL_law 346 = .ok (.aload_n 0, 1) := by decide +kernel
theorem dL_law_347 : decode cL_law 347 = .ok (.iload_n 3, 1) := by decide +kernel
theorem dL_law_348 : decode cL_law 348 = .ok (.iconst 2, 1) := by decide +kernel
theorem dL_law_349 : decode cL_law 349 = .ok (.iadd, 1) := by decide +kernel
theorem dL_law_350 : decode cL_law 350 = .ok (.iaload, 1) := by decide +kernel
theorem dL_law_351 : decode cL_law 351 = .ok (.invokevirtual 41, 3) := by decide +kernel
theorem dL_law_354 : decode cL_law 354 = .ok (.aload_n 2, 1) := by decide +kernel
theorem dL_law_355 : decode cL_law 355 = .ok (.aload_n 0, 1) := by decide +kernel
theorem dL_law_356 : decode cL_law 356 = .ok (.iload_n 3, 1) := by decide +kernel
theorem dL_law_357 : decode cL_law 357 = .ok (.iconst 1, 1) := by decide +kernel
theorem dL_law_358 : decode cL_law 358 = .ok (.iadd, 1) := by decide +kernel
theorem dL_law_359 : decode cL_law 359 = .ok (.iaload, 1) := by decide +kernel
theorem dL_law_360 : decode cL_law 360 = .ok (.aload_n 0, 1) := by decide +kernel
theorem dL_law_361 : decode cL_law 361 = .ok (.iload_n 3, 1) := by decide +kernel
theorem dL_law_362 : decode cL_law 362 = .ok (.iconst 2, 1) := by decide +kernel
theorem dL_law_363 : decode cL_law 363 = .ok (.iadd, 1) := by decide +kernel
theorem dL_law_364 : decode cL_law 364 = .ok (.iaload, 1) := by decide +kernel
theorem dL_law_365 : decode cL_law 365 = .ok (.invokevirtual 44, 3) := by decide +kernel
theorem dL_law_368 : decode cL_law 368 = .ok (.if_icmp .eq 749, 3) := by decide +kernel
theorem dL_law_371 : decode cL_law 371 = .ok (.iconst 0, 1) := by decide +kernel
theorem dL_law_372 : decode cL_law 372 = .ok (.ireturn, 1) := by decide +kernel
theorem dL_law_373 : decode cL_law 373 = .ok (.aload_n 1, 1) := by decide +kernel
theorem dL_law_374 : decode cL_law 374 = .ok (.aload_n 0, 1) := by decide +kernel
theorem dL_law_375 : decode cL_law 375 = .ok (.iload_n 3, 1) := by decide +kernel
theorem dL_law_376 : decode cL_law 376 = .ok (.iconst 1, 1) := by decide +kernel
theorem dL_law_377 : decode cL_law 377 = .ok (.iadd, 1) := by decide +kernel
theorem dL_law_378 : decode cL_law 378 = .ok (.iaload, 1) := by decide +kernel
theorem dL_law_379 : decode cL_law 379 = .ok (.invokevirtual 45, 3) := by decide +kernel
theorem dL_law_382 : decode cL_law 382 = .ok (.aload_n 2, 1) := by decide +kernel
theorem dL_law_383 : decode cL_law 383 = .ok (.aload_n 0, 1) := by decide +kernel
theorem dL_law_384 : decode cL_law 384 = .ok (.iload_n 3, 1) := by decide +kernel
theorem dL_law_385 : decode cL_law 385 = .ok (.iconst 1, 1) := by decide +kernel
theorem dL_law_386 : decode cL_law 386 = .ok (.iadd, 1) := by decide +kernel
theorem dL_law_387 : decode cL_law 387 = .ok (.iaload, 1) := by decide +kernel
theorem dL_law_388 : decode cL_law 388 = .ok (.invokevirtual 48, 3) := by decide +kernel
theorem dL_law_391 : decode cL_law 391 = .ok (.if_icmp .eq 726, 3) := by decide +kernel
theorem dL_law_394 : decode cL_law 394 = .ok (.iconst 0, 1) := by decide +kernel
theorem dL_law_395 : decode cL_law 395 = .ok (.ireturn, 1) := by decide +kernel
theorem dL_law_396 : decode cL_law 396 = .ok (.aload_n 1, 1) := by decide +kernel
theorem dL_law_397 : decode cL_law 397 = .ok (.aload_n 0, 1) := by decide +kernel
theorem dL_law_398 : decode cL_law 398 = .ok (.iload_n 3, 1) := by decide +kernel
theorem dL_law_399 : decode cL_law 399 = .ok (.iconst 1, 1) := by decide +kernel
theorem dL_law_400 : decode cL_law 400 = .ok (.iadd, 1) := by decide +kernel
theorem dL_law_401 : decode cL_law 401 = .ok (.iaload, 1) := by decide +kernel
theorem dL_law_402 : decode cL_law 402 = .ok (.aload_n 0, 1) := by decide +kernel
theorem dL_law_403 : decode cL_law 403 = .ok (.iload_n 3, 1) := by decide +kernel
theorem dL_law_404 : decode cL_law 404 = .ok (.iconst 2, 1) := by decide +kernel
theorem dL_law_405 : decode cL_law 405 = .ok (.iadd, 1) := by decide +kernel
theorem dL_law_406 : decode cL_law 406 = .ok (.iaload, 1) := by decide +kernel
theorem dL_law_407 : decode cL_law 407 = .ok (.invokevirtual 49, 3) := by decide +kernel
theorem dL_law_410 : decode cL_law 410 = .ok (.aload_n 2, 1) := by decide +kernel
theorem dL_law_411 : decode cL_law 411 = .ok (.aload_n 0, 1) := by decide +kernel
theorem dL_law_412 : decode cL_law 412 = .ok (.iload_n 3, 1) := by decide +kernel
theorem dL_law_413 : decode cL_law 413 = .ok (.iconst 1, 1) := by decide +kernel
theorem dL_law_414 : decode cL_law 414 = .ok (.iadd, 1) := by decide +kernel
theorem dL_law_415 : decode cL_law 415 = .ok (.iaload, 1) := by decide +kernel
theorem dL_law_416 : decode cL_law 416 = .ok (.aload_n 0, 1) := by decide +kernel
theorem dL_law_417 : decode cL_law 417 = .ok (.iload_n 3, 1) := by decide +kernel
theorem dL_law_418 : decode cL_law 418 = .ok (.iconst 2, 1) := by decide +kernel
theorem dL_law_419 : decode cL_law 419 = .ok (.iadd, 1) := by decide +kernel
theorem dL_law_420 : decode cL_law 420 = .ok (.iaload, 1) := by decide +kernel
theorem dL_law_421 : decode cL_law 421 = .ok (.invokevirtual 52, 3) := by decide +kernel
theorem dL_law_424 : decode cL_law 424 = .ok (.if_icmp .eq 693, 3) := by decide +kernel
theorem dL_law_427 : decode cL_law 427 = .ok (.iconst 0, 1) := by decide +kernel
theorem dL_law_428 : decode cL_law 428 = .ok (.ireturn, 1) := by decide +kernel
theorem dL_law_429 : decode cL_law 429 = .ok (.aload_n 1, 1) := by decide +kernel
theorem dL_law_430 : decode cL_law 430 = .ok (.invokevirtual 53, 3) := by decide +kernel
theorem dL_law_433 : decode cL_law 433 = .ok (.aload_n 2, 1) := by decide +kernel
theorem dL_law_434 : decode cL_law 434 = .ok (.invokevirtual 56, 3) := by decide +kernel
theorem dL_law_437 : decode cL_law 437 = .ok (.if_icmp .eq 680, 3) := by decide +kernel
theorem dL_law_440 : decode cL_law 440 = .ok (.iconst 0, 1) := by decide +kernel
theorem dL_law_441 : decode cL_law 441 = .ok (.ireturn, 1) := by decide +kernel
theorem dL_law_442 : decode cL_law 442 = .ok (.aload_n 1, 1) := by decide +kernel
theorem dL_law_443 : decode cL_law 443 = .ok (.aload_n 0, 1) := by decide +kernel
theorem dL_law_444 : decode cL_law 444 = .ok (.iload_n 3, 1) := by decide +kernel
theorem dL_law_445 : decode cL_law 445 = .ok (.iconst 1, 1) := by decide +kernel
theorem dL_law_446 : decode cL_law 446 = .ok (.iadd, 1) := by decide +kernel
theorem dL_law_447 : decode cL_law 447 = .ok (.iaload, 1) := by decide +kernel
theorem dL_law_448 : decode cL_law 448 = .ok (.invokevirtual 57, 3) := by decide +kernel
theorem dL_law_451 : decode cL_law 451 = .ok (.aload_n 2, 1) := by decide +kernel
theorem dL_law_452 : decode cL_law 452 = .ok (.aload_n 0, 1) := by decide +kernel
theorem dL_law_453 : decode cL_law 453 = .ok (.iload_n 3, 1) := by decide +kernel
theorem dL_law_454 : decode cL_law 454 = .ok (.iconst 1, 1) := by decide +kernel
theorem dL_law_455 : decode cL_law 455 = .ok (.iadd, 1) := by decide +kernel
theorem dL_law_456 : decode cL_law 456 = .ok (.iaload, 1) := by decide +kernel
theorem dL_law_457 : decode cL_law 457 = .ok (.invokevirtual 60, 3) := by decide +kernel
theorem dL_law_460 : decode cL_law 460 = .ok (.if_icmp .eq 657, 3) := by decide +kernel
theorem dL_law_463 : decode cL_law 463 = .ok (.iconst 0, 1) := by decide +kernel
theorem dL_law_464 : decode cL_law 464 = .ok (.ireturn, 1) := by decide +kernel
theorem dL_law_465 : decode cL_law 465 = .ok (.aload_n 1, 1) := by decide +kernel
theorem dL_law_466 : decode cL_law 466 = .ok (.aload_n 0, 1) := by decide +kernel
theorem dL_law_467 : decode cL_law 467 = .ok (.iload_n 3, 1) := by decide +kernel
theorem dL_law_468 : decode cL_law 468 = .ok (.iconst 1, 1) := by decide +kernel
theorem dL_law_469 : decode cL_law 469 = .ok (.iadd, 1) := by decide +kernel
theorem dL_law_470 : decode cL_law 470 = .ok (.iaload, 1) := by decide +kernel
theorem dL_law_471 : decode cL_law 471 = .ok (.invokevirtual 61, 3) := by decide +kernel
theorem dL_law_474 : decode cL_law 474 = .ok (.aload_n 2, 1) := by decide +kernel
theorem dL_law_475 : decode cL_law 475 = .ok (.aload_n 0, 1) := by decide +kernel
theorem dL_law_476 : decode cL_law 476 = .ok (.iload_n 3, 1) := by decide +kernel
theorem dL_law_477 : decode cL_law 477 = .ok (.iconst 1, 1) := by decide +kernel
theorem dL_law_478 : decode cL_law 478 = .ok (.iadd, 1) := by decide +kernel
theorem dL_law_479 : decode cL_law 479 = .ok (.iaload, 1) := by decide +kernel
theorem dL_law_480 : decode cL_law 480 = .ok (.invokevirtual 64, 3) := by decide +kernel
theorem dL_law_483 : decode cL_law 483 = .ok (.if_icmp .eq 634, 3) := by decide +kernel
theorem dL_law_486 : decode cL_law 486 = .ok (.iconst 0, 1) := by decide +kernel
theorem dL_law_487 : decode cL_law 487 = .ok (.ireturn, 1) := by decide +kernel
theorem dL_law_488 : decode cL_law 488 = .ok (.aload_n 1, 1) := by decide +kernel
theorem dL_law_489 : decode cL_law 489 = .ok (.aload_n 0, 1) := by decide +kernel
theorem dL_law_490 : decode cL_law 490 = .ok (.iload_n 3, 1) := by decide +kernel
theorem dL_law_491 : decode cL_law 491 = .ok (.iconst 1, 1) := by decide +kernel
theorem dL_law_492 : decode cL_law 492 = .ok (.iadd, 1) := by decide +kernel
theorem dL_law_493 : decode cL_law 493 = .ok (.iaload, 1) := by decide +kernel
theorem dL_law_494 : decode cL_law 494 = .ok (.aload_n 0, 1) := by decide +kernel
theorem dL_law_495 : decode cL_law 495 = .ok (.iload_n 3, 1) := by decide +kernel
theorem dL_law_496 : decode cL_law 496 = .ok (.iconst 2, 1) := by decide +kernel
theorem dL_law_497 : decode cL_law 497 = .ok (.iadd, 1) := by decide +kernel
theorem dL_law_498 : decode cL_law 498 = .ok (.iaload, 1) := by decide +kernel
theorem dL_law_499 : decode cL_law 499 = .ok (.invokevirtual 65, 3) := by decide +kernel
theorem dL_law_502 : decode cL_law 502 = .ok (.aload_n 2, 1) := by decide +kernel
theorem dL_law_503 : decode cL_law 503 = .ok (.aload_n 0, 1) := by decide +kernel
theorem dL_law_504 : decode cL_law 504 = .ok (.iload_n 3, 1) := by decide +kernel
theorem dL_law_505 : decode cL_law 505 = .ok (.iconst 1, 1) := by decide +kernel
theorem dL_law_506 : decode cL_law 506 = .ok (.iadd, 1) := by decide +kernel
theorem dL_law_507 : decode cL_law 507 = .ok (.iaload, 1) := by decide +kernel
theorem dL_law_508 : decode cL_law 508 = .ok (.aload_n 0, 1) := by decide +kernel
theorem dL_law_509 : decode cL_law 509 = .ok (.iload_n 3, 1) := by decide +kernel
theorem dL_law_510 : decode cL_law 510 = .ok (.iconst 2, 1) := by decide +kernel
theorem dL_law_511 : decode cL_law 511 = .ok (.iadd, 1) := by decide +kernel
theorem dL_law_512 : decode cL_law 512 = .ok (.iaload, 1) := by decide +kernel
theorem dL_law_513 : decode cL_law 513 = .ok (.invokevirtual 69, 3) := by decide +kernel
theorem dL_law_516 : decode cL_law 516 = .ok (.if_icmp .eq 601, 3) := by decide +kernel
theorem dL_law_519 : decode cL_law 519 = .ok (.iconst 0, 1) := by decide +kernel
theorem dL_law_520 : decode cL_law 520 = .ok (.ireturn, 1) := by decide +kernel
theorem dL_law_521 : decode cL_law 521 = .ok (.aload_n 1, 1) := by decide +kernel
theorem dL_law_522 : decode cL_law 522 = .ok (.aload_n 0, 1) := by decide +kernel
theorem dL_law_523 : decode cL_law 523 = .ok (.iload_n 3, 1) := by decide +kernel
theorem dL_law_524 : decode cL_law 524 = .ok (.iconst 1, 1) := by decide +kernel
theorem dL_law_525 : decode cL_law 525 = .ok (.iadd, 1) := by decide +kernel
theorem dL_law_526 : decode cL_law 526 = .ok (.iaload, 1) := by decide +kernel
theorem dL_law_527 : decode cL_law 527 = .ok (.aload_n 0, 1) := by decide +kernel
theorem dL_law_528 : decode cL_law 528 = .ok (.iload_n 3, 1) := by decide +kernel
theorem dL_law_529 : decode cL_law 529 = .ok (.iconst 2, 1) := by decide +kernel
theorem dL_law_530 : decode cL_law 530 = .ok (.iadd, 1) := by decide +kernel
theorem dL_law_531 : decode cL_law 531 = .ok (.iaload, 1) := by decide +kernel
theorem dL_law_532 : decode cL_law 532 = .ok (.invokevirtual 70, 3) := by decide +kernel
theorem dL_law_535 : decode cL_law 535 = .ok (.aload_n 2, 1) := by decide +kernel
theorem dL_law_536 : decode cL_law 536 = .ok (.aload_n 0, 1) := by decide +kernel
theorem dL_law_537 : decode cL_law 537 = .ok (.iload_n 3, 1) := by decide +kernel
theorem dL_law_538 : decode cL_law 538 = .ok (.iconst 1, 1) := by decide +kernel
theorem dL_law_539 : decode cL_law 539 = .ok (.iadd, 1) := by decide +kernel
theorem dL_law_540 : decode cL_law 540 = .ok (.iaload, 1) := by decide +kernel
theorem dL_law_541 : decode cL_law 541 = .ok (.aload_n 0, 1) := by decide +kernel
theorem dL_law_542 : decode cL_law 542 = .ok (.iload_n 3, 1) := by decide +kernel
theorem dL_law_543 : decode cL_law 543 = .ok (.iconst 2, 1) := by decide +kernel
theorem dL_law_544 : decode cL_law 544 = .ok (.iadd, 1) := by decide +kernel
theorem dL_law_545 : decode cL_law 545 = .ok (.iaload, 1) := by decide +kernel
theorem dL_law_546 : decode cL_law 546 = .ok (.invokevirtual 73, 3) := by decide +kernel
theorem dL_law_549 : decode cL_law 549 = .ok (.if_icmp .eq 568, 3) := by decide +kernel
theorem dL_law_552 : decode cL_law 552 = .ok (.iconst 0, 1) := by decide +kernel
theorem dL_law_553 : decode cL_law 553 = .ok (.ireturn, 1) := by decide +kernel
theorem dL_law_554 : decode cL_law 554 = .ok (.aload_n 1, 1) := by decide +kernel
theorem dL_law_555 : decode cL_law 555 = .ok (.invokevirtual 74, 3) := by decide +kernel
theorem dL_law_558 : decode cL_law 558 = .ok (.aload_n 2, 1) := by decide +kernel
theorem dL_law_559 : decode cL_law 559 = .ok (.invokevirtual 77, 3) := by decide +kernel
theorem dL_law_562 : decode cL_law 562 = .ok (.if_icmp .eq 555, 3) := by decide +kernel
theorem dL_law_565 : decode cL_law 565 = .ok (.iconst 0, 1) := by decide +kernel
theorem dL_law_566 : decode cL_law 566 = .ok (.ireturn, 1) := by decide +kernel
theorem dL_law_567 : decode cL_law 567 = .ok (.aload_n 1, 1) := by decide +kernel
theorem dL_law_568 : decode cL_law 568 = .ok (.aload_n 0, 1) := by decide +kernel
theorem dL_law_569 : decode cL_law 569 = .ok (.iload_n 3, 1) := by decide +kernel
theorem dL_law_570 : decode cL_law 570 = .ok (.iconst 1, 1) := by decide +kernel
theorem dL_law_571 : decode cL_law 571 = .ok (.iadd, 1) := by decide +kernel
theorem dL_law_572 : decode cL_law 572 = .ok (.iaload, 1) := by decide +kernel
theorem dL_law_573 : decode cL_law 573 = .ok (.aload_n 0, 1) := by decide +kernel
theorem dL_law_574 : decode cL_law 574 = .ok (.iload_n 3, 1) := by decide +kernel
theorem dL_law_575 : decode cL_law 575 = .ok (.iconst 2, 1) := by decide +kernel
theorem dL_law_576 : decode cL_law 576 = .ok (.iadd, 1) := by decide +kernel
theorem dL_law_577 : decode cL_law 577 = .ok (.iaload, 1) := by decide +kernel
theorem dL_law_578 : decode cL_law 578 = .ok (.invokevirtual 78, 3) := by decide +kernel
theorem dL_law_581 : decode cL_law 581 = .ok (.aload_n 2, 1) := by decide +kernel
theorem dL_law_582 : decode cL_law 582 = .ok (.aload_n 0, 1) := by decide +kernel
theorem dL_law_583 : decode cL_law 583 = .ok (.iload_n 3, 1) := by decide +kernel
theorem dL_law_584 : decode cL_law 584 = .ok (.iconst 1, 1) := by decide +kernel
theorem dL_law_585 : decode cL_law 585 = .ok (.iadd, 1) := by decide +kernel
theorem dL_law_586 : decode cL_law 586 = .ok (.iaload, 1) := by decide +kernel
theorem dL_law_587 : decode cL_law 587 = .ok (.aload_n 0, 1) := by decide +kernel
theorem dL_law_588 : decode cL_law 588 = .ok (.iload_n 3, 1) := by decide +kernel
theorem dL_law_589 : decode cL_law 589 = .ok (.iconst 2, 1) := by decide +kernel
theorem dL_law_590 : decode cL_law 590 = .ok (.iadd, 1) := by decide +kernel
theorem dL_law_591 : decode cL_law 591 = .ok (.iaload, 1) := by decide +kernel
theorem dL_law_592 : decode cL_law 592 = .ok (.invokevirtual 81, 3) := by decide +kernel
theorem dL_law_595 : decode cL_law 595 = .ok (.if_icmp .eq 522, 3) := by decide +kernel
theorem dL_law_598 : decode cL_law 598 = .ok (.iconst 0, 1) := by decide +kernel
theorem dL_law_599 : decode cL_law 599 = .ok (.ireturn, 1) := by decide +kernel
theorem dL_law_600 : decode cL_law 600 = .ok (.aload_n 1, 1) := by decide +kernel
theorem dL_law_601 : decode cL_law 601 = .ok (.aload_n 0, 1) := by decide +kernel
theorem dL_law_602 : decode cL_law 602 = .ok (.iload_n 3, 1) := by decide +kernel
theorem dL_law_603 : decode cL_law 603 = .ok (.iconst 1, 1) := by decide +kernel
theorem dL_law_604 : decode cL_law 604 = .ok (.iadd, 1) := by decide +kernel
theorem dL_law_605 : decode cL_law 605 = .ok (.iaload, 1) := by decide +kernel
theorem dL_law_606 : decode cL_law 606 = .ok (.ifCond .eq 7, 3) := by decide +kernel
theorem dL_law_609 : decode cL_law 609 = .ok (.iconst 1, 1) := by decide +kernel
theorem dL_law_610 : decode cL_law 610 = .ok (.goto 4, 3) := by decide +kernel
theorem dL_law_613 : decode cL_law 613 = .ok (.iconst 0, 1) := by decide +kernel
theorem dL_law_614 : decode cL_law 614 = .ok (.aload_n 0, 1) := by decide +kernel
theorem dL_law_615 : decode cL_law 615 = .ok (.iload_n 3, 1) := by decide +kernel
theorem dL_law_616 : decode cL_law 616 = .ok (.iconst 2, 1) := by decide +kernel
theorem dL_law_617 : decode cL_law 617 = .ok (.iadd, 1) := by decide +kernel
theorem dL_law_618 : decode cL_law 618 = .ok (.iaload, 1) := by decide +kernel
theorem dL_law_619 : decode cL_law 619 = .ok (.invokevirtual 82, 3) := by decide +kernel
theorem dL_law_622 : decode cL_law 622 = .ok (.aload_n 2, 1) := by decide +kernel
theorem dL_law_623 : decode cL_law 623 = .ok (.aload_n 0, 1) := by decide +kernel
theorem dL_law_624 : decode cL_law 624 = .ok (.iload_n 3, 1) := by decide +kernel
theorem dL_law_625 : decode cL_law 625 = .ok (.iconst 1, 1) := by decide +kernel
theorem dL_law_626 : decode cL_law 626 = .ok (.iadd, 1) := by decide +kernel
theorem dL_law_627 : decode cL_law 627 = .ok (.iaload, 1) := by decide +kernel
theorem dL_law_628 : decode cL_law 628 = .ok (.ifCond .eq 7, 3) := by decide +kernel
theorem dL_law_631 : decode cL_law 631 = .ok (.iconst 1, 1) := by decide +kernel
theorem dL_law_632 : decode cL_law 632 = .ok (.goto 4, 3) := by decide +kernel
theorem dL_law_635 : decode cL_law 635 = .ok (.iconst 0, 1) := by decide +kernel
theorem dL_law_636 : decode cL_law 636 = .ok (.aload_n 0, 1) := by decide +kernel
theorem dL_law_637 : decode cL_law 637 = .ok (.iload_n 3, 1) := by decide +kernel
theorem dL_law_638 : decode cL_law 638 = .ok (.iconst 2, 1) := by decide +kernel
theorem dL_law_639 : decode cL_law 639 = .ok (.iadd, 1) := by decide +kernel
theorem dL_law_640 : decode cL_law 640 = .ok (.iaload, 1) := by decide +kernel
theorem dL_law_641 : decode cL_law 641 = .ok (.invokevirtual 86, 3) := by decide +kernel
theorem dL_law_644 : decode cL_law 644 = .ok (.if_icmp .eq 473, 3) := by decide +kernel
theorem dL_law_647 : decode cL_law 647 = .ok (.iconst 0, 1) := by decide +kernel
theorem dL_law_648 : decode cL_law 648 = .ok (.ireturn, 1) := by decide +kernel
theorem dL_law_649 : decode cL_law 649 = .ok (.aload_n 1, 1) := by decide +kernel
theorem dL_law_650 : decode cL_law 650 = .ok (.aload_n 0, 1) := by decide +kernel
theorem dL_law_651 : decode cL_law 651 = .ok (.iload_n 3, 1) := by decide +kernel
theorem dL_law_652 : decode cL_law 652 = .ok (.iconst 1, 1) := by decide +kernel
theorem dL_law_653 : decode cL_law 653 = .ok (.iadd, 1) := by decide +kernel
theorem dL_law_654 : decode cL_law 654 = .ok (.iaload, 1) := by decide +kernel
theorem dL_law_655 : decode cL_law 655 = .ok (.ifCond .eq 7, 3) := by decide +kernel
theorem dL_law_658 : decode cL_law 658 = .ok (.iconst 1, 1) := by decide +kernel
theorem dL_law_659 : decode cL_law 659 = .ok (.goto 4, 3) := by decide +kernel
theorem dL_law_662 : decode cL_law 662 = .ok (.iconst 0, 1) := by decide +kernel
theorem dL_law_663 : decode cL_law 663 = .ok (.aload_n 0, 1) := by decide +kernel
theorem dL_law_664 : decode cL_law 664 = .ok (.iload_n 3, 1) := by decide +kernel
theorem dL_law_665 : decode cL_law 665 = .ok (.iconst 2, 1) := by decide +kernel
theorem dL_law_666 : decode cL_law 666 = .ok (.iadd, 1) := by decide +kernel
theorem dL_law_667 : decode cL_law 667 = .ok (.iaload, 1) := by decide +kernel
theorem dL_law_668 : decode cL_law 668 = .ok (.invokevirtual 87, 3) := by decide +kernel
theorem dL_law_671 : decode cL_law 671 = .ok (.aload_n 2, 1) := by decide +kernel
theorem dL_law_672 : decode cL_law 672 = .ok (.aload_n 0, 1) := by decide +kernel
theorem dL_law_673 : decode cL_law 673 = .ok (.iload_n 3, 1) := by decide +kernel
theorem dL_law_674 : decode cL_law 674 = .ok (.iconst 1, 1) := by decide +kernel
theorem dL_law_675 : decode cL_law 675 = .ok (.iadd, 1) := by decide +kernel
theorem dL_law_676 : decode cL_law 676 = .ok (.iaload, 1) := by decide +kernel
theorem dL_law_677 : decode cL_law 677 = .ok (.ifCond .eq 7, 3) := by decide +kernel
theorem dL_law_680 : decode cL_law 680 = .ok (.iconst 1, 1) := by decide +kernel
theorem dL_law_681 : decode cL_law 681 = .ok (.goto 4, 3) := by decide +kernel
theorem dL_law_684 : decode cL_law 684 = .ok (.iconst 0, 1) := by decide +kernel
theorem dL_law_685 : decode cL_law 685 = .ok (.aload_n 0, 1) := by decide +kernel
theorem dL_law_686 : decode cL_law 686 = .ok (.iload_n 3, 1) := by decide +kernel
theorem dL_law_687 : decode cL_law 687 = .ok (.iconst 2, 1) := by decide +kernel
theorem dL_law_688 : decode cL_law 688 = .ok (.iadd, 1) := by decide +kernel
theorem dL_law_689 : decode cL_law 689 = .ok (.iaload, 1) := by decide +kernel
theorem dL_law_690 : decode cL_law 690 = .ok (.invokevirtual 90, 3) := by decide +kernel
theorem dL_law_693 : decode cL_law 693 = .ok (.if_icmp .eq 424, 3) := by decide +kernel
theorem dL_law_696 : decode cL_law 696 = .ok (.iconst 0, 1) := by decide +kernel
theorem dL_law_697 : decode cL_law 697 = .ok (.ireturn, 1) := by decide +kernel
theorem dL_law_698 : decode cL_law 698 = .ok (.aload_n 1, 1) := by decide +kernel
theorem dL_law_699 : decode cL_law 699 = .ok (.aload_n 0, 1) := by decide +kernel
theorem dL_law_700 : decode cL_law 700 = .ok (.iload_n 3, 1) := by decide +kernel
theorem dL_law_701 : decode cL_law 701 = .ok (.iconst 1, 1) := by decide +kernel
theorem dL_law_702 : decode cL_law 702 = .ok (.iadd, 1) := by decide +kernel
theorem dL_law_703 : decode cL_law 703 = .ok (.iaload, 1) := by decide +kernel
theorem dL_law_704 : decode cL_law 704 = .ok (.aload_n 0, 1) := by decide +kernel
theorem dL_law_705 : decode cL_law 705 = .ok (.iload_n 3, 1) := by decide +kernel
theorem dL_law_706 : decode cL_law 706 = .ok (.iconst 2, 1) := by decide +kernel
theorem dL_law_707 : decode cL_law 707 = .ok (.iadd, 1) := by decide +kernel
theorem dL_law_708 : decode cL_law 708 = .ok (.iaload, 1) := by decide +kernel
theorem dL_law_709 : decode cL_law 709 = .ok (.invokevirtual 91, 3) := by decide +kernel
theorem dL_law_712 : decode cL_law 712 = .ok (.aload_n 2, 1) := by decide +kernel
theorem dL_law_713 : decode cL_law 713 = .ok (.aload_n 0, 1) := by decide +kernel
theorem dL_law_714 : decode cL_law 714 = .ok (.iload_n 3, 1) := by decide +kernel
theorem dL_law_715 : decode cL_law 715 = .ok (.iconst 1, 1) := by decide +kernel
theorem dL_law_716 : decode cL_law 716 = .ok (.iadd, 1) := by decide +kernel
theorem dL_law_717 : decode cL_law 717 = .ok (.iaload, 1) := by decide +kernel
theorem dL_law_718 : decode cL_law 718 = .ok (.aload_n 0, 1) := by decide +kernel
theorem dL_law_719 : decode cL_law 719 = .ok (.iload_n 3, 1) := by decide +kernel
theorem dL_law_720 : decode cL_law 720 = .ok (.iconst 2, 1) := by decide +kernel
theorem dL_law_721 : decode cL_law 721 = .ok (.iadd, 1) := by decide +kernel
theorem dL_law_722 : decode cL_law 722 = .ok (.iaload, 1) := by decide +kernel
theorem dL_law_723 : decode cL_law 723 = .ok (.invokevirtual 94, 3) := by decide +kernel
theorem dL_law_726 : decode cL_law 726 = .ok (.if_icmp .eq 391, 3) := by decide +kernel
theorem dL_law_729 : decode cL_law 729 = .ok (.iconst 0, 1) := by decide +kernel
theorem dL_law_730 : decode cL_law 730 = .ok (.ireturn, 1) := by decide +kernel
theorem dL_law_731 : decode cL_law 731 = .ok (.aload_n 1, 1) := by decide +kernel
theorem dL_law_732 : decode cL_law 732 = .ok (.aload_n 0, 1) := by decide +kernel
theorem dL_law_733 : decode cL_law 733 = .ok (.iload_n 3, 1) := by decide +kernel
theorem dL_law_734 : decode cL_law 734 = .ok (.iconst 1, 1) := by decide +kernel
theorem dL_law_735 : decode cL_law 735 = .ok (.iadd, 1) := by decide +kernel
theorem dL_law_736 : decode cL_law 736 = .ok (.iaload, 1) := by decide +kernel
theorem dL_law_737 : decode cL_law 737 = .ok (.aload_n 0, 1) := by decide +kernel
theorem dL_law_738 : decode cL_law 738 = .ok (.iload_n 3, 1) := by decide +kernel
theorem dL_law_739 : decode cL_law 739 = .ok (.iconst 2, 1) := by decide +kernel
theorem dL_law_740 : decode cL_law 740 = .ok (.iadd, 1) := by decide +kernel
theorem dL_law_741 : decode cL_law 741 = .ok (.iaload, 1) := by decide +kernel
theorem dL_law_742 : decode cL_law 742 = .ok (.aload_n 0, 1) := by decide +kernel
theorem dL_law_743 : decode cL_law 743 = .ok (.iload_n 3, 1) := by decide +kernel
theorem dL_law_744 : decode cL_law 744 = .ok (.iconst 3, 1) := by decide +kernel
theorem dL_law_745 : decode cL_law 745 = .ok (.iadd, 1) := by decide +kernel
theorem dL_law_746 : decode cL_law 746 = .ok (.iaload, 1) := by decide +kernel
theorem dL_law_747 : decode cL_law 747 = .ok (.invokevirtual 95, 3) := by decide +kernel
theorem dL_law_750 : decode cL_law 750 = .ok (.aload_n 2, 1) := by decide +kernel
theorem dL_law_751 : decode cL_law 751 = .ok (.aload_n 0, 1) := by decide +kernel
theorem dL_law_752 : decode cL_law 752 = .ok (.iload_n 3, 1) := by decide +kernel
theorem dL_law_753 : decode cL_law 753 = .ok (.iconst 1, 1) := by decide +kernel
theorem dL_law_754 : decode cL_law 754 = .ok (.iadd, 1) := by decide +kernel
theorem dL_law_755 : decode cL_law 755 = .ok (.iaload, 1) := by decide +kernel
theorem dL_law_756 : decode cL_law 756 = .ok (.aload_n 0, 1) := by decide +kernel
theorem dL_law_757 : decode cL_law 757 = .ok (.iload_n 3, 1) := by decide +kernel
theorem dL_law_758 : decode cL_law 758 = .ok (.iconst 2, 1) := by decide +kernel
theorem dL_law_759 : decode cL_law 759 = .ok (.iadd, 1) := by decide +kernel
theorem dL_law_760 : decode cL_law 760 = .ok (.iaload, 1) := by decide +kernel
theorem dL_law_761 : decode cL_law 761 = .ok (.aload_n 0, 1) := by decide +kernel
theorem dL_law_762 : decode cL_law 762 = .ok (.iload_n 3, 1) := by decide +kernel
theorem dL_law_763 : decode cL_law 763 = .ok (.iconst 3, 1) := by decide +kernel
theorem dL_law_764 : decode cL_law 764 = .ok (.iadd, 1) := by decide +kernel
theorem dL_law_765 : decode cL_law 765 = .ok (.iaload, 1) := by decide +kernel
theorem dL_law_766 : decode cL_law 766 = .ok (.invokevirtual 99, 3) := by decide +kernel
theorem dL_law_769 : decode cL_law 769 = .ok (.if_icmp .eq 348, 3) := by decide +kernel
theorem dL_law_772 : decode cL_law 772 = .ok (.iconst 0, 1) := by decide +kernel
theorem dL_law_773 : decode cL_law 773 = .ok (.ireturn, 1) := by decide +kernel
theorem dL_law_774 : decode cL_law 774 = .ok (.aload_n 1, 1) := by decide +kernel
theorem dL_law_775 : decode cL_law 775 = .ok (.aload_n 0, 1) := by decide +kernel
theorem dL_law_776 : decode cL_law 776 = .ok (.iload_n 3, 1) := by decide +kernel
theorem dL_law_777 : decode cL_law 777 = .ok (.iconst 1, 1) := by decide +kernel
theorem dL_law_778 : decode cL_law 778 = .ok (.iadd, 1) := by decide +kernel
theorem dL_law_779 : decode cL_law 779 = .ok (.iaload, 1) := by decide +kernel
theorem dL_law_780 : decode cL_law 780 = .ok (.aload_n 0, 1) := by decide +kernel
theorem dL_law_781 : decode cL_law 781 = .ok (.iload_n 3, 1) := by decide +kernel
theorem dL_law_782 : decode cL_law 782 = .ok (.iconst 2, 1) := by decide +kernel
theorem dL_law_783 : decode cL_law 783 = .ok (.iadd, 1) := by decide +kernel
theorem dL_law_784 : decode cL_law 784 = .ok (.iaload, 1) := by decide +kernel
theorem dL_law_785 : decode cL_law 785 = .ok (.aload_n 0, 1) := by decide +kernel
theorem dL_law_786 : decode cL_law 786 = .ok (.iload_n 3, 1) := by decide +kernel
theorem dL_law_787 : decode cL_law 787 = .ok (.iconst 3, 1) := by decide +kernel
theorem dL_law_788 : decode cL_law 788 = .ok (.iadd, 1) := by decide +kernel
theorem dL_law_789 : decode cL_law 789 = .ok (.iaload, 1) := by decide +kernel
theorem dL_law_790 : decode cL_law 790 = .ok (.aload_n 0, 1) := by decide +kernel
theorem dL_law_791 : decode cL_law 791 = .ok (.iload_n 3, 1) := by decide +kernel
theorem dL_law_792 : decode cL_law 792 = .ok (.iconst 4, 1) := by decide +kernel
theorem dL_law_793 : decode cL_law 793 = .ok (.iadd, 1) := by decide +kernel
theorem dL_law_794 : decode cL_law 794 = .ok (.iaload, 1) := by decide +kernel
theorem dL_law_795 : decode cL_law 795 = .ok (.invokevirtual 100, 3) := by decide +kernel
theorem dL_law_798 : decode cL_law 798 = .ok (.aload_n 2, 1) := by decide +kernel
theorem dL_law_799 : decode cL_law 799 = .ok (.aload_n 0, 1) := by decide +kernel
theorem dL_law_800 : decode cL_law 800 = .ok (.iload_n 3, 1) := by decide +kernel
theorem dL_law_801 : decode cL_law 801 = .ok (.iconst 1, 1) := by decide +kernel
theorem dL_law_802 : decode cL_law 802 = .ok (.iadd, 1) := by decide +kernel
theorem dL_law_803 : decode cL_law 803 = .ok (.iaload, 1) := by decide +kernel
theorem dL_law_804 : decode cL_law 804 = .ok (.aload_n 0, 1) := by decide +kernel
theorem dL_law_805 : decode cL_law 805 = .ok (.iload_n 3, 1) := by decide +kernel
theorem dL_law_806 : decode cL_law 806 = .ok (.iconst 2, 1) := by decide +kernel
theorem dL_law_807 : decode cL_law 807 = .ok (.iadd, 1) := by decide +kernel
theorem dL_law_808 : decode cL_law 808 = .ok (.iaload, 1) := by decide +kernel
theorem dL_law_809 : decode cL_law 809 = .ok (.aload_n 0, 1) := by decide +kernel
theorem dL_law_810 : decode cL_law 810 = .ok (.iload_n 3, 1) := by decide +kernel
theorem dL_law_811 : decode cL_law 811 = .ok (.iconst 3, 1) := by decide +kernel
theorem dL_law_812 : decode cL_law 812 = .ok (.iadd, 1) := by decide +kernel
theorem dL_law_813 : decode cL_law 813 = .ok (.iaload, 1) := by decide +kernel
theorem dL_law_814 : decode cL_law 814 = .ok (.aload_n 0, 1) := by decide +kernel
theorem dL_law_815 : decode cL_law 815 = .ok (.iload_n 3, 1) := by decide +kernel
theorem dL_law_816 : decode cL_law 816 = .ok (.iconst 4, 1) := by decide +kernel
theorem dL_law_817 : decode cL_law 817 = .ok (.iadd, 1) := by decide +kernel
theorem dL_law_818 : decode cL_law 818 = .ok (.iaload, 1) := by decide +kernel
theorem dL_law_819 : decode cL_law 819 = .ok (.invokevirtual 104, 3) := by decide +kernel
theorem dL_law_822 : decode cL_law 822 = .ok (.if_icmp .eq 295, 3) := by decide +kernel
theorem dL_law_825 : decode cL_law 825 = .ok (.iconst 0, 1) := by decide +kernel
theorem dL_law_826 : decode cL_law 826 = .ok (.ireturn, 1) := by decide +kernel
theorem dL_law_827 : decode cL_law 827 = .ok (.aload_n 1, 1) := by decide +kernel
theorem dL_law_828 : decode cL_law 828 = .ok (.aload_n 0, 1) := by decide +kernel
theorem dL_law_829 : decode cL_law 829 = .ok (.iload_n 3, 1) := by decide +kernel
theorem dL_law_830 : decode cL_law 830 = .ok (.iconst 1, 1) := by decide +kernel
theorem dL_law_831 : decode cL_law 831 = .ok (.iadd, 1) := by decide +kernel
theorem dL_law_832 : decode cL_law 832 = .ok (.iaload, 1) := by decide +kernel
theorem dL_law_833 : decode cL_law 833 = .ok (.aload_n 0, 1) := by decide +kernel
theorem dL_law_834 : decode cL_law 834 = .ok (.iload_n 3, 1) := by decide +kernel
theorem dL_law_835 : decode cL_law 835 = .ok (.iconst 2, 1) := by decide +kernel
theorem dL_law_836 : decode cL_law 836 = .ok (.iadd, 1) := by decide +kernel
theorem dL_law_837 : decode cL_law 837 = .ok (.iaload, 1) := by decide +kernel
theorem dL_law_838 : decode cL_law 838 = .ok (.aload_n 0, 1) := by decide +kernel
theorem dL_law_839 : decode cL_law 839 = .ok (.iload_n 3, 1) := by decide +kernel
theorem dL_law_840 : decode cL_law 840 = .ok (.iconst 3, 1) := by decide +kernel
theorem dL_law_841 : decode cL_law 841 = .ok (.iadd, 1) := by decide +kernel
theorem dL_law_842 : decode cL_law 842 = .ok (.iaload, 1) := by decide +kernel
theorem dL_law_843 : decode cL_law 843 = .ok (.invokevirtual 105, 3) := by decide +kernel
theorem dL_law_846 : decode cL_law 846 = .ok (.aload_n 2, 1) := by decide +kernel
theorem dL_law_847 : decode cL_law 847 = .ok (.aload_n 0, 1) := by decide +kernel
theorem dL_law_848 : decode cL_law 848 = .ok (.iload_n 3, 1) := by decide +kernel
theorem dL_law_849 : decode cL_law 849 = .ok (.iconst 1, 1) := by decide +kernel
theorem dL_law_850 : decode cL_law 850 = .ok (.iadd, 1) := by decide +kernel
theorem dL_law_851 : decode cL_law 851 = .ok (.iaload, 1) := by decide +kernel
theorem dL_law_852 : decode cL_law 852 = .ok (.aload_n 0, 1) := by decide +kernel
theorem dL_law_853 : decode cL_law 853 = .ok (.iload_n 3, 1) := by decide +kernel
theorem dL_law_854 : decode cL_law 854 = .ok (.iconst 2, 1) := by decide +kernel
theorem dL_law_855 : decode cL_law 855 = .ok (.iadd, 1) := by decide +kernel
theorem dL_law_856 : decode cL_law 856 = .ok (.iaload, 1) := by decide +kernel
theorem dL_law_857 : decode cL_law 857 = .ok (.aload_n 0, 1) := by decide +kernel
theorem dL_law_858 : decode cL_law 858 = .ok (.iload_n 3, 1) := by decide +kernel
theorem dL_law_859 : decode cL_law 859 = .ok (.iconst 3, 1) := by decide +kernel
theorem dL_law_860 : decode cL_law 860 = .ok (.iadd, 1) := by decide +kernel
theorem dL_law_861 : decode cL_law 861 = .ok (.iaload, 1) := by decide +kernel
theorem dL_law_862 : decode cL_law 862 = .ok (.invokevirtual 108, 3) := by decide +kernel
theorem dL_law_865 : decode cL_law 865 = .ok (.if_icmp .eq 252, 3) := by decide +kernel
theorem dL_law_868 : decode cL_law 868 = .ok (.iconst 0, 1) := by decide +kernel
theorem dL_law_869 : decode cL_law 869 = .ok (.ireturn, 1) := by decide +kernel
theorem dL_law_870 : decode cL_law 870 = .ok (.aload_n 1, 1) := by decide +kernel
theorem dL_law_871 : decode cL_law 871 = .ok (.aload_n 0, 1) := by decide +kernel
theorem dL_law_872 : decode cL_law 872 = .ok (.iload_n 3, 1) := by decide +kernel
theorem dL_law_873 : decode cL_law 873 = .ok (.iconst 1, 1) := by decide +kernel
theorem dL_law_874 : decode cL_law 874 = .ok (.iadd, 1) := by decide +kernel
theorem dL_law_875 : decode cL_law 875 = .ok (.iaload, 1) := by decide +kernel
theorem dL_law_876 : decode cL_law 876 = .ok (.invokevirtual 109, 3) := by decide +kernel
theorem dL_law_879 : decode cL_law 879 = .ok (.aload_n 2, 1) := by decide +kernel
theorem dL_law_880 : decode cL_law 880 = .ok (.aload_n 0, 1) := by decide +kernel
theorem dL_law_881 : decode cL_law 881 = .ok (.iload_n 3, 1) := by decide +kernel
theorem dL_law_882 : decode cL_law 882 = .ok (.iconst 1, 1) := by decide +kernel
theorem dL_law_883 : decode cL_law 883 = .ok (.iadd, 1) := by decide +kernel
theorem dL_law_884 : decode cL_law 884 = .ok (.iaload, 1) := by decide +kernel
theorem dL_law_885 : decode cL_law 885 = .ok (.invokevirtual 112, 3) := by decide +kernel
theorem dL_law_888 : decode cL_law 888 = .ok (.if_icmp .eq 229, 3) := by decide +kernel
theorem dL_law_891 : decode cL_law 891 = .ok (.iconst 0, 1) := by decide +kernel
theorem dL_law_892 : decode cL_law 892 = .ok (.ireturn, 1) := by decide +kernel
theorem dL_law_893 : decode cL_law 893 = .ok (.aload_n 1, 1) := by decide +kernel
theorem dL_law_894 : decode cL_law 894 = .ok (.aload_n 0, 1) := by decide +kernel
theorem dL_law_895 : decode cL_law 895 = .ok (.iload_n 3, 1) := by decide +kernel
theorem dL_law_896 : decode cL_law 896 = .ok (.iconst 1, 1) := by decide +kernel
theorem dL_law_897 : decode cL_law 897 = .ok (.iadd, 1) := by decide +kernel
theorem dL_law_898 : decode cL_law 898 = .ok (.iaload, 1) := by decide +kernel
theorem dL_law_899 : decode cL_law 899 = .ok (.aload_n 0, 1) := by decide +kernel
theorem dL_law_900 : decode cL_law 900 = .ok (.iload_n 3, 1) := by decide +kernel
theorem dL_law_901 : decode cL_law 901 = .ok (.iconst 2, 1) := by decide +kernel
theorem dL_law_902 : decode cL_law 902 = .ok (.iadd, 1) := by decide +kernel
theorem dL_law_903 : decode cL_law 903 = .ok (.iaload, 1) := by decide +kernel
theorem dL_law_904 : decode cL_law 904 = .ok (.invokevirtual 113, 3) := by decide +kernel
theorem dL_law_907 : decode cL_law 907 = .ok (.aload_n 2, 1) := by decide +kernel
theorem dL_law_908 : decode cL_law 908 = .ok (.aload_n 0, 1) := by decide +kernel
theorem dL_law_909 : decode cL_law 909 = .ok (.iload_n 3, 1) := by decide +kernel
theorem dL_law_910 : decode cL_law 910 = .ok (.iconst 1, 1) := by decide +kernel
theorem dL_law_911 : decode cL_law 911 = .ok (.iadd, 1) := by decide +kernel
theorem dL_law_912 : decode cL_law 912 = .ok (.iaload, 1) := by decide +kernel
theorem dL_law_913 : decode cL_law 913 = .ok (.aload_n 0, 1) := by decide +kernel
theorem dL_law_914 : decode cL_law 914 = .ok (.iload_n 3, 1) := by decide +kernel
theorem dL_law_915 : decode cL_law 915 = .ok (.iconst 2, 1) := by decide +kernel
theorem dL_law_916 : decode cL_law 916 = .ok (.iadd, 1) := by decide +kernel
theorem dL_law_917 : decode cL_law 917 = .ok (.iaload, 1) := by decide +kernel
theorem dL_law_918 : decode cL_law 918 = .ok (.invokevirtual 116, 3) := by decide +kernel
theorem dL_law_921 : decode cL_law 921 = .ok (.if_icmp .eq 196, 3) := by decide +kernel
theorem dL_law_924 : decode cL_law 924 = .ok (.iconst 0, 1) := by decide +kernel
theorem dL_law_925 : decode cL_law 925 = .ok (.ireturn, 1) := by decide +kernel
theorem dL_law_926 : decode cL_law 926 = .ok (.aload_n 1, 1) := by decide +kernel
theorem dL_law_927 : decode cL_law 927 = .ok (.aload_n 0, 1) := by decide +kernel
theorem dL_law_928 : decode cL_law 928 = .ok (.iload_n 3, 1) := by decide +kernel
theorem dL_law_929 : decode cL_law 929 = .ok (.iconst 1, 1) := by decide +kernel
theorem dL_law_930 : decode cL_law 930 = .ok (.iadd, 1) := by decide +kernel
theorem dL_law_931 : decode cL_law 931 = .ok (.iaload, 1) := by decide +kernel
theorem dL_law_932 : decode cL_law 932 = .ok (.invokevirtual 117, 3) := by decide +kernel
theorem dL_law_935 : decode cL_law 935 = .ok (.aload_n 2, 1) := by decide +kernel
theorem dL_law_936 : decode cL_law 936 = .ok (.aload_n 0, 1) := by decide +kernel
theorem dL_law_937 : decode cL_law 937 = .ok (.iload_n 3, 1) := by decide +kernel
theorem dL_law_938 : decode cL_law 938 = .ok (.iconst 1, 1) := by decide +kernel
theorem dL_law_939 : decode cL_law 939 = .ok (.iadd, 1) := by decide +kernel
theorem dL_law_940 : decode cL_law 940 = .ok (.iaload, 1) := by decide +kernel
theorem dL_law_941 : decode cL_law 941 = .ok (.invokevirtual 120, 3) := by decide +kernel
theorem dL_law_944 : decode cL_law 944 = .ok (.if_icmp .eq 173, 3) := by decide +kernel
theorem dL_law_947 : decode cL_law 947 = .ok (.iconst 0, 1) := by decide +kernel
theorem dL_law_948 : decode cL_law 948 = .ok (.ireturn, 1) := by decide +kernel
theorem dL_law_949 : decode cL_law 949 = .ok (.aload_n 1, 1) := by decide +kernel
theorem dL_law_950 : decode cL_law 950 = .ok (.aload_n 0, 1) := by decide +kernel
theorem dL_law_951 : decode cL_law 951 = .ok (.iload_n 3, 1) := by decide +kernel
theorem dL_law_952 : decode cL_law 952 = .ok (.iconst 1, 1) := by decide +kernel
theorem dL_law_953 : decode cL_law 953 = .ok (.iadd, 1) := by decide +kernel
theorem dL_law_954 : decode cL_law 954 = .ok (.iaload, 1) := by decide +kernel
theorem dL_law_955 : decode cL_law 955 = .ok (.invokevirtual 121, 3) := by decide +kernel
theorem dL_law_958 : decode cL_law 958 = .ok (.aload_n 2, 1) := by decide +kernel
theorem dL_law_959 : decode cL_law 959 = .ok (.aload_n 0, 1) := by decide +kernel
theorem dL_law_960 : decode cL_law 960 = .ok (.iload_n 3, 1) := by decide +kernel
theorem dL_law_961 : decode cL_law 961 = .ok (.iconst 1, 1) := by decide +kernel
theorem dL_law_962 : decode cL_law 962 = .ok (.iadd, 1) := by decide +kernel
theorem dL_law_963 : decode cL_law 963 = .ok (.iaload, 1) := by decide +kernel
theorem dL_law_964 : decode cL_law 964 = .ok (.invokevirtual 124, 3) := by decide +kernel
theorem dL_law_967 : decode cL_law 967 = .ok (.if_icmp .eq 150, 3) := by decide +kernel
theorem dL_law_970 : decode cL_law 970 = .ok (.iconst 0, 1) := by decide +kernel
theorem dL_law_971 : decode cL_law 971 = .ok (.ireturn, 1) := by decide +kernel
theorem dL_law_972 : decode cL_law 972 = .ok (.aload_n 1, 1) := by decide +kernel
theorem dL_law_973 : decode cL_law 973 = .ok (.aload_n 0, 1) := by decide +kernel
theorem dL_law_974 : decode cL_law 974 = .ok (.iload_n 3, 1) := by decide +kernel
theorem dL_law_975 : decode cL_law 975 = .ok (.iconst 1, 1) := by decide +kernel
theorem dL_law_976 : decode cL_law 976 = .ok (.iadd, 1) := by decide +kernel
theorem dL_law_977 : decode cL_law 977 = .ok (.iaload, 1) := by decide +kernel
theorem dL_law_978 : decode cL_law 978 = .ok (.invokevirtual 125, 3) := by decide +kernel
theorem dL_law_981 : decode cL_law 981 = .ok (.aload_n 2, 1) := by decide +kernel
theorem dL_law_982 : decode cL_law 982 = .ok (.aload_n 0, 1) := by decide +kernel
theorem dL_law_983 : decode cL_law 983 = .ok (.iload_n 3, 1) := by decide +kernel
theorem dL_law_984 : decode cL_law 984 = .ok (.iconst 1, 1) := by decide +kernel
theorem dL_law_985 : decode cL_law 985 = .ok (.iadd, 1) := by decide +kernel
theorem dL_law_986 : decode cL_law 986 = .ok (.iaload, 1) := by decide +kernel
theorem dL_law_987 : decode cL_law 987 = .ok (.invokevirtual 128, 3) := by decide +kernel
theorem dL_law_990 : decode cL_law 990 = .ok (.if_icmp .eq 127, 3) := by decide +kernel
theorem dL_law_993 : decode cL_law 993 = .ok (.iconst 0, 1) := by decide +kernel
theorem dL_law_994 : decode cL_law 994 = .ok (.ireturn, 1) := by decide +kernel
theorem dL_law_995 : decode cL_law 995 = .ok (.aload_n 1, 1) := by decide +kernel
theorem dL_law_996 : decode cL_law 996 = .ok (.aload_n 0, 1) := by decide +kernel
theorem dL_law_997 : decode cL_law 997 = .ok (.iload_n 3, 1) := by decide +kernel
theorem dL_law_998 : decode cL_law 998 = .ok (.iconst 1, 1) := by decide +kernel
theorem dL_law_999 : decode cL_law 999 = .ok (.iadd, 1) := by decide +kernel
theorem dL_law_1000 : decode cL_law 1000 = .ok (.iaload, 1) := by decide +kernel
theorem dL_law_1001 : decode cL_law 1001 = .ok (.aload_n 0, 1) := by decide +kernel
theorem dL_law_1002 : decode cL_law 1002 = .ok (.iload_n 3, 1) := by decide +kernel
theorem dL_law_1003 : decode cL_law 1003 = .ok (.iconst 2, 1) := by decide +kernel
theorem dL_law_1004 : decode cL_law 1004 = .ok (.iadd, 1) := by decide +kernel
theorem dL_law_1005 : decode cL_law 1005 = .ok (.iaload, 1) := by decide +kernel
theorem dL_law_1006 : decode cL_law 1006 = .ok (.aload_n 0, 1) := by decide +kernel
theorem dL_law_1007 : decode cL_law 1007 = .ok (.iload_n 3, 1) := by decide +kernel
theorem dL_law_1008 : decode cL_law 1008 = .ok (.iconst 3, 1) := by decide +kernel
theorem dL_law_1009 : decode cL_law 1009 = .ok (.iadd, 1) := by decide +kernel
theorem dL_law_1010 : decode cL_law 1010 = .ok (.iaload, 1) := by decide +kernel
theorem dL_law_1011 : decode cL_law 1011 = .ok (.aload_n 0, 1) := by decide +kernel
theorem dL_law_1012 : decode cL_law 1012 = .ok (.iload_n 3, 1) := by decide +kernel
theorem dL_law_1013 : decode cL_law 1013 = .ok (.iconst 4, 1) := by decide +kernel
theorem dL_law_1014 : decode cL_law 1014 = .ok (.iadd, 1) := by decide +kernel
theorem dL_law_1015 : decode cL_law 1015 = .ok (.iaload, 1) := by decide +kernel
theorem dL_law_1016 : decode cL_law 1016 = .ok (.invokevirtual 129, 3) := by decide +kernel
theorem dL_law_1019 : decode cL_law 1019 = .ok (.aload_n 2, 1) := by decide +kernel
theorem dL_law_1020 : decode cL_law 1020 = .ok (.aload_n 0, 1) := by decide +kernel
theorem dL_law_1021 : decode cL_law 1021 = .ok (.iload_n 3, 1) := by decide +kernel
theorem dL_law_1022 : decode cL_law 1022 = .ok (.iconst 1, 1) := by decide +kernel
theorem dL_law_1023 : decode cL_law 1023 = .ok (.iadd, 1) := by decide +kernel
theorem dL_law_1024 : decode cL_law 1024 = .ok (.iaload, 1) := by decide +kernel
theorem dL_law_1025 : decode cL_law 1025 = .ok (.aload_n 0, 1) := by decide +kernel
theorem dL_law_1026 : decode cL_law 1026 = .ok (.iload_n 3, 1) := by decide +kernel
theorem dL_law_1027 : decode cL_law 1027 = .ok (.iconst 2, 1) := by decide +kernel
theorem dL_law_1028 : decode cL_law 1028 = .ok (.iadd, 1) := by decide +kernel
theorem dL_law_1029 : decode cL_law 1029 = .ok (.iaload, 1) := by decide +kernel
theorem dL_law_1030 : decode cL_law 1030 = .ok (.aload_n 0, 1) := by decide +kernel
theorem dL_law_1031 : decode cL_law 1031 = .ok (.iload_n 3, 1) := by decide +kernel
theorem dL_law_1032 : decode cL_law 1032 = .ok (.iconst 3, 1) := by decide +kernel
theorem dL_law_1033 : decode cL_law 1033 = .ok (.iadd, 1) := by decide +kernel
theorem dL_law_1034 : decode cL_law 1034 = .ok (.iaload, 1) := by decide +kernel
theorem dL_law_1035 : decode cL_law 1035 = .ok (.aload_n 0, 1) := by decide +kernel
theorem dL_law_1036 : decode cL_law 1036 = .ok (.iload_n 3, 1) := by decide +kernel
theorem dL_law_1037 : decode cL_law 1037 = .ok (.iconst 4, 1) := by decide +kernel
theorem dL_law_1038 : decode cL_law 1038 = .ok (.iadd, 1) := by decide +kernel
theorem dL_law_1039 : decode cL_law 1039 = .ok (.iaload, 1) := by decide +kernel
theorem dL_law_1040 : decode cL_law 1040 = .ok (.invokevirtual 132, 3) := by decide +kernel
theorem dL_law_1043 : decode cL_law 1043 = .ok (.if_icmp .eq 74, 3) := by decide +kernel
theorem dL_law_1046 : decode cL_law 1046 = .ok (.iconst 0, 1) := by decide +kernel
theorem dL_law_1047 : decode cL_law 1047 = .ok (.ireturn, 1) := by decide +kernel
theorem dL_law_1048 : decode cL_law 1048 = .ok (.aload_n 1, 1) := by decide +kernel
theorem dL_law_1049 : decode cL_law 1049 = .ok (.aload_n 0, 1) := by decide +kernel
theorem dL_law_1050 : decode cL_law 1050 = .ok (.iload_n 3, 1) := by decide +kernel
theorem dL_law_1051 : decode cL_law 1051 = .ok (.iconst 1, 1) := by decide +kernel
theorem dL_law_1052 : decode cL_law 1052 = .ok (.iadd, 1) := by decide +kernel
theorem dL_law_1053 : decode cL_law 1053 = .ok (.iaload, 1) := by decide +kernel
theorem dL_law_1054 : decode cL_law 1054 = .ok (.invokevirtual 133, 3) := by decide +kernel
theorem dL_law_1057 : decode cL_law 1057 = .ok (.aload_n 2, 1) := by decide +kernel
theorem dL_law_1058 : decode cL_law 1058 = .ok (.aload_n 0, 1) := by decide +kernel
theorem dL_law_1059 : decode cL_law 1059 = .ok (.iload_n 3, 1) := by decide +kernel
theorem dL_law_1060 : decode cL_law 1060 = .ok (.iconst 1, 1) := by decide +kernel
theorem dL_law_1061 : decode cL_law 1061 = .ok (.iadd, 1) := by decide +kernel
theorem dL_law_1062 : decode cL_law 1062 = .ok (.iaload, 1) := by decide +kernel
theorem dL_law_1063 : decode cL_law 1063 = .ok (.invokevirtual 136, 3) := by decide +kernel
theorem dL_law_1066 : decode cL_law 1066 = .ok (.if_icmp .eq 51, 3) := by decide +kernel
theorem dL_law_1069 : decode cL_law 1069 = .ok (.iconst 0, 1) := by decide +kernel
theorem dL_law_1070 : decode cL_law 1070 = .ok (.ireturn, 1) := by decide +kernel
theorem dL_law_1071 : decode cL_law 1071 = .ok (.aload_n 1, 1) := by decide +kernel
theorem dL_law_1072 : decode cL_law 1072 = .ok (.aload_n 0, 1) := by decide +kernel
theorem dL_law_1073 : decode cL_law 1073 = .ok (.iload_n 3, 1) := by decide +kernel
theorem dL_law_1074 : decode cL_law 1074 = .ok (.iconst 1, 1) := by decide +kernel
theorem dL_law_1075 : decode cL_law 1075 = .ok (.iadd, 1) := by decide +kernel
theorem dL_law_1076 : decode cL_law 1076 = .ok (.iaload, 1) := by decide +kernel
theorem dL_law_1077 : decode cL_law 1077 = .ok (.invokevirtual 137, 3) := by decide +kernel
theorem dL_law_1080 : decode cL_law 1080 = .ok (.aload_n 2, 1) := by decide +kernel
theorem dL_law_1081 : decode cL_law 1081 = .ok (.aload_n 0, 1) := by decide +kernel
theorem dL_law_1082 : decode cL_law 1082 = .ok (.iload_n 3, 1) := by decide +kernel
theorem dL_law_1083 : decode cL_law 1083 = .ok (.iconst 1, 1) := by decide +kernel
theorem dL_law_1084 : decode cL_law 1084 = .ok (.iadd, 1) := by decide +kernel
theorem dL_law_1085 : decode cL_law 1085 = .ok (.iaload, 1) := by decide +kernel
theorem dL_law_1086 : decode cL_law 1086 = .ok (.invokevirtual 140, 3) := by decide +kernel
theorem dL_law_1089 : decode cL_law 1089 = .ok (.if_icmp .eq 28, 3) := by decide +kernel
theorem dL_law_1092 : decode cL_law 1092 = .ok (.iconst 0, 1) := by decide +kernel
theorem dL_law_1093 : decode cL_law 1093 = .ok (.ireturn, 1) := by decide +kernel
theorem dL_law_1094 : decode cL_law 1094 = .ok (.aload_n 1, 1) := by decide +kernel
theorem dL_law_1095 : decode cL_law 1095 = .ok (.aload_n 0, 1) := by decide +kernel
theorem dL_law_1096 : decode cL_law 1096 = .ok (.iload_n 3, 1) := by decide +kernel
theorem dL_law_1097 : decode cL_law 1097 = .ok (.iconst 1, 1) := by decide +kernel
theorem dL_law_1098 : decode cL_law 1098 = .ok (.iadd, 1) := by decide +kernel
theorem dL_law_1099 : decode cL_law 1099 = .ok (.iaload, 1) := by decide +kernel
theorem dL_law_1100 : decode cL_law 1100 = .ok (.invokevirtual 141, 3) := by decide +kernel
theorem dL_law_1103 : decode cL_law 1103 = .ok (.aload_n 2, 1) := by decide +kernel
theorem dL_law_1104 : decode cL_law 1104 = .ok (.aload_n 0, 1) := by decide +kernel
theorem dL_law_1105 : decode cL_law 1105 = .ok (.iload_n 3, 1) := by decide +kernel
theorem dL_law_1106 : decode cL_law 1106 = .ok (.iconst 1, 1) := by decide +kernel
theorem dL_law_1107 : decode cL_law 1107 = .ok (.iadd, 1) := by decide +kernel
theorem dL_law_1108 : decode cL_law 1108 = .ok (.iaload, 1) := by decide +kernel
theorem dL_law_1109 : decode cL_law 1109 = .ok (.invokevirtual 144, 3) := by decide +kernel
theorem dL_law_1112 : decode cL_law 1112 = .ok (.if_icmp .eq 5, 3) := by decide +kernel
theorem dL_law_1115 : decode cL_law 1115 = .ok (.iconst 0, 1) := by decide +kernel
theorem dL_law_1116 : decode cL_law 1116 = .ok (.ireturn, 1) := by decide +kernel
theorem dL_law_1117 : decode cL_law 1117 = .ok (.iinc 3 6, 3) := by decide +kernel
theorem dL_law_1120 : decode cL_law 1120 = .ok (.goto (-1102), 3) := by decide +kernel
theorem dL_law_1123 : decode cL_law 1123 = .ok (.iconst 1, 1) := by decide +kernel
theorem dL_law_1124 : decode cL_law 1124 = .ok (.ireturn, 1) := by decide +kernel
noncomputable def L_case0 (G : GG) (L : Nat) (xs : Nat → Int32) (v1 v2 : Nat) (self_18 : Int32 → AH → Option (Int32 × AH)) (v3 : Int32) (h : AH) : Option (Int32 × AH) :=
ck (¬ (v3 + (1 : Int32) < 0 ∨ L ≤ (v3 + (1 : Int32)).toNatClampNeg)) <|
ck (¬ (v3 + (2 : Int32) < 0 ∨ L ≤ (v3 + (2 : Int32)).toNatClampNeg)) <|
ck (¬ (v3 + (3 : Int32) < 0 ∨ L ≤ (v3 + (3 : Int32)).toNatClampNeg)) <|
ck (¬ (v3 + (4 : Int32) < 0 ∨ L ≤ (v3 + (4 : Int32)).toNatClampNeg)) <|
ck (¬ (v3 + (5 : Int32) < 0 ∨ L ≤ (v3 + (5 : Int32)).toNatClampNeg)) <|
ck (m_t h v1 = .inl 11) <|
cb (f_X11_feed G v1 (xs (v3 + (1 : Int32)).toNatClampNeg) (xs (v3 + (2 : Int32)).toNatClampNeg) (xs (v3 + (3 : Int32)).toNatClampNeg) (xs (v3 + (4 : Int32)).toNatClampNeg) (xs (v3 + (5 : Int32)).toNatClampNeg) h) fun r9 h7 =>
ck (¬ (v3 + (1 : Int32) < 0 ∨ L ≤ (v3 + (1 : Int32)).toNatClampNeg)) <|
ck (¬ (v3 + (2 : Int32) < 0 ∨ L ≤ (v3 + (2 : Int32)).toNatClampNeg)) <|
ck (¬ (v3 + (3 : Int32) < 0 ∨ L ≤ (v3 + (3 : Int32)).toNatClampNeg)) <|
ck (¬ (v3 + (4 : Int32) < 0 ∨ L ≤ (v3 + (4 : Int32)).toNatClampNeg)) <|
ck (¬ (v3 + (5 : Int32) < 0 ∨ L ≤ (v3 + (5 : Int32)).toNatClampNeg)) <|
ck (m_t h7 v2 = .inl 12) <|
cb (lf v2 (p_X12_feed G (xs (v3 + (1 : Int32)).toNatClampNeg) (xs (v3 + (2 : Int32)).toNatClampNeg) (xs (v3 + (3 : Int32)).toNatClampNeg) (xs (v3 + (4 : Int32)).toNatClampNeg) (xs (v3 + (5 : Int32)).toNatClampNeg)) h7) fun r18 h16 =>
if r9 = r18 then (nn (v3 + (6 : Int32)) fun x20 =>
self_18 x20 h16) else
some ((0 : Int32), h16)
set_option maxHeartbeats 4000000 in
set_option maxRecDepth 100000 in
theorem el_case0 {G : GG} {p : Program} {l : Launch} {e : Env} {s : State} {m : MethodId} {args : Array Value} {below : List Frame} {meth : Method} {c : Code} {y : Int32 × AH} {b L : Nat} {xs : Nat → Int32} {v1 v2 : Nat} (C : Cx G code RL p s m args meth c) (hm : c.maxLocals = 4) (hr : meth.sig.returnType = some .boolean) (hX : va_X b L xs s s.heap) (hbl : b < s.heap.size) (hB : ¬ G.1 ≤ b) {self_18 : Int32 → AH → Option (Int32 × AH)} {v3 : Int32} {h : AH} {ce sl : Nat} (hce : ce + 40 ≤ 600000) (hsl : sl + 1000 ≤ 7302250) (hk : ∀ (x : Int32) (h : AH) (ce2 sl2 : Nat), x = v3 + 6 → ce2 ≤ ce + 20 → sl2 ≤ sl + 480 → self_18 x h = some y → EE G p l e room_1 s m args below meth c (some (.int y.1), y.2) 600000 7302250 18 [(0, .ref b), (1, .ref v1), (2, .ref v2), (3, .int x)] [] h ce2 sl2) (hf : L_case0 G L xs v1 v2 self_18 v3 h = some y) : EE G p l e room_1 s m args below meth c (some (.int y.1), y.2) 600000 7302250 172 [(0, .ref b), (1, .ref v1), (2, .ref v2), (3, .int v3)] [] h ce sl := by
  unfold L_case0 at hf
  refine e_aload_n (pc := 172) C dL_law_172 1 rfl rfl ?_
  refine e_aload_n (pc := 173) C dL_law_173 0 rfl rfl ?_
  refine e_iload_n (pc := 174) C dL_law_174 3 rfl rfl ?_
  refine e_iconst (v := (1 : Int32)) (pc := 175) C dL_law_175 (by decide) ?_
  refine e_iadd (pc := 176) C dL_law_176 ?_
  obtain ⟨q1, hf⟩ := ck_e hf
  refine e_sldX (pc := 177) C hX hbl hB q1 dL_law_177 ?_
  refine e_aload_n (pc := 178) C dL_law_178 0 rfl rfl ?_
  refine e_iload_n (pc := 179) C dL_law_179 3 rfl rfl ?_
  refine e_iconst (v := (2 : Int32)) (pc := 180) C dL_law_180 (by decide) ?_
  refine e_iadd (pc := 181) C dL_law_181 ?_
  obtain ⟨q2, hf⟩ := ck_e hf
  refine e_sldX (pc := 182) C hX hbl hB q2 dL_law_182 ?_
  refine e_aload_n (pc := 183) C dL_law_183 0 rfl rfl ?_
  refine e_iload_n (pc := 184) C dL_law_184 3 rfl rfl ?_
  refine e_iconst (v := (3 : Int32)) (pc := 185) C dL_law_185 (by decide) ?_
  refine e_iadd (pc := 186) C dL_law_186 ?_
  obtain ⟨q3, hf⟩ := ck_e hf
  refine e_sldX (pc := 187) C hX hbl hB q3 dL_law_187 ?_
  refine e_aload_n (pc := 188) C dL_law_188 0 rfl rfl ?_
  refine e_iload_n (pc := 189) C dL_law_189 3 rfl rfl ?_
  refine e_iconst (v := (4 : Int32)) (pc := 190) C dL_law_190 (by decide) ?_
  refine e_iadd (pc := 191) C dL_law_191 ?_
  obtain ⟨q4, hf⟩ := ck_e hf
  refine e_sldX (pc := 192) C hX hbl hB q4 dL_law_192 ?_
  refine e_aload_n (pc := 193) C dL_law_193 0 rfl rfl ?_
  refine e_iload_n (pc := 194) C dL_law_194 3 rfl rfl ?_
  refine e_iconst (v := (5 : Int32)) (pc := 195) C dL_law_195 (by decide) ?_
  refine e_iadd (pc := 196) C dL_law_196 ?_
  obtain ⟨q5, hf⟩ := ck_e hf
  refine e_sldX (pc := 197) C hX hbl hB q5 dL_law_197 ?_
  obtain ⟨t6, hf⟩ := ck_e hf
  obtain ⟨r9, h7, y8, hf⟩ := cb_e hf
  refine e_callVi (pc := 198) (st := []) 11 C (ct_X11_feed y8) dL_law_198 (by decide) t6 g613 g614 g615 g146 g616 hd_X11_feed rfl ⟨Nat.le_of_ble_eq_true rfl, Nat.le_of_ble_eq_true rfl⟩ ⟨by show _ ≤ 600000; omega, by show _ ≤ 7302250; omega⟩ rfl (Nat.le_of_ble_eq_true rfl) ?_
  refine e_aload_n (pc := 201) C dL_law_201 2 rfl rfl ?_
  refine e_aload_n (pc := 202) C dL_law_202 0 rfl rfl ?_
  refine e_iload_n (pc := 203) C dL_law_203 3 rfl rfl ?_
  refine e_iconst (v := (1 : Int32)) (pc := 204) C dL_law_204 (by decide) ?_
  refine e_iadd (pc := 205) C dL_law_205 ?_
  obtain ⟨q10, hf⟩ := ck_e hf
  refine e_sldX (pc := 206) C hX hbl hB q10 dL_law_206 ?_
  refine e_aload_n (pc := 207) C dL_law_207 0 rfl rfl ?_
  refine e_iload_n (pc := 208) C dL_law_208 3 rfl rfl ?_
  refine e_iconst (v := (2 : Int32)) (pc := 209) C dL_law_209 (by decide) ?_
  refine e_iadd (pc := 210) C dL_law_210 ?_
  obtain ⟨q11, hf⟩ := ck_e hf
  refine e_sldX (pc := 211) C hX hbl hB q11 dL_law_211 ?_
  refine e_aload_n (pc := 212) C dL_law_212 0 rfl rfl ?_
  refine e_iload_n (pc := 213) C dL_law_213 3 rfl rfl ?_
  refine e_iconst (v := (3 : Int32)) (pc := 214) C dL_law_214 (by decide) ?_
  refine e_iadd (pc := 215) C dL_law_215 ?_
  obtain ⟨q12, hf⟩ := ck_e hf
  refine e_sldX (pc := 216) C hX hbl hB q12 dL_law_216 ?_
  refine e_aload_n (pc := 217) C dL_law_217 0 rfl rfl ?_
  refine e_iload_n (pc := 218) C dL_law_218 3 rfl rfl ?_
  refine e_iconst (v := (4 : Int32)) (pc := 219) C dL_law_219 (by decide) ?_
  refine e_iadd (pc := 220) C dL_law_220 ?_
  obtain ⟨q13, hf⟩ := ck_e hf
  refine e_sldX (pc := 221) C hX hbl hB q13 dL_law_221 ?_
  refine e_aload_n (pc := 222) C dL_law_222 0 rfl rfl ?_
  refine e_iload_n (pc := 223) C dL_law_223 3 rfl rfl ?_
  refine e_iconst (v := (5 : Int32)) (pc := 224) C dL_law_224 (by decide) ?_
  refine e_iadd (pc := 225) C dL_law_225 ?_
  obtain ⟨q14, hf⟩ := ck_e hf
  refine e_sldX (pc := 226) C hX hbl hB q14 dL_law_226 ?_
  obtain ⟨t15, hf⟩ := ck_e hf
  obtain ⟨r18, h16, y17, hf⟩ := cb_e hf
  refine e_callVi (pc := 227) (st := [.int r9]) 12 C (lf_ct (fun hI => pt_X12_feed hI) y17) dL_law_227 (by decide) t15 g1658 g1659 g1660 g157 g1661 hd_X12_feed rfl ⟨Nat.le_of_ble_eq_true rfl, Nat.le_of_ble_eq_true rfl⟩ ⟨by show _ ≤ 600000; omega, by show _ ≤ 7302250; omega⟩ rfl (Nat.le_of_ble_eq_true rfl) ?_
  rcases it_e hf with ⟨c19, hf⟩ | ⟨c19, hf⟩
  · refine e_icmp_eq (pc := 230) (tgt := 1117) C dL_law_230 (by decide) (fun _ => ?_) (fun q => absurd c19 q)
    obtain ⟨x20, ex20, hf⟩ := nn_e hf
    refine e_iinc (pc := 1117) (v := x20) (lv2 := [(3, .int x20), (0, .ref b), (1, .ref v1), (2, .ref v2)]) C hm dL_law_1117 3 rfl (by rw [ex20]; rfl) (by decide) rfl ?_
    refine e_goto (pc := 1120) (tgt := 18) C dL_law_1120 (by decide) ?_
    refine e_lv (lv2 := [(0, .ref b), (1, .ref v1), (2, .ref v2), (3, .int x20)]) [1, 2, 3, 0] rfl ?_
    exact hk x20 h16 _ _ ex20 (by omega) (by omega) hf
  · refine e_icmp_eq (pc := 230) (tgt := 1117) C dL_law_230 (by decide) (fun q => absurd q c19) (fun _ => ?_)
    refine e_iconst (v := (0 : Int32)) (pc := 233) C dL_law_233 (by decide) ?_
    obtain rfl := so_e hf
    exact e_zret (pc := 234) (v := (0 : Int32)) C hr (nz_ok (by decide)) dL_law_234 (by omega) (by omega)
noncomputable def L_case1 (G : GG) (L : Nat) (xs : Nat → Int32) (v1 v2 : Nat) (self_18 : Int32 → AH → Option (Int32 × AH)) (v3 : Int32) (h : AH) : Option (Int32 × AH) :=
ck (¬ (v3 + (1 : Int32) < 0 ∨ L ≤ (v3 + (1 : Int32)).toNatClampNeg)) <|
ck (m_t h v1 = .inl 11) <|
cb (f_X11_end G v1 (xs (v3 + (1 : Int32)).toNatClampNeg) h) fun r5 h3 =>
ck (¬ (v3 + (1 : Int32) < 0 ∨ L ≤ (v3 + (1 : Int32)).toNatClampNeg)) <|
ck (m_t h3 v2 = .inl 12) <|
cb (lf v2 (p_X12_end G (xs (v3 + (1 : Int32)).toNatClampNeg)) h3) fun r10 h8 =>
if r5 = r10 then (nn (v3 + (6 : Int32)) fun x12 =>
self_18 x12 h8) else
some ((0 : Int32), h8)
set_option maxHeartbeats 4000000 in
set_option maxRecDepth 100000 in
theorem el_case1 {G : GG} {p : Program} {l : Launch} {e : Env} {s : State} {m : MethodId} {args : Array Value} {below : List Frame} {meth : Method} {c : Code} {y : Int32 × AH} {b L : Nat} {xs : Nat → Int32} {v1 v2 : Nat} (C : Cx G code RL p s m args meth c) (hm : c.maxLocals = 4) (hr : meth.sig.returnType = some .boolean) (hX : va_X b L xs s s.heap) (hbl : b < s.heap.size) (hB : ¬ G.1 ≤ b) {self_18 : Int32 → AH → Option (Int32 × AH)} {v3 : Int32} {h : AH} {ce sl : Nat} (hce : ce + 40 ≤ 600000) (hsl : sl + 1000 ≤ 7302250) (hk : ∀ (x : Int32) (h : AH) (ce2 sl2 : Nat), x = v3 + 6 → ce2 ≤ ce + 20 → sl2 ≤ sl + 480 → self_18 x h = some y → EE G p l e room_1 s m args below meth c (some (.int y.1), y.2) 600000 7302250 18 [(0, .ref b), (1, .ref v1), (2, .ref v2), (3, .int x)] [] h ce2 sl2) (hf : L_case1 G L xs v1 v2 self_18 v3 h = some y) : EE G p l e room_1 s m args below meth c (some (.int y.1), y.2) 600000 7302250 235 [(0, .ref b), (1, .ref v1), (2, .ref v2), (3, .int v3)] [] h ce sl := by
  unfold L_case1 at hf
  refine e_aload_n (pc := 235) C dL_law_235 1 rfl rfl ?_
  refine e_aload_n (pc := 236) C dL_law_236 0 rfl rfl ?_
  refine e_iload_n (pc := 237) C dL_law_237 3 rfl rfl ?_
  refine e_iconst (v := (1 : Int32)) (pc := 238) C dL_law_238 (by decide) ?_
  refine e_iadd (pc := 239) C dL_law_239 ?_
  obtain ⟨q1, hf⟩ := ck_e hf
  refine e_sldX (pc := 240) C hX hbl hB q1 dL_law_240 ?_
  obtain ⟨t2, hf⟩ := ck_e hf
  obtain ⟨r5, h3, y4, hf⟩ := cb_e hf
  refine e_callVi (pc := 241) (st := []) 11 C (ct_X11_end y4) dL_law_241 (by decide) t2 g621 g622 g623 g146 g624 hd_X11_end rfl ⟨Nat.le_of_ble_eq_true rfl, Nat.le_of_ble_eq_true rfl⟩ ⟨by show _ ≤ 600000; omega, by show _ ≤ 7302250; omega⟩ rfl (Nat.le_of_ble_eq_true rfl) ?_
  refine e_aload_n (pc := 244) C dL_law_244 2 rfl rfl ?_
  refine e_aload_n (pc := 245) C dL_law_245 0 rfl rfl ?_
  refine e_iload_n (pc := 246) C dL_law_246 3 rfl rfl ?_
  refine e_iconst (v := (1 : Int32)) (pc := 247) C dL_law_247 (by decide) ?_
  refine e_iadd (pc := 248) C dL_law_248 ?_
  obtain ⟨q6, hf⟩ := ck_e hf
  refine e_sldX (pc := 249) C hX hbl hB q6 dL_law_249 ?_
  obtain ⟨t7, hf⟩ := ck_e hf
  obtain ⟨r10, h8, y9, hf⟩ := cb_e hf
  refine e_callVi (pc := 250) (st := [.int r5]) 12 C (lf_ct (fun hI => pt_X12_end hI) y9) dL_law_250 (by decide) t7 g1666 g1667 g1668 g157 g1669 hd_X12_end rfl ⟨Nat.le_of_ble_eq_true rfl, Nat.le_of_ble_eq_true rfl⟩ ⟨by show _ ≤ 600000; omega, by show _ ≤ 7302250; omega⟩ rfl (Nat.le_of_ble_eq_true rfl) ?_
  rcases it_e hf with ⟨c11, hf⟩ | ⟨c11, hf⟩
  · refine e_icmp_eq (pc := 253) (tgt := 1117) C dL_law_253 (by decide) (fun _ => ?_) (fun q => absurd c11 q)
    obtain ⟨x12, ex12, hf⟩ := nn_e hf
    refine e_iinc (pc := 1117) (v := x12) (lv2 := [(3, .int x12), (0, .ref b), (1, .ref v1), (2, .ref v2)]) C hm dL_law_1117 3 rfl (by rw [ex12]; rfl) (by decide) rfl ?_
    refine e_goto (pc := 1120) (tgt := 18) C dL_law_1120 (by decide) ?_
    refine e_lv (lv2 := [(0, .ref b), (1, .ref v1), (2, .ref v2), (3, .int x12)]) [1, 2, 3, 0] rfl ?_
    exact hk x12 h8 _ _ ex12 (by omega) (by omega) hf
  · refine e_icmp_eq (pc := 253) (tgt := 1117) C dL_law_253 (by decide) (fun q => absurd q c11) (fun _ => ?_)
    refine e_iconst (v := (0 : Int32)) (pc := 256) C dL_law_256 (by decide) ?_
    obtain rfl := so_e hf
    exact e_zret (pc := 257) (v := (0 : Int32)) C hr (nz_ok (by decide)) dL_law_257 (by omega) (by omega)
noncomputable def L_case2 (G : GG) (L : Nat) (xs : Nat → Int32) (v1 v2 : Nat) (self_18 : Int32 → AH → Option (Int32 × AH)) (v3 : Int32) (h : AH) : Option (Int32 × AH) :=
ck (m_t h v1 = .inl 11) <|
cb (f_X11_train G v1 h) fun r4 h2 =>
ck (m_t h2 v2 = .inl 12) <|
cb (lf v2 (p_X12_train G) h2) fun r8 h6 =>
if r4 = r8 then (nn (v3 + (6 : Int32)) fun x10 =>
self_18 x10 h6) else
some ((0 : Int32), h6)
set_option maxHeartbeats 4000000 in
set_option maxRecDepth 100000 in
theorem el_case2 {G : GG} {p : Program} {l : Launch} {e : Env} {s : State} {m : MethodId} {args : Array Value} {below : List Frame} {meth : Method} {c : Code} {y : Int32 × AH} {b L : Nat} {xs : Nat → Int32} {v1 v2 : Nat} (C : Cx G code RL p s m args meth c) (hm : c.maxLocals = 4) (hr : meth.sig.returnType = some .boolean) (hX : va_X b L xs s s.heap) (hbl : b < s.heap.size) (hB : ¬ G.1 ≤ b) {self_18 : Int32 → AH → Option (Int32 × AH)} {v3 : Int32} {h : AH} {ce sl : Nat} (hce : ce + 40 ≤ 600000) (hsl : sl + 1000 ≤ 7302250) (hk : ∀ (x : Int32) (h : AH) (ce2 sl2 : Nat), x = v3 + 6 → ce2 ≤ ce + 20 → sl2 ≤ sl + 480 → self_18 x h = some y → EE G p l e room_1 s m args below meth c (some (.int y.1), y.2) 600000 7302250 18 [(0, .ref b), (1, .ref v1), (2, .ref v2), (3, .int x)] [] h ce2 sl2) (hf : L_case2 G L xs v1 v2 self_18 v3 h = some y) : EE G p l e room_1 s m args below meth c (some (.int y.1), y.2) 600000 7302250 258 [(0, .ref b), (1, .ref v1), (2, .ref v2), (3, .int v3)] [] h ce sl := by
  unfold L_case2 at hf
  refine e_aload_n (pc := 258) C dL_law_258 1 rfl rfl ?_
  obtain ⟨t1, hf⟩ := ck_e hf
  obtain ⟨r4, h2, y3, hf⟩ := cb_e hf
  refine e_callVi (pc := 259) (st := []) 11 C (ct_X11_train y3) dL_law_259 (by decide) t1 g625 g626 g627 g146 g628 hd_X11_train rfl ⟨Nat.le_of_ble_eq_true rfl, Nat.le_of_ble_eq_true rfl⟩ ⟨by show _ ≤ 600000; omega, by show _ ≤ 7302250; omega⟩ rfl (Nat.le_of_ble_eq_true rfl) ?_
  refine e_aload_n (pc := 262) C dL_law_262 2 rfl rfl ?_
  obtain ⟨t5, hf⟩ := ck_e hf
  obtain ⟨r8, h6, y7, hf⟩ := cb_e hf
  refine e_callVi (pc := 263) (st := [.int r4]) 12 C (lf_ct (fun hI => pt_X12_train hI) y7) dL_law_263 (by decide) t5 g1670 g1671 g1672 g157 g1673 hd_X12_train rfl ⟨Nat.le_of_ble_eq_true rfl, Nat.le_of_ble_eq_true rfl⟩ ⟨by show _ ≤ 600000; omega, by show _ ≤ 7302250; omega⟩ rfl (Nat.le_of_ble_eq_true rfl) ?_
  rcases it_e hf with ⟨c9, hf⟩ | ⟨c9, hf⟩
  · refine e_icmp_eq (pc := 266) (tgt := 1117) C dL_law_266 (by decide) (fun _ => ?_) (fun q => absurd c9 q)
    obtain ⟨x10, ex10, hf⟩ := nn_e hf
    refine e_iinc (pc := 1117) (v := x10) (lv2 := [(3, .int x10), (0, .ref b), (1, .ref v1), (2, .ref v2)]) C hm dL_law_1117 3 rfl (by rw [ex10]; rfl) (by decide) rfl ?_
    refine e_goto (pc := 1120) (tgt := 18) C dL_law_1120 (by decide) ?_
    refine e_lv (lv2 := [(0, .ref b), (1, .ref v1), (2, .ref v2), (3, .int x10)]) [1, 2, 3, 0] rfl ?_
    exact hk x10 h6 _ _ ex10 (by omega) (by omega) hf
  · refine e_icmp_eq (pc := 266) (tgt := 1117) C dL_law_266 (by decide) (fun q => absurd q c9) (fun _ => ?_)
    refine e_iconst (v := (0 : Int32)) (pc := 269) C dL_law_269 (by decide) ?_
    obtain rfl := so_e hf
    exact e_zret (pc := 270) (v := (0 : Int32)) C hr (nz_ok (by decide)) dL_law_270 (by omega) (by omega)
noncomputable def L_case3 (G : GG) (L : Nat) (xs : Nat → Int32) (v1 v2 : Nat) (self_18 : Int32 → AH → Option (Int32 × AH)) (v3 : Int32) (h : AH) : Option (Int32 × AH) :=
ck (m_t h v1 = .inl 11) <|
cb (f_X11_rule G v1 h) fun r4 h2 =>
ck (m_t h2 v2 = .inl 12) <|
cb (lf v2 (p_X12_rule G) h2) fun r8 h6 =>
if r4 = r8 then (nn (v3 + (6 : Int32)) fun x10 =>
self_18 x10 h6) else
some ((0 : Int32), h6)
set_option maxHeartbeats 4000000 in
set_option maxRecDepth 100000 in
theorem el_case3 {G : GG} {p : Program} {l : Launch} {e : Env} {s : State} {m : MethodId} {args : Array Value} {below : List Frame} {meth : Method} {c : Code} {y : Int32 × AH} {b L : Nat} {xs : Nat → Int32} {v1 v2 : Nat} (C : Cx G code RL p s m args meth c) (hm : c.maxLocals = 4) (hr : meth.sig.returnType = some .boolean) (hX : va_X b L xs s s.heap) (hbl : b < s.heap.size) (hB : ¬ G.1 ≤ b) {self_18 : Int32 → AH → Option (Int32 × AH)} {v3 : Int32} {h : AH} {ce sl : Nat} (hce : ce + 40 ≤ 600000) (hsl : sl + 1000 ≤ 7302250) (hk : ∀ (x : Int32) (h : AH) (ce2 sl2 : Nat), x = v3 + 6 → ce2 ≤ ce + 20 → sl2 ≤ sl + 480 → self_18 x h = some y → EE G p l e room_1 s m args below meth c (some (.int y.1), y.2) 600000 7302250 18 [(0, .ref b), (1, .ref v1), (2, .ref v2), (3, .int x)] [] h ce2 sl2) (hf : L_case3 G L xs v1 v2 self_18 v3 h = some y) : EE G p l e room_1 s m args below meth c (some (.int y.1), y.2) 600000 7302250 271 [(0, .ref b), (1, .ref v1), (2, .ref v2), (3, .int v3)] [] h ce sl := by
  unfold L_case3 at hf
  refine e_aload_n (pc := 271) C dL_law_271 1 rfl rfl ?_
  obtain ⟨t1, hf⟩ := ck_e hf
  obtain ⟨r4, h2, y3, hf⟩ := cb_e hf
  refine e_callVi (pc := 272) (st := []) 11 C (ct_X11_rule y3) dL_law_272 (by decide) t1 g803 g804 g805 g146 g806 hd_X11_rule rfl ⟨Nat.le_of_ble_eq_true rfl, Nat.le_of_ble_eq_true rfl⟩ ⟨by show _ ≤ 600000; omega, by show _ ≤ 7302250; omega⟩ rfl (Nat.le_of_ble_eq_true rfl) ?_
  refine e_aload_n (pc := 275) C dL_law_275 2 rfl rfl ?_
  obtain ⟨t5, hf⟩ := ck_e hf
  obtain ⟨r8, h6, y7, hf⟩ := cb_e hf
  refine e_callVi (pc := 276) (st := [.int r4]) 12 C (lf_ct (fun hI => pt_X12_rule hI) y7) dL_law_276 (by decide) t5 g1782 g1783 g1784 g157 g1785 hd_X12_rule rfl ⟨Nat.le_of_ble_eq_true rfl, Nat.le_of_ble_eq_true rfl⟩ ⟨by show _ ≤ 600000; omega, by show _ ≤ 7302250; omega⟩ rfl (Nat.le_of_ble_eq_true rfl) ?_
  rcases it_e hf with ⟨c9, hf⟩ | ⟨c9, hf⟩
  · refine e_icmp_eq (pc := 279) (tgt := 1117) C dL_law_279 (by decide) (fun _ => ?_) (fun q => absurd c9 q)
    obtain ⟨x10, ex10, hf⟩ := nn_e hf
    refine e_iinc (pc := 1117) (v := x10) (lv2 := [(3, .int x10), (0, .ref b), (1, .ref v1), (2, .ref v2)]) C hm dL_law_1117 3 rfl (by rw [ex10]; rfl) (by decide) rfl ?_
    refine e_goto (pc := 1120) (tgt := 18) C dL_law_1120 (by decide) ?_
    refine e_lv (lv2 := [(0, .ref b), (1, .ref v1), (2, .ref v2), (3, .int x10)]) [1, 2, 3, 0] rfl ?_
    exact hk x10 h6 _ _ ex10 (by omega) (by omega) hf
  · refine e_icmp_eq (pc := 279) (tgt := 1117) C dL_law_279 (by decide) (fun q => absurd q c9) (fun _ => ?_)
    refine e_iconst (v := (0 : Int32)) (pc := 282) C dL_law_282 (by decide) ?_
    obtain rfl := so_e hf
    exact e_zret (pc := 283) (v := (0 : Int32)) C hr (nz_ok (by decide)) dL_law_283 (by omega) (by omega)
noncomputable def L_case4 (G : GG) (L : Nat) (xs : Nat → Int32) (v1 v2 : Nat) (self_18 : Int32 → AH → Option (Int32 × AH)) (v3 : Int32) (h : AH) : Option (Int32 × AH) :=
ck (¬ (v3 + (1 : Int32) < 0 ∨ L ≤ (v3 + (1 : Int32)).toNatClampNeg)) <|
ck (m_t h v1 = .inl 11) <|
cb (f_X11_force G v1 (xs (v3 + (1 : Int32)).toNatClampNeg) h) fun r5 h3 =>
ck (¬ (v3 + (1 : Int32) < 0 ∨ L ≤ (v3 + (1 : Int32)).toNatClampNeg)) <|
ck (m_t h3 v2 = .inl 12) <|
cb (lf v2 (p_X12_force G (xs (v3 + (1 : Int32)).toNatClampNeg)) h3) fun r10 h8 =>
if r5 = r10 then (nn (v3 + (6 : Int32)) fun x12 =>
self_18 x12 h8) else
some ((0 : Int32), h8)
set_option maxHeartbeats 4000000 in
set_option maxRecDepth 100000 in
theorem el_case4 {G : GG} {p : Program} {l : Launch} {e : Env} {s : State} {m : MethodId} {args : Array Value} {below : List Frame} {meth : Method} {c : Code} {y : Int32 × AH} {b L : Nat} {xs : Nat → Int32} {v1 v2 : Nat} (C : Cx G code RL p s m args meth c) (hm : c.maxLocals = 4) (hr : meth.sig.returnType = some .boolean) (hX : va_X b L xs s s.heap) (hbl : b < s.heap.size) (hB : ¬ G.1 ≤ b) {self_18 : Int32 → AH → Option (Int32 × AH)} {v3 : Int32} {h : AH} {ce sl : Nat} (hce : ce + 40 ≤ 600000) (hsl : sl + 1000 ≤ 7302250) (hk : ∀ (x : Int32) (h : AH) (ce2 sl2 : Nat), x = v3 + 6 → ce2 ≤ ce + 20 → sl2 ≤ sl + 480 → self_18 x h = some y → EE G p l e room_1 s m args below meth c (some (.int y.1), y.2) 600000 7302250 18 [(0, .ref b), (1, .ref v1), (2, .ref v2), (3, .int x)] [] h ce2 sl2) (hf : L_case4 G L xs v1 v2 self_18 v3 h = some y) : EE G p l e room_1 s m args below meth c (some (.int y.1), y.2) 600000 7302250 284 [(0, .ref b), (1, .ref v1), (2, .ref v2), (3, .int v3)] [] h ce sl := by
  unfold L_case4 at hf
  refine e_aload_n (pc := 284) C dL_law_284 1 rfl rfl ?_
  refine e_aload_n (pc := 285) C dL_law_285 0 rfl rfl ?_
  refine e_iload_n (pc := 286) C dL_law_286 3 rfl rfl ?_
  refine e_iconst (v := (1 : Int32)) (pc := 287) C dL_law_287 (by decide) ?_
  refine e_iadd (pc := 288) C dL_law_288 ?_
  obtain ⟨q1, hf⟩ := ck_e hf
  refine e_sldX (pc := 289) C hX hbl hB q1 dL_law_289 ?_
  obtain ⟨t2, hf⟩ := ck_e hf
  obtain ⟨r5, h3, y4, hf⟩ := cb_e hf
  refine e_callVi (pc := 290) (st := []) 11 C (ct_X11_force y4) dL_law_290 (by decide) t2 g895 g896 g897 g146 g898 hd_X11_force rfl ⟨Nat.le_of_ble_eq_true rfl, Nat.le_of_ble_eq_true rfl⟩ ⟨by show _ ≤ 600000; omega, by show _ ≤ 7302250; omega⟩ rfl (Nat.le_of_ble_eq_true rfl) ?_
  refine e_aload_n (pc := 293) C dL_law_293 2 rfl rfl ?_
  refine e_aload_n (pc := 294) C dL_law_294 0 rfl rfl ?_
  refine e_iload_n (pc := 295) C dL_law_295 3 rfl rfl ?_
  refine e_iconst (v := (1 : Int32)) (pc := 296) C dL_law_296 (by decide) ?_
  refine e_iadd (pc := 297) C dL_law_297 ?_
  obtain ⟨q6, hf⟩ := ck_e hf
  refine e_sldX (pc := 298) C hX hbl hB q6 dL_law_298 ?_
  obtain ⟨t7, hf⟩ := ck_e hf
  obtain ⟨r10, h8, y9, hf⟩ := cb_e hf
  refine e_callVi (pc := 299) (st := [.int r5]) 12 C (lf_ct (fun hI => pt_X12_force hI) y9) dL_law_299 (by decide) t7 g1857 g1858 g1859 g157 g1860 hd_X12_force rfl ⟨Nat.le_of_ble_eq_true rfl, Nat.le_of_ble_eq_true rfl⟩ ⟨by show _ ≤ 600000; omega, by show _ ≤ 7302250; omega⟩ rfl (Nat.le_of_ble_eq_true rfl) ?_
  rcases it_e hf with ⟨c11, hf⟩ | ⟨c11, hf⟩
  · refine e_icmp_eq (pc := 302) (tgt := 1117) C dL_law_302 (by decide) (fun _ => ?_) (fun q => absurd c11 q)
    obtain ⟨x12, ex12, hf⟩ := nn_e hf
    refine e_iinc (pc := 1117) (v := x12) (lv2 := [(3, .int x12), (0, .ref b), (1, .ref v1), (2, .ref v2)]) C hm dL_law_1117 3 rfl (by rw [ex12]; rfl) (by decide) rfl ?_
    refine e_goto (pc := 1120) (tgt := 18) C dL_law_1120 (by decide) ?_
    refine e_lv (lv2 := [(0, .ref b), (1, .ref v1), (2, .ref v2), (3, .int x12)]) [1, 2, 3, 0] rfl ?_
    exact hk x12 h8 _ _ ex12 (by omega) (by omega) hf
  · refine e_icmp_eq (pc := 302) (tgt := 1117) C dL_law_302 (by decide) (fun q => absurd q c11) (fun _ => ?_)
    refine e_iconst (v := (0 : Int32)) (pc := 305) C dL_law_305 (by decide) ?_
    obtain rfl := so_e hf
    exact e_zret (pc := 306) (v := (0 : Int32)) C hr (nz_ok (by decide)) dL_law_306 (by omega) (by omega)
noncomputable def L_case5 (G : GG) (L : Nat) (xs : Nat → Int32) (v1 v2 : Nat) (self_18 : Int32 → AH → Option (Int32 × AH)) (v3 : Int32) (h : AH) : Option (Int32 × AH) :=
ck (¬ (v3 + (1 : Int32) < 0 ∨ L ≤ (v3 + (1 : Int32)).toNatClampNeg)) <|
ck (¬ (v3 + (2 : Int32) < 0 ∨ L ≤ (v3 + (2 : Int32)).toNatClampNeg)) <|
ck (m_t h v1 = .inl 11) <|
cb (f_X11_person G v1 (xs (v3 + (1 : Int32)).toNatClampNeg) (xs (v3 + (2 : Int32)).toNatClampNeg) h) fun r6 h4 =>
ck (¬ (v3 + (1 : Int32) < 0 ∨ L ≤ (v3 + (1 : Int32)).toNatClampNeg)) <|
ck (¬ (v3 + (2 : Int32) < 0 ∨ L ≤ (v3 + (2 : Int32)).toNatClampNeg)) <|
ck (m_t h4 v2 = .inl 12) <|
cb (lf v2 (p_X12_person G (xs (v3 + (1 : Int32)).toNatClampNeg) (xs (v3 + (2 : Int32)).toNatClampNeg)) h4) fun r12 h10 =>
if r6 = r12 then (nn (v3 + (6 : Int32)) fun x14 =>
self_18 x14 h10) else
some ((0 : Int32), h10)
set_option maxHeartbeats 4000000 in
set_option maxRecDepth 100000 in
theorem el_case5 {G : GG} {p : Program} {l : Launch} {e : Env} {s : State} {m : MethodId} {args : Array Value} {below : List Frame} {meth : Method} {c : Code} {y : Int32 × AH} {b L : Nat} {xs : Nat → Int32} {v1 v2 : Nat} (C : Cx G code RL p s m args meth c) (hm : c.maxLocals = 4) (hr : meth.sig.returnType = some .boolean) (hX : va_X b L xs s s.heap) (hbl : b < s.heap.size) (hB : ¬ G.1 ≤ b) {self_18 : Int32 → AH → Option (Int32 × AH)} {v3 : Int32} {h : AH} {ce sl : Nat} (hce : ce + 40 ≤ 600000) (hsl : sl + 1000 ≤ 7302250) (hk : ∀ (x : Int32) (h : AH) (ce2 sl2 : Nat), x = v3 + 6 → ce2 ≤ ce + 20 → sl2 ≤ sl + 480 → self_18 x h = some y → EE G p l e room_1 s m args below meth c (some (.int y.1), y.2) 600000 7302250 18 [(0, .ref b), (1, .ref v1), (2, .ref v2), (3, .int x)] [] h ce2 sl2) (hf : L_case5 G L xs v1 v2 self_18 v3 h = some y) : EE G p l e room_1 s m args below meth c (some (.int y.1), y.2) 600000 7302250 307 [(0, .ref b), (1, .ref v1), (2, .ref v2), (3, .int v3)] [] h ce sl := by
  unfold L_case5 at hf
  refine e_aload_n (pc := 307) C dL_law_307 1 rfl rfl ?_
  refine e_aload_n (pc := 308) C dL_law_308 0 rfl rfl ?_
  refine e_iload_n (pc := 309) C dL_law_309 3 rfl rfl ?_
  refine e_iconst (v := (1 : Int32)) (pc := 310) C dL_law_310 (by decide) ?_
  refine e_iadd (pc := 311) C dL_law_311 ?_
  obtain ⟨q1, hf⟩ := ck_e hf
  refine e_sldX (pc := 312) C hX hbl hB q1 dL_law_312 ?_
  refine e_aload_n (pc := 313) C dL_law_313 0 rfl rfl ?_
  refine e_iload_n (pc := 314) C dL_law_314 3 rfl rfl ?_
  refine e_iconst (v := (2 : Int32)) (pc := 315) C dL_law_315 (by decide) ?_
  refine e_iadd (pc := 316) C dL_law_316 ?_
  obtain ⟨q2, hf⟩ := ck_e hf
  refine e_sldX (pc := 317) C hX hbl hB q2 dL_law_317 ?_
  obtain ⟨t3, hf⟩ := ck_e hf
  obtain ⟨r6, h4, y5, hf⟩ := cb_e hf
  refine e_callVi (pc := 318) (st := []) 11 C (ct_X11_person y5) dL_law_318 (by decide) t3 g903 g904 g905 g146 g906 hd_X11_person rfl ⟨Nat.le_of_ble_eq_true rfl, Nat.le_of_ble_eq_true rfl⟩ ⟨by show _ ≤ 600000; omega, by show _ ≤ 7302250; omega⟩ rfl (Nat.le_of_ble_eq_true rfl) ?_
  refine e_aload_n (pc := 321) C dL_law_321 2 rfl rfl ?_
  refine e_aload_n (pc := 322) C dL_law_322 0 rfl rfl ?_
  refine e_iload_n (pc := 323) C dL_law_323 3 rfl rfl ?_
  refine e_iconst (v := (1 : Int32)) (pc := 324) C dL_law_324 (by decide) ?_
  refine e_iadd (pc := 325) C dL_law_325 ?_
  obtain ⟨q7, hf⟩ := ck_e hf
  refine e_sldX (pc := 326) C hX hbl hB q7 dL_law_326 ?_
  refine e_aload_n (pc := 327) C dL_law_327 0 rfl rfl ?_
  refine e_iload_n (pc := 328) C dL_law_328 3 rfl rfl ?_
  refine e_iconst (v := (2 : Int32)) (pc := 329) C dL_law_329 (by decide) ?_
  refine e_iadd (pc := 330) C dL_law_330 ?_
  obtain ⟨q8, hf⟩ := ck_e hf
  refine e_sldX (pc := 331) C hX hbl hB q8 dL_law_331 ?_
  obtain ⟨t9, hf⟩ := ck_e hf
  obtain ⟨r12, h10, y11, hf⟩ := cb_e hf
  refine e_callVi (pc := 332) (st := [.int r6]) 12 C (lf_ct (fun hI => pt_X12_person hI) y11) dL_law_332 (by decide) t9 g1862 g1863 g1864 g157 g1865 hd_X12_person rfl ⟨Nat.le_of_ble_eq_true rfl, Nat.le_of_ble_eq_true rfl⟩ ⟨by show _ ≤ 600000; omega, by show _ ≤ 7302250; omega⟩ rfl (Nat.le_of_ble_eq_true rfl) ?_
  rcases it_e hf with ⟨c13, hf⟩ | ⟨c13, hf⟩
  · refine e_icmp_eq (pc := 335) (tgt := 1117) C dL_law_335 (by decide) (fun _ => ?_) (fun q => absurd c13 q)
    obtain ⟨x14, ex14, hf⟩ := nn_e hf
    refine e_iinc (pc := 1117) (v := x14) (lv2 := [(3, .int x14), (0, .ref b), (1, .ref v1), (2, .ref v2)]) C hm dL_law_1117 3 rfl (by rw [ex14]; rfl) (by decide) rfl ?_
    refine e_goto (pc := 1120) (tgt := 18) C dL_law_1120 (by decide) ?_
    refine e_lv (lv2 := [(0, .ref b), (1, .ref v1), (2, .ref v2), (3, .int x14)]) [1, 2, 3, 0] rfl ?_
    exact hk x14 h10 _ _ ex14 (by omega) (by omega) hf
  · refine e_icmp_eq (pc := 335) (tgt := 1117) C dL_law_335 (by decide) (fun q => absurd q c13) (fun _ => ?_)
    refine e_iconst (v := (0 : Int32)) (pc := 338) C dL_law_338 (by decide) ?_
    obtain rfl := so_e hf
    exact e_zret (pc := 339) (v := (0 : Int32)) C hr (nz_ok (by decide)) dL_law_339 (by omega) (by omega)
noncomputable def L_case6 (G : GG) (L : Nat) (xs : Nat → Int32) (v1 v2 : Nat) (self_18 : Int32 → AH → Option (Int32 × AH)) (v3 : Int32) (h : AH) : Option (Int32 × AH) :=
ck (¬ (v3 + (1 : Int32) < 0 ∨ L ≤ (v3 + (1 : Int32)).toNatClampNeg)) <|
ck (¬ (v3 + (2 : Int32) < 0 ∨ L ≤ (v3 + (2 : Int32)).toNatClampNeg)) <|
ck (m_t h v1 = .inl 11) <|
cb (f_X11_air G v1 (xs (v3 + (1 : Int32)).toNatClampNeg) (xs (v3 + (2 : Int32)).toNatClampNeg) h) fun r6 h4 =>
ck (¬ (v3 + (1 : Int32) < 0 ∨ L ≤ (v3 + (1 : Int32)).toNatClampNeg)) <|
ck (¬ (v3 + (2 : Int32) < 0 ∨ L ≤ (v3 + (2 : Int32)).toNatClampNeg)) <|
ck (m_t h4 v2 = .inl 12) <|
cb (lf v2 (p_X12_air G (xs (v3 + (1 : Int32)).toNatClampNeg) (xs (v3 + (2 : Int32)).toNatClampNeg)) h4) fun r12 h10 =>
if r6 = r12 then (nn (v3 + (6 : Int32)) fun x14 =>
self_18 x14 h10) else
some ((0 : Int32), h10)
set_option maxHeartbeats 4000000 in
set_option maxRecDepth 100000 in
theorem el_case6 {G : GG} {p : Program} {l : Launch} {e : Env} {s : State} {m : MethodId} {args : Array Value} {below : List Frame} {meth : Method} {c : Code} {y : Int32 × AH} {b L : Nat} {xs : Nat → Int32} {v1 v2 : Nat} (C : Cx G code RL p s m args meth c) (hm : c.maxLocals = 4) (hr : meth.sig.returnType = some .boolean) (hX : va_X b L xs s s.heap) (hbl : b < s.heap.size) (hB : ¬ G.1 ≤ b) {self_18 : Int32 → AH → Option (Int32 × AH)} {v3 : Int32} {h : AH} {ce sl : Nat} (hce : ce + 40 ≤ 600000) (hsl : sl + 1000 ≤ 7302250) (hk : ∀ (x : Int32) (h : AH) (ce2 sl2 : Nat), x = v3 + 6 → ce2 ≤ ce + 20 → sl2 ≤ sl + 480 → self_18 x h = some y → EE G p l e room_1 s m args below meth c (some (.int y.1), y.2) 600000 7302250 18 [(0, .ref b), (1, .ref v1), (2, .ref v2), (3, .int x)] [] h ce2 sl2) (hf : L_case6 G L xs v1 v2 self_18 v3 h = some y) : EE G p l e room_1 s m args below meth c (some (.int y.1), y.2) 600000 7302250 340 [(0, .ref b), (1, .ref v1), (2, .ref v2), (3, .int v3)] [] h ce sl := by
  unfold L_case6 at hf
  refine e_aload_n (pc := 340) C dL_law_340 1 rfl rfl ?_
  refine e_aload_n (pc := 341) C dL_law_341 0 rfl rfl ?_
  refine e_iload_n (pc := 342) C dL_law_342 3 rfl rfl ?_
  refine e_iconst (v := (1 : Int32)) (pc := 343) C dL_law_343 (by decide) ?_
  refine e_iadd (pc := 344) C dL_law_344 ?_
  obtain ⟨q1, hf⟩ := ck_e hf
  refine e_sldX (pc := 345) C hX hbl hB q1 dL_law_345 ?_
  refine e_aload_n (pc := 346) C dL_law_346 0 rfl rfl ?_
  refine e_iload_n (pc := 347) C dL_law_347 3 rfl rfl ?_
  refine e_iconst (v := (2 : Int32)) (pc := 348) C dL_law_348 (by decide) ?_
  refine e_iadd (pc := 349) C dL_law_349 ?_
  obtain ⟨q2, hf⟩ := ck_e hf
  refine e_sldX (pc := 350) C hX hbl hB q2 dL_law_350 ?_
  obtain ⟨t3, hf⟩ := ck_e hf
  obtain ⟨r6, h4, y5, hf⟩ := cb_e hf
  refine e_callVi (pc := 351) (st := []) 11 C (ct_X11_air y5) dL_law_351 (by decide) t3 g941 g942 g943 g146 g944 hd_X11_air rfl ⟨Nat.le_of_ble_eq_true rfl, Nat.le_of_ble_eq_true rfl⟩ ⟨by show _ ≤ 600000; omega, by show _ ≤ 7302250; omega⟩ rfl (Nat.le_of_ble_eq_true rfl) ?_
  refine e_aload_n (pc := 354) C dL_law_354 2 rfl rfl ?_
  refine e_aload_n (pc := 355) C dL_law_355 0 rfl rfl ?_
  refine e_iload_n (pc := 356) C dL_law_356 3 rfl rfl ?_
  refine e_iconst (v := (1 : Int32)) (pc := 357) C dL_law_357 (by decide) ?_
  refine e_iadd (pc := 358) C dL_law_358 ?_
  obtain ⟨q7, hf⟩ := ck_e hf
  refine e_sldX (pc := 359) C hX hbl hB q7 dL_law_359 ?_
  refine e_aload_n (pc := 360) C dL_law_360 0 rfl rfl ?_
  refine e_iload_n (pc := 361) C dL_law_361 3 rfl rfl ?_
  refine e_iconst (v := (2 : Int32)) (pc := 362) C dL_law_362 (by decide) ?_
  refine e_iadd (pc := 363) C dL_law_363 ?_
  obtain ⟨q8, hf⟩ := ck_e hf
  refine e_sldX (pc := 364) C hX hbl hB q8 dL_law_364 ?_
  obtain ⟨t9, hf⟩ := ck_e hf
  obtain ⟨r12, h10, y11, hf⟩ := cb_e hf
  refine e_callVi (pc := 365) (st := [.int r6]) 12 C (lf_ct (fun hI => pt_X12_air hI) y11) dL_law_365 (by decide) t9 g1897 g1898 g1899 g157 g1900 hd_X12_air rfl ⟨Nat.le_of_ble_eq_true rfl, Nat.le_of_ble_eq_true rfl⟩ ⟨by show _ ≤ 600000; omega, by show _ ≤ 7302250; omega⟩ rfl (Nat.le_of_ble_eq_true rfl) ?_
  rcases it_e hf with ⟨c13, hf⟩ | ⟨c13, hf⟩
  · refine e_icmp_eq (pc := 368) (tgt := 1117) C dL_law_368 (by decide) (fun _ => ?_) (fun q => absurd c13 q)
    obtain ⟨x14, ex14, hf⟩ := nn_e hf
    refine e_iinc (pc := 1117) (v := x14) (lv2 := [(3, .int x14), (0, .ref b), (1, .ref v1), (2, .ref v2)]) C hm dL_law_1117 3 rfl (by rw [ex14]; rfl) (by decide) rfl ?_
    refine e_goto (pc := 1120) (tgt := 18) C dL_law_1120 (by decide) ?_
    refine e_lv (lv2 := [(0, .ref b), (1, .ref v1), (2, .ref v2), (3, .int x14)]) [1, 2, 3, 0] rfl ?_
    exact hk x14 h10 _ _ ex14 (by omega) (by omega) hf
  · refine e_icmp_eq (pc := 368) (tgt := 1117) C dL_law_368 (by decide) (fun q => absurd q c13) (fun _ => ?_)
    refine e_iconst (v := (0 : Int32)) (pc := 371) C dL_law_371 (by decide) ?_
    obtain rfl := so_e hf
    exact e_zret (pc := 372) (v := (0 : Int32)) C hr (nz_ok (by decide)) dL_law_372 (by omega) (by omega)
noncomputable def L_case7 (G : GG) (L : Nat) (xs : Nat → Int32) (v1 v2 : Nat) (self_18 : Int32 → AH → Option (Int32 × AH)) (v3 : Int32) (h : AH) : Option (Int32 × AH) :=
ck (¬ (v3 + (1 : Int32) < 0 ∨ L ≤ (v3 + (1 : Int32)).toNatClampNeg)) <|
ck (m_t h v1 = .inl 11) <|
cb (f_X11_seat G v1 (xs (v3 + (1 : Int32)).toNatClampNeg) h) fun r5 h3 =>
ck (¬ (v3 + (1 : Int32) < 0 ∨ L ≤ (v3 + (1 : Int32)).toNatClampNeg)) <|
ck (m_t h3 v2 = .inl 12) <|
cb (lf v2 (p_X12_seat G (xs (v3 + (1 : Int32)).toNatClampNeg)) h3) fun r10 h8 =>
if r5 = r10 then (nn (v3 + (6 : Int32)) fun x12 =>
self_18 x12 h8) else
some ((0 : Int32), h8)
set_option maxHeartbeats 4000000 in
set_option maxRecDepth 100000 in
theorem el_case7 {G : GG} {p : Program} {l : Launch} {e : Env} {s : State} {m : MethodId} {args : Array Value} {below : List Frame} {meth : Method} {c : Code} {y : Int32 × AH} {b L : Nat} {xs : Nat → Int32} {v1 v2 : Nat} (C : Cx G code RL p s m args meth c) (hm : c.maxLocals = 4) (hr : meth.sig.returnType = some .boolean) (hX : va_X b L xs s s.heap) (hbl : b < s.heap.size) (hB : ¬ G.1 ≤ b) {self_18 : Int32 → AH → Option (Int32 × AH)} {v3 : Int32} {h : AH} {ce sl : Nat} (hce : ce + 40 ≤ 600000) (hsl : sl + 1000 ≤ 7302250) (hk : ∀ (x : Int32) (h : AH) (ce2 sl2 : Nat), x = v3 + 6 → ce2 ≤ ce + 20 → sl2 ≤ sl + 480 → self_18 x h = some y → EE G p l e room_1 s m args below meth c (some (.int y.1), y.2) 600000 7302250 18 [(0, .ref b), (1, .ref v1), (2, .ref v2), (3, .int x)] [] h ce2 sl2) (hf : L_case7 G L xs v1 v2 self_18 v3 h = some y) : EE G p l e room_1 s m args below meth c (some (.int y.1), y.2) 600000 7302250 373 [(0, .ref b), (1, .ref v1), (2, .ref v2), (3, .int v3)] [] h ce sl := by
  unfold L_case7 at hf
  refine e_aload_n (pc := 373) C dL_law_373 1 rfl rfl ?_
  refine e_aload_n (pc := 374) C dL_law_374 0 rfl rfl ?_
  refine e_iload_n (pc := 375) C dL_law_375 3 rfl rfl ?_
  refine e_iconst (v := (1 : Int32)) (pc := 376) C dL_law_376 (by decide) ?_
  refine e_iadd (pc := 377) C dL_law_377 ?_
  obtain ⟨q1, hf⟩ := ck_e hf
  refine e_sldX (pc := 378) C hX hbl hB q1 dL_law_378 ?_
  obtain ⟨t2, hf⟩ := ck_e hf
  obtain ⟨r5, h3, y4, hf⟩ := cb_e hf
  refine e_callVi (pc := 379) (st := []) 11 C (ct_X11_seat y4) dL_law_379 (by decide) t2 g952 g953 g954 g146 g955 hd_X11_seat rfl ⟨Nat.le_of_ble_eq_true rfl, Nat.le_of_ble_eq_true rfl⟩ ⟨by show _ ≤ 600000; omega, by show _ ≤ 7302250; omega⟩ rfl (Nat.le_of_ble_eq_true rfl) ?_
  refine e_aload_n (pc := 382) C dL_law_382 2 rfl rfl ?_
  refine e_aload_n (pc := 383) C dL_law_383 0 rfl rfl ?_
  refine e_iload_n (pc := 384) C dL_law_384 3 rfl rfl ?_
  refine e_iconst (v := (1 : Int32)) (pc := 385) C dL_law_385 (by decide) ?_
  refine e_iadd (pc := 386) C dL_law_386 ?_
  obtain ⟨q6, hf⟩ := ck_e hf
  refine e_sldX (pc := 387) C hX hbl hB q6 dL_law_387 ?_
  obtain ⟨t7, hf⟩ := ck_e hf
  obtain ⟨r10, h8, y9, hf⟩ := cb_e hf
  refine e_callVi (pc := 388) (st := [.int r5]) 12 C (lf_ct (fun hI => pt_X12_seat hI) y9) dL_law_388 (by decide) t7 g1903 g1904 g1905 g157 g1906 hd_X12_seat rfl ⟨Nat.le_of_ble_eq_true rfl, Nat.le_of_ble_eq_true rfl⟩ ⟨by show _ ≤ 600000; omega, by show _ ≤ 7302250; omega⟩ rfl (Nat.le_of_ble_eq_true rfl) ?_
  rcases it_e hf with ⟨c11, hf⟩ | ⟨c11, hf⟩
  · refine e_icmp_eq (pc := 391) (tgt := 1117) C dL_law_391 (by decide) (fun _ => ?_) (fun q => absurd c11 q)
    obtain ⟨x12, ex12, hf⟩ := nn_e hf
    refine e_iinc (pc := 1117) (v := x12) (lv2 := [(3, .int x12), (0, .ref b), (1, .ref v1), (2, .ref v2)]) C hm dL_law_1117 3 rfl (by rw [ex12]; rfl) (by decide) rfl ?_
    refine e_goto (pc := 1120) (tgt := 18) C dL_law_1120 (by decide) ?_
    refine e_lv (lv2 := [(0, .ref b), (1, .ref v1), (2, .ref v2), (3, .int x12)]) [1, 2, 3, 0] rfl ?_
    exact hk x12 h8 _ _ ex12 (by omega) (by omega) hf
  · refine e_icmp_eq (pc := 391) (tgt := 1117) C dL_law_391 (by decide) (fun q => absurd q c11) (fun _ => ?_)
    refine e_iconst (v := (0 : Int32)) (pc := 394) C dL_law_394 (by decide) ?_
    obtain rfl := so_e hf
    exact e_zret (pc := 395) (v := (0 : Int32)) C hr (nz_ok (by decide)) dL_law_395 (by omega) (by omega)
noncomputable def L_case8 (G : GG) (L : Nat) (xs : Nat → Int32) (v1 v2 : Nat) (self_18 : Int32 → AH → Option (Int32 × AH)) (v3 : Int32) (h : AH) : Option (Int32 × AH) :=
ck (¬ (v3 + (1 : Int32) < 0 ∨ L ≤ (v3 + (1 : Int32)).toNatClampNeg)) <|
ck (¬ (v3 + (2 : Int32) < 0 ∨ L ≤ (v3 + (2 : Int32)).toNatClampNeg)) <|
ck (m_t h v1 = .inl 11) <|
cb (f_X11_stretch G v1 (xs (v3 + (1 : Int32)).toNatClampNeg) (xs (v3 + (2 : Int32)).toNatClampNeg) h) fun r6 h4 =>
ck (¬ (v3 + (1 : Int32) < 0 ∨ L ≤ (v3 + (1 : Int32)).toNatClampNeg)) <|
ck (¬ (v3 + (2 : Int32) < 0 ∨ L ≤ (v3 + (2 : Int32)).toNatClampNeg)) <|
ck (m_t h4 v2 = .inl 12) <|
cb (lf v2 (p_X12_stretch G (xs (v3 + (1 : Int32)).toNatClampNeg) (xs (v3 + (2 : Int32)).toNatClampNeg)) h4) fun r12 h10 =>
if r6 = r12 then (nn (v3 + (6 : Int32)) fun x14 =>
self_18 x14 h10) else
some ((0 : Int32), h10)
set_option maxHeartbeats 4000000 in
set_option maxRecDepth 100000 in
theorem el_case8 {G : GG} {p : Program} {l : Launch} {e : Env} {s : State} {m : MethodId} {args : Array Value} {below : List Frame} {meth : Method} {c : Code} {y : Int32 × AH} {b L : Nat} {xs : Nat → Int32} {v1 v2 : Nat} (C : Cx G code RL p s m args meth c) (hm : c.maxLocals = 4) (hr : meth.sig.returnType = some .boolean) (hX : va_X b L xs s s.heap) (hbl : b < s.heap.size) (hB : ¬ G.1 ≤ b) {self_18 : Int32 → AH → Option (Int32 × AH)} {v3 : Int32} {h : AH} {ce sl : Nat} (hce : ce + 40 ≤ 600000) (hsl : sl + 1000 ≤ 7302250) (hk : ∀ (x : Int32) (h : AH) (ce2 sl2 : Nat), x = v3 + 6 → ce2 ≤ ce + 20 → sl2 ≤ sl + 480 → self_18 x h = some y → EE G p l e room_1 s m args below meth c (some (.int y.1), y.2) 600000 7302250 18 [(0, .ref b), (1, .ref v1), (2, .ref v2), (3, .int x)] [] h ce2 sl2) (hf : L_case8 G L xs v1 v2 self_18 v3 h = some y) : EE G p l e room_1 s m args below meth c (some (.int y.1), y.2) 600000 7302250 396 [(0, .ref b), (1, .ref v1), (2, .ref v2), (3, .int v3)] [] h ce sl := by
  unfold L_case8 at hf
  refine e_aload_n (pc := 396) C dL_law_396 1 rfl rfl ?_
  refine e_aload_n (pc := 397) C dL_law_397 0 rfl rfl ?_
  refine e_iload_n (pc := 398) C dL_law_398 3 rfl rfl ?_
  refine e_iconst (v := (1 : Int32)) (pc := 399) C dL_law_399 (by decide) ?_
  refine e_iadd (pc := 400) C dL_law_400 ?_
  obtain ⟨q1, hf⟩ := ck_e hf
  refine e_sldX (pc := 401) C hX hbl hB q1 dL_law_401 ?_
  refine e_aload_n (pc := 402) C dL_law_402 0 rfl rfl ?_
  refine e_iload_n (pc := 403) C dL_law_403 3 rfl rfl ?_
  refine e_iconst (v := (2 : Int32)) (pc := 404) C dL_law_404 (by decide) ?_
  refine e_iadd (pc := 405) C dL_law_405 ?_
  obtain ⟨q2, hf⟩ := ck_e hf
  refine e_sldX (pc := 406) C hX hbl hB q2 dL_law_406 ?_
  obtain ⟨t3, hf⟩ := ck_e hf
  obtain ⟨r6, h4, y5, hf⟩ := cb_e hf
  refine e_callVi (pc := 407) (st := []) 11 C (ct_X11_stretch y5) dL_law_407 (by decide) t3 g964 g965 g966 g146 g967 hd_X11_stretch rfl ⟨Nat.le_of_ble_eq_true rfl, Nat.le_of_ble_eq_true rfl⟩ ⟨by show _ ≤ 600000; omega, by show _ ≤ 7302250; omega⟩ rfl (Nat.le_of_ble_eq_true rfl) ?_
  refine e_aload_n (pc := 410) C dL_law_410 2 rfl rfl ?_
  refine e_aload_n (pc := 411) C dL_law_411 0 rfl rfl ?_
  refine e_iload_n (pc := 412) C dL_law_412 3 rfl rfl ?_
  refine e_iconst (v := (1 : Int32)) (pc := 413) C dL_law_413 (by decide) ?_
  refine e_iadd (pc := 414) C dL_law_414 ?_
  obtain ⟨q7, hf⟩ := ck_e hf
  refine e_sldX (pc := 415) C hX hbl hB q7 dL_law_415 ?_
  refine e_aload_n (pc := 416) C dL_law_416 0 rfl rfl ?_
  refine e_iload_n (pc := 417) C dL_law_417 3 rfl rfl ?_
  refine e_iconst (v := (2 : Int32)) (pc := 418) C dL_law_418 (by decide) ?_
  refine e_iadd (pc := 419) C dL_law_419 ?_
  obtain ⟨q8, hf⟩ := ck_e hf
  refine e_sldX (pc := 420) C hX hbl hB q8 dL_law_420 ?_
  obtain ⟨t9, hf⟩ := ck_e hf
  obtain ⟨r12, h10, y11, hf⟩ := cb_e hf
  refine e_callVi (pc := 421) (st := [.int r6]) 12 C (lf_ct (fun hI => pt_X12_stretch hI) y11) dL_law_421 (by decide) t9 g1911 g1912 g1913 g157 g1914 hd_X12_stretch rfl ⟨Nat.le_of_ble_eq_true rfl, Nat.le_of_ble_eq_true rfl⟩ ⟨by show _ ≤ 600000; omega, by show _ ≤ 7302250; omega⟩ rfl (Nat.le_of_ble_eq_true rfl) ?_
  rcases it_e hf with ⟨c13, hf⟩ | ⟨c13, hf⟩
  · refine e_icmp_eq (pc := 424) (tgt := 1117) C dL_law_424 (by decide) (fun _ => ?_) (fun q => absurd c13 q)
    obtain ⟨x14, ex14, hf⟩ := nn_e hf
    refine e_iinc (pc := 1117) (v := x14) (lv2 := [(3, .int x14), (0, .ref b), (1, .ref v1), (2, .ref v2)]) C hm dL_law_1117 3 rfl (by rw [ex14]; rfl) (by decide) rfl ?_
    refine e_goto (pc := 1120) (tgt := 18) C dL_law_1120 (by decide) ?_
    refine e_lv (lv2 := [(0, .ref b), (1, .ref v1), (2, .ref v2), (3, .int x14)]) [1, 2, 3, 0] rfl ?_
    exact hk x14 h10 _ _ ex14 (by omega) (by omega) hf
  · refine e_icmp_eq (pc := 424) (tgt := 1117) C dL_law_424 (by decide) (fun q => absurd q c13) (fun _ => ?_)
    refine e_iconst (v := (0 : Int32)) (pc := 427) C dL_law_427 (by decide) ?_
    obtain rfl := so_e hf
    exact e_zret (pc := 428) (v := (0 : Int32)) C hr (nz_ok (by decide)) dL_law_428 (by omega) (by omega)
noncomputable def L_case9 (G : GG) (L : Nat) (xs : Nat → Int32) (v1 v2 : Nat) (self_18 : Int32 → AH → Option (Int32 × AH)) (v3 : Int32) (h : AH) : Option (Int32 × AH) :=
ck (m_t h v1 = .inl 11) <|
cb (f_X11_mile G v1 h) fun r4 h2 =>
ck (m_t h2 v2 = .inl 12) <|
cb (lf v2 (p_X12_mile G) h2) fun r8 h6 =>
if r4 = r8 then (nn (v3 + (6 : Int32)) fun x10 =>
self_18 x10 h6) else
some ((0 : Int32), h6)
set_option maxHeartbeats 4000000 in
set_option maxRecDepth 100000 in
theorem el_case9 {G : GG} {p : Program} {l : Launch} {e : Env} {s : State} {m : MethodId} {args : Array Value} {below : List Frame} {meth : Method} {c : Code} {y : Int32 × AH} {b L : Nat} {xs : Nat → Int32} {v1 v2 : Nat} (C : Cx G code RL p s m args meth c) (hm : c.maxLocals = 4) (hr : meth.sig.returnType = some .boolean) (hX : va_X b L xs s s.heap) (hbl : b < s.heap.size) (hB : ¬ G.1 ≤ b) {self_18 : Int32 → AH → Option (Int32 × AH)} {v3 : Int32} {h : AH} {ce sl : Nat} (hce : ce + 40 ≤ 600000) (hsl : sl + 1000 ≤ 7302250) (hk : ∀ (x : Int32) (h : AH) (ce2 sl2 : Nat), x = v3 + 6 → ce2 ≤ ce + 20 → sl2 ≤ sl + 480 → self_18 x h = some y → EE G p l e room_1 s m args below meth c (some (.int y.1), y.2) 600000 7302250 18 [(0, .ref b), (1, .ref v1), (2, .ref v2), (3, .int x)] [] h ce2 sl2) (hf : L_case9 G L xs v1 v2 self_18 v3 h = some y) : EE G p l e room_1 s m args below meth c (some (.int y.1), y.2) 600000 7302250 429 [(0, .ref b), (1, .ref v1), (2, .ref v2), (3, .int v3)] [] h ce sl := by
  unfold L_case9 at hf
  refine e_aload_n (pc := 429) C dL_law_429 1 rfl rfl ?_
  obtain ⟨t1, hf⟩ := ck_e hf
  obtain ⟨r4, h2, y3, hf⟩ := cb_e hf
  refine e_callVi (pc := 430) (st := []) 11 C (ct_X11_mile y3) dL_law_430 (by decide) t1 g973 g974 g975 g146 g976 hd_X11_mile rfl ⟨Nat.le_of_ble_eq_true rfl, Nat.le_of_ble_eq_true rfl⟩ ⟨by show _ ≤ 600000; omega, by show _ ≤ 7302250; omega⟩ rfl (Nat.le_of_ble_eq_true rfl) ?_
  refine e_aload_n (pc := 433) C dL_law_433 2 rfl rfl ?_
  obtain ⟨t5, hf⟩ := ck_e hf
  obtain ⟨r8, h6, y7, hf⟩ := cb_e hf
  refine e_callVi (pc := 434) (st := [.int r4]) 12 C (lf_ct (fun hI => pt_X12_mile hI) y7) dL_law_434 (by decide) t5 g1936 g1937 g1938 g157 g1939 hd_X12_mile rfl ⟨Nat.le_of_ble_eq_true rfl, Nat.le_of_ble_eq_true rfl⟩ ⟨by show _ ≤ 600000; omega, by show _ ≤ 7302250; omega⟩ rfl (Nat.le_of_ble_eq_true rfl) ?_
  rcases it_e hf with ⟨c9, hf⟩ | ⟨c9, hf⟩
  · refine e_icmp_eq (pc := 437) (tgt := 1117) C dL_law_437 (by decide) (fun _ => ?_) (fun q => absurd c9 q)
    obtain ⟨x10, ex10, hf⟩ := nn_e hf
    refine e_iinc (pc := 1117) (v := x10) (lv2 := [(3, .int x10), (0, .ref b), (1, .ref v1), (2, .ref v2)]) C hm dL_law_1117 3 rfl (by rw [ex10]; rfl) (by decide) rfl ?_
    refine e_goto (pc := 1120) (tgt := 18) C dL_law_1120 (by decide) ?_
    refine e_lv (lv2 := [(0, .ref b), (1, .ref v1), (2, .ref v2), (3, .int x10)]) [1, 2, 3, 0] rfl ?_
    exact hk x10 h6 _ _ ex10 (by omega) (by omega) hf
  · refine e_icmp_eq (pc := 437) (tgt := 1117) C dL_law_437 (by decide) (fun q => absurd q c9) (fun _ => ?_)
    refine e_iconst (v := (0 : Int32)) (pc := 440) C dL_law_440 (by decide) ?_
    obtain rfl := so_e hf
    exact e_zret (pc := 441) (v := (0 : Int32)) C hr (nz_ok (by decide)) dL_law_441 (by omega) (by omega)
noncomputable def L_case10 (G : GG) (L : Nat) (xs : Nat → Int32) (v1 v2 : Nat) (self_18 : Int32 → AH → Option (Int32 × AH)) (v3 : Int32) (h : AH) : Option (Int32 × AH) :=
ck (¬ (v3 + (1 : Int32) < 0 ∨ L ≤ (v3 + (1 : Int32)).toNatClampNeg)) <|
ck (m_t h v1 = .inl 11) <|
cb (f_X11_pull G v1 (xs (v3 + (1 : Int32)).toNatClampNeg) h) fun r5 h3 =>
ck (¬ (v3 + (1 : Int32) < 0 ∨ L ≤ (v3 + (1 : Int32)).toNatClampNeg)) <|
ck (m_t h3 v2 = .inl 12) <|
cb (lf v2 (p_X12_pull G (xs (v3 + (1 : Int32)).toNatClampNeg)) h3) fun r10 h8 =>
if r5 = r10 then (nn (v3 + (6 : Int32)) fun x12 =>
self_18 x12 h8) else
some ((0 : Int32), h8)
set_option maxHeartbeats 4000000 in
set_option maxRecDepth 100000 in
theorem el_case10 {G : GG} {p : Program} {l : Launch} {e : Env} {s : State} {m : MethodId} {args : Array Value} {below : List Frame} {meth : Method} {c : Code} {y : Int32 × AH} {b L : Nat} {xs : Nat → Int32} {v1 v2 : Nat} (C : Cx G code RL p s m args meth c) (hm : c.maxLocals = 4) (hr : meth.sig.returnType = some .boolean) (hX : va_X b L xs s s.heap) (hbl : b < s.heap.size) (hB : ¬ G.1 ≤ b) {self_18 : Int32 → AH → Option (Int32 × AH)} {v3 : Int32} {h : AH} {ce sl : Nat} (hce : ce + 40 ≤ 600000) (hsl : sl + 1000 ≤ 7302250) (hk : ∀ (x : Int32) (h : AH) (ce2 sl2 : Nat), x = v3 + 6 → ce2 ≤ ce + 20 → sl2 ≤ sl + 480 → self_18 x h = some y → EE G p l e room_1 s m args below meth c (some (.int y.1), y.2) 600000 7302250 18 [(0, .ref b), (1, .ref v1), (2, .ref v2), (3, .int x)] [] h ce2 sl2) (hf : L_case10 G L xs v1 v2 self_18 v3 h = some y) : EE G p l e room_1 s m args below meth c (some (.int y.1), y.2) 600000 7302250 442 [(0, .ref b), (1, .ref v1), (2, .ref v2), (3, .int v3)] [] h ce sl := by
  unfold L_case10 at hf
  refine e_aload_n (pc := 442) C dL_law_442 1 rfl rfl ?_
  refine e_aload_n (pc := 443) C dL_law_443 0 rfl rfl ?_
  refine e_iload_n (pc := 444) C dL_law_444 3 rfl rfl ?_
  refine e_iconst (v := (1 : Int32)) (pc := 445) C dL_law_445 (by decide) ?_
  refine e_iadd (pc := 446) C dL_law_446 ?_
  obtain ⟨q1, hf⟩ := ck_e hf
  refine e_sldX (pc := 447) C hX hbl hB q1 dL_law_447 ?_
  obtain ⟨t2, hf⟩ := ck_e hf
  obtain ⟨r5, h3, y4, hf⟩ := cb_e hf
  refine e_callVi (pc := 448) (st := []) 11 C (ct_X11_pull y4) dL_law_448 (by decide) t2 g1074 g1075 g1076 g146 g1077 hd_X11_pull rfl ⟨Nat.le_of_ble_eq_true rfl, Nat.le_of_ble_eq_true rfl⟩ ⟨by show _ ≤ 600000; omega, by show _ ≤ 7302250; omega⟩ rfl (Nat.le_of_ble_eq_true rfl) ?_
  refine e_aload_n (pc := 451) C dL_law_451 2 rfl rfl ?_
  refine e_aload_n (pc := 452) C dL_law_452 0 rfl rfl ?_
  refine e_iload_n (pc := 453) C dL_law_453 3 rfl rfl ?_
  refine e_iconst (v := (1 : Int32)) (pc := 454) C dL_law_454 (by decide) ?_
  refine e_iadd (pc := 455) C dL_law_455 ?_
  obtain ⟨q6, hf⟩ := ck_e hf
  refine e_sldX (pc := 456) C hX hbl hB q6 dL_law_456 ?_
  obtain ⟨t7, hf⟩ := ck_e hf
  obtain ⟨r10, h8, y9, hf⟩ := cb_e hf
  refine e_callVi (pc := 457) (st := [.int r5]) 12 C (lf_ct (fun hI => pt_X12_pull hI) y9) dL_law_457 (by decide) t7 g2000 g2001 g2002 g157 g2003 hd_X12_pull rfl ⟨Nat.le_of_ble_eq_true rfl, Nat.le_of_ble_eq_true rfl⟩ ⟨by show _ ≤ 600000; omega, by show _ ≤ 7302250; omega⟩ rfl (Nat.le_of_ble_eq_true rfl) ?_
  rcases it_e hf with ⟨c11, hf⟩ | ⟨c11, hf⟩
  · refine e_icmp_eq (pc := 460) (tgt := 1117) C dL_law_460 (by decide) (fun _ => ?_) (fun q => absurd c11 q)
    obtain ⟨x12, ex12, hf⟩ := nn_e hf
    refine e_iinc (pc := 1117) (v := x12) (lv2 := [(3, .int x12), (0, .ref b), (1, .ref v1), (2, .ref v2)]) C hm dL_law_1117 3 rfl (by rw [ex12]; rfl) (by decide) rfl ?_
    refine e_goto (pc := 1120) (tgt := 18) C dL_law_1120 (by decide) ?_
    refine e_lv (lv2 := [(0, .ref b), (1, .ref v1), (2, .ref v2), (3, .int x12)]) [1, 2, 3, 0] rfl ?_
    exact hk x12 h8 _ _ ex12 (by omega) (by omega) hf
  · refine e_icmp_eq (pc := 460) (tgt := 1117) C dL_law_460 (by decide) (fun q => absurd q c11) (fun _ => ?_)
    refine e_iconst (v := (0 : Int32)) (pc := 463) C dL_law_463 (by decide) ?_
    obtain rfl := so_e hf
    exact e_zret (pc := 464) (v := (0 : Int32)) C hr (nz_ok (by decide)) dL_law_464 (by omega) (by omega)
noncomputable def L_case11 (G : GG) (L : Nat) (xs : Nat → Int32) (v1 v2 : Nat) (self_18 : Int32 → AH → Option (Int32 × AH)) (v3 : Int32) (h : AH) : Option (Int32 × AH) :=
ck (¬ (v3 + (1 : Int32) < 0 ∨ L ≤ (v3 + (1 : Int32)).toNatClampNeg)) <|
ck (m_t h v1 = .inl 11) <|
cb (f_X11_turn G v1 (xs (v3 + (1 : Int32)).toNatClampNeg) h) fun r5 h3 =>
ck (¬ (v3 + (1 : Int32) < 0 ∨ L ≤ (v3 + (1 : Int32)).toNatClampNeg)) <|
ck (m_t h3 v2 = .inl 12) <|
cb (lf v2 (p_X12_turn G (xs (v3 + (1 : Int32)).toNatClampNeg)) h3) fun r10 h8 =>
if r5 = r10 then (nn (v3 + (6 : Int32)) fun x12 =>
self_18 x12 h8) else
some ((0 : Int32), h8)
set_option maxHeartbeats 4000000 in
set_option maxRecDepth 100000 in
theorem el_case11 {G : GG} {p : Program} {l : Launch} {e : Env} {s : State} {m : MethodId} {args : Array Value} {below : List Frame} {meth : Method} {c : Code} {y : Int32 × AH} {b L : Nat} {xs : Nat → Int32} {v1 v2 : Nat} (C : Cx G code RL p s m args meth c) (hm : c.maxLocals = 4) (hr : meth.sig.returnType = some .boolean) (hX : va_X b L xs s s.heap) (hbl : b < s.heap.size) (hB : ¬ G.1 ≤ b) {self_18 : Int32 → AH → Option (Int32 × AH)} {v3 : Int32} {h : AH} {ce sl : Nat} (hce : ce + 40 ≤ 600000) (hsl : sl + 1000 ≤ 7302250) (hk : ∀ (x : Int32) (h : AH) (ce2 sl2 : Nat), x = v3 + 6 → ce2 ≤ ce + 20 → sl2 ≤ sl + 480 → self_18 x h = some y → EE G p l e room_1 s m args below meth c (some (.int y.1), y.2) 600000 7302250 18 [(0, .ref b), (1, .ref v1), (2, .ref v2), (3, .int x)] [] h ce2 sl2) (hf : L_case11 G L xs v1 v2 self_18 v3 h = some y) : EE G p l e room_1 s m args below meth c (some (.int y.1), y.2) 600000 7302250 465 [(0, .ref b), (1, .ref v1), (2, .ref v2), (3, .int v3)] [] h ce sl := by
  unfold L_case11 at hf
  refine e_aload_n (pc := 465) C dL_law_465 1 rfl rfl ?_
  refine e_aload_n (pc := 466) C dL_law_466 0 rfl rfl ?_
  refine e_iload_n (pc := 467) C dL_law_467 3 rfl rfl ?_
  refine e_iconst (v := (1 : Int32)) (pc := 468) C dL_law_468 (by decide) ?_
  refine e_iadd (pc := 469) C dL_law_469 ?_
  obtain ⟨q1, hf⟩ := ck_e hf
  refine e_sldX (pc := 470) C hX hbl hB q1 dL_law_470 ?_
  obtain ⟨t2, hf⟩ := ck_e hf
  obtain ⟨r5, h3, y4, hf⟩ := cb_e hf
  refine e_callVi (pc := 471) (st := []) 11 C (ct_X11_turn y4) dL_law_471 (by decide) t2 g1078 g1079 g1080 g146 g1081 hd_X11_turn rfl ⟨Nat.le_of_ble_eq_true rfl, Nat.le_of_ble_eq_true rfl⟩ ⟨by show _ ≤ 600000; omega, by show _ ≤ 7302250; omega⟩ rfl (Nat.le_of_ble_eq_true rfl) ?_
  refine e_aload_n (pc := 474) C dL_law_474 2 rfl rfl ?_
  refine e_aload_n (pc := 475) C dL_law_475 0 rfl rfl ?_
  refine e_iload_n (pc := 476) C dL_law_476 3 rfl rfl ?_
  refine e_iconst (v := (1 : Int32)) (pc := 477) C dL_law_477 (by decide) ?_
  refine e_iadd (pc := 478) C dL_law_478 ?_
  obtain ⟨q6, hf⟩ := ck_e hf
  refine e_sldX (pc := 479) C hX hbl hB q6 dL_law_479 ?_
  obtain ⟨t7, hf⟩ := ck_e hf
  obtain ⟨r10, h8, y9, hf⟩ := cb_e hf
  refine e_callVi (pc := 480) (st := [.int r5]) 12 C (lf_ct (fun hI => pt_X12_turn hI) y9) dL_law_480 (by decide) t7 g2004 g2005 g2006 g157 g2007 hd_X12_turn rfl ⟨Nat.le_of_ble_eq_true rfl, Nat.le_of_ble_eq_true rfl⟩ ⟨by show _ ≤ 600000; omega, by show _ ≤ 7302250; omega⟩ rfl (Nat.le_of_ble_eq_true rfl) ?_
  rcases it_e hf with ⟨c11, hf⟩ | ⟨c11, hf⟩
  · refine e_icmp_eq (pc := 483) (tgt := 1117) C dL_law_483 (by decide) (fun _ => ?_) (fun q => absurd c11 q)
    obtain ⟨x12, ex12, hf⟩ := nn_e hf
    refine e_iinc (pc := 1117) (v := x12) (lv2 := [(3, .int x12), (0, .ref b), (1, .ref v1), (2, .ref v2)]) C hm dL_law_1117 3 rfl (by rw [ex12]; rfl) (by decide) rfl ?_
    refine e_goto (pc := 1120) (tgt := 18) C dL_law_1120 (by decide) ?_
    refine e_lv (lv2 := [(0, .ref b), (1, .ref v1), (2, .ref v2), (3, .int x12)]) [1, 2, 3, 0] rfl ?_
    exact hk x12 h8 _ _ ex12 (by omega) (by omega) hf
  · refine e_icmp_eq (pc := 483) (tgt := 1117) C dL_law_483 (by decide) (fun q => absurd q c11) (fun _ => ?_)
    refine e_iconst (v := (0 : Int32)) (pc := 486) C dL_law_486 (by decide) ?_
    obtain rfl := so_e hf
    exact e_zret (pc := 487) (v := (0 : Int32)) C hr (nz_ok (by decide)) dL_law_487 (by omega) (by omega)
noncomputable def L_case12 (G : GG) (L : Nat) (xs : Nat → Int32) (v1 v2 : Nat) (self_18 : Int32 → AH → Option (Int32 × AH)) (v3 : Int32) (h : AH) : Option (Int32 × AH) :=
ck (¬ (v3 + (1 : Int32) < 0 ∨ L ≤ (v3 + (1 : Int32)).toNatClampNeg)) <|
ck (¬ (v3 + (2 : Int32) < 0 ∨ L ≤ (v3 + (2 : Int32)).toNatClampNeg)) <|
ck (m_t h v1 = .inl 11) <|
cb (f_X11_seats G v1 (xs (v3 + (1 : Int32)).toNatClampNeg) (xs (v3 + (2 : Int32)).toNatClampNeg) h) fun r6 h4 =>
ck (¬ (v3 + (1 : Int32) < 0 ∨ L ≤ (v3 + (1 : Int32)).toNatClampNeg)) <|
ck (¬ (v3 + (2 : Int32) < 0 ∨ L ≤ (v3 + (2 : Int32)).toNatClampNeg)) <|
ck (m_t h4 v2 = .inl 12) <|
cb (lf v2 (p_X12_seats G (xs (v3 + (1 : Int32)).toNatClampNeg) (xs (v3 + (2 : Int32)).toNatClampNeg)) h4) fun r12 h10 =>
if r6 = r12 then (nn (v3 + (6 : Int32)) fun x14 =>
self_18 x14 h10) else
some ((0 : Int32), h10)
set_option maxHeartbeats 4000000 in
set_option maxRecDepth 100000 in
theorem el_case12 {G : GG} {p : Program} {l : Launch} {e : Env} {s : State} {m : MethodId} {args : Array Value} {below : List Frame} {meth : Method} {c : Code} {y : Int32 × AH} {b L : Nat} {xs : Nat → Int32} {v1 v2 : Nat} (C : Cx G code RL p s m args meth c) (hm : c.maxLocals = 4) (hr : meth.sig.returnType = some .boolean) (hX : va_X b L xs s s.heap) (hbl : b < s.heap.size) (hB : ¬ G.1 ≤ b) {self_18 : Int32 → AH → Option (Int32 × AH)} {v3 : Int32} {h : AH} {ce sl : Nat} (hce : ce + 40 ≤ 600000) (hsl : sl + 1000 ≤ 7302250) (hk : ∀ (x : Int32) (h : AH) (ce2 sl2 : Nat), x = v3 + 6 → ce2 ≤ ce + 20 → sl2 ≤ sl + 480 → self_18 x h = some y → EE G p l e room_1 s m args below meth c (some (.int y.1), y.2) 600000 7302250 18 [(0, .ref b), (1, .ref v1), (2, .ref v2), (3, .int x)] [] h ce2 sl2) (hf : L_case12 G L xs v1 v2 self_18 v3 h = some y) : EE G p l e room_1 s m args below meth c (some (.int y.1), y.2) 600000 7302250 488 [(0, .ref b), (1, .ref v1), (2, .ref v2), (3, .int v3)] [] h ce sl := by
  unfold L_case12 at hf
  refine e_aload_n (pc := 488) C dL_law_488 1 rfl rfl ?_
  refine e_aload_n (pc := 489) C dL_law_489 0 rfl rfl ?_
  refine e_iload_n (pc := 490) C dL_law_490 3 rfl rfl ?_
  refine e_iconst (v := (1 : Int32)) (pc := 491) C dL_law_491 (by decide) ?_
  refine e_iadd (pc := 492) C dL_law_492 ?_
  obtain ⟨q1, hf⟩ := ck_e hf
  refine e_sldX (pc := 493) C hX hbl hB q1 dL_law_493 ?_
  refine e_aload_n (pc := 494) C dL_law_494 0 rfl rfl ?_
  refine e_iload_n (pc := 495) C dL_law_495 3 rfl rfl ?_
  refine e_iconst (v := (2 : Int32)) (pc := 496) C dL_law_496 (by decide) ?_
  refine e_iadd (pc := 497) C dL_law_497 ?_
  obtain ⟨q2, hf⟩ := ck_e hf
  refine e_sldX (pc := 498) C hX hbl hB q2 dL_law_498 ?_
  obtain ⟨t3, hf⟩ := ck_e hf
  obtain ⟨r6, h4, y5, hf⟩ := cb_e hf
  refine e_callVi (pc := 499) (st := []) 11 C (ct_X11_seats y5) dL_law_499 (by decide) t3 g1086 g1087 g1088 g146 g1089 hd_X11_seats rfl ⟨Nat.le_of_ble_eq_true rfl, Nat.le_of_ble_eq_true rfl⟩ ⟨by show _ ≤ 600000; omega, by show _ ≤ 7302250; omega⟩ rfl (Nat.le_of_ble_eq_true rfl) ?_
  refine e_aload_n (pc := 502) C dL_law_502 2 rfl rfl ?_
  refine e_aload_n (pc := 503) C dL_law_503 0 rfl rfl ?_
  refine e_iload_n (pc := 504) C dL_law_504 3 rfl rfl ?_
  refine e_iconst (v := (1 : Int32)) (pc := 505) C dL_law_505 (by decide) ?_
  refine e_iadd (pc := 506) C dL_law_506 ?_
  obtain ⟨q7, hf⟩ := ck_e hf
  refine e_sldX (pc := 507) C hX hbl hB q7 dL_law_507 ?_
  refine e_aload_n (pc := 508) C dL_law_508 0 rfl rfl ?_
  refine e_iload_n (pc := 509) C dL_law_509 3 rfl rfl ?_
  refine e_iconst (v := (2 : Int32)) (pc := 510) C dL_law_510 (by decide) ?_
  refine e_iadd (pc := 511) C dL_law_511 ?_
  obtain ⟨q8, hf⟩ := ck_e hf
  refine e_sldX (pc := 512) C hX hbl hB q8 dL_law_512 ?_
  obtain ⟨t9, hf⟩ := ck_e hf
  obtain ⟨r12, h10, y11, hf⟩ := cb_e hf
  refine e_callVi (pc := 513) (st := [.int r6]) 12 C (lf_ct (fun hI => pt_X12_seats hI) y11) dL_law_513 (by decide) t9 g2009 g2010 g2011 g157 g2012 hd_X12_seats rfl ⟨Nat.le_of_ble_eq_true rfl, Nat.le_of_ble_eq_true rfl⟩ ⟨by show _ ≤ 600000; omega, by show _ ≤ 7302250; omega⟩ rfl (Nat.le_of_ble_eq_true rfl) ?_
  rcases it_e hf with ⟨c13, hf⟩ | ⟨c13, hf⟩
  · refine e_icmp_eq (pc := 516) (tgt := 1117) C dL_law_516 (by decide) (fun _ => ?_) (fun q => absurd c13 q)
    obtain ⟨x14, ex14, hf⟩ := nn_e hf
    refine e_iinc (pc := 1117) (v := x14) (lv2 := [(3, .int x14), (0, .ref b), (1, .ref v1), (2, .ref v2)]) C hm dL_law_1117 3 rfl (by rw [ex14]; rfl) (by decide) rfl ?_
    refine e_goto (pc := 1120) (tgt := 18) C dL_law_1120 (by decide) ?_
    refine e_lv (lv2 := [(0, .ref b), (1, .ref v1), (2, .ref v2), (3, .int x14)]) [1, 2, 3, 0] rfl ?_
    exact hk x14 h10 _ _ ex14 (by omega) (by omega) hf
  · refine e_icmp_eq (pc := 516) (tgt := 1117) C dL_law_516 (by decide) (fun q => absurd q c13) (fun _ => ?_)
    refine e_iconst (v := (0 : Int32)) (pc := 519) C dL_law_519 (by decide) ?_
    obtain rfl := so_e hf
    exact e_zret (pc := 520) (v := (0 : Int32)) C hr (nz_ok (by decide)) dL_law_520 (by omega) (by omega)
noncomputable def L_case13 (G : GG) (L : Nat) (xs : Nat → Int32) (v1 v2 : Nat) (self_18 : Int32 → AH → Option (Int32 × AH)) (v3 : Int32) (h : AH) : Option (Int32 × AH) :=
ck (¬ (v3 + (1 : Int32) < 0 ∨ L ≤ (v3 + (1 : Int32)).toNatClampNeg)) <|
ck (¬ (v3 + (2 : Int32) < 0 ∨ L ≤ (v3 + (2 : Int32)).toNatClampNeg)) <|
ck (m_t h v1 = .inl 11) <|
cb (f_X11_say G v1 (xs (v3 + (1 : Int32)).toNatClampNeg) (xs (v3 + (2 : Int32)).toNatClampNeg) h) fun r6 h4 =>
ck (¬ (v3 + (1 : Int32) < 0 ∨ L ≤ (v3 + (1 : Int32)).toNatClampNeg)) <|
ck (¬ (v3 + (2 : Int32) < 0 ∨ L ≤ (v3 + (2 : Int32)).toNatClampNeg)) <|
ck (m_t h4 v2 = .inl 12) <|
cb (lf v2 (p_X12_say G (xs (v3 + (1 : Int32)).toNatClampNeg) (xs (v3 + (2 : Int32)).toNatClampNeg)) h4) fun r12 h10 =>
if r6 = r12 then (nn (v3 + (6 : Int32)) fun x14 =>
self_18 x14 h10) else
some ((0 : Int32), h10)
set_option maxHeartbeats 4000000 in
set_option maxRecDepth 100000 in
theorem el_case13 {G : GG} {p : Program} {l : Launch} {e : Env} {s : State} {m : MethodId} {args : Array Value} {below : List Frame} {meth : Method} {c : Code} {y : Int32 × AH} {b L : Nat} {xs : Nat → Int32} {v1 v2 : Nat} (C : Cx G code RL p s m args meth c) (hm : c.maxLocals = 4) (hr : meth.sig.returnType = some .boolean) (hX : va_X b L xs s s.heap) (hbl : b < s.heap.size) (hB : ¬ G.1 ≤ b) {self_18 : Int32 → AH → Option (Int32 × AH)} {v3 : Int32} {h : AH} {ce sl : Nat} (hce : ce + 40 ≤ 600000) (hsl : sl + 1000 ≤ 7302250) (hk : ∀ (x : Int32) (h : AH) (ce2 sl2 : Nat), x = v3 + 6 → ce2 ≤ ce + 20 → sl2 ≤ sl + 480 → self_18 x h = some y → EE G p l e room_1 s m args below meth c (some (.int y.1), y.2) 600000 7302250 18 [(0, .ref b), (1, .ref v1), (2, .ref v2), (3, .int x)] [] h ce2 sl2) (hf : L_case13 G L xs v1 v2 self_18 v3 h = some y) : EE G p l e room_1 s m args below meth c (some (.int y.1), y.2) 600000 7302250 521 [(0, .ref b), (1, .ref v1), (2, .ref v2), (3, .int v3)] [] h ce sl := by
  unfold L_case13 at hf
  refine e_aload_n (pc := 521) C dL_law_521 1 rfl rfl ?_
  refine e_aload_n (pc := 522) C dL_law_522 0 rfl rfl ?_
  refine e_iload_n (pc := 523) C dL_law_523 3 rfl rfl ?_
  refine e_iconst (v := (1 : Int32)) (pc := 524) C dL_law_524 (by decide) ?_
  refine e_iadd (pc := 525) C dL_law_525 ?_
  obtain ⟨q1, hf⟩ := ck_e hf
  refine e_sldX (pc := 526) C hX hbl hB q1 dL_law_526 ?_
  refine e_aload_n (pc := 527) C dL_law_527 0 rfl rfl ?_
  refine e_iload_n (pc := 528) C dL_law_528 3 rfl rfl ?_
  refine e_iconst (v := (2 : Int32)) (pc := 529) C dL_law_529 (by decide) ?_
  refine e_iadd (pc := 530) C dL_law_530 ?_
  obtain ⟨q2, hf⟩ := ck_e hf
  refine e_sldX (pc := 531) C hX hbl hB q2 dL_law_531 ?_
  obtain ⟨t3, hf⟩ := ck_e hf
  obtain ⟨r6, h4, y5, hf⟩ := cb_e hf
  refine e_callVi (pc := 532) (st := []) 11 C (ct_X11_say y5) dL_law_532 (by decide) t3 g1102 g1103 g1104 g146 g1105 hd_X11_say rfl ⟨Nat.le_of_ble_eq_true rfl, Nat.le_of_ble_eq_true rfl⟩ ⟨by show _ ≤ 600000; omega, by show _ ≤ 7302250; omega⟩ rfl (Nat.le_of_ble_eq_true rfl) ?_
  refine e_aload_n (pc := 535) C dL_law_535 2 rfl rfl ?_
  refine e_aload_n (pc := 536) C dL_law_536 0 rfl rfl ?_
  refine e_iload_n (pc := 537) C dL_law_537 3 rfl rfl ?_
  refine e_iconst (v := (1 : Int32)) (pc := 538) C dL_law_538 (by decide) ?_
  refine e_iadd (pc := 539) C dL_law_539 ?_
  obtain ⟨q7, hf⟩ := ck_e hf
  refine e_sldX (pc := 540) C hX hbl hB q7 dL_law_540 ?_
  refine e_aload_n (pc := 541) C dL_law_541 0 rfl rfl ?_
  refine e_iload_n (pc := 542) C dL_law_542 3 rfl rfl ?_
  refine e_iconst (v := (2 : Int32)) (pc := 543) C dL_law_543 (by decide) ?_
  refine e_iadd (pc := 544) C dL_law_544 ?_
  obtain ⟨q8, hf⟩ := ck_e hf
  refine e_sldX (pc := 545) C hX hbl hB q8 dL_law_545 ?_
  obtain ⟨t9, hf⟩ := ck_e hf
  obtain ⟨r12, h10, y11, hf⟩ := cb_e hf
  refine e_callVi (pc := 546) (st := [.int r6]) 12 C (lf_ct (fun hI => pt_X12_say hI) y11) dL_law_546 (by decide) t9 g2013 g2014 g2015 g157 g2016 hd_X12_say rfl ⟨Nat.le_of_ble_eq_true rfl, Nat.le_of_ble_eq_true rfl⟩ ⟨by show _ ≤ 600000; omega, by show _ ≤ 7302250; omega⟩ rfl (Nat.le_of_ble_eq_true rfl) ?_
  rcases it_e hf with ⟨c13, hf⟩ | ⟨c13, hf⟩
  · refine e_icmp_eq (pc := 549) (tgt := 1117) C dL_law_549 (by decide) (fun _ => ?_) (fun q => absurd c13 q)
    obtain ⟨x14, ex14, hf⟩ := nn_e hf
    refine e_iinc (pc := 1117) (v := x14) (lv2 := [(3, .int x14), (0, .ref b), (1, .ref v1), (2, .ref v2)]) C hm dL_law_1117 3 rfl (by rw [ex14]; rfl) (by decide) rfl ?_
    refine e_goto (pc := 1120) (tgt := 18) C dL_law_1120 (by decide) ?_
    refine e_lv (lv2 := [(0, .ref b), (1, .ref v1), (2, .ref v2), (3, .int x14)]) [1, 2, 3, 0] rfl ?_
    exact hk x14 h10 _ _ ex14 (by omega) (by omega) hf
  · refine e_icmp_eq (pc := 549) (tgt := 1117) C dL_law_549 (by decide) (fun q => absurd q c13) (fun _ => ?_)
    refine e_iconst (v := (0 : Int32)) (pc := 552) C dL_law_552 (by decide) ?_
    obtain rfl := so_e hf
    exact e_zret (pc := 553) (v := (0 : Int32)) C hr (nz_ok (by decide)) dL_law_553 (by omega) (by omega)
noncomputable def L_case14 (G : GG) (L : Nat) (xs : Nat → Int32) (v1 v2 : Nat) (self_18 : Int32 → AH → Option (Int32 × AH)) (v3 : Int32) (h : AH) : Option (Int32 × AH) :=
ck (m_t h v1 = .inl 11) <|
cb (f_X11_undo G v1 h) fun r4 h2 =>
ck (m_t h2 v2 = .inl 12) <|
cb (lf v2 (p_X12_undo G) h2) fun r8 h6 =>
if r4 = r8 then (nn (v3 + (6 : Int32)) fun x10 =>
self_18 x10 h6) else
some ((0 : Int32), h6)
set_option maxHeartbeats 4000000 in
set_option maxRecDepth 100000 in
theorem el_case14 {G : GG} {p : Program} {l : Launch} {e : Env} {s : State} {m : MethodId} {args : Array Value} {below : List Frame} {meth : Method} {c : Code} {y : Int32 × AH} {b L : Nat} {xs : Nat → Int32} {v1 v2 : Nat} (C : Cx G code RL p s m args meth c) (hm : c.maxLocals = 4) (hr : meth.sig.returnType = some .boolean) (hX : va_X b L xs s s.heap) (hbl : b < s.heap.size) (hB : ¬ G.1 ≤ b) {self_18 : Int32 → AH → Option (Int32 × AH)} {v3 : Int32} {h : AH} {ce sl : Nat} (hce : ce + 40 ≤ 600000) (hsl : sl + 1000 ≤ 7302250) (hk : ∀ (x : Int32) (h : AH) (ce2 sl2 : Nat), x = v3 + 6 → ce2 ≤ ce + 20 → sl2 ≤ sl + 480 → self_18 x h = some y → EE G p l e room_1 s m args below meth c (some (.int y.1), y.2) 600000 7302250 18 [(0, .ref b), (1, .ref v1), (2, .ref v2), (3, .int x)] [] h ce2 sl2) (hf : L_case14 G L xs v1 v2 self_18 v3 h = some y) : EE G p l e room_1 s m args below meth c (some (.int y.1), y.2) 600000 7302250 554 [(0, .ref b), (1, .ref v1), (2, .ref v2), (3, .int v3)] [] h ce sl := by
  unfold L_case14 at hf
  refine e_aload_n (pc := 554) C dL_law_554 1 rfl rfl ?_
  obtain ⟨t1, hf⟩ := ck_e hf
  obtain ⟨r4, h2, y3, hf⟩ := cb_e hf
  refine e_callVi (pc := 555) (st := []) 11 C (ct_X11_undo y3) dL_law_555 (by decide) t1 g1106 g1107 g1108 g146 g1109 hd_X11_undo rfl ⟨Nat.le_of_ble_eq_true rfl, Nat.le_of_ble_eq_true rfl⟩ ⟨by show _ ≤ 600000; omega, by show _ ≤ 7302250; omega⟩ rfl (Nat.le_of_ble_eq_true rfl) ?_
  refine e_aload_n (pc := 558) C dL_law_558 2 rfl rfl ?_
  obtain ⟨t5, hf⟩ := ck_e hf
  obtain ⟨r8, h6, y7, hf⟩ := cb_e hf
  refine e_callVi (pc := 559) (st := [.int r4]) 12 C (lf_ct (fun hI => pt_X12_undo hI) y7) dL_law_559 (by decide) t5 g1920 g1921 g1922 g157 g1923 hd_X12_undo rfl ⟨Nat.le_of_ble_eq_true rfl, Nat.le_of_ble_eq_true rfl⟩ ⟨by show _ ≤ 600000; omega, by show _ ≤ 7302250; omega⟩ rfl (Nat.le_of_ble_eq_true rfl) ?_
  rcases it_e hf with ⟨c9, hf⟩ | ⟨c9, hf⟩
  · refine e_icmp_eq (pc := 562) (tgt := 1117) C dL_law_562 (by decide) (fun _ => ?_) (fun q => absurd c9 q)
    obtain ⟨x10, ex10, hf⟩ := nn_e hf
    refine e_iinc (pc := 1117) (v := x10) (lv2 := [(3, .int x10), (0, .ref b), (1, .ref v1), (2, .ref v2)]) C hm dL_law_1117 3 rfl (by rw [ex10]; rfl) (by decide) rfl ?_
    refine e_goto (pc := 1120) (tgt := 18) C dL_law_1120 (by decide) ?_
    refine e_lv (lv2 := [(0, .ref b), (1, .ref v1), (2, .ref v2), (3, .int x10)]) [1, 2, 3, 0] rfl ?_
    exact hk x10 h6 _ _ ex10 (by omega) (by omega) hf
  · refine e_icmp_eq (pc := 562) (tgt := 1117) C dL_law_562 (by decide) (fun q => absurd q c9) (fun _ => ?_)
    refine e_iconst (v := (0 : Int32)) (pc := 565) C dL_law_565 (by decide) ?_
    obtain rfl := so_e hf
    exact e_zret (pc := 566) (v := (0 : Int32)) C hr (nz_ok (by decide)) dL_law_566 (by omega) (by omega)
noncomputable def L_case15 (G : GG) (L : Nat) (xs : Nat → Int32) (v1 v2 : Nat) (self_18 : Int32 → AH → Option (Int32 × AH)) (v3 : Int32) (h : AH) : Option (Int32 × AH) :=
ck (¬ (v3 + (1 : Int32) < 0 ∨ L ≤ (v3 + (1 : Int32)).toNatClampNeg)) <|
ck (¬ (v3 + (2 : Int32) < 0 ∨ L ≤ (v3 + (2 : Int32)).toNatClampNeg)) <|
ck (m_t h v1 = .inl 11) <|
cb (f_X11_ahead G v1 (xs (v3 + (1 : Int32)).toNatClampNeg) (xs (v3 + (2 : Int32)).toNatClampNeg) h) fun r6 h4 =>
ck (¬ (v3 + (1 : Int32) < 0 ∨ L ≤ (v3 + (1 : Int32)).toNatClampNeg)) <|
ck (¬ (v3 + (2 : Int32) < 0 ∨ L ≤ (v3 + (2 : Int32)).toNatClampNeg)) <|
ck (m_t h4 v2 = .inl 12) <|
cb (lf v2 (p_X12_ahead G (xs (v3 + (1 : Int32)).toNatClampNeg) (xs (v3 + (2 : Int32)).toNatClampNeg)) h4) fun r12 h10 =>
if r6 = r12 then (nn (v3 + (6 : Int32)) fun x14 =>
self_18 x14 h10) else
some ((0 : Int32), h10)
set_option maxHeartbeats 4000000 in
set_option maxRecDepth 100000 in
theorem el_case15 {G : GG} {p : Program} {l : Launch} {e : Env} {s : State} {m : MethodId} {args : Array Value} {below : List Frame} {meth : Method} {c : Code} {y : Int32 × AH} {b L : Nat} {xs : Nat → Int32} {v1 v2 : Nat} (C : Cx G code RL p s m args meth c) (hm : c.maxLocals = 4) (hr : meth.sig.returnType = some .boolean) (hX : va_X b L xs s s.heap) (hbl : b < s.heap.size) (hB : ¬ G.1 ≤ b) {self_18 : Int32 → AH → Option (Int32 × AH)} {v3 : Int32} {h : AH} {ce sl : Nat} (hce : ce + 40 ≤ 600000) (hsl : sl + 1000 ≤ 7302250) (hk : ∀ (x : Int32) (h : AH) (ce2 sl2 : Nat), x = v3 + 6 → ce2 ≤ ce + 20 → sl2 ≤ sl + 480 → self_18 x h = some y → EE G p l e room_1 s m args below meth c (some (.int y.1), y.2) 600000 7302250 18 [(0, .ref b), (1, .ref v1), (2, .ref v2), (3, .int x)] [] h ce2 sl2) (hf : L_case15 G L xs v1 v2 self_18 v3 h = some y) : EE G p l e room_1 s m args below meth c (some (.int y.1), y.2) 600000 7302250 567 [(0, .ref b), (1, .ref v1), (2, .ref v2), (3, .int v3)] [] h ce sl := by
  unfold L_case15 at hf
  refine e_aload_n (pc := 567) C dL_law_567 1 rfl rfl ?_
  refine e_aload_n (pc := 568) C dL_law_568 0 rfl rfl ?_
  refine e_iload_n (pc := 569) C dL_law_569 3 rfl rfl ?_
  refine e_iconst (v := (1 : Int32)) (pc := 570) C dL_law_570 (by decide) ?_
  refine e_iadd (pc := 571) C dL_law_571 ?_
  obtain ⟨q1, hf⟩ := ck_e hf
  refine e_sldX (pc := 572) C hX hbl hB q1 dL_law_572 ?_
  refine e_aload_n (pc := 573) C dL_law_573 0 rfl rfl ?_
  refine e_iload_n (pc := 574) C dL_law_574 3 rfl rfl ?_
  refine e_iconst (v := (2 : Int32)) (pc := 575) C dL_law_575 (by decide) ?_
  refine e_iadd (pc := 576) C dL_law_576 ?_
  obtain ⟨q2, hf⟩ := ck_e hf
  refine e_sldX (pc := 577) C hX hbl hB q2 dL_law_577 ?_
  obtain ⟨t3, hf⟩ := ck_e hf
  obtain ⟨r6, h4, y5, hf⟩ := cb_e hf
  refine e_callVi (pc := 578) (st := []) 11 C (ct_X11_ahead y5) dL_law_578 (by decide) t3 g1114 g1115 g1116 g146 g1117 hd_X11_ahead rfl ⟨Nat.le_of_ble_eq_true rfl, Nat.le_of_ble_eq_true rfl⟩ ⟨by show _ ≤ 600000; omega, by show _ ≤ 7302250; omega⟩ rfl (Nat.le_of_ble_eq_true rfl) ?_
  refine e_aload_n (pc := 581) C dL_law_581 2 rfl rfl ?_
  refine e_aload_n (pc := 582) C dL_law_582 0 rfl rfl ?_
  refine e_iload_n (pc := 583) C dL_law_583 3 rfl rfl ?_
  refine e_iconst (v := (1 : Int32)) (pc := 584) C dL_law_584 (by decide) ?_
  refine e_iadd (pc := 585) C dL_law_585 ?_
  obtain ⟨q7, hf⟩ := ck_e hf
  refine e_sldX (pc := 586) C hX hbl hB q7 dL_law_586 ?_
  refine e_aload_n (pc := 587) C dL_law_587 0 rfl rfl ?_
  refine e_iload_n (pc := 588) C dL_law_588 3 rfl rfl ?_
  refine e_iconst (v := (2 : Int32)) (pc := 589) C dL_law_589 (by decide) ?_
  refine e_iadd (pc := 590) C dL_law_590 ?_
  obtain ⟨q8, hf⟩ := ck_e hf
  refine e_sldX (pc := 591) C hX hbl hB q8 dL_law_591 ?_
  obtain ⟨t9, hf⟩ := ck_e hf
  obtain ⟨r12, h10, y11, hf⟩ := cb_e hf
  refine e_callVi (pc := 592) (st := [.int r6]) 12 C (lf_ct (fun hI => pt_X12_ahead hI) y11) dL_law_592 (by decide) t9 g2019 g2020 g2021 g157 g2022 hd_X12_ahead rfl ⟨Nat.le_of_ble_eq_true rfl, Nat.le_of_ble_eq_true rfl⟩ ⟨by show _ ≤ 600000; omega, by show _ ≤ 7302250; omega⟩ rfl (Nat.le_of_ble_eq_true rfl) ?_
  rcases it_e hf with ⟨c13, hf⟩ | ⟨c13, hf⟩
  · refine e_icmp_eq (pc := 595) (tgt := 1117) C dL_law_595 (by decide) (fun _ => ?_) (fun q => absurd c13 q)
    obtain ⟨x14, ex14, hf⟩ := nn_e hf
    refine e_iinc (pc := 1117) (v := x14) (lv2 := [(3, .int x14), (0, .ref b), (1, .ref v1), (2, .ref v2)]) C hm dL_law_1117 3 rfl (by rw [ex14]; rfl) (by decide) rfl ?_
    refine e_goto (pc := 1120) (tgt := 18) C dL_law_1120 (by decide) ?_
    refine e_lv (lv2 := [(0, .ref b), (1, .ref v1), (2, .ref v2), (3, .int x14)]) [1, 2, 3, 0] rfl ?_
    exact hk x14 h10 _ _ ex14 (by omega) (by omega) hf
  · refine e_icmp_eq (pc := 595) (tgt := 1117) C dL_law_595 (by decide) (fun q => absurd q c13) (fun _ => ?_)
    refine e_iconst (v := (0 : Int32)) (pc := 598) C dL_law_598 (by decide) ?_
    obtain rfl := so_e hf
    exact e_zret (pc := 599) (v := (0 : Int32)) C hr (nz_ok (by decide)) dL_law_599 (by omega) (by omega)
noncomputable def L_case16 (G : GG) (L : Nat) (xs : Nat → Int32) (v1 v2 : Nat) (self_18 : Int32 → AH → Option (Int32 × AH)) (v3 : Int32) (h : AH) : Option (Int32 × AH) :=
ck (¬ (v3 + (1 : Int32) < 0 ∨ L ≤ (v3 + (1 : Int32)).toNatClampNeg)) <|
nn (fun (s0_614 : Int32) => (ck (¬ (v3 + (2 : Int32) < 0 ∨ L ≤ (v3 + (2 : Int32)).toNatClampNeg)) <|
ck (m_t h v1 = .inl 11) <|
cb (f_X11_which G v1 s0_614 (xs (v3 + (2 : Int32)).toNatClampNeg) h) fun r6 h4 =>
ck (¬ (v3 + (1 : Int32) < 0 ∨ L ≤ (v3 + (1 : Int32)).toNatClampNeg)) <|
nn (fun (s0_636 : Int32) => (ck (¬ (v3 + (2 : Int32) < 0 ∨ L ≤ (v3 + (2 : Int32)).toNatClampNeg)) <|
ck (m_t h4 v2 = .inl 12) <|
cb (lf v2 (p_X12_which G s0_636 (xs (v3 + (2 : Int32)).toNatClampNeg)) h4) fun r12 h10 =>
if r6 = r12 then (nn (v3 + (6 : Int32)) fun x14 =>
self_18 x14 h10) else
some ((0 : Int32), h10))) fun j_636 =>
if (xs (v3 + (1 : Int32)).toNatClampNeg) = 0 then (j_636 (0 : Int32)) else
j_636 (1 : Int32))) fun j_614 =>
if (xs (v3 + (1 : Int32)).toNatClampNeg) = 0 then (j_614 (0 : Int32)) else
j_614 (1 : Int32)
set_option maxHeartbeats 4000000 in
set_option maxRecDepth 100000 in
theorem el_case16 {G : GG} {p : Program} {l : Launch} {e : Env} {s : State} {m : MethodId} {args : Array Value} {below : List Frame} {meth : Method} {c : Code} {y : Int32 × AH} {b L : Nat} {xs : Nat → Int32} {v1 v2 : Nat} (C : Cx G code RL p s m args meth c) (hm : c.maxLocals = 4) (hr : meth.sig.returnType = some .boolean) (hX : va_X b L xs s s.heap) (hbl : b < s.heap.size) (hB : ¬ G.1 ≤ b) {self_18 : Int32 → AH → Option (Int32 × AH)} {v3 : Int32} {h : AH} {ce sl : Nat} (hce : ce + 40 ≤ 600000) (hsl : sl + 1000 ≤ 7302250) (hk : ∀ (x : Int32) (h : AH) (ce2 sl2 : Nat), x = v3 + 6 → ce2 ≤ ce + 20 → sl2 ≤ sl + 480 → self_18 x h = some y → EE G p l e room_1 s m args below meth c (some (.int y.1), y.2) 600000 7302250 18 [(0, .ref b), (1, .ref v1), (2, .ref v2), (3, .int x)] [] h ce2 sl2) (hf : L_case16 G L xs v1 v2 self_18 v3 h = some y) : EE G p l e room_1 s m args below meth c (some (.int y.1), y.2) 600000 7302250 600 [(0, .ref b), (1, .ref v1), (2, .ref v2), (3, .int v3)] [] h ce sl := by
  unfold L_case16 at hf
  refine e_aload_n (pc := 600) C dL_law_600 1 rfl rfl ?_
  refine e_aload_n (pc := 601) C dL_law_601 0 rfl rfl ?_
  refine e_iload_n (pc := 602) C dL_law_602 3 rfl rfl ?_
  refine e_iconst (v := (1 : Int32)) (pc := 603) C dL_law_603 (by decide) ?_
  refine e_iadd (pc := 604) C dL_law_604 ?_
  obtain ⟨q1, hf⟩ := ck_e hf
  refine e_sldX (pc := 605) C hX hbl hB q1 dL_law_605 ?_
  obtain ⟨j_614, ej_614, hf⟩ := nn_e hf
  have W_614 : ∀ (s0_614 : Int32), j_614 s0_614 = some y → EE G p l e room_1 s m args below meth c (some (.int y.1), y.2) 600000 7302250 614 [(0, .ref b), (1, .ref v1), (2, .ref v2), (3, .int v3)] [.int s0_614, .ref v1] h ce sl := by
    intro s0_614 hf
    rw [ej_614] at hf
    refine e_aload_n (pc := 614) C dL_law_614 0 rfl rfl ?_
    refine e_iload_n (pc := 615) C dL_law_615 3 rfl rfl ?_
    refine e_iconst (v := (2 : Int32)) (pc := 616) C dL_law_616 (by decide) ?_
    refine e_iadd (pc := 617) C dL_law_617 ?_
    obtain ⟨q2, hf⟩ := ck_e hf
    refine e_sldX (pc := 618) C hX hbl hB q2 dL_law_618 ?_
    obtain ⟨t3, hf⟩ := ck_e hf
    obtain ⟨r6, h4, y5, hf⟩ := cb_e hf
    refine e_callVi (pc := 619) (st := []) 11 C (ct_X11_which y5) dL_law_619 (by decide) t3 g1127 g1128 g1129 g146 g1130 hd_X11_which rfl ⟨Nat.le_of_ble_eq_true rfl, Nat.le_of_ble_eq_true rfl⟩ ⟨by show _ ≤ 600000; omega, by show _ ≤ 7302250; omega⟩ rfl (Nat.le_of_ble_eq_true rfl) ?_
    refine e_aload_n (pc := 622) C dL_law_622 2 rfl rfl ?_
    refine e_aload_n (pc := 623) C dL_law_623 0 rfl rfl ?_
    refine e_iload_n (pc := 624) C dL_law_624 3 rfl rfl ?_
    refine e_iconst (v := (1 : Int32)) (pc := 625) C dL_law_625 (by decide) ?_
    refine e_iadd (pc := 626) C dL_law_626 ?_
    obtain ⟨q7, hf⟩ := ck_e hf
    refine e_sldX (pc := 627) C hX hbl hB q7 dL_law_627 ?_
    obtain ⟨j_636, ej_636, hf⟩ := nn_e hf
    have W_636 : ∀ (s0_636 : Int32), j_636 s0_636 = some y → EE G p l e room_1 s m args below meth c (some (.int y.1), y.2) 600000 7302250 636 [(0, .ref b), (1, .ref v1), (2, .ref v2), (3, .int v3)] [.int s0_636, .ref v2, .int r6] h4 ce sl := by
      intro s0_636 hf
      rw [ej_636] at hf
      refine e_aload_n (pc := 636) C dL_law_636 0 rfl rfl ?_
      refine e_iload_n (pc := 637) C dL_law_637 3 rfl rfl ?_
      refine e_iconst (v := (2 : Int32)) (pc := 638) C dL_law_638 (by decide) ?_
      refine e_iadd (pc := 639) C dL_law_639 ?_
      obtain ⟨q8, hf⟩ := ck_e hf
      refine e_sldX (pc := 640) C hX hbl hB q8 dL_law_640 ?_
      obtain ⟨t9, hf⟩ := ck_e hf
      obtain ⟨r12, h10, y11, hf⟩ := cb_e hf
      refine e_callVi (pc := 641) (st := [.int r6]) 12 C (lf_ct (fun hI => pt_X12_which hI) y11) dL_law_641 (by decide) t9 g2048 g2049 g2050 g157 g2051 hd_X12_which rfl ⟨Nat.le_of_ble_eq_true rfl, Nat.le_of_ble_eq_true rfl⟩ ⟨by show _ ≤ 600000; omega, by show _ ≤ 7302250; omega⟩ rfl (Nat.le_of_ble_eq_true rfl) ?_
      rcases it_e hf with ⟨c13, hf⟩ | ⟨c13, hf⟩
      · refine e_icmp_eq (pc := 644) (tgt := 1117) C dL_law_644 (by decide) (fun _ => ?_) (fun q => absurd c13 q)
        obtain ⟨x14, ex14, hf⟩ := nn_e hf
        refine e_iinc (pc := 1117) (v := x14) (lv2 := [(3, .int x14), (0, .ref b), (1, .ref v1), (2, .ref v2)]) C hm dL_law_1117 3 rfl (by rw [ex14]; rfl) (by decide) rfl ?_
        refine e_goto (pc := 1120) (tgt := 18) C dL_law_1120 (by decide) ?_
        refine e_lv (lv2 := [(0, .ref b), (1, .ref v1), (2, .ref v2), (3, .int x14)]) [1, 2, 3, 0] rfl ?_
        exact hk x14 h10 _ _ ex14 (by omega) (by omega) hf
      · refine e_icmp_eq (pc := 644) (tgt := 1117) C dL_law_644 (by decide) (fun q => absurd q c13) (fun _ => ?_)
        refine e_iconst (v := (0 : Int32)) (pc := 647) C dL_law_647 (by decide) ?_
        obtain rfl := so_e hf
        exact e_zret (pc := 648) (v := (0 : Int32)) C hr (nz_ok (by decide)) dL_law_648 (by omega) (by omega)
    rcases it_e hf with ⟨c15, hf⟩ | ⟨c15, hf⟩
    · refine e_if_eq (pc := 628) (tgt := 635) C dL_law_628 (by decide) (fun _ => ?_) (fun q => absurd c15 q)
      refine e_iconst (v := (0 : Int32)) (pc := 635) C dL_law_635 (by decide) ?_
      exact W_636 (0 : Int32) hf
    · refine e_if_eq (pc := 628) (tgt := 635) C dL_law_628 (by decide) (fun q => absurd q c15) (fun _ => ?_)
      refine e_iconst (v := (1 : Int32)) (pc := 631) C dL_law_631 (by decide) ?_
      refine e_goto (pc := 632) (tgt := 636) C dL_law_632 (by decide) ?_
      exact W_636 (1 : Int32) hf
  rcases it_e hf with ⟨c16, hf⟩ | ⟨c16, hf⟩
  · refine e_if_eq (pc := 606) (tgt := 613) C dL_law_606 (by decide) (fun _ => ?_) (fun q => absurd c16 q)
    refine e_iconst (v := (0 : Int32)) (pc := 613) C dL_law_613 (by decide) ?_
    exact W_614 (0 : Int32) hf
  · refine e_if_eq (pc := 606) (tgt := 613) C dL_law_606 (by decide) (fun q => absurd q c16) (fun _ => ?_)
    refine e_iconst (v := (1 : Int32)) (pc := 609) C dL_law_609 (by decide) ?_
    refine e_goto (pc := 610) (tgt := 614) C dL_law_610 (by decide) ?_
    exact W_614 (1 : Int32) hf
noncomputable def L_case17 (G : GG) (L : Nat) (xs : Nat → Int32) (v1 v2 : Nat) (self_18 : Int32 → AH → Option (Int32 × AH)) (v3 : Int32) (h : AH) : Option (Int32 × AH) :=
ck (¬ (v3 + (1 : Int32) < 0 ∨ L ≤ (v3 + (1 : Int32)).toNatClampNeg)) <|
nn (fun (s0_663 : Int32) => (ck (¬ (v3 + (2 : Int32) < 0 ∨ L ≤ (v3 + (2 : Int32)).toNatClampNeg)) <|
ck (m_t h v1 = .inl 11) <|
cb (f_X11_sit G v1 s0_663 (xs (v3 + (2 : Int32)).toNatClampNeg) h) fun r6 h4 =>
ck (¬ (v3 + (1 : Int32) < 0 ∨ L ≤ (v3 + (1 : Int32)).toNatClampNeg)) <|
nn (fun (s0_685 : Int32) => (ck (¬ (v3 + (2 : Int32) < 0 ∨ L ≤ (v3 + (2 : Int32)).toNatClampNeg)) <|
ck (m_t h4 v2 = .inl 12) <|
cb (lf v2 (p_X12_sit G s0_685 (xs (v3 + (2 : Int32)).toNatClampNeg)) h4) fun r12 h10 =>
if r6 = r12 then (nn (v3 + (6 : Int32)) fun x14 =>
self_18 x14 h10) else
some ((0 : Int32), h10))) fun j_685 =>
if (xs (v3 + (1 : Int32)).toNatClampNeg) = 0 then (j_685 (0 : Int32)) else
j_685 (1 : Int32))) fun j_663 =>
if (xs (v3 + (1 : Int32)).toNatClampNeg) = 0 then (j_663 (0 : Int32)) else
j_663 (1 : Int32)
set_option maxHeartbeats 4000000 in
set_option maxRecDepth 100000 in
theorem el_case17 {G : GG} {p : Program} {l : Launch} {e : Env} {s : State} {m : MethodId} {args : Array Value} {below : List Frame} {meth : Method} {c : Code} {y : Int32 × AH} {b L : Nat} {xs : Nat → Int32} {v1 v2 : Nat} (C : Cx G code RL p s m args meth c) (hm : c.maxLocals = 4) (hr : meth.sig.returnType = some .boolean) (hX : va_X b L xs s s.heap) (hbl : b < s.heap.size) (hB : ¬ G.1 ≤ b) {self_18 : Int32 → AH → Option (Int32 × AH)} {v3 : Int32} {h : AH} {ce sl : Nat} (hce : ce + 40 ≤ 600000) (hsl : sl + 1000 ≤ 7302250) (hk : ∀ (x : Int32) (h : AH) (ce2 sl2 : Nat), x = v3 + 6 → ce2 ≤ ce + 20 → sl2 ≤ sl + 480 → self_18 x h = some y → EE G p l e room_1 s m args below meth c (some (.int y.1), y.2) 600000 7302250 18 [(0, .ref b), (1, .ref v1), (2, .ref v2), (3, .int x)] [] h ce2 sl2) (hf : L_case17 G L xs v1 v2 self_18 v3 h = some y) : EE G p l e room_1 s m args below meth c (some (.int y.1), y.2) 600000 7302250 649 [(0, .ref b), (1, .ref v1), (2, .ref v2), (3, .int v3)] [] h ce sl := by
  unfold L_case17 at hf
  refine e_aload_n (pc := 649) C dL_law_649 1 rfl rfl ?_
  refine e_aload_n (pc := 650) C dL_law_650 0 rfl rfl ?_
  refine e_iload_n (pc := 651) C dL_law_651 3 rfl rfl ?_
  refine e_iconst (v := (1 : Int32)) (pc := 652) C dL_law_652 (by decide) ?_
  refine e_iadd (pc := 653) C dL_law_653 ?_
  obtain ⟨q1, hf⟩ := ck_e hf
  refine e_sldX (pc := 654) C hX hbl hB q1 dL_law_654 ?_
  obtain ⟨j_663, ej_663, hf⟩ := nn_e hf
  have W_663 : ∀ (s0_663 : Int32), j_663 s0_663 = some y → EE G p l e room_1 s m args below meth c (some (.int y.1), y.2) 600000 7302250 663 [(0, .ref b), (1, .ref v1), (2, .ref v2), (3, .int v3)] [.int s0_663, .ref v1] h ce sl := by
    intro s0_663 hf
    rw [ej_663] at hf
    refine e_aload_n (pc := 663) C dL_law_663 0 rfl rfl ?_
    refine e_iload_n (pc := 664) C dL_law_664 3 rfl rfl ?_
    refine e_iconst (v := (2 : Int32)) (pc := 665) C dL_law_665 (by decide) ?_
    refine e_iadd (pc := 666) C dL_law_666 ?_
    obtain ⟨q2, hf⟩ := ck_e hf
    refine e_sldX (pc := 667) C hX hbl hB q2 dL_law_667 ?_
    obtain ⟨t3, hf⟩ := ck_e hf
    obtain ⟨r6, h4, y5, hf⟩ := cb_e hf
    refine e_callVi (pc := 668) (st := []) 11 C (ct_X11_sit y5) dL_law_668 (by decide) t3 g1136 g1137 g1138 g146 g1139 hd_X11_sit rfl ⟨Nat.le_of_ble_eq_true rfl, Nat.le_of_ble_eq_true rfl⟩ ⟨by show _ ≤ 600000; omega, by show _ ≤ 7302250; omega⟩ rfl (Nat.le_of_ble_eq_true rfl) ?_
    refine e_aload_n (pc := 671) C dL_law_671 2 rfl rfl ?_
    refine e_aload_n (pc := 672) C dL_law_672 0 rfl rfl ?_
    refine e_iload_n (pc := 673) C dL_law_673 3 rfl rfl ?_
    refine e_iconst (v := (1 : Int32)) (pc := 674) C dL_law_674 (by decide) ?_
    refine e_iadd (pc := 675) C dL_law_675 ?_
    obtain ⟨q7, hf⟩ := ck_e hf
    refine e_sldX (pc := 676) C hX hbl hB q7 dL_law_676 ?_
    obtain ⟨j_685, ej_685, hf⟩ := nn_e hf
    have W_685 : ∀ (s0_685 : Int32), j_685 s0_685 = some y → EE G p l e room_1 s m args below meth c (some (.int y.1), y.2) 600000 7302250 685 [(0, .ref b), (1, .ref v1), (2, .ref v2), (3, .int v3)] [.int s0_685, .ref v2, .int r6] h4 ce sl := by
      intro s0_685 hf
      rw [ej_685] at hf
      refine e_aload_n (pc := 685) C dL_law_685 0 rfl rfl ?_
      refine e_iload_n (pc := 686) C dL_law_686 3 rfl rfl ?_
      refine e_iconst (v := (2 : Int32)) (pc := 687) C dL_law_687 (by decide) ?_
      refine e_iadd (pc := 688) C dL_law_688 ?_
      obtain ⟨q8, hf⟩ := ck_e hf
      refine e_sldX (pc := 689) C hX hbl hB q8 dL_law_689 ?_
      obtain ⟨t9, hf⟩ := ck_e hf
      obtain ⟨r12, h10, y11, hf⟩ := cb_e hf
      refine e_callVi (pc := 690) (st := [.int r6]) 12 C (lf_ct (fun hI => pt_X12_sit hI) y11) dL_law_690 (by decide) t9 g2056 g2057 g2058 g157 g2059 hd_X12_sit rfl ⟨Nat.le_of_ble_eq_true rfl, Nat.le_of_ble_eq_true rfl⟩ ⟨by show _ ≤ 600000; omega, by show _ ≤ 7302250; omega⟩ rfl (Nat.le_of_ble_eq_true rfl) ?_
      rcases it_e hf with ⟨c13, hf⟩ | ⟨c13, hf⟩
      · refine e_icmp_eq (pc := 693) (tgt := 1117) C dL_law_693 (by decide) (fun _ => ?_) (fun q => absurd c13 q)
        obtain ⟨x14, ex14, hf⟩ := nn_e hf
        refine e_iinc (pc := 1117) (v := x14) (lv2 := [(3, .int x14), (0, .ref b), (1, .ref v1), (2, .ref v2)]) C hm dL_law_1117 3 rfl (by rw [ex14]; rfl) (by decide) rfl ?_
        refine e_goto (pc := 1120) (tgt := 18) C dL_law_1120 (by decide) ?_
        refine e_lv (lv2 := [(0, .ref b), (1, .ref v1), (2, .ref v2), (3, .int x14)]) [1, 2, 3, 0] rfl ?_
        exact hk x14 h10 _ _ ex14 (by omega) (by omega) hf
      · refine e_icmp_eq (pc := 693) (tgt := 1117) C dL_law_693 (by decide) (fun q => absurd q c13) (fun _ => ?_)
        refine e_iconst (v := (0 : Int32)) (pc := 696) C dL_law_696 (by decide) ?_
        obtain rfl := so_e hf
        exact e_zret (pc := 697) (v := (0 : Int32)) C hr (nz_ok (by decide)) dL_law_697 (by omega) (by omega)
    rcases it_e hf with ⟨c15, hf⟩ | ⟨c15, hf⟩
    · refine e_if_eq (pc := 677) (tgt := 684) C dL_law_677 (by decide) (fun _ => ?_) (fun q => absurd c15 q)
      refine e_iconst (v := (0 : Int32)) (pc := 684) C dL_law_684 (by decide) ?_
      exact W_685 (0 : Int32) hf
    · refine e_if_eq (pc := 677) (tgt := 684) C dL_law_677 (by decide) (fun q => absurd q c15) (fun _ => ?_)
      refine e_iconst (v := (1 : Int32)) (pc := 680) C dL_law_680 (by decide) ?_
      refine e_goto (pc := 681) (tgt := 685) C dL_law_681 (by decide) ?_
      exact W_685 (1 : Int32) hf
  rcases it_e hf with ⟨c16, hf⟩ | ⟨c16, hf⟩
  · refine e_if_eq (pc := 655) (tgt := 662) C dL_law_655 (by decide) (fun _ => ?_) (fun q => absurd c16 q)
    refine e_iconst (v := (0 : Int32)) (pc := 662) C dL_law_662 (by decide) ?_
    exact W_663 (0 : Int32) hf
  · refine e_if_eq (pc := 655) (tgt := 662) C dL_law_655 (by decide) (fun q => absurd q c16) (fun _ => ?_)
    refine e_iconst (v := (1 : Int32)) (pc := 658) C dL_law_658 (by decide) ?_
    refine e_goto (pc := 659) (tgt := 663) C dL_law_659 (by decide) ?_
    exact W_663 (1 : Int32) hf
noncomputable def L_case18 (G : GG) (L : Nat) (xs : Nat → Int32) (v1 v2 : Nat) (self_18 : Int32 → AH → Option (Int32 × AH)) (v3 : Int32) (h : AH) : Option (Int32 × AH) :=
ck (¬ (v3 + (1 : Int32) < 0 ∨ L ≤ (v3 + (1 : Int32)).toNatClampNeg)) <|
ck (¬ (v3 + (2 : Int32) < 0 ∨ L ≤ (v3 + (2 : Int32)).toNatClampNeg)) <|
ck (m_t h v1 = .inl 11) <|
cb (f_X11_plan G v1 (xs (v3 + (1 : Int32)).toNatClampNeg) (xs (v3 + (2 : Int32)).toNatClampNeg) h) fun r6 h4 =>
ck (¬ (v3 + (1 : Int32) < 0 ∨ L ≤ (v3 + (1 : Int32)).toNatClampNeg)) <|
ck (¬ (v3 + (2 : Int32) < 0 ∨ L ≤ (v3 + (2 : Int32)).toNatClampNeg)) <|
ck (m_t h4 v2 = .inl 12) <|
cb (lf v2 (p_X12_plan G (xs (v3 + (1 : Int32)).toNatClampNeg) (xs (v3 + (2 : Int32)).toNatClampNeg)) h4) fun r12 h10 =>
if r6 = r12 then (nn (v3 + (6 : Int32)) fun x14 =>
self_18 x14 h10) else
some ((0 : Int32), h10)
set_option maxHeartbeats 4000000 in
set_option maxRecDepth 100000 in
theorem el_case18 {G : GG} {p : Program} {l : Launch} {e : Env} {s : State} {m : MethodId} {args : Array Value} {below : List Frame} {meth : Method} {c : Code} {y : Int32 × AH} {b L : Nat} {xs : Nat → Int32} {v1 v2 : Nat} (C : Cx G code RL p s m args meth c) (hm : c.maxLocals = 4) (hr : meth.sig.returnType = some .boolean) (hX : va_X b L xs s s.heap) (hbl : b < s.heap.size) (hB : ¬ G.1 ≤ b) {self_18 : Int32 → AH → Option (Int32 × AH)} {v3 : Int32} {h : AH} {ce sl : Nat} (hce : ce + 40 ≤ 600000) (hsl : sl + 1000 ≤ 7302250) (hk : ∀ (x : Int32) (h : AH) (ce2 sl2 : Nat), x = v3 + 6 → ce2 ≤ ce + 20 → sl2 ≤ sl + 480 → self_18 x h = some y → EE G p l e room_1 s m args below meth c (some (.int y.1), y.2) 600000 7302250 18 [(0, .ref b), (1, .ref v1), (2, .ref v2), (3, .int x)] [] h ce2 sl2) (hf : L_case18 G L xs v1 v2 self_18 v3 h = some y) : EE G p l e room_1 s m args below meth c (some (.int y.1), y.2) 600000 7302250 698 [(0, .ref b), (1, .ref v1), (2, .ref v2), (3, .int v3)] [] h ce sl := by
  unfold L_case18 at hf
  refine e_aload_n (pc := 698) C dL_law_698 1 rfl rfl ?_
  refine e_aload_n (pc := 699) C dL_law_699 0 rfl rfl ?_
  refine e_iload_n (pc := 700) C dL_law_700 3 rfl rfl ?_
  refine e_iconst (v := (1 : Int32)) (pc := 701) C dL_law_701 (by decide) ?_
  refine e_iadd (pc := 702) C dL_law_702 ?_
  obtain ⟨q1, hf⟩ := ck_e hf
  refine e_sldX (pc := 703) C hX hbl hB q1 dL_law_703 ?_
  refine e_aload_n (pc := 704) C dL_law_704 0 rfl rfl ?_
  refine e_iload_n (pc := 705) C dL_law_705 3 rfl rfl ?_
  refine e_iconst (v := (2 : Int32)) (pc := 706) C dL_law_706 (by decide) ?_
  refine e_iadd (pc := 707) C dL_law_707 ?_
  obtain ⟨q2, hf⟩ := ck_e hf
  refine e_sldX (pc := 708) C hX hbl hB q2 dL_law_708 ?_
  obtain ⟨t3, hf⟩ := ck_e hf
  obtain ⟨r6, h4, y5, hf⟩ := cb_e hf
  refine e_callVi (pc := 709) (st := []) 11 C (ct_X11_plan y5) dL_law_709 (by decide) t3 g1184 g1185 g1186 g146 g1187 hd_X11_plan rfl ⟨Nat.le_of_ble_eq_true rfl, Nat.le_of_ble_eq_true rfl⟩ ⟨by show _ ≤ 600000; omega, by show _ ≤ 7302250; omega⟩ rfl (Nat.le_of_ble_eq_true rfl) ?_
  refine e_aload_n (pc := 712) C dL_law_712 2 rfl rfl ?_
  refine e_aload_n (pc := 713) C dL_law_713 0 rfl rfl ?_
  refine e_iload_n (pc := 714) C dL_law_714 3 rfl rfl ?_
  refine e_iconst (v := (1 : Int32)) (pc := 715) C dL_law_715 (by decide) ?_
  refine e_iadd (pc := 716) C dL_law_716 ?_
  obtain ⟨q7, hf⟩ := ck_e hf
  refine e_sldX (pc := 717) C hX hbl hB q7 dL_law_717 ?_
  refine e_aload_n (pc := 718) C dL_law_718 0 rfl rfl ?_
  refine e_iload_n (pc := 719) C dL_law_719 3 rfl rfl ?_
  refine e_iconst (v := (2 : Int32)) (pc := 720) C dL_law_720 (by decide) ?_
  refine e_iadd (pc := 721) C dL_law_721 ?_
  obtain ⟨q8, hf⟩ := ck_e hf
  refine e_sldX (pc := 722) C hX hbl hB q8 dL_law_722 ?_
  obtain ⟨t9, hf⟩ := ck_e hf
  obtain ⟨r12, h10, y11, hf⟩ := cb_e hf
  refine e_callVi (pc := 723) (st := [.int r6]) 12 C (lf_ct (fun hI => pt_X12_plan hI) y11) dL_law_723 (by decide) t9 g2083 g2084 g2085 g157 g2086 hd_X12_plan rfl ⟨Nat.le_of_ble_eq_true rfl, Nat.le_of_ble_eq_true rfl⟩ ⟨by show _ ≤ 600000; omega, by show _ ≤ 7302250; omega⟩ rfl (Nat.le_of_ble_eq_true rfl) ?_
  rcases it_e hf with ⟨c13, hf⟩ | ⟨c13, hf⟩
  · refine e_icmp_eq (pc := 726) (tgt := 1117) C dL_law_726 (by decide) (fun _ => ?_) (fun q => absurd c13 q)
    obtain ⟨x14, ex14, hf⟩ := nn_e hf
    refine e_iinc (pc := 1117) (v := x14) (lv2 := [(3, .int x14), (0, .ref b), (1, .ref v1), (2, .ref v2)]) C hm dL_law_1117 3 rfl (by rw [ex14]; rfl) (by decide) rfl ?_
    refine e_goto (pc := 1120) (tgt := 18) C dL_law_1120 (by decide) ?_
    refine e_lv (lv2 := [(0, .ref b), (1, .ref v1), (2, .ref v2), (3, .int x14)]) [1, 2, 3, 0] rfl ?_
    exact hk x14 h10 _ _ ex14 (by omega) (by omega) hf
  · refine e_icmp_eq (pc := 726) (tgt := 1117) C dL_law_726 (by decide) (fun q => absurd q c13) (fun _ => ?_)
    refine e_iconst (v := (0 : Int32)) (pc := 729) C dL_law_729 (by decide) ?_
    obtain rfl := so_e hf
    exact e_zret (pc := 730) (v := (0 : Int32)) C hr (nz_ok (by decide)) dL_law_730 (by omega) (by omega)
noncomputable def L_case19 (G : GG) (L : Nat) (xs : Nat → Int32) (v1 v2 : Nat) (self_18 : Int32 → AH → Option (Int32 × AH)) (v3 : Int32) (h : AH) : Option (Int32 × AH) :=
ck (¬ (v3 + (1 : Int32) < 0 ∨ L ≤ (v3 + (1 : Int32)).toNatClampNeg)) <|
ck (¬ (v3 + (2 : Int32) < 0 ∨ L ≤ (v3 + (2 : Int32)).toNatClampNeg)) <|
ck (¬ (v3 + (3 : Int32) < 0 ∨ L ≤ (v3 + (3 : Int32)).toNatClampNeg)) <|
ck (m_t h v1 = .inl 11) <|
cb (f_X11_comes G v1 (xs (v3 + (1 : Int32)).toNatClampNeg) (xs (v3 + (2 : Int32)).toNatClampNeg) (xs (v3 + (3 : Int32)).toNatClampNeg) h) fun r7 h5 =>
ck (¬ (v3 + (1 : Int32) < 0 ∨ L ≤ (v3 + (1 : Int32)).toNatClampNeg)) <|
ck (¬ (v3 + (2 : Int32) < 0 ∨ L ≤ (v3 + (2 : Int32)).toNatClampNeg)) <|
ck (¬ (v3 + (3 : Int32) < 0 ∨ L ≤ (v3 + (3 : Int32)).toNatClampNeg)) <|
ck (m_t h5 v2 = .inl 12) <|
cb (lf v2 (p_X12_comes G (xs (v3 + (1 : Int32)).toNatClampNeg) (xs (v3 + (2 : Int32)).toNatClampNeg) (xs (v3 + (3 : Int32)).toNatClampNeg)) h5) fun r14 h12 =>
if r7 = r14 then (nn (v3 + (6 : Int32)) fun x16 =>
self_18 x16 h12) else
some ((0 : Int32), h12)
set_option maxHeartbeats 4000000 in
set_option maxRecDepth 100000 in
theorem el_case19 {G : GG} {p : Program} {l : Launch} {e : Env} {s : State} {m : MethodId} {args : Array Value} {below : List Frame} {meth : Method} {c : Code} {y : Int32 × AH} {b L : Nat} {xs : Nat → Int32} {v1 v2 : Nat} (C : Cx G code RL p s m args meth c) (hm : c.maxLocals = 4) (hr : meth.sig.returnType = some .boolean) (hX : va_X b L xs s s.heap) (hbl : b < s.heap.size) (hB : ¬ G.1 ≤ b) {self_18 : Int32 → AH → Option (Int32 × AH)} {v3 : Int32} {h : AH} {ce sl : Nat} (hce : ce + 40 ≤ 600000) (hsl : sl + 1000 ≤ 7302250) (hk : ∀ (x : Int32) (h : AH) (ce2 sl2 : Nat), x = v3 + 6 → ce2 ≤ ce + 20 → sl2 ≤ sl + 480 → self_18 x h = some y → EE G p l e room_1 s m args below meth c (some (.int y.1), y.2) 600000 7302250 18 [(0, .ref b), (1, .ref v1), (2, .ref v2), (3, .int x)] [] h ce2 sl2) (hf : L_case19 G L xs v1 v2 self_18 v3 h = some y) : EE G p l e room_1 s m args below meth c (some (.int y.1), y.2) 600000 7302250 731 [(0, .ref b), (1, .ref v1), (2, .ref v2), (3, .int v3)] [] h ce sl := by
  unfold L_case19 at hf
  refine e_aload_n (pc := 731) C dL_law_731 1 rfl rfl ?_
  refine e_aload_n (pc := 732) C dL_law_732 0 rfl rfl ?_
  refine e_iload_n (pc := 733) C dL_law_733 3 rfl rfl ?_
  refine e_iconst (v := (1 : Int32)) (pc := 734) C dL_law_734 (by decide) ?_
  refine e_iadd (pc := 735) C dL_law_735 ?_
  obtain ⟨q1, hf⟩ := ck_e hf
  refine e_sldX (pc := 736) C hX hbl hB q1 dL_law_736 ?_
  refine e_aload_n (pc := 737) C dL_law_737 0 rfl rfl ?_
  refine e_iload_n (pc := 738) C dL_law_738 3 rfl rfl ?_
  refine e_iconst (v := (2 : Int32)) (pc := 739) C dL_law_739 (by decide) ?_
  refine e_iadd (pc := 740) C dL_law_740 ?_
  obtain ⟨q2, hf⟩ := ck_e hf
  refine e_sldX (pc := 741) C hX hbl hB q2 dL_law_741 ?_
  refine e_aload_n (pc := 742) C dL_law_742 0 rfl rfl ?_
  refine e_iload_n (pc := 743) C dL_law_743 3 rfl rfl ?_
  refine e_iconst (v := (3 : Int32)) (pc := 744) C dL_law_744 (by decide) ?_
  refine e_iadd (pc := 745) C dL_law_745 ?_
  obtain ⟨q3, hf⟩ := ck_e hf
  refine e_sldX (pc := 746) C hX hbl hB q3 dL_law_746 ?_
  obtain ⟨t4, hf⟩ := ck_e hf
  obtain ⟨r7, h5, y6, hf⟩ := cb_e hf
  refine e_callVi (pc := 747) (st := []) 11 C (ct_X11_comes y6) dL_law_747 (by decide) t4 g1231 g1232 g1233 g146 g1234 hd_X11_comes rfl ⟨Nat.le_of_ble_eq_true rfl, Nat.le_of_ble_eq_true rfl⟩ ⟨by show _ ≤ 600000; omega, by show _ ≤ 7302250; omega⟩ rfl (Nat.le_of_ble_eq_true rfl) ?_
  refine e_aload_n (pc := 750) C dL_law_750 2 rfl rfl ?_
  refine e_aload_n (pc := 751) C dL_law_751 0 rfl rfl ?_
  refine e_iload_n (pc := 752) C dL_law_752 3 rfl rfl ?_
  refine e_iconst (v := (1 : Int32)) (pc := 753) C dL_law_753 (by decide) ?_
  refine e_iadd (pc := 754) C dL_law_754 ?_
  obtain ⟨q8, hf⟩ := ck_e hf
  refine e_sldX (pc := 755) C hX hbl hB q8 dL_law_755 ?_
  refine e_aload_n (pc := 756) C dL_law_756 0 rfl rfl ?_
  refine e_iload_n (pc := 757) C dL_law_757 3 rfl rfl ?_
  refine e_iconst (v := (2 : Int32)) (pc := 758) C dL_law_758 (by decide) ?_
  refine e_iadd (pc := 759) C dL_law_759 ?_
  obtain ⟨q9, hf⟩ := ck_e hf
  refine e_sldX (pc := 760) C hX hbl hB q9 dL_law_760 ?_
  refine e_aload_n (pc := 761) C dL_law_761 0 rfl rfl ?_
  refine e_iload_n (pc := 762) C dL_law_762 3 rfl rfl ?_
  refine e_iconst (v := (3 : Int32)) (pc := 763) C dL_law_763 (by decide) ?_
  refine e_iadd (pc := 764) C dL_law_764 ?_
  obtain ⟨q10, hf⟩ := ck_e hf
  refine e_sldX (pc := 765) C hX hbl hB q10 dL_law_765 ?_
  obtain ⟨t11, hf⟩ := ck_e hf
  obtain ⟨r14, h12, y13, hf⟩ := cb_e hf
  refine e_callVi (pc := 766) (st := [.int r7]) 12 C (lf_ct (fun hI => pt_X12_comes hI) y13) dL_law_766 (by decide) t11 g2109 g2110 g2111 g157 g2112 hd_X12_comes rfl ⟨Nat.le_of_ble_eq_true rfl, Nat.le_of_ble_eq_true rfl⟩ ⟨by show _ ≤ 600000; omega, by show _ ≤ 7302250; omega⟩ rfl (Nat.le_of_ble_eq_true rfl) ?_
  rcases it_e hf with ⟨c15, hf⟩ | ⟨c15, hf⟩
  · refine e_icmp_eq (pc := 769) (tgt := 1117) C dL_law_769 (by decide) (fun _ => ?_) (fun q => absurd c15 q)
    obtain ⟨x16, ex16, hf⟩ := nn_e hf
    refine e_iinc (pc := 1117) (v := x16) (lv2 := [(3, .int x16), (0, .ref b), (1, .ref v1), (2, .ref v2)]) C hm dL_law_1117 3 rfl (by rw [ex16]; rfl) (by decide) rfl ?_
    refine e_goto (pc := 1120) (tgt := 18) C dL_law_1120 (by decide) ?_
    refine e_lv (lv2 := [(0, .ref b), (1, .ref v1), (2, .ref v2), (3, .int x16)]) [1, 2, 3, 0] rfl ?_
    exact hk x16 h12 _ _ ex16 (by omega) (by omega) hf
  · refine e_icmp_eq (pc := 769) (tgt := 1117) C dL_law_769 (by decide) (fun q => absurd q c15) (fun _ => ?_)
    refine e_iconst (v := (0 : Int32)) (pc := 772) C dL_law_772 (by decide) ?_
    obtain rfl := so_e hf
    exact e_zret (pc := 773) (v := (0 : Int32)) C hr (nz_ok (by decide)) dL_law_773 (by omega) (by omega)
noncomputable def L_case20 (G : GG) (L : Nat) (xs : Nat → Int32) (v1 v2 : Nat) (self_18 : Int32 → AH → Option (Int32 × AH)) (v3 : Int32) (h : AH) : Option (Int32 × AH) :=
ck (¬ (v3 + (1 : Int32) < 0 ∨ L ≤ (v3 + (1 : Int32)).toNatClampNeg)) <|
ck (¬ (v3 + (2 : Int32) < 0 ∨ L ≤ (v3 + (2 : Int32)).toNatClampNeg)) <|
ck (¬ (v3 + (3 : Int32) < 0 ∨ L ≤ (v3 + (3 : Int32)).toNatClampNeg)) <|
ck (¬ (v3 + (4 : Int32) < 0 ∨ L ≤ (v3 + (4 : Int32)).toNatClampNeg)) <|
ck (m_t h v1 = .inl 11) <|
cb (f_X11_gains G v1 (xs (v3 + (1 : Int32)).toNatClampNeg) (xs (v3 + (2 : Int32)).toNatClampNeg) (xs (v3 + (3 : Int32)).toNatClampNeg) (xs (v3 + (4 : Int32)).toNatClampNeg) h) fun r8 h6 =>
ck (¬ (v3 + (1 : Int32) < 0 ∨ L ≤ (v3 + (1 : Int32)).toNatClampNeg)) <|
ck (¬ (v3 + (2 : Int32) < 0 ∨ L ≤ (v3 + (2 : Int32)).toNatClampNeg)) <|
ck (¬ (v3 + (3 : Int32) < 0 ∨ L ≤ (v3 + (3 : Int32)).toNatClampNeg)) <|
ck (¬ (v3 + (4 : Int32) < 0 ∨ L ≤ (v3 + (4 : Int32)).toNatClampNeg)) <|
ck (m_t h6 v2 = .inl 12) <|
cb (lf v2 (p_X12_gains G (xs (v3 + (1 : Int32)).toNatClampNeg) (xs (v3 + (2 : Int32)).toNatClampNeg) (xs (v3 + (3 : Int32)).toNatClampNeg) (xs (v3 + (4 : Int32)).toNatClampNeg)) h6) fun r16 h14 =>
if r8 = r16 then (nn (v3 + (6 : Int32)) fun x18 =>
self_18 x18 h14) else
some ((0 : Int32), h14)
set_option maxHeartbeats 4000000 in
set_option maxRecDepth 100000 in
theorem el_case20 {G : GG} {p : Program} {l : Launch} {e : Env} {s : State} {m : MethodId} {args : Array Value} {below : List Frame} {meth : Method} {c : Code} {y : Int32 × AH} {b L : Nat} {xs : Nat → Int32} {v1 v2 : Nat} (C : Cx G code RL p s m args meth c) (hm : c.maxLocals = 4) (hr : meth.sig.returnType = some .boolean) (hX : va_X b L xs s s.heap) (hbl : b < s.heap.size) (hB : ¬ G.1 ≤ b) {self_18 : Int32 → AH → Option (Int32 × AH)} {v3 : Int32} {h : AH} {ce sl : Nat} (hce : ce + 40 ≤ 600000) (hsl : sl + 1000 ≤ 7302250) (hk : ∀ (x : Int32) (h : AH) (ce2 sl2 : Nat), x = v3 + 6 → ce2 ≤ ce + 20 → sl2 ≤ sl + 480 → self_18 x h = some y → EE G p l e room_1 s m args below meth c (some (.int y.1), y.2) 600000 7302250 18 [(0, .ref b), (1, .ref v1), (2, .ref v2), (3, .int x)] [] h ce2 sl2) (hf : L_case20 G L xs v1 v2 self_18 v3 h = some y) : EE G p l e room_1 s m args below meth c (some (.int y.1), y.2) 600000 7302250 774 [(0, .ref b), (1, .ref v1), (2, .ref v2), (3, .int v3)] [] h ce sl := by
  unfold L_case20 at hf
  refine e_aload_n (pc := 774) C dL_law_774 1 rfl rfl ?_
  refine e_aload_n (pc := 775) C dL_law_775 0 rfl rfl ?_
  refine e_iload_n (pc := 776) C dL_law_776 3 rfl rfl ?_
  refine e_iconst (v := (1 : Int32)) (pc := 777) C dL_law_777 (by decide) ?_
  refine e_iadd (pc := 778) C dL_law_778 ?_
  obtain ⟨q1, hf⟩ := ck_e hf
  refine e_sldX (pc := 779) C hX hbl hB q1 dL_law_779 ?_
  refine e_aload_n (pc := 780) C dL_law_780 0 rfl rfl ?_
  refine e_iload_n (pc := 781) C dL_law_781 3 rfl rfl ?_
  refine e_iconst (v := (2 : Int32)) (pc := 782) C dL_law_782 (by decide) ?_
  refine e_iadd (pc := 783) C dL_law_783 ?_
  obtain ⟨q2, hf⟩ := ck_e hf
  refine e_sldX (pc := 784) C hX hbl hB q2 dL_law_784 ?_
  refine e_aload_n (pc := 785) C dL_law_785 0 rfl rfl ?_
  refine e_iload_n (pc := 786) C dL_law_786 3 rfl rfl ?_
  refine e_iconst (v := (3 : Int32)) (pc := 787) C dL_law_787 (by decide) ?_
  refine e_iadd (pc := 788) C dL_law_788 ?_
  obtain ⟨q3, hf⟩ := ck_e hf
  refine e_sldX (pc := 789) C hX hbl hB q3 dL_law_789 ?_
  refine e_aload_n (pc := 790) C dL_law_790 0 rfl rfl ?_
  refine e_iload_n (pc := 791) C dL_law_791 3 rfl rfl ?_
  refine e_iconst (v := (4 : Int32)) (pc := 792) C dL_law_792 (by decide) ?_
  refine e_iadd (pc := 793) C dL_law_793 ?_
  obtain ⟨q4, hf⟩ := ck_e hf
  refine e_sldX (pc := 794) C hX hbl hB q4 dL_law_794 ?_
  obtain ⟨t5, hf⟩ := ck_e hf
  obtain ⟨r8, h6, y7, hf⟩ := cb_e hf
  refine e_callVi (pc := 795) (st := []) 11 C (ct_X11_gains y7) dL_law_795 (by decide) t5 g1247 g1248 g1249 g146 g1250 hd_X11_gains rfl ⟨Nat.le_of_ble_eq_true rfl, Nat.le_of_ble_eq_true rfl⟩ ⟨by show _ ≤ 600000; omega, by show _ ≤ 7302250; omega⟩ rfl (Nat.le_of_ble_eq_true rfl) ?_
  refine e_aload_n (pc := 798) C dL_law_798 2 rfl rfl ?_
  refine e_aload_n (pc := 799) C dL_law_799 0 rfl rfl ?_
  refine e_iload_n (pc := 800) C dL_law_800 3 rfl rfl ?_
  refine e_iconst (v := (1 : Int32)) (pc := 801) C dL_law_801 (by decide) ?_
  refine e_iadd (pc := 802) C dL_law_802 ?_
  obtain ⟨q9, hf⟩ := ck_e hf
  refine e_sldX (pc := 803) C hX hbl hB q9 dL_law_803 ?_
  refine e_aload_n (pc := 804) C dL_law_804 0 rfl rfl ?_
  refine e_iload_n (pc := 805) C dL_law_805 3 rfl rfl ?_
  refine e_iconst (v := (2 : Int32)) (pc := 806) C dL_law_806 (by decide) ?_
  refine e_iadd (pc := 807) C dL_law_807 ?_
  obtain ⟨q10, hf⟩ := ck_e hf
  refine e_sldX (pc := 808) C hX hbl hB q10 dL_law_808 ?_
  refine e_aload_n (pc := 809) C dL_law_809 0 rfl rfl ?_
  refine e_iload_n (pc := 810) C dL_law_810 3 rfl rfl ?_
  refine e_iconst (v := (3 : Int32)) (pc := 811) C dL_law_811 (by decide) ?_
  refine e_iadd (pc := 812) C dL_law_812 ?_
  obtain ⟨q11, hf⟩ := ck_e hf
  refine e_sldX (pc := 813) C hX hbl hB q11 dL_law_813 ?_
  refine e_aload_n (pc := 814) C dL_law_814 0 rfl rfl ?_
  refine e_iload_n (pc := 815) C dL_law_815 3 rfl rfl ?_
  refine e_iconst (v := (4 : Int32)) (pc := 816) C dL_law_816 (by decide) ?_
  refine e_iadd (pc := 817) C dL_law_817 ?_
  obtain ⟨q12, hf⟩ := ck_e hf
  refine e_sldX (pc := 818) C hX hbl hB q12 dL_law_818 ?_
  obtain ⟨t13, hf⟩ := ck_e hf
  obtain ⟨r16, h14, y15, hf⟩ := cb_e hf
  refine e_callVi (pc := 819) (st := [.int r8]) 12 C (lf_ct (fun hI => pt_X12_gains hI) y15) dL_law_819 (by decide) t13 g2118 g2119 g2120 g157 g2121 hd_X12_gains rfl ⟨Nat.le_of_ble_eq_true rfl, Nat.le_of_ble_eq_true rfl⟩ ⟨by show _ ≤ 600000; omega, by show _ ≤ 7302250; omega⟩ rfl (Nat.le_of_ble_eq_true rfl) ?_
  rcases it_e hf with ⟨c17, hf⟩ | ⟨c17, hf⟩
  · refine e_icmp_eq (pc := 822) (tgt := 1117) C dL_law_822 (by decide) (fun _ => ?_) (fun q => absurd c17 q)
    obtain ⟨x18, ex18, hf⟩ := nn_e hf
    refine e_iinc (pc := 1117) (v := x18) (lv2 := [(3, .int x18), (0, .ref b), (1, .ref v1), (2, .ref v2)]) C hm dL_law_1117 3 rfl (by rw [ex18]; rfl) (by decide) rfl ?_
    refine e_goto (pc := 1120) (tgt := 18) C dL_law_1120 (by decide) ?_
    refine e_lv (lv2 := [(0, .ref b), (1, .ref v1), (2, .ref v2), (3, .int x18)]) [1, 2, 3, 0] rfl ?_
    exact hk x18 h14 _ _ ex18 (by omega) (by omega) hf
  · refine e_icmp_eq (pc := 822) (tgt := 1117) C dL_law_822 (by decide) (fun q => absurd q c17) (fun _ => ?_)
    refine e_iconst (v := (0 : Int32)) (pc := 825) C dL_law_825 (by decide) ?_
    obtain rfl := so_e hf
    exact e_zret (pc := 826) (v := (0 : Int32)) C hr (nz_ok (by decide)) dL_law_826 (by omega) (by omega)
noncomputable def L_case21 (G : GG) (L : Nat) (xs : Nat → Int32) (v1 v2 : Nat) (self_18 : Int32 → AH → Option (Int32 × AH)) (v3 : Int32) (h : AH) : Option (Int32 × AH) :=
ck (¬ (v3 + (1 : Int32) < 0 ∨ L ≤ (v3 + (1 : Int32)).toNatClampNeg)) <|
ck (¬ (v3 + (2 : Int32) < 0 ∨ L ≤ (v3 + (2 : Int32)).toNatClampNeg)) <|
ck (¬ (v3 + (3 : Int32) < 0 ∨ L ≤ (v3 + (3 : Int32)).toNatClampNeg)) <|
ck (m_t h v1 = .inl 11) <|
cb (f_X11_rests G v1 (xs (v3 + (1 : Int32)).toNatClampNeg) (xs (v3 + (2 : Int32)).toNatClampNeg) (xs (v3 + (3 : Int32)).toNatClampNeg) h) fun r7 h5 =>
ck (¬ (v3 + (1 : Int32) < 0 ∨ L ≤ (v3 + (1 : Int32)).toNatClampNeg)) <|
ck (¬ (v3 + (2 : Int32) < 0 ∨ L ≤ (v3 + (2 : Int32)).toNatClampNeg)) <|
ck (¬ (v3 + (3 : Int32) < 0 ∨ L ≤ (v3 + (3 : Int32)).toNatClampNeg)) <|
ck (m_t h5 v2 = .inl 12) <|
cb (lf v2 (p_X12_rests G (xs (v3 + (1 : Int32)).toNatClampNeg) (xs (v3 + (2 : Int32)).toNatClampNeg) (xs (v3 + (3 : Int32)).toNatClampNeg)) h5) fun r14 h12 =>
if r7 = r14 then (nn (v3 + (6 : Int32)) fun x16 =>
self_18 x16 h12) else
some ((0 : Int32), h12)
set_option maxHeartbeats 4000000 in
set_option maxRecDepth 100000 in
theorem el_case21 {G : GG} {p : Program} {l : Launch} {e : Env} {s : State} {m : MethodId} {args : Array Value} {below : List Frame} {meth : Method} {c : Code} {y : Int32 × AH} {b L : Nat} {xs : Nat → Int32} {v1 v2 : Nat} (C : Cx G code RL p s m args meth c) (hm : c.maxLocals = 4) (hr : meth.sig.returnType = some .boolean) (hX : va_X b L xs s s.heap) (hbl : b < s.heap.size) (hB : ¬ G.1 ≤ b) {self_18 : Int32 → AH → Option (Int32 × AH)} {v3 : Int32} {h : AH} {ce sl : Nat} (hce : ce + 40 ≤ 600000) (hsl : sl + 1000 ≤ 7302250) (hk : ∀ (x : Int32) (h : AH) (ce2 sl2 : Nat), x = v3 + 6 → ce2 ≤ ce + 20 → sl2 ≤ sl + 480 → self_18 x h = some y → EE G p l e room_1 s m args below meth c (some (.int y.1), y.2) 600000 7302250 18 [(0, .ref b), (1, .ref v1), (2, .ref v2), (3, .int x)] [] h ce2 sl2) (hf : L_case21 G L xs v1 v2 self_18 v3 h = some y) : EE G p l e room_1 s m args below meth c (some (.int y.1), y.2) 600000 7302250 827 [(0, .ref b), (1, .ref v1), (2, .ref v2), (3, .int v3)] [] h ce sl := by
  unfold L_case21 at hf
  refine e_aload_n (pc := 827) C dL_law_827 1 rfl rfl ?_
  refine e_aload_n (pc := 828) C dL_law_828 0 rfl rfl ?_
  refine e_iload_n (pc := 829) C dL_law_829 3 rfl rfl ?_
  refine e_iconst (v := (1 : Int32)) (pc := 830) C dL_law_830 (by decide) ?_
  refine e_iadd (pc := 831) C dL_law_831 ?_
  obtain ⟨q1, hf⟩ := ck_e hf
  refine e_sldX (pc := 832) C hX hbl hB q1 dL_law_832 ?_
  refine e_aload_n (pc := 833) C dL_law_833 0 rfl rfl ?_
  refine e_iload_n (pc := 834) C dL_law_834 3 rfl rfl ?_
  refine e_iconst (v := (2 : Int32)) (pc := 835) C dL_law_835 (by decide) ?_
  refine e_iadd (pc := 836) C dL_law_836 ?_
  obtain ⟨q2, hf⟩ := ck_e hf
  refine e_sldX (pc := 837) C hX hbl hB q2 dL_law_837 ?_
  refine e_aload_n (pc := 838) C dL_law_838 0 rfl rfl ?_
  refine e_iload_n (pc := 839) C dL_law_839 3 rfl rfl ?_
  refine e_iconst (v := (3 : Int32)) (pc := 840) C dL_law_840 (by decide) ?_
  refine e_iadd (pc := 841) C dL_law_841 ?_
  obtain ⟨q3, hf⟩ := ck_e hf
  refine e_sldX (pc := 842) C hX hbl hB q3 dL_law_842 ?_
  obtain ⟨t4, hf⟩ := ck_e hf
  obtain ⟨r7, h5, y6, hf⟩ := cb_e hf
  refine e_callVi (pc := 843) (st := []) 11 C (ct_X11_rests y6) dL_law_843 (by decide) t4 g1255 g1256 g1257 g146 g1258 hd_X11_rests rfl ⟨Nat.le_of_ble_eq_true rfl, Nat.le_of_ble_eq_true rfl⟩ ⟨by show _ ≤ 600000; omega, by show _ ≤ 7302250; omega⟩ rfl (Nat.le_of_ble_eq_true rfl) ?_
  refine e_aload_n (pc := 846) C dL_law_846 2 rfl rfl ?_
  refine e_aload_n (pc := 847) C dL_law_847 0 rfl rfl ?_
  refine e_iload_n (pc := 848) C dL_law_848 3 rfl rfl ?_
  refine e_iconst (v := (1 : Int32)) (pc := 849) C dL_law_849 (by decide) ?_
  refine e_iadd (pc := 850) C dL_law_850 ?_
  obtain ⟨q8, hf⟩ := ck_e hf
  refine e_sldX (pc := 851) C hX hbl hB q8 dL_law_851 ?_
  refine e_aload_n (pc := 852) C dL_law_852 0 rfl rfl ?_
  refine e_iload_n (pc := 853) C dL_law_853 3 rfl rfl ?_
  refine e_iconst (v := (2 : Int32)) (pc := 854) C dL_law_854 (by decide) ?_
  refine e_iadd (pc := 855) C dL_law_855 ?_
  obtain ⟨q9, hf⟩ := ck_e hf
  refine e_sldX (pc := 856) C hX hbl hB q9 dL_law_856 ?_
  refine e_aload_n (pc := 857) C dL_law_857 0 rfl rfl ?_
  refine e_iload_n (pc := 858) C dL_law_858 3 rfl rfl ?_
  refine e_iconst (v := (3 : Int32)) (pc := 859) C dL_law_859 (by decide) ?_
  refine e_iadd (pc := 860) C dL_law_860 ?_
  obtain ⟨q10, hf⟩ := ck_e hf
  refine e_sldX (pc := 861) C hX hbl hB q10 dL_law_861 ?_
  obtain ⟨t11, hf⟩ := ck_e hf
  obtain ⟨r14, h12, y13, hf⟩ := cb_e hf
  refine e_callVi (pc := 862) (st := [.int r7]) 12 C (lf_ct (fun hI => pt_X12_rests hI) y13) dL_law_862 (by decide) t11 g2130 g2131 g2132 g157 g2133 hd_X12_rests rfl ⟨Nat.le_of_ble_eq_true rfl, Nat.le_of_ble_eq_true rfl⟩ ⟨by show _ ≤ 600000; omega, by show _ ≤ 7302250; omega⟩ rfl (Nat.le_of_ble_eq_true rfl) ?_
  rcases it_e hf with ⟨c15, hf⟩ | ⟨c15, hf⟩
  · refine e_icmp_eq (pc := 865) (tgt := 1117) C dL_law_865 (by decide) (fun _ => ?_) (fun q => absurd c15 q)
    obtain ⟨x16, ex16, hf⟩ := nn_e hf
    refine e_iinc (pc := 1117) (v := x16) (lv2 := [(3, .int x16), (0, .ref b), (1, .ref v1), (2, .ref v2)]) C hm dL_law_1117 3 rfl (by rw [ex16]; rfl) (by decide) rfl ?_
    refine e_goto (pc := 1120) (tgt := 18) C dL_law_1120 (by decide) ?_
    refine e_lv (lv2 := [(0, .ref b), (1, .ref v1), (2, .ref v2), (3, .int x16)]) [1, 2, 3, 0] rfl ?_
    exact hk x16 h12 _ _ ex16 (by omega) (by omega) hf
  · refine e_icmp_eq (pc := 865) (tgt := 1117) C dL_law_865 (by decide) (fun q => absurd q c15) (fun _ => ?_)
    refine e_iconst (v := (0 : Int32)) (pc := 868) C dL_law_868 (by decide) ?_
    obtain rfl := so_e hf
    exact e_zret (pc := 869) (v := (0 : Int32)) C hr (nz_ok (by decide)) dL_law_869 (by omega) (by omega)
noncomputable def L_case22 (G : GG) (L : Nat) (xs : Nat → Int32) (v1 v2 : Nat) (self_18 : Int32 → AH → Option (Int32 × AH)) (v3 : Int32) (h : AH) : Option (Int32 × AH) :=
ck (¬ (v3 + (1 : Int32) < 0 ∨ L ≤ (v3 + (1 : Int32)).toNatClampNeg)) <|
ck (m_t h v1 = .inl 11) <|
cb (f_X11_swing G v1 (xs (v3 + (1 : Int32)).toNatClampNeg) h) fun r5 h3 =>
ck (¬ (v3 + (1 : Int32) < 0 ∨ L ≤ (v3 + (1 : Int32)).toNatClampNeg)) <|
ck (m_t h3 v2 = .inl 12) <|
cb (lf v2 (p_X12_swing G (xs (v3 + (1 : Int32)).toNatClampNeg)) h3) fun r10 h8 =>
if r5 = r10 then (nn (v3 + (6 : Int32)) fun x12 =>
self_18 x12 h8) else
some ((0 : Int32), h8)
set_option maxHeartbeats 4000000 in
set_option maxRecDepth 100000 in
theorem el_case22 {G : GG} {p : Program} {l : Launch} {e : Env} {s : State} {m : MethodId} {args : Array Value} {below : List Frame} {meth : Method} {c : Code} {y : Int32 × AH} {b L : Nat} {xs : Nat → Int32} {v1 v2 : Nat} (C : Cx G code RL p s m args meth c) (hm : c.maxLocals = 4) (hr : meth.sig.returnType = some .boolean) (hX : va_X b L xs s s.heap) (hbl : b < s.heap.size) (hB : ¬ G.1 ≤ b) {self_18 : Int32 → AH → Option (Int32 × AH)} {v3 : Int32} {h : AH} {ce sl : Nat} (hce : ce + 40 ≤ 600000) (hsl : sl + 1000 ≤ 7302250) (hk : ∀ (x : Int32) (h : AH) (ce2 sl2 : Nat), x = v3 + 6 → ce2 ≤ ce + 20 → sl2 ≤ sl + 480 → self_18 x h = some y → EE G p l e room_1 s m args below meth c (some (.int y.1), y.2) 600000 7302250 18 [(0, .ref b), (1, .ref v1), (2, .ref v2), (3, .int x)] [] h ce2 sl2) (hf : L_case22 G L xs v1 v2 self_18 v3 h = some y) : EE G p l e room_1 s m args below meth c (some (.int y.1), y.2) 600000 7302250 870 [(0, .ref b), (1, .ref v1), (2, .ref v2), (3, .int v3)] [] h ce sl := by
  unfold L_case22 at hf
  refine e_aload_n (pc := 870) C dL_law_870 1 rfl rfl ?_
  refine e_aload_n (pc := 871) C dL_law_871 0 rfl rfl ?_
  refine e_iload_n (pc := 872) C dL_law_872 3 rfl rfl ?_
  refine e_iconst (v := (1 : Int32)) (pc := 873) C dL_law_873 (by decide) ?_
  refine e_iadd (pc := 874) C dL_law_874 ?_
  obtain ⟨q1, hf⟩ := ck_e hf
  refine e_sldX (pc := 875) C hX hbl hB q1 dL_law_875 ?_
  obtain ⟨t2, hf⟩ := ck_e hf
  obtain ⟨r5, h3, y4, hf⟩ := cb_e hf
  refine e_callVi (pc := 876) (st := []) 11 C (ct_X11_swing y4) dL_law_876 (by decide) t2 g1276 g1277 g1278 g146 g1279 hd_X11_swing rfl ⟨Nat.le_of_ble_eq_true rfl, Nat.le_of_ble_eq_true rfl⟩ ⟨by show _ ≤ 600000; omega, by show _ ≤ 7302250; omega⟩ rfl (Nat.le_of_ble_eq_true rfl) ?_
  refine e_aload_n (pc := 879) C dL_law_879 2 rfl rfl ?_
  refine e_aload_n (pc := 880) C dL_law_880 0 rfl rfl ?_
  refine e_iload_n (pc := 881) C dL_law_881 3 rfl rfl ?_
  refine e_iconst (v := (1 : Int32)) (pc := 882) C dL_law_882 (by decide) ?_
  refine e_iadd (pc := 883) C dL_law_883 ?_
  obtain ⟨q6, hf⟩ := ck_e hf
  refine e_sldX (pc := 884) C hX hbl hB q6 dL_law_884 ?_
  obtain ⟨t7, hf⟩ := ck_e hf
  obtain ⟨r10, h8, y9, hf⟩ := cb_e hf
  refine e_callVi (pc := 885) (st := [.int r5]) 12 C (lf_ct (fun hI => pt_X12_swing hI) y9) dL_law_885 (by decide) t7 g2152 g2153 g2154 g157 g2155 hd_X12_swing rfl ⟨Nat.le_of_ble_eq_true rfl, Nat.le_of_ble_eq_true rfl⟩ ⟨by show _ ≤ 600000; omega, by show _ ≤ 7302250; omega⟩ rfl (Nat.le_of_ble_eq_true rfl) ?_
  rcases it_e hf with ⟨c11, hf⟩ | ⟨c11, hf⟩
  · refine e_icmp_eq (pc := 888) (tgt := 1117) C dL_law_888 (by decide) (fun _ => ?_) (fun q => absurd c11 q)
    obtain ⟨x12, ex12, hf⟩ := nn_e hf
    refine e_iinc (pc := 1117) (v := x12) (lv2 := [(3, .int x12), (0, .ref b), (1, .ref v1), (2, .ref v2)]) C hm dL_law_1117 3 rfl (by rw [ex12]; rfl) (by decide) rfl ?_
    refine e_goto (pc := 1120) (tgt := 18) C dL_law_1120 (by decide) ?_
    refine e_lv (lv2 := [(0, .ref b), (1, .ref v1), (2, .ref v2), (3, .int x12)]) [1, 2, 3, 0] rfl ?_
    exact hk x12 h8 _ _ ex12 (by omega) (by omega) hf
  · refine e_icmp_eq (pc := 888) (tgt := 1117) C dL_law_888 (by decide) (fun q => absurd q c11) (fun _ => ?_)
    refine e_iconst (v := (0 : Int32)) (pc := 891) C dL_law_891 (by decide) ?_
    obtain rfl := so_e hf
    exact e_zret (pc := 892) (v := (0 : Int32)) C hr (nz_ok (by decide)) dL_law_892 (by omega) (by omega)
noncomputable def L_case23 (G : GG) (L : Nat) (xs : Nat → Int32) (v1 v2 : Nat) (self_18 : Int32 → AH → Option (Int32 × AH)) (v3 : Int32) (h : AH) : Option (Int32 × AH) :=
ck (¬ (v3 + (1 : Int32) < 0 ∨ L ≤ (v3 + (1 : Int32)).toNatClampNeg)) <|
ck (¬ (v3 + (2 : Int32) < 0 ∨ L ≤ (v3 + (2 : Int32)).toNatClampNeg)) <|
ck (m_t h v1 = .inl 11) <|
cb (f_X11_log G v1 (xs (v3 + (1 : Int32)).toNatClampNeg) (xs (v3 + (2 : Int32)).toNatClampNeg) h) fun r6 h4 =>
ck (¬ (v3 + (1 : Int32) < 0 ∨ L ≤ (v3 + (1 : Int32)).toNatClampNeg)) <|
ck (¬ (v3 + (2 : Int32) < 0 ∨ L ≤ (v3 + (2 : Int32)).toNatClampNeg)) <|
ck (m_t h4 v2 = .inl 12) <|
cb (lf v2 (p_X12_log G (xs (v3 + (1 : Int32)).toNatClampNeg) (xs (v3 + (2 : Int32)).toNatClampNeg)) h4) fun r12 h10 =>
if r6 = r12 then (nn (v3 + (6 : Int32)) fun x14 =>
self_18 x14 h10) else
some ((0 : Int32), h10)
set_option maxHeartbeats 4000000 in
set_option maxRecDepth 100000 in
theorem el_case23 {G : GG} {p : Program} {l : Launch} {e : Env} {s : State} {m : MethodId} {args : Array Value} {below : List Frame} {meth : Method} {c : Code} {y : Int32 × AH} {b L : Nat} {xs : Nat → Int32} {v1 v2 : Nat} (C : Cx G code RL p s m args meth c) (hm : c.maxLocals = 4) (hr : meth.sig.returnType = some .boolean) (hX : va_X b L xs s s.heap) (hbl : b < s.heap.size) (hB : ¬ G.1 ≤ b) {self_18 : Int32 → AH → Option (Int32 × AH)} {v3 : Int32} {h : AH} {ce sl : Nat} (hce : ce + 40 ≤ 600000) (hsl : sl + 1000 ≤ 7302250) (hk : ∀ (x : Int32) (h : AH) (ce2 sl2 : Nat), x = v3 + 6 → ce2 ≤ ce + 20 → sl2 ≤ sl + 480 → self_18 x h = some y → EE G p l e room_1 s m args below meth c (some (.int y.1), y.2) 600000 7302250 18 [(0, .ref b), (1, .ref v1), (2, .ref v2), (3, .int x)] [] h ce2 sl2) (hf : L_case23 G L xs v1 v2 self_18 v3 h = some y) : EE G p l e room_1 s m args below meth c (some (.int y.1), y.2) 600000 7302250 893 [(0, .ref b), (1, .ref v1), (2, .ref v2), (3, .int v3)] [] h ce sl := by
  unfold L_case23 at hf
  refine e_aload_n (pc := 893) C dL_law_893 1 rfl rfl ?_
  refine e_aload_n (pc := 894) C dL_law_894 0 rfl rfl ?_
  refine e_iload_n (pc := 895) C dL_law_895 3 rfl rfl ?_
  refine e_iconst (v := (1 : Int32)) (pc := 896) C dL_law_896 (by decide) ?_
  refine e_iadd (pc := 897) C dL_law_897 ?_
  obtain ⟨q1, hf⟩ := ck_e hf
  refine e_sldX (pc := 898) C hX hbl hB q1 dL_law_898 ?_
  refine e_aload_n (pc := 899) C dL_law_899 0 rfl rfl ?_
  refine e_iload_n (pc := 900) C dL_law_900 3 rfl rfl ?_
  refine e_iconst (v := (2 : Int32)) (pc := 901) C dL_law_901 (by decide) ?_
  refine e_iadd (pc := 902) C dL_law_902 ?_
  obtain ⟨q2, hf⟩ := ck_e hf
  refine e_sldX (pc := 903) C hX hbl hB q2 dL_law_903 ?_
  obtain ⟨t3, hf⟩ := ck_e hf
  obtain ⟨r6, h4, y5, hf⟩ := cb_e hf
  refine e_callVi (pc := 904) (st := []) 11 C (ct_X11_log y5) dL_law_904 (by decide) t3 g1297 g1298 g1299 g146 g1300 hd_X11_log rfl ⟨Nat.le_of_ble_eq_true rfl, Nat.le_of_ble_eq_true rfl⟩ ⟨by show _ ≤ 600000; omega, by show _ ≤ 7302250; omega⟩ rfl (Nat.le_of_ble_eq_true rfl) ?_
  refine e_aload_n (pc := 907) C dL_law_907 2 rfl rfl ?_
  refine e_aload_n (pc := 908) C dL_law_908 0 rfl rfl ?_
  refine e_iload_n (pc := 909) C dL_law_909 3 rfl rfl ?_
  refine e_iconst (v := (1 : Int32)) (pc := 910) C dL_law_910 (by decide) ?_
  refine e_iadd (pc := 911) C dL_law_911 ?_
  obtain ⟨q7, hf⟩ := ck_e hf
  refine e_sldX (pc := 912) C hX hbl hB q7 dL_law_912 ?_
  refine e_aload_n (pc := 913) C dL_law_913 0 rfl rfl ?_
  refine e_iload_n (pc := 914) C dL_law_914 3 rfl rfl ?_
  refine e_iconst (v := (2 : Int32)) (pc := 915) C dL_law_915 (by decide) ?_
  refine e_iadd (pc := 916) C dL_law_916 ?_
  obtain ⟨q8, hf⟩ := ck_e hf
  refine e_sldX (pc := 917) C hX hbl hB q8 dL_law_917 ?_
  obtain ⟨t9, hf⟩ := ck_e hf
  obtain ⟨r12, h10, y11, hf⟩ := cb_e hf
  refine e_callVi (pc := 918) (st := [.int r6]) 12 C (lf_ct (fun hI => pt_X12_log hI) y11) dL_law_918 (by decide) t9 g2174 g2175 g2176 g157 g2177 hd_X12_log rfl ⟨Nat.le_of_ble_eq_true rfl, Nat.le_of_ble_eq_true rfl⟩ ⟨by show _ ≤ 600000; omega, by show _ ≤ 7302250; omega⟩ rfl (Nat.le_of_ble_eq_true rfl) ?_
  rcases it_e hf with ⟨c13, hf⟩ | ⟨c13, hf⟩
  · refine e_icmp_eq (pc := 921) (tgt := 1117) C dL_law_921 (by decide) (fun _ => ?_) (fun q => absurd c13 q)
    obtain ⟨x14, ex14, hf⟩ := nn_e hf
    refine e_iinc (pc := 1117) (v := x14) (lv2 := [(3, .int x14), (0, .ref b), (1, .ref v1), (2, .ref v2)]) C hm dL_law_1117 3 rfl (by rw [ex14]; rfl) (by decide) rfl ?_
    refine e_goto (pc := 1120) (tgt := 18) C dL_law_1120 (by decide) ?_
    refine e_lv (lv2 := [(0, .ref b), (1, .ref v1), (2, .ref v2), (3, .int x14)]) [1, 2, 3, 0] rfl ?_
    exact hk x14 h10 _ _ ex14 (by omega) (by omega) hf
  · refine e_icmp_eq (pc := 921) (tgt := 1117) C dL_law_921 (by decide) (fun q => absurd q c13) (fun _ => ?_)
    refine e_iconst (v := (0 : Int32)) (pc := 924) C dL_law_924 (by decide) ?_
    obtain rfl := so_e hf
    exact e_zret (pc := 925) (v := (0 : Int32)) C hr (nz_ok (by decide)) dL_law_925 (by omega) (by omega)
noncomputable def L_case24 (G : GG) (L : Nat) (xs : Nat → Int32) (v1 v2 : Nat) (self_18 : Int32 → AH → Option (Int32 × AH)) (v3 : Int32) (h : AH) : Option (Int32 × AH) :=
ck (¬ (v3 + (1 : Int32) < 0 ∨ L ≤ (v3 + (1 : Int32)).toNatClampNeg)) <|
ck (m_t h v1 = .inl 11) <|
cb (f_X11_ruled G v1 (xs (v3 + (1 : Int32)).toNatClampNeg) h) fun r5 h3 =>
ck (¬ (v3 + (1 : Int32) < 0 ∨ L ≤ (v3 + (1 : Int32)).toNatClampNeg)) <|
ck (m_t h3 v2 = .inl 12) <|
cb (lf v2 (p_X12_ruled G (xs (v3 + (1 : Int32)).toNatClampNeg)) h3) fun r10 h8 =>
if r5 = r10 then (nn (v3 + (6 : Int32)) fun x12 =>
self_18 x12 h8) else
some ((0 : Int32), h8)
set_option maxHeartbeats 4000000 in
set_option maxRecDepth 100000 in
theorem el_case24 {G : GG} {p : Program} {l : Launch} {e : Env} {s : State} {m : MethodId} {args : Array Value} {below : List Frame} {meth : Method} {c : Code} {y : Int32 × AH} {b L : Nat} {xs : Nat → Int32} {v1 v2 : Nat} (C : Cx G code RL p s m args meth c) (hm : c.maxLocals = 4) (hr : meth.sig.returnType = some .boolean) (hX : va_X b L xs s s.heap) (hbl : b < s.heap.size) (hB : ¬ G.1 ≤ b) {self_18 : Int32 → AH → Option (Int32 × AH)} {v3 : Int32} {h : AH} {ce sl : Nat} (hce : ce + 40 ≤ 600000) (hsl : sl + 1000 ≤ 7302250) (hk : ∀ (x : Int32) (h : AH) (ce2 sl2 : Nat), x = v3 + 6 → ce2 ≤ ce + 20 → sl2 ≤ sl + 480 → self_18 x h = some y → EE G p l e room_1 s m args below meth c (some (.int y.1), y.2) 600000 7302250 18 [(0, .ref b), (1, .ref v1), (2, .ref v2), (3, .int x)] [] h ce2 sl2) (hf : L_case24 G L xs v1 v2 self_18 v3 h = some y) : EE G p l e room_1 s m args below meth c (some (.int y.1), y.2) 600000 7302250 926 [(0, .ref b), (1, .ref v1), (2, .ref v2), (3, .int v3)] [] h ce sl := by
  unfold L_case24 at hf
  refine e_aload_n (pc := 926) C dL_law_926 1 rfl rfl ?_
  refine e_aload_n (pc := 927) C dL_law_927 0 rfl rfl ?_
  refine e_iload_n (pc := 928) C dL_law_928 3 rfl rfl ?_
  refine e_iconst (v := (1 : Int32)) (pc := 929) C dL_law_929 (by decide) ?_
  refine e_iadd (pc := 930) C dL_law_930 ?_
  obtain ⟨q1, hf⟩ := ck_e hf
  refine e_sldX (pc := 931) C hX hbl hB q1 dL_law_931 ?_
  obtain ⟨t2, hf⟩ := ck_e hf
  obtain ⟨r5, h3, y4, hf⟩ := cb_e hf
  refine e_callVi (pc := 932) (st := []) 11 C (ct_X11_ruled y4) dL_law_932 (by decide) t2 g1305 g1306 g1307 g146 g1308 hd_X11_ruled rfl ⟨Nat.le_of_ble_eq_true rfl, Nat.le_of_ble_eq_true rfl⟩ ⟨by show _ ≤ 600000; omega, by show _ ≤ 7302250; omega⟩ rfl (Nat.le_of_ble_eq_true rfl) ?_
  refine e_aload_n (pc := 935) C dL_law_935 2 rfl rfl ?_
  refine e_aload_n (pc := 936) C dL_law_936 0 rfl rfl ?_
  refine e_iload_n (pc := 937) C dL_law_937 3 rfl rfl ?_
  refine e_iconst (v := (1 : Int32)) (pc := 938) C dL_law_938 (by decide) ?_
  refine e_iadd (pc := 939) C dL_law_939 ?_
  obtain ⟨q6, hf⟩ := ck_e hf
  refine e_sldX (pc := 940) C hX hbl hB q6 dL_law_940 ?_
  obtain ⟨t7, hf⟩ := ck_e hf
  obtain ⟨r10, h8, y9, hf⟩ := cb_e hf
  refine e_callVi (pc := 941) (st := [.int r5]) 12 C (lf_ct (fun hI => pt_X12_ruled hI) y9) dL_law_941 (by decide) t7 g2178 g2179 g2180 g157 g2181 hd_X12_ruled rfl ⟨Nat.le_of_ble_eq_true rfl, Nat.le_of_ble_eq_true rfl⟩ ⟨by show _ ≤ 600000; omega, by show _ ≤ 7302250; omega⟩ rfl (Nat.le_of_ble_eq_true rfl) ?_
  rcases it_e hf with ⟨c11, hf⟩ | ⟨c11, hf⟩
  · refine e_icmp_eq (pc := 944) (tgt := 1117) C dL_law_944 (by decide) (fun _ => ?_) (fun q => absurd c11 q)
    obtain ⟨x12, ex12, hf⟩ := nn_e hf
    refine e_iinc (pc := 1117) (v := x12) (lv2 := [(3, .int x12), (0, .ref b), (1, .ref v1), (2, .ref v2)]) C hm dL_law_1117 3 rfl (by rw [ex12]; rfl) (by decide) rfl ?_
    refine e_goto (pc := 1120) (tgt := 18) C dL_law_1120 (by decide) ?_
    refine e_lv (lv2 := [(0, .ref b), (1, .ref v1), (2, .ref v2), (3, .int x12)]) [1, 2, 3, 0] rfl ?_
    exact hk x12 h8 _ _ ex12 (by omega) (by omega) hf
  · refine e_icmp_eq (pc := 944) (tgt := 1117) C dL_law_944 (by decide) (fun q => absurd q c11) (fun _ => ?_)
    refine e_iconst (v := (0 : Int32)) (pc := 947) C dL_law_947 (by decide) ?_
    obtain rfl := so_e hf
    exact e_zret (pc := 948) (v := (0 : Int32)) C hr (nz_ok (by decide)) dL_law_948 (by omega) (by omega)
noncomputable def L_case25 (G : GG) (L : Nat) (xs : Nat → Int32) (v1 v2 : Nat) (self_18 : Int32 → AH → Option (Int32 × AH)) (v3 : Int32) (h : AH) : Option (Int32 × AH) :=
ck (¬ (v3 + (1 : Int32) < 0 ∨ L ≤ (v3 + (1 : Int32)).toNatClampNeg)) <|
ck (m_t h v1 = .inl 11) <|
cb (f_X11_look G v1 (xs (v3 + (1 : Int32)).toNatClampNeg) h) fun r5 h3 =>
ck (¬ (v3 + (1 : Int32) < 0 ∨ L ≤ (v3 + (1 : Int32)).toNatClampNeg)) <|
ck (m_t h3 v2 = .inl 12) <|
cb (lf v2 (p_X12_look G (xs (v3 + (1 : Int32)).toNatClampNeg)) h3) fun r10 h8 =>
if r5 = r10 then (nn (v3 + (6 : Int32)) fun x12 =>
self_18 x12 h8) else
some ((0 : Int32), h8)
set_option maxHeartbeats 4000000 in
set_option maxRecDepth 100000 in
theorem el_case25 {G : GG} {p : Program} {l : Launch} {e : Env} {s : State} {m : MethodId} {args : Array Value} {below : List Frame} {meth : Method} {c : Code} {y : Int32 × AH} {b L : Nat} {xs : Nat → Int32} {v1 v2 : Nat} (C : Cx G code RL p s m args meth c) (hm : c.maxLocals = 4) (hr : meth.sig.returnType = some .boolean) (hX : va_X b L xs s s.heap) (hbl : b < s.heap.size) (hB : ¬ G.1 ≤ b) {self_18 : Int32 → AH → Option (Int32 × AH)} {v3 : Int32} {h : AH} {ce sl : Nat} (hce : ce + 40 ≤ 600000) (hsl : sl + 1000 ≤ 7302250) (hk : ∀ (x : Int32) (h : AH) (ce2 sl2 : Nat), x = v3 + 6 → ce2 ≤ ce + 20 → sl2 ≤ sl + 480 → self_18 x h = some y → EE G p l e room_1 s m args below meth c (some (.int y.1), y.2) 600000 7302250 18 [(0, .ref b), (1, .ref v1), (2, .ref v2), (3, .int x)] [] h ce2 sl2) (hf : L_case25 G L xs v1 v2 self_18 v3 h = some y) : EE G p l e room_1 s m args below meth c (some (.int y.1), y.2) 600000 7302250 949 [(0, .ref b), (1, .ref v1), (2, .ref v2), (3, .int v3)] [] h ce sl := by
  unfold L_case25 at hf
  refine e_aload_n (pc := 949) C dL_law_949 1 rfl rfl ?_
  refine e_aload_n (pc := 950) C dL_law_950 0 rfl rfl ?_
  refine e_iload_n (pc := 951) C dL_law_951 3 rfl rfl ?_
  refine e_iconst (v := (1 : Int32)) (pc := 952) C dL_law_952 (by decide) ?_
  refine e_iadd (pc := 953) C dL_law_953 ?_
  obtain ⟨q1, hf⟩ := ck_e hf
  refine e_sldX (pc := 954) C hX hbl hB q1 dL_law_954 ?_
  obtain ⟨t2, hf⟩ := ck_e hf
  obtain ⟨r5, h3, y4, hf⟩ := cb_e hf
  refine e_callVi (pc := 955) (st := []) 11 C (ct_X11_look y4) dL_law_955 (by decide) t2 g1331 g1332 g1333 g146 g1334 hd_X11_look rfl ⟨Nat.le_of_ble_eq_true rfl, Nat.le_of_ble_eq_true rfl⟩ ⟨by show _ ≤ 600000; omega, by show _ ≤ 7302250; omega⟩ rfl (Nat.le_of_ble_eq_true rfl) ?_
  refine e_aload_n (pc := 958) C dL_law_958 2 rfl rfl ?_
  refine e_aload_n (pc := 959) C dL_law_959 0 rfl rfl ?_
  refine e_iload_n (pc := 960) C dL_law_960 3 rfl rfl ?_
  refine e_iconst (v := (1 : Int32)) (pc := 961) C dL_law_961 (by decide) ?_
  refine e_iadd (pc := 962) C dL_law_962 ?_
  obtain ⟨q6, hf⟩ := ck_e hf
  refine e_sldX (pc := 963) C hX hbl hB q6 dL_law_963 ?_
  obtain ⟨t7, hf⟩ := ck_e hf
  obtain ⟨r10, h8, y9, hf⟩ := cb_e hf
  refine e_callVi (pc := 964) (st := [.int r5]) 12 C (lf_ct (fun hI => pt_X12_look hI) y9) dL_law_964 (by decide) t7 g2186 g2187 g2188 g157 g2189 hd_X12_look rfl ⟨Nat.le_of_ble_eq_true rfl, Nat.le_of_ble_eq_true rfl⟩ ⟨by show _ ≤ 600000; omega, by show _ ≤ 7302250; omega⟩ rfl (Nat.le_of_ble_eq_true rfl) ?_
  rcases it_e hf with ⟨c11, hf⟩ | ⟨c11, hf⟩
  · refine e_icmp_eq (pc := 967) (tgt := 1117) C dL_law_967 (by decide) (fun _ => ?_) (fun q => absurd c11 q)
    obtain ⟨x12, ex12, hf⟩ := nn_e hf
    refine e_iinc (pc := 1117) (v := x12) (lv2 := [(3, .int x12), (0, .ref b), (1, .ref v1), (2, .ref v2)]) C hm dL_law_1117 3 rfl (by rw [ex12]; rfl) (by decide) rfl ?_
    refine e_goto (pc := 1120) (tgt := 18) C dL_law_1120 (by decide) ?_
    refine e_lv (lv2 := [(0, .ref b), (1, .ref v1), (2, .ref v2), (3, .int x12)]) [1, 2, 3, 0] rfl ?_
    exact hk x12 h8 _ _ ex12 (by omega) (by omega) hf
  · refine e_icmp_eq (pc := 967) (tgt := 1117) C dL_law_967 (by decide) (fun q => absurd q c11) (fun _ => ?_)
    refine e_iconst (v := (0 : Int32)) (pc := 970) C dL_law_970 (by decide) ?_
    obtain rfl := so_e hf
    exact e_zret (pc := 971) (v := (0 : Int32)) C hr (nz_ok (by decide)) dL_law_971 (by omega) (by omega)
noncomputable def L_case26 (G : GG) (L : Nat) (xs : Nat → Int32) (v1 v2 : Nat) (self_18 : Int32 → AH → Option (Int32 × AH)) (v3 : Int32) (h : AH) : Option (Int32 × AH) :=
ck (¬ (v3 + (1 : Int32) < 0 ∨ L ≤ (v3 + (1 : Int32)).toNatClampNeg)) <|
ck (m_t h v1 = .inl 11) <|
cb (f_X11_seed G v1 (xs (v3 + (1 : Int32)).toNatClampNeg) h) fun r5 h3 =>
ck (¬ (v3 + (1 : Int32) < 0 ∨ L ≤ (v3 + (1 : Int32)).toNatClampNeg)) <|
ck (m_t h3 v2 = .inl 12) <|
cb (lf v2 (p_X12_seed G (xs (v3 + (1 : Int32)).toNatClampNeg)) h3) fun r10 h8 =>
if r5 = r10 then (nn (v3 + (6 : Int32)) fun x12 =>
self_18 x12 h8) else
some ((0 : Int32), h8)
set_option maxHeartbeats 4000000 in
set_option maxRecDepth 100000 in
theorem el_case26 {G : GG} {p : Program} {l : Launch} {e : Env} {s : State} {m : MethodId} {args : Array Value} {below : List Frame} {meth : Method} {c : Code} {y : Int32 × AH} {b L : Nat} {xs : Nat → Int32} {v1 v2 : Nat} (C : Cx G code RL p s m args meth c) (hm : c.maxLocals = 4) (hr : meth.sig.returnType = some .boolean) (hX : va_X b L xs s s.heap) (hbl : b < s.heap.size) (hB : ¬ G.1 ≤ b) {self_18 : Int32 → AH → Option (Int32 × AH)} {v3 : Int32} {h : AH} {ce sl : Nat} (hce : ce + 40 ≤ 600000) (hsl : sl + 1000 ≤ 7302250) (hk : ∀ (x : Int32) (h : AH) (ce2 sl2 : Nat), x = v3 + 6 → ce2 ≤ ce + 20 → sl2 ≤ sl + 480 → self_18 x h = some y → EE G p l e room_1 s m args below meth c (some (.int y.1), y.2) 600000 7302250 18 [(0, .ref b), (1, .ref v1), (2, .ref v2), (3, .int x)] [] h ce2 sl2) (hf : L_case26 G L xs v1 v2 self_18 v3 h = some y) : EE G p l e room_1 s m args below meth c (some (.int y.1), y.2) 600000 7302250 972 [(0, .ref b), (1, .ref v1), (2, .ref v2), (3, .int v3)] [] h ce sl := by
  unfold L_case26 at hf
  refine e_aload_n (pc := 972) C dL_law_972 1 rfl rfl ?_
  refine e_aload_n (pc := 973) C dL_law_973 0 rfl rfl ?_
  refine e_iload_n (pc := 974) C dL_law_974 3 rfl rfl ?_
  refine e_iconst (v := (1 : Int32)) (pc := 975) C dL_law_975 (by decide) ?_
  refine e_iadd (pc := 976) C dL_law_976 ?_
  obtain ⟨q1, hf⟩ := ck_e hf
  refine e_sldX (pc := 977) C hX hbl hB q1 dL_law_977 ?_
  obtain ⟨t2, hf⟩ := ck_e hf
  obtain ⟨r5, h3, y4, hf⟩ := cb_e hf
  refine e_callVi (pc := 978) (st := []) 11 C (ct_X11_seed y4) dL_law_978 (by decide) t2 g1345 g1346 g1347 g146 g1348 hd_X11_seed rfl ⟨Nat.le_of_ble_eq_true rfl, Nat.le_of_ble_eq_true rfl⟩ ⟨by show _ ≤ 600000; omega, by show _ ≤ 7302250; omega⟩ rfl (Nat.le_of_ble_eq_true rfl) ?_
  refine e_aload_n (pc := 981) C dL_law_981 2 rfl rfl ?_
  refine e_aload_n (pc := 982) C dL_law_982 0 rfl rfl ?_
  refine e_iload_n (pc := 983) C dL_law_983 3 rfl rfl ?_
  refine e_iconst (v := (1 : Int32)) (pc := 984) C dL_law_984 (by decide) ?_
  refine e_iadd (pc := 985) C dL_law_985 ?_
  obtain ⟨q6, hf⟩ := ck_e hf
  refine e_sldX (pc := 986) C hX hbl hB q6 dL_law_986 ?_
  obtain ⟨t7, hf⟩ := ck_e hf
  obtain ⟨r10, h8, y9, hf⟩ := cb_e hf
  refine e_callVi (pc := 987) (st := [.int r5]) 12 C (lf_ct (fun hI => pt_X12_seed hI) y9) dL_law_987 (by decide) t7 g2194 g2195 g2196 g157 g2197 hd_X12_seed rfl ⟨Nat.le_of_ble_eq_true rfl, Nat.le_of_ble_eq_true rfl⟩ ⟨by show _ ≤ 600000; omega, by show _ ≤ 7302250; omega⟩ rfl (Nat.le_of_ble_eq_true rfl) ?_
  rcases it_e hf with ⟨c11, hf⟩ | ⟨c11, hf⟩
  · refine e_icmp_eq (pc := 990) (tgt := 1117) C dL_law_990 (by decide) (fun _ => ?_) (fun q => absurd c11 q)
    obtain ⟨x12, ex12, hf⟩ := nn_e hf
    refine e_iinc (pc := 1117) (v := x12) (lv2 := [(3, .int x12), (0, .ref b), (1, .ref v1), (2, .ref v2)]) C hm dL_law_1117 3 rfl (by rw [ex12]; rfl) (by decide) rfl ?_
    refine e_goto (pc := 1120) (tgt := 18) C dL_law_1120 (by decide) ?_
    refine e_lv (lv2 := [(0, .ref b), (1, .ref v1), (2, .ref v2), (3, .int x12)]) [1, 2, 3, 0] rfl ?_
    exact hk x12 h8 _ _ ex12 (by omega) (by omega) hf
  · refine e_icmp_eq (pc := 990) (tgt := 1117) C dL_law_990 (by decide) (fun q => absurd q c11) (fun _ => ?_)
    refine e_iconst (v := (0 : Int32)) (pc := 993) C dL_law_993 (by decide) ?_
    obtain rfl := so_e hf
    exact e_zret (pc := 994) (v := (0 : Int32)) C hr (nz_ok (by decide)) dL_law_994 (by omega) (by omega)
noncomputable def L_case27 (G : GG) (L : Nat) (xs : Nat → Int32) (v1 v2 : Nat) (self_18 : Int32 → AH → Option (Int32 × AH)) (v3 : Int32) (h : AH) : Option (Int32 × AH) :=
ck (¬ (v3 + (1 : Int32) < 0 ∨ L ≤ (v3 + (1 : Int32)).toNatClampNeg)) <|
ck (¬ (v3 + (2 : Int32) < 0 ∨ L ≤ (v3 + (2 : Int32)).toNatClampNeg)) <|
ck (¬ (v3 + (3 : Int32) < 0 ∨ L ≤ (v3 + (3 : Int32)).toNatClampNeg)) <|
ck (¬ (v3 + (4 : Int32) < 0 ∨ L ≤ (v3 + (4 : Int32)).toNatClampNeg)) <|
ck (m_t h v1 = .inl 11) <|
cb (f_X11_journeys G v1 (xs (v3 + (1 : Int32)).toNatClampNeg) (xs (v3 + (2 : Int32)).toNatClampNeg) (xs (v3 + (3 : Int32)).toNatClampNeg) (xs (v3 + (4 : Int32)).toNatClampNeg) h) fun r8 h6 =>
ck (¬ (v3 + (1 : Int32) < 0 ∨ L ≤ (v3 + (1 : Int32)).toNatClampNeg)) <|
ck (¬ (v3 + (2 : Int32) < 0 ∨ L ≤ (v3 + (2 : Int32)).toNatClampNeg)) <|
ck (¬ (v3 + (3 : Int32) < 0 ∨ L ≤ (v3 + (3 : Int32)).toNatClampNeg)) <|
ck (¬ (v3 + (4 : Int32) < 0 ∨ L ≤ (v3 + (4 : Int32)).toNatClampNeg)) <|
ck (m_t h6 v2 = .inl 12) <|
cb (lf v2 (p_X12_journeys G (xs (v3 + (1 : Int32)).toNatClampNeg) (xs (v3 + (2 : Int32)).toNatClampNeg) (xs (v3 + (3 : Int32)).toNatClampNeg) (xs (v3 + (4 : Int32)).toNatClampNeg)) h6) fun r16 h14 =>
if r8 = r16 then (nn (v3 + (6 : Int32)) fun x18 =>
self_18 x18 h14) else
some ((0 : Int32), h14)
set_option maxHeartbeats 4000000 in
set_option maxRecDepth 100000 in
theorem el_case27 {G : GG} {p : Program} {l : Launch} {e : Env} {s : State} {m : MethodId} {args : Array Value} {below : List Frame} {meth : Method} {c : Code} {y : Int32 × AH} {b L : Nat} {xs : Nat → Int32} {v1 v2 : Nat} (C : Cx G code RL p s m args meth c) (hm : c.maxLocals = 4) (hr : meth.sig.returnType = some .boolean) (hX : va_X b L xs s s.heap) (hbl : b < s.heap.size) (hB : ¬ G.1 ≤ b) {self_18 : Int32 → AH → Option (Int32 × AH)} {v3 : Int32} {h : AH} {ce sl : Nat} (hce : ce + 40 ≤ 600000) (hsl : sl + 1000 ≤ 7302250) (hk : ∀ (x : Int32) (h : AH) (ce2 sl2 : Nat), x = v3 + 6 → ce2 ≤ ce + 20 → sl2 ≤ sl + 480 → self_18 x h = some y → EE G p l e room_1 s m args below meth c (some (.int y.1), y.2) 600000 7302250 18 [(0, .ref b), (1, .ref v1), (2, .ref v2), (3, .int x)] [] h ce2 sl2) (hf : L_case27 G L xs v1 v2 self_18 v3 h = some y) : EE G p l e room_1 s m args below meth c (some (.int y.1), y.2) 600000 7302250 995 [(0, .ref b), (1, .ref v1), (2, .ref v2), (3, .int v3)] [] h ce sl := by
  unfold L_case27 at hf
  refine e_aload_n (pc := 995) C dL_law_995 1 rfl rfl ?_
  refine e_aload_n (pc := 996) C dL_law_996 0 rfl rfl ?_
  refine e_iload_n (pc := 997) C dL_law_997 3 rfl rfl ?_
  refine e_iconst (v := (1 : Int32)) (pc := 998) C dL_law_998 (by decide) ?_
  refine e_iadd (pc := 999) C dL_law_999 ?_
  obtain ⟨q1, hf⟩ := ck_e hf
  refine e_sldX (pc := 1000) C hX hbl hB q1 dL_law_1000 ?_
  refine e_aload_n (pc := 1001) C dL_law_1001 0 rfl rfl ?_
  refine e_iload_n (pc := 1002) C dL_law_1002 3 rfl rfl ?_
  refine e_iconst (v := (2 : Int32)) (pc := 1003) C dL_law_1003 (by decide) ?_
  refine e_iadd (pc := 1004) C dL_law_1004 ?_
  obtain ⟨q2, hf⟩ := ck_e hf
  refine e_sldX (pc := 1005) C hX hbl hB q2 dL_law_1005 ?_
  refine e_aload_n (pc := 1006) C dL_law_1006 0 rfl rfl ?_
  refine e_iload_n (pc := 1007) C dL_law_1007 3 rfl rfl ?_
  refine e_iconst (v := (3 : Int32)) (pc := 1008) C dL_law_1008 (by decide) ?_
  refine e_iadd (pc := 1009) C dL_law_1009 ?_
  obtain ⟨q3, hf⟩ := ck_e hf
  refine e_sldX (pc := 1010) C hX hbl hB q3 dL_law_1010 ?_
  refine e_aload_n (pc := 1011) C dL_law_1011 0 rfl rfl ?_
  refine e_iload_n (pc := 1012) C dL_law_1012 3 rfl rfl ?_
  refine e_iconst (v := (4 : Int32)) (pc := 1013) C dL_law_1013 (by decide) ?_
  refine e_iadd (pc := 1014) C dL_law_1014 ?_
  obtain ⟨q4, hf⟩ := ck_e hf
  refine e_sldX (pc := 1015) C hX hbl hB q4 dL_law_1015 ?_
  obtain ⟨t5, hf⟩ := ck_e hf
  obtain ⟨r8, h6, y7, hf⟩ := cb_e hf
  refine e_callVi (pc := 1016) (st := []) 11 C (ct_X11_journeys y7) dL_law_1016 (by decide) t5 g1349 g1350 g1351 g146 g1352 hd_X11_journeys rfl ⟨Nat.le_of_ble_eq_true rfl, Nat.le_of_ble_eq_true rfl⟩ ⟨by show _ ≤ 600000; omega, by show _ ≤ 7302250; omega⟩ rfl (Nat.le_of_ble_eq_true rfl) ?_
  refine e_aload_n (pc := 1019) C dL_law_1019 2 rfl rfl ?_
  refine e_aload_n (pc := 1020) C dL_law_1020 0 rfl rfl ?_
  refine e_iload_n (pc := 1021) C dL_law_1021 3 rfl rfl ?_
  refine e_iconst (v := (1 : Int32)) (pc := 1022) C dL_law_1022 (by decide) ?_
  refine e_iadd (pc := 1023) C dL_law_1023 ?_
  obtain ⟨q9, hf⟩ := ck_e hf
  refine e_sldX (pc := 1024) C hX hbl hB q9 dL_law_1024 ?_
  refine e_aload_n (pc := 1025) C dL_law_1025 0 rfl rfl ?_
  refine e_iload_n (pc := 1026) C dL_law_1026 3 rfl rfl ?_
  refine e_iconst (v := (2 : Int32)) (pc := 1027) C dL_law_1027 (by decide) ?_
  refine e_iadd (pc := 1028) C dL_law_1028 ?_
  obtain ⟨q10, hf⟩ := ck_e hf
  refine e_sldX (pc := 1029) C hX hbl hB q10 dL_law_1029 ?_
  refine e_aload_n (pc := 1030) C dL_law_1030 0 rfl rfl ?_
  refine e_iload_n (pc := 1031) C dL_law_1031 3 rfl rfl ?_
  refine e_iconst (v := (3 : Int32)) (pc := 1032) C dL_law_1032 (by decide) ?_
  refine e_iadd (pc := 1033) C dL_law_1033 ?_
  obtain ⟨q11, hf⟩ := ck_e hf
  refine e_sldX (pc := 1034) C hX hbl hB q11 dL_law_1034 ?_
  refine e_aload_n (pc := 1035) C dL_law_1035 0 rfl rfl ?_
  refine e_iload_n (pc := 1036) C dL_law_1036 3 rfl rfl ?_
  refine e_iconst (v := (4 : Int32)) (pc := 1037) C dL_law_1037 (by decide) ?_
  refine e_iadd (pc := 1038) C dL_law_1038 ?_
  obtain ⟨q12, hf⟩ := ck_e hf
  refine e_sldX (pc := 1039) C hX hbl hB q12 dL_law_1039 ?_
  obtain ⟨t13, hf⟩ := ck_e hf
  obtain ⟨r16, h14, y15, hf⟩ := cb_e hf
  refine e_callVi (pc := 1040) (st := [.int r8]) 12 C (lf_ct (fun hI => pt_X12_journeys hI) y15) dL_law_1040 (by decide) t13 g2198 g2199 g2200 g157 g2201 hd_X12_journeys rfl ⟨Nat.le_of_ble_eq_true rfl, Nat.le_of_ble_eq_true rfl⟩ ⟨by show _ ≤ 600000; omega, by show _ ≤ 7302250; omega⟩ rfl (Nat.le_of_ble_eq_true rfl) ?_
  rcases it_e hf with ⟨c17, hf⟩ | ⟨c17, hf⟩
  · refine e_icmp_eq (pc := 1043) (tgt := 1117) C dL_law_1043 (by decide) (fun _ => ?_) (fun q => absurd c17 q)
    obtain ⟨x18, ex18, hf⟩ := nn_e hf
    refine e_iinc (pc := 1117) (v := x18) (lv2 := [(3, .int x18), (0, .ref b), (1, .ref v1), (2, .ref v2)]) C hm dL_law_1117 3 rfl (by rw [ex18]; rfl) (by decide) rfl ?_
    refine e_goto (pc := 1120) (tgt := 18) C dL_law_1120 (by decide) ?_
    refine e_lv (lv2 := [(0, .ref b), (1, .ref v1), (2, .ref v2), (3, .int x18)]) [1, 2, 3, 0] rfl ?_
    exact hk x18 h14 _ _ ex18 (by omega) (by omega) hf
  · refine e_icmp_eq (pc := 1043) (tgt := 1117) C dL_law_1043 (by decide) (fun q => absurd q c17) (fun _ => ?_)
    refine e_iconst (v := (0 : Int32)) (pc := 1046) C dL_law_1046 (by decide) ?_
    obtain rfl := so_e hf
    exact e_zret (pc := 1047) (v := (0 : Int32)) C hr (nz_ok (by decide)) dL_law_1047 (by omega) (by omega)
noncomputable def L_case28 (G : GG) (L : Nat) (xs : Nat → Int32) (v1 v2 : Nat) (self_18 : Int32 → AH → Option (Int32 × AH)) (v3 : Int32) (h : AH) : Option (Int32 × AH) :=
ck (¬ (v3 + (1 : Int32) < 0 ∨ L ≤ (v3 + (1 : Int32)).toNatClampNeg)) <|
ck (m_t h v1 = .inl 11) <|
cb (f_X11_count G v1 (xs (v3 + (1 : Int32)).toNatClampNeg) h) fun r5 h3 =>
ck (¬ (v3 + (1 : Int32) < 0 ∨ L ≤ (v3 + (1 : Int32)).toNatClampNeg)) <|
ck (m_t h3 v2 = .inl 12) <|
cb (lf v2 (p_X12_count G (xs (v3 + (1 : Int32)).toNatClampNeg)) h3) fun r10 h8 =>
if r5 = r10 then (nn (v3 + (6 : Int32)) fun x12 =>
self_18 x12 h8) else
some ((0 : Int32), h8)
set_option maxHeartbeats 4000000 in
set_option maxRecDepth 100000 in
theorem el_case28 {G : GG} {p : Program} {l : Launch} {e : Env} {s : State} {m : MethodId} {args : Array Value} {below : List Frame} {meth : Method} {c : Code} {y : Int32 × AH} {b L : Nat} {xs : Nat → Int32} {v1 v2 : Nat} (C : Cx G code RL p s m args meth c) (hm : c.maxLocals = 4) (hr : meth.sig.returnType = some .boolean) (hX : va_X b L xs s s.heap) (hbl : b < s.heap.size) (hB : ¬ G.1 ≤ b) {self_18 : Int32 → AH → Option (Int32 × AH)} {v3 : Int32} {h : AH} {ce sl : Nat} (hce : ce + 40 ≤ 600000) (hsl : sl + 1000 ≤ 7302250) (hk : ∀ (x : Int32) (h : AH) (ce2 sl2 : Nat), x = v3 + 6 → ce2 ≤ ce + 20 → sl2 ≤ sl + 480 → self_18 x h = some y → EE G p l e room_1 s m args below meth c (some (.int y.1), y.2) 600000 7302250 18 [(0, .ref b), (1, .ref v1), (2, .ref v2), (3, .int x)] [] h ce2 sl2) (hf : L_case28 G L xs v1 v2 self_18 v3 h = some y) : EE G p l e room_1 s m args below meth c (some (.int y.1), y.2) 600000 7302250 1048 [(0, .ref b), (1, .ref v1), (2, .ref v2), (3, .int v3)] [] h ce sl := by
  unfold L_case28 at hf
  refine e_aload_n (pc := 1048) C dL_law_1048 1 rfl rfl ?_
  refine e_aload_n (pc := 1049) C dL_law_1049 0 rfl rfl ?_
  refine e_iload_n (pc := 1050) C dL_law_1050 3 rfl rfl ?_
  refine e_iconst (v := (1 : Int32)) (pc := 1051) C dL_law_1051 (by decide) ?_
  refine e_iadd (pc := 1052) C dL_law_1052 ?_
  obtain ⟨q1, hf⟩ := ck_e hf
  refine e_sldX (pc := 1053) C hX hbl hB q1 dL_law_1053 ?_
  obtain ⟨t2, hf⟩ := ck_e hf
  obtain ⟨r5, h3, y4, hf⟩ := cb_e hf
  refine e_callVi (pc := 1054) (st := []) 11 C (ct_X11_count y4) dL_law_1054 (by decide) t2 g1379 g1380 g1381 g146 g1382 hd_X11_count rfl ⟨Nat.le_of_ble_eq_true rfl, Nat.le_of_ble_eq_true rfl⟩ ⟨by show _ ≤ 600000; omega, by show _ ≤ 7302250; omega⟩ rfl (Nat.le_of_ble_eq_true rfl) ?_
  refine e_aload_n (pc := 1057) C dL_law_1057 2 rfl rfl ?_
  refine e_aload_n (pc := 1058) C dL_law_1058 0 rfl rfl ?_
  refine e_iload_n (pc := 1059) C dL_law_1059 3 rfl rfl ?_
  refine e_iconst (v := (1 : Int32)) (pc := 1060) C dL_law_1060 (by decide) ?_
  refine e_iadd (pc := 1061) C dL_law_1061 ?_
  obtain ⟨q6, hf⟩ := ck_e hf
  refine e_sldX (pc := 1062) C hX hbl hB q6 dL_law_1062 ?_
  obtain ⟨t7, hf⟩ := ck_e hf
  obtain ⟨r10, h8, y9, hf⟩ := cb_e hf
  refine e_callVi (pc := 1063) (st := [.int r5]) 12 C (lf_ct (fun hI => pt_X12_count hI) y9) dL_law_1063 (by decide) t7 g2224 g2225 g2226 g157 g2227 hd_X12_count rfl ⟨Nat.le_of_ble_eq_true rfl, Nat.le_of_ble_eq_true rfl⟩ ⟨by show _ ≤ 600000; omega, by show _ ≤ 7302250; omega⟩ rfl (Nat.le_of_ble_eq_true rfl) ?_
  rcases it_e hf with ⟨c11, hf⟩ | ⟨c11, hf⟩
  · refine e_icmp_eq (pc := 1066) (tgt := 1117) C dL_law_1066 (by decide) (fun _ => ?_) (fun q => absurd c11 q)
    obtain ⟨x12, ex12, hf⟩ := nn_e hf
    refine e_iinc (pc := 1117) (v := x12) (lv2 := [(3, .int x12), (0, .ref b), (1, .ref v1), (2, .ref v2)]) C hm dL_law_1117 3 rfl (by rw [ex12]; rfl) (by decide) rfl ?_
    refine e_goto (pc := 1120) (tgt := 18) C dL_law_1120 (by decide) ?_
    refine e_lv (lv2 := [(0, .ref b), (1, .ref v1), (2, .ref v2), (3, .int x12)]) [1, 2, 3, 0] rfl ?_
    exact hk x12 h8 _ _ ex12 (by omega) (by omega) hf
  · refine e_icmp_eq (pc := 1066) (tgt := 1117) C dL_law_1066 (by decide) (fun q => absurd q c11) (fun _ => ?_)
    refine e_iconst (v := (0 : Int32)) (pc := 1069) C dL_law_1069 (by decide) ?_
    obtain rfl := so_e hf
    exact e_zret (pc := 1070) (v := (0 : Int32)) C hr (nz_ok (by decide)) dL_law_1070 (by omega) (by omega)
noncomputable def L_case29 (G : GG) (L : Nat) (xs : Nat → Int32) (v1 v2 : Nat) (self_18 : Int32 → AH → Option (Int32 × AH)) (v3 : Int32) (h : AH) : Option (Int32 × AH) :=
ck (¬ (v3 + (1 : Int32) < 0 ∨ L ≤ (v3 + (1 : Int32)).toNatClampNeg)) <|
ck (m_t h v1 = .inl 11) <|
cb (f_X11_image G v1 (xs (v3 + (1 : Int32)).toNatClampNeg) h) fun r5 h3 =>
ck (¬ (v3 + (1 : Int32) < 0 ∨ L ≤ (v3 + (1 : Int32)).toNatClampNeg)) <|
ck (m_t h3 v2 = .inl 12) <|
cb (lf v2 (p_X12_image G (xs (v3 + (1 : Int32)).toNatClampNeg)) h3) fun r10 h8 =>
if r5 = r10 then (nn (v3 + (6 : Int32)) fun x12 =>
self_18 x12 h8) else
some ((0 : Int32), h8)
set_option maxHeartbeats 4000000 in
set_option maxRecDepth 100000 in
theorem el_case29 {G : GG} {p : Program} {l : Launch} {e : Env} {s : State} {m : MethodId} {args : Array Value} {below : List Frame} {meth : Method} {c : Code} {y : Int32 × AH} {b L : Nat} {xs : Nat → Int32} {v1 v2 : Nat} (C : Cx G code RL p s m args meth c) (hm : c.maxLocals = 4) (hr : meth.sig.returnType = some .boolean) (hX : va_X b L xs s s.heap) (hbl : b < s.heap.size) (hB : ¬ G.1 ≤ b) {self_18 : Int32 → AH → Option (Int32 × AH)} {v3 : Int32} {h : AH} {ce sl : Nat} (hce : ce + 40 ≤ 600000) (hsl : sl + 1000 ≤ 7302250) (hk : ∀ (x : Int32) (h : AH) (ce2 sl2 : Nat), x = v3 + 6 → ce2 ≤ ce + 20 → sl2 ≤ sl + 480 → self_18 x h = some y → EE G p l e room_1 s m args below meth c (some (.int y.1), y.2) 600000 7302250 18 [(0, .ref b), (1, .ref v1), (2, .ref v2), (3, .int x)] [] h ce2 sl2) (hf : L_case29 G L xs v1 v2 self_18 v3 h = some y) : EE G p l e room_1 s m args below meth c (some (.int y.1), y.2) 600000 7302250 1071 [(0, .ref b), (1, .ref v1), (2, .ref v2), (3, .int v3)] [] h ce sl := by
  unfold L_case29 at hf
  refine e_aload_n (pc := 1071) C dL_law_1071 1 rfl rfl ?_
  refine e_aload_n (pc := 1072) C dL_law_1072 0 rfl rfl ?_
  refine e_iload_n (pc := 1073) C dL_law_1073 3 rfl rfl ?_
  refine e_iconst (v := (1 : Int32)) (pc := 1074) C dL_law_1074 (by decide) ?_
  refine e_iadd (pc := 1075) C dL_law_1075 ?_
  obtain ⟨q1, hf⟩ := ck_e hf
  refine e_sldX (pc := 1076) C hX hbl hB q1 dL_law_1076 ?_
  obtain ⟨t2, hf⟩ := ck_e hf
  obtain ⟨r5, h3, y4, hf⟩ := cb_e hf
  refine e_callVi (pc := 1077) (st := []) 11 C (ct_X11_image y4) dL_law_1077 (by decide) t2 g1383 g1384 g1385 g146 g1386 hd_X11_image rfl ⟨Nat.le_of_ble_eq_true rfl, Nat.le_of_ble_eq_true rfl⟩ ⟨by show _ ≤ 600000; omega, by show _ ≤ 7302250; omega⟩ rfl (Nat.le_of_ble_eq_true rfl) ?_
  refine e_aload_n (pc := 1080) C dL_law_1080 2 rfl rfl ?_
  refine e_aload_n (pc := 1081) C dL_law_1081 0 rfl rfl ?_
  refine e_iload_n (pc := 1082) C dL_law_1082 3 rfl rfl ?_
  refine e_iconst (v := (1 : Int32)) (pc := 1083) C dL_law_1083 (by decide) ?_
  refine e_iadd (pc := 1084) C dL_law_1084 ?_
  obtain ⟨q6, hf⟩ := ck_e hf
  refine e_sldX (pc := 1085) C hX hbl hB q6 dL_law_1085 ?_
  obtain ⟨t7, hf⟩ := ck_e hf
  obtain ⟨r10, h8, y9, hf⟩ := cb_e hf
  refine e_callVi (pc := 1086) (st := [.int r5]) 12 C (lf_ct (fun hI => pt_X12_image hI) y9) dL_law_1086 (by decide) t7 g2232 g2233 g2234 g157 g2235 hd_X12_image rfl ⟨Nat.le_of_ble_eq_true rfl, Nat.le_of_ble_eq_true rfl⟩ ⟨by show _ ≤ 600000; omega, by show _ ≤ 7302250; omega⟩ rfl (Nat.le_of_ble_eq_true rfl) ?_
  rcases it_e hf with ⟨c11, hf⟩ | ⟨c11, hf⟩
  · refine e_icmp_eq (pc := 1089) (tgt := 1117) C dL_law_1089 (by decide) (fun _ => ?_) (fun q => absurd c11 q)
    obtain ⟨x12, ex12, hf⟩ := nn_e hf
    refine e_iinc (pc := 1117) (v := x12) (lv2 := [(3, .int x12), (0, .ref b), (1, .ref v1), (2, .ref v2)]) C hm dL_law_1117 3 rfl (by rw [ex12]; rfl) (by decide) rfl ?_
    refine e_goto (pc := 1120) (tgt := 18) C dL_law_1120 (by decide) ?_
    refine e_lv (lv2 := [(0, .ref b), (1, .ref v1), (2, .ref v2), (3, .int x12)]) [1, 2, 3, 0] rfl ?_
    exact hk x12 h8 _ _ ex12 (by omega) (by omega) hf
  · refine e_icmp_eq (pc := 1089) (tgt := 1117) C dL_law_1089 (by decide) (fun q => absurd q c11) (fun _ => ?_)
    refine e_iconst (v := (0 : Int32)) (pc := 1092) C dL_law_1092 (by decide) ?_
    obtain rfl := so_e hf
    exact e_zret (pc := 1093) (v := (0 : Int32)) C hr (nz_ok (by decide)) dL_law_1093 (by omega) (by omega)
noncomputable def L_case30 (G : GG) (L : Nat) (xs : Nat → Int32) (v1 v2 : Nat) (self_18 : Int32 → AH → Option (Int32 × AH)) (v3 : Int32) (h : AH) : Option (Int32 × AH) :=
ck (¬ (v3 + (1 : Int32) < 0 ∨ L ≤ (v3 + (1 : Int32)).toNatClampNeg)) <|
ck (m_t h v1 = .inl 11) <|
cb (f_X11_back G v1 (xs (v3 + (1 : Int32)).toNatClampNeg) h) fun r5 h3 =>
ck (¬ (v3 + (1 : Int32) < 0 ∨ L ≤ (v3 + (1 : Int32)).toNatClampNeg)) <|
ck (m_t h3 v2 = .inl 12) <|
cb (lf v2 (p_X12_back G (xs (v3 + (1 : Int32)).toNatClampNeg)) h3) fun r10 h8 =>
if r5 = r10 then (nn (v3 + (6 : Int32)) fun x12 =>
self_18 x12 h8) else
some ((0 : Int32), h8)
set_option maxHeartbeats 4000000 in
set_option maxRecDepth 100000 in
theorem el_case30 {G : GG} {p : Program} {l : Launch} {e : Env} {s : State} {m : MethodId} {args : Array Value} {below : List Frame} {meth : Method} {c : Code} {y : Int32 × AH} {b L : Nat} {xs : Nat → Int32} {v1 v2 : Nat} (C : Cx G code RL p s m args meth c) (hm : c.maxLocals = 4) (hr : meth.sig.returnType = some .boolean) (hX : va_X b L xs s s.heap) (hbl : b < s.heap.size) (hB : ¬ G.1 ≤ b) {self_18 : Int32 → AH → Option (Int32 × AH)} {v3 : Int32} {h : AH} {ce sl : Nat} (hce : ce + 40 ≤ 600000) (hsl : sl + 1000 ≤ 7302250) (hk : ∀ (x : Int32) (h : AH) (ce2 sl2 : Nat), x = v3 + 6 → ce2 ≤ ce + 20 → sl2 ≤ sl + 480 → self_18 x h = some y → EE G p l e room_1 s m args below meth c (some (.int y.1), y.2) 600000 7302250 18 [(0, .ref b), (1, .ref v1), (2, .ref v2), (3, .int x)] [] h ce2 sl2) (hf : L_case30 G L xs v1 v2 self_18 v3 h = some y) : EE G p l e room_1 s m args below meth c (some (.int y.1), y.2) 600000 7302250 1094 [(0, .ref b), (1, .ref v1), (2, .ref v2), (3, .int v3)] [] h ce sl := by
  unfold L_case30 at hf
  refine e_aload_n (pc := 1094) C dL_law_1094 1 rfl rfl ?_
  refine e_aload_n (pc := 1095) C dL_law_1095 0 rfl rfl ?_
  refine e_iload_n (pc := 1096) C dL_law_1096 3 rfl rfl ?_
  refine e_iconst (v := (1 : Int32)) (pc := 1097) C dL_law_1097 (by decide) ?_
  refine e_iadd (pc := 1098) C dL_law_1098 ?_
  obtain ⟨q1, hf⟩ := ck_e hf
  refine e_sldX (pc := 1099) C hX hbl hB q1 dL_law_1099 ?_
  obtain ⟨t2, hf⟩ := ck_e hf
  obtain ⟨r5, h3, y4, hf⟩ := cb_e hf
  refine e_callVi (pc := 1100) (st := []) 11 C (ct_X11_back y4) dL_law_1100 (by decide) t2 g1392 g1393 g1394 g146 g1395 hd_X11_back rfl ⟨Nat.le_of_ble_eq_true rfl, Nat.le_of_ble_eq_true rfl⟩ ⟨by show _ ≤ 600000; omega, by show _ ≤ 7302250; omega⟩ rfl (Nat.le_of_ble_eq_true rfl) ?_
  refine e_aload_n (pc := 1103) C dL_law_1103 2 rfl rfl ?_
  refine e_aload_n (pc := 1104) C dL_law_1104 0 rfl rfl ?_
  refine e_iload_n (pc := 1105) C dL_law_1105 3 rfl rfl ?_
  refine e_iconst (v := (1 : Int32)) (pc := 1106) C dL_law_1106 (by decide) ?_
  refine e_iadd (pc := 1107) C dL_law_1107 ?_
  obtain ⟨q6, hf⟩ := ck_e hf
  refine e_sldX (pc := 1108) C hX hbl hB q6 dL_law_1108 ?_
  obtain ⟨t7, hf⟩ := ck_e hf
  obtain ⟨r10, h8, y9, hf⟩ := cb_e hf
  refine e_callVi (pc := 1109) (st := [.int r5]) 12 C (lf_ct (fun hI => pt_X12_back hI) y9) dL_law_1109 (by decide) t7 g2236 g2237 g2238 g157 g2239 hd_X12_back rfl ⟨Nat.le_of_ble_eq_true rfl, Nat.le_of_ble_eq_true rfl⟩ ⟨by show _ ≤ 600000; omega, by show _ ≤ 7302250; omega⟩ rfl (Nat.le_of_ble_eq_true rfl) ?_
  rcases it_e hf with ⟨c11, hf⟩ | ⟨c11, hf⟩
  · refine e_icmp_eq (pc := 1112) (tgt := 1117) C dL_law_1112 (by decide) (fun _ => ?_) (fun q => absurd c11 q)
    obtain ⟨x12, ex12, hf⟩ := nn_e hf
    refine e_iinc (pc := 1117) (v := x12) (lv2 := [(3, .int x12), (0, .ref b), (1, .ref v1), (2, .ref v2)]) C hm dL_law_1117 3 rfl (by rw [ex12]; rfl) (by decide) rfl ?_
    refine e_goto (pc := 1120) (tgt := 18) C dL_law_1120 (by decide) ?_
    refine e_lv (lv2 := [(0, .ref b), (1, .ref v1), (2, .ref v2), (3, .int x12)]) [1, 2, 3, 0] rfl ?_
    exact hk x12 h8 _ _ ex12 (by omega) (by omega) hf
  · refine e_icmp_eq (pc := 1112) (tgt := 1117) C dL_law_1112 (by decide) (fun q => absurd q c11) (fun _ => ?_)
    refine e_iconst (v := (0 : Int32)) (pc := 1115) C dL_law_1115 (by decide) ?_
    obtain rfl := so_e hf
    exact e_zret (pc := 1116) (v := (0 : Int32)) C hr (nz_ok (by decide)) dL_law_1116 (by omega) (by omega)
noncomputable def L_case31 (G : GG) (L : Nat) (xs : Nat → Int32) (v1 v2 : Nat) (self_18 : Int32 → AH → Option (Int32 × AH)) (v3 : Int32) (h : AH) : Option (Int32 × AH) :=
nn (v3 + (6 : Int32)) fun x1 =>
self_18 x1 h
set_option maxHeartbeats 4000000 in
set_option maxRecDepth 100000 in
theorem el_case31 {G : GG} {p : Program} {l : Launch} {e : Env} {s : State} {m : MethodId} {args : Array Value} {below : List Frame} {meth : Method} {c : Code} {y : Int32 × AH} {b L : Nat} {xs : Nat → Int32} {v1 v2 : Nat} (C : Cx G code RL p s m args meth c) (hm : c.maxLocals = 4) (hr : meth.sig.returnType = some .boolean) (hX : va_X b L xs s s.heap) (hbl : b < s.heap.size) (hB : ¬ G.1 ≤ b) {self_18 : Int32 → AH → Option (Int32 × AH)} {v3 : Int32} {h : AH} {ce sl : Nat} (hce : ce + 40 ≤ 600000) (hsl : sl + 1000 ≤ 7302250) (hk : ∀ (x : Int32) (h : AH) (ce2 sl2 : Nat), x = v3 + 6 → ce2 ≤ ce + 20 → sl2 ≤ sl + 480 → self_18 x h = some y → EE G p l e room_1 s m args below meth c (some (.int y.1), y.2) 600000 7302250 18 [(0, .ref b), (1, .ref v1), (2, .ref v2), (3, .int x)] [] h ce2 sl2) (hf : L_case31 G L xs v1 v2 self_18 v3 h = some y) : EE G p l e room_1 s m args below meth c (some (.int y.1), y.2) 600000 7302250 1117 [(0, .ref b), (1, .ref v1), (2, .ref v2), (3, .int v3)] [] h ce sl := by
  unfold L_case31 at hf
  obtain ⟨x1, ex1, hf⟩ := nn_e hf
  refine e_iinc (pc := 1117) (v := x1) (lv2 := [(3, .int x1), (0, .ref b), (1, .ref v1), (2, .ref v2)]) C hm dL_law_1117 3 rfl (by rw [ex1]; rfl) (by decide) rfl ?_
  refine e_goto (pc := 1120) (tgt := 18) C dL_law_1120 (by decide) ?_
  refine e_lv (lv2 := [(0, .ref b), (1, .ref v1), (2, .ref v2), (3, .int x1)]) [1, 2, 3, 0] rfl ?_
  exact hk x1 h _ _ ex1 (by omega) (by omega) hf
