set_option maxRecDepth 20000 in
theorem tb_1605 : Cond.code yX10_count cX10_count 2 (some .int) ∈ zTB := zmem (i := 1605) rfl rfl
theorem tb_1602 : Cond.methodLink RL 159 yX10_count ∈ zTB := zmem (i := 1602) (by decide +kernel) rfl
theorem tb_1603 : Cond.instanceMethod yX10_count ∈ zTB := zmem (i := 1603) (by decide +kernel) rfl
theorem tb_1604 : Cond.selects yX10_count.cls yX10_count yX10_count ∈ zTB := zmem (i := 1604) (by decide +kernel) rfl
theorem cv_L_159 : zCV RL 159 yX10_count cX10_count 2 (some .int) 1 10 := ⟨⟨tb_1605, tb_124, tb_1602, ⟨by decide, by decide, by decide +kernel⟩, by decide⟩, tb_1603, tb_1604, TX10, 29, rfl⟩
set_option maxRecDepth 20000 in
theorem tb_1063 : Cond.code yX9_count cX9_count 2 (some .int) ∈ zTB := zmem (i := 1063) rfl rfl
theorem tb_1060 : Cond.methodLink RL 156 yX9_count ∈ zTB := zmem (i := 1060) (by decide +kernel) rfl
theorem tb_1061 : Cond.instanceMethod yX9_count ∈ zTB := zmem (i := 1061) (by decide +kernel) rfl
theorem tb_1062 : Cond.selects yX9_count.cls yX9_count yX9_count ∈ zTB := zmem (i := 1062) (by decide +kernel) rfl
theorem cv_L_156 : zCV RL 156 yX9_count cX9_count 2 (some .int) 1 9 := ⟨⟨tb_1063, tb_114, tb_1060, ⟨by decide, by decide, by decide +kernel⟩, by decide⟩, tb_1061, tb_1062, TX9, 13, rfl⟩
set_option maxRecDepth 20000 in
theorem tb_1601 : Cond.code yX10_find cX10_find 3 (some .int) ∈ zTB := zmem (i := 1601) rfl rfl
theorem tb_1598 : Cond.methodLink RL 155 yX10_find ∈ zTB := zmem (i := 1598) (by decide +kernel) rfl
theorem tb_1599 : Cond.instanceMethod yX10_find ∈ zTB := zmem (i := 1599) (by decide +kernel) rfl
theorem tb_1600 : Cond.selects yX10_find.cls yX10_find yX10_find ∈ zTB := zmem (i := 1600) (by decide +kernel) rfl
theorem cv_L_155 : zCV RL 155 yX10_find cX10_find 3 (some .int) 1 10 := ⟨⟨tb_1601, tb_124, tb_1598, ⟨by decide, by decide, by decide +kernel⟩, by decide⟩, tb_1599, tb_1600, TX10, 29, rfl⟩
set_option maxRecDepth 20000 in
theorem tb_1058 : Cond.code yX9_find cX9_find 2 (some .int) ∈ zTB := zmem (i := 1058) rfl rfl
theorem tb_1055 : Cond.methodLink RL 152 yX9_find ∈ zTB := zmem (i := 1055) (by decide +kernel) rfl
theorem tb_1056 : Cond.instanceMethod yX9_find ∈ zTB := zmem (i := 1056) (by decide +kernel) rfl
theorem tb_1057 : Cond.selects yX9_find.cls yX9_find yX9_find ∈ zTB := zmem (i := 1057) (by decide +kernel) rfl
theorem cv_L_152 : zCV RL 152 yX9_find cX9_find 2 (some .int) 1 9 := ⟨⟨tb_1058, tb_114, tb_1055, ⟨by decide, by decide, by decide +kernel⟩, by decide⟩, tb_1056, tb_1057, TX9, 13, rfl⟩
set_option maxRecDepth 20000 in
theorem tb_1586 : Cond.code yX10_mean cX10_mean 6 (some .long) ∈ zTB := zmem (i := 1586) rfl rfl
theorem tb_1583 : Cond.methodLink RL 151 yX10_mean ∈ zTB := zmem (i := 1583) (by decide +kernel) rfl
theorem tb_1584 : Cond.instanceMethod yX10_mean ∈ zTB := zmem (i := 1584) (by decide +kernel) rfl
theorem tb_1585 : Cond.selects yX10_mean.cls yX10_mean yX10_mean ∈ zTB := zmem (i := 1585) (by decide +kernel) rfl
theorem cv_L_151 : zCV RL 151 yX10_mean cX10_mean 6 (some .long) 1 10 := ⟨⟨tb_1586, tb_124, tb_1583, ⟨by decide, by decide, by decide +kernel⟩, by decide⟩, tb_1584, tb_1585, TX10, 29, rfl⟩
set_option maxRecDepth 20000 in
theorem tb_1048 : Cond.code yX9_mean cX9_mean 5 (some .long) ∈ zTB := zmem (i := 1048) rfl rfl
theorem tb_1045 : Cond.methodLink RL 148 yX9_mean ∈ zTB := zmem (i := 1045) (by decide +kernel) rfl
theorem tb_1046 : Cond.instanceMethod yX9_mean ∈ zTB := zmem (i := 1046) (by decide +kernel) rfl
theorem tb_1047 : Cond.selects yX9_mean.cls yX9_mean yX9_mean ∈ zTB := zmem (i := 1047) (by decide +kernel) rfl
theorem cv_L_148 : zCV RL 148 yX9_mean cX9_mean 5 (some .long) 1 9 := ⟨⟨tb_1048, tb_114, tb_1045, ⟨by decide, by decide, by decide +kernel⟩, by decide⟩, tb_1046, tb_1047, TX9, 13, rfl⟩
set_option maxRecDepth 20000 in
theorem tb_1582 : Cond.code yX10_origins cX10_origins 4 (some .int) ∈ zTB := zmem (i := 1582) rfl rfl
theorem tb_1579 : Cond.methodLink RL 147 yX10_origins ∈ zTB := zmem (i := 1579) (by decide +kernel) rfl
theorem tb_1580 : Cond.instanceMethod yX10_origins ∈ zTB := zmem (i := 1580) (by decide +kernel) rfl
theorem tb_1581 : Cond.selects yX10_origins.cls yX10_origins yX10_origins ∈ zTB := zmem (i := 1581) (by decide +kernel) rfl
theorem cv_L_147 : zCV RL 147 yX10_origins cX10_origins 4 (some .int) 2 10 := ⟨⟨tb_1582, tb_124, tb_1579, ⟨by decide, by decide, by decide +kernel⟩, by decide⟩, tb_1580, tb_1581, TX10, 29, rfl⟩
set_option maxRecDepth 20000 in
theorem tb_1044 : Cond.code yX9_origins cX9_origins 3 (some .int) ∈ zTB := zmem (i := 1044) rfl rfl
theorem tb_1041 : Cond.methodLink RL 144 yX9_origins ∈ zTB := zmem (i := 1041) (by decide +kernel) rfl
theorem tb_1042 : Cond.instanceMethod yX9_origins ∈ zTB := zmem (i := 1042) (by decide +kernel) rfl
theorem tb_1043 : Cond.selects yX9_origins.cls yX9_origins yX9_origins ∈ zTB := zmem (i := 1043) (by decide +kernel) rfl
theorem cv_L_144 : zCV RL 144 yX9_origins cX9_origins 3 (some .int) 2 9 := ⟨⟨tb_1044, tb_114, tb_1041, ⟨by decide, by decide, by decide +kernel⟩, by decide⟩, tb_1042, tb_1043, TX9, 13, rfl⟩
set_option maxRecDepth 20000 in
theorem tb_1578 : Cond.code yX10_alike cX10_alike 6 (some .int) ∈ zTB := zmem (i := 1578) rfl rfl
theorem tb_1575 : Cond.methodLink RL 143 yX10_alike ∈ zTB := zmem (i := 1575) (by decide +kernel) rfl
theorem tb_1576 : Cond.instanceMethod yX10_alike ∈ zTB := zmem (i := 1576) (by decide +kernel) rfl
theorem tb_1577 : Cond.selects yX10_alike.cls yX10_alike yX10_alike ∈ zTB := zmem (i := 1577) (by decide +kernel) rfl
theorem cv_L_143 : zCV RL 143 yX10_alike cX10_alike 6 (some .int) 2 10 := ⟨⟨tb_1578, tb_124, tb_1575, ⟨by decide, by decide, by decide +kernel⟩, by decide⟩, tb_1576, tb_1577, TX10, 29, rfl⟩
set_option maxRecDepth 20000 in
theorem tb_1040 : Cond.code yX9_alike cX9_alike 6 (some .int) ∈ zTB := zmem (i := 1040) rfl rfl
theorem tb_1037 : Cond.methodLink RL 140 yX9_alike ∈ zTB := zmem (i := 1037) (by decide +kernel) rfl
theorem tb_1038 : Cond.instanceMethod yX9_alike ∈ zTB := zmem (i := 1038) (by decide +kernel) rfl
theorem tb_1039 : Cond.selects yX9_alike.cls yX9_alike yX9_alike ∈ zTB := zmem (i := 1039) (by decide +kernel) rfl
theorem cv_L_140 : zCV RL 140 yX9_alike cX9_alike 6 (some .int) 2 9 := ⟨⟨tb_1040, tb_114, tb_1037, ⟨by decide, by decide, by decide +kernel⟩, by decide⟩, tb_1038, tb_1039, TX9, 13, rfl⟩
set_option maxRecDepth 20000 in
theorem tb_1574 : Cond.code yX10_answers cX10_answers 5 (some .int) ∈ zTB := zmem (i := 1574) rfl rfl
theorem tb_1571 : Cond.methodLink RL 139 yX10_answers ∈ zTB := zmem (i := 1571) (by decide +kernel) rfl
theorem tb_1572 : Cond.instanceMethod yX10_answers ∈ zTB := zmem (i := 1572) (by decide +kernel) rfl
theorem tb_1573 : Cond.selects yX10_answers.cls yX10_answers yX10_answers ∈ zTB := zmem (i := 1573) (by decide +kernel) rfl
theorem cv_L_139 : zCV RL 139 yX10_answers cX10_answers 5 (some .int) 1 10 := ⟨⟨tb_1574, tb_124, tb_1571, ⟨by decide, by decide, by decide +kernel⟩, by decide⟩, tb_1572, tb_1573, TX10, 29, rfl⟩
set_option maxRecDepth 20000 in
theorem tb_1036 : Cond.code yX9_answers cX9_answers 4 (some .int) ∈ zTB := zmem (i := 1036) rfl rfl
theorem tb_1033 : Cond.methodLink RL 136 yX9_answers ∈ zTB := zmem (i := 1033) (by decide +kernel) rfl
theorem tb_1034 : Cond.instanceMethod yX9_answers ∈ zTB := zmem (i := 1034) (by decide +kernel) rfl
theorem tb_1035 : Cond.selects yX9_answers.cls yX9_answers yX9_answers ∈ zTB := zmem (i := 1035) (by decide +kernel) rfl
theorem cv_L_136 : zCV RL 136 yX9_answers cX9_answers 4 (some .int) 1 9 := ⟨⟨tb_1036, tb_114, tb_1033, ⟨by decide, by decide, by decide +kernel⟩, by decide⟩, tb_1034, tb_1035, TX9, 13, rfl⟩
set_option maxRecDepth 20000 in
theorem tb_1562 : Cond.code yX10_lacks cX10_lacks 2 (some .int) ∈ zTB := zmem (i := 1562) rfl rfl
theorem tb_1559 : Cond.methodLink RL 135 yX10_lacks ∈ zTB := zmem (i := 1559) (by decide +kernel) rfl
theorem tb_1560 : Cond.instanceMethod yX10_lacks ∈ zTB := zmem (i := 1560) (by decide +kernel) rfl
theorem tb_1561 : Cond.selects yX10_lacks.cls yX10_lacks yX10_lacks ∈ zTB := zmem (i := 1561) (by decide +kernel) rfl
theorem cv_L_135 : zCV RL 135 yX10_lacks cX10_lacks 2 (some .int) 1 10 := ⟨⟨tb_1562, tb_124, tb_1559, ⟨by decide, by decide, by decide +kernel⟩, by decide⟩, tb_1560, tb_1561, TX10, 29, rfl⟩
set_option maxRecDepth 20000 in
theorem tb_1024 : Cond.code yX9_lacks cX9_lacks 2 (some .int) ∈ zTB := zmem (i := 1024) rfl rfl
theorem tb_1021 : Cond.methodLink RL 132 yX9_lacks ∈ zTB := zmem (i := 1021) (by decide +kernel) rfl
theorem tb_1022 : Cond.instanceMethod yX9_lacks ∈ zTB := zmem (i := 1022) (by decide +kernel) rfl
theorem tb_1023 : Cond.selects yX9_lacks.cls yX9_lacks yX9_lacks ∈ zTB := zmem (i := 1023) (by decide +kernel) rfl
theorem cv_L_132 : zCV RL 132 yX9_lacks cX9_lacks 2 (some .int) 1 9 := ⟨⟨tb_1024, tb_114, tb_1021, ⟨by decide, by decide, by decide +kernel⟩, by decide⟩, tb_1022, tb_1023, TX9, 13, rfl⟩
set_option maxRecDepth 20000 in
theorem tb_1558 : Cond.code yX10_chain cX10_chain 7 (some .int) ∈ zTB := zmem (i := 1558) rfl rfl
theorem tb_1555 : Cond.methodLink RL 131 yX10_chain ∈ zTB := zmem (i := 1555) (by decide +kernel) rfl
theorem tb_1556 : Cond.instanceMethod yX10_chain ∈ zTB := zmem (i := 1556) (by decide +kernel) rfl
theorem tb_1557 : Cond.selects yX10_chain.cls yX10_chain yX10_chain ∈ zTB := zmem (i := 1557) (by decide +kernel) rfl
theorem cv_L_131 : zCV RL 131 yX10_chain cX10_chain 7 (some .int) 3 10 := ⟨⟨tb_1558, tb_124, tb_1555, ⟨by decide, by decide, by decide +kernel⟩, by decide⟩, tb_1556, tb_1557, TX10, 29, rfl⟩
set_option maxRecDepth 20000 in
theorem tb_1020 : Cond.code yX9_chain cX9_chain 7 (some .int) ∈ zTB := zmem (i := 1020) rfl rfl
theorem tb_1017 : Cond.methodLink RL 128 yX9_chain ∈ zTB := zmem (i := 1017) (by decide +kernel) rfl
theorem tb_1018 : Cond.instanceMethod yX9_chain ∈ zTB := zmem (i := 1018) (by decide +kernel) rfl
theorem tb_1019 : Cond.selects yX9_chain.cls yX9_chain yX9_chain ∈ zTB := zmem (i := 1019) (by decide +kernel) rfl
theorem cv_L_128 : zCV RL 128 yX9_chain cX9_chain 7 (some .int) 3 9 := ⟨⟨tb_1020, tb_114, tb_1017, ⟨by decide, by decide, by decide +kernel⟩, by decide⟩, tb_1018, tb_1019, TX9, 13, rfl⟩
set_option maxRecDepth 20000 in
theorem tb_1536 : Cond.code yX10_send cX10_send 5 (some .int) ∈ zTB := zmem (i := 1536) rfl rfl
theorem tb_1533 : Cond.methodLink RL 127 yX10_send ∈ zTB := zmem (i := 1533) (by decide +kernel) rfl
theorem tb_1534 : Cond.instanceMethod yX10_send ∈ zTB := zmem (i := 1534) (by decide +kernel) rfl
theorem tb_1535 : Cond.selects yX10_send.cls yX10_send yX10_send ∈ zTB := zmem (i := 1535) (by decide +kernel) rfl
theorem cv_L_127 : zCV RL 127 yX10_send cX10_send 5 (some .int) 3 10 := ⟨⟨tb_1536, tb_124, tb_1533, ⟨by decide, by decide, by decide +kernel⟩, by decide⟩, tb_1534, tb_1535, TX10, 29, rfl⟩
set_option maxRecDepth 20000 in
theorem tb_989 : Cond.code yX9_send cX9_send 4 (some .int) ∈ zTB := zmem (i := 989) rfl rfl
theorem tb_986 : Cond.methodLink RL 124 yX9_send ∈ zTB := zmem (i := 986) (by decide +kernel) rfl
theorem tb_987 : Cond.instanceMethod yX9_send ∈ zTB := zmem (i := 987) (by decide +kernel) rfl
theorem tb_988 : Cond.selects yX9_send.cls yX9_send yX9_send ∈ zTB := zmem (i := 988) (by decide +kernel) rfl
theorem cv_L_124 : zCV RL 124 yX9_send cX9_send 4 (some .int) 3 9 := ⟨⟨tb_989, tb_114, tb_986, ⟨by decide, by decide, by decide +kernel⟩, by decide⟩, tb_987, tb_988, TX9, 13, rfl⟩
set_option maxRecDepth 20000 in
theorem tb_1528 : Cond.code yX10_place cX10_place 8 (some .int) ∈ zTB := zmem (i := 1528) rfl rfl
theorem tb_1525 : Cond.methodLink RL 123 yX10_place ∈ zTB := zmem (i := 1525) (by decide +kernel) rfl
theorem tb_1526 : Cond.instanceMethod yX10_place ∈ zTB := zmem (i := 1526) (by decide +kernel) rfl
theorem tb_1527 : Cond.selects yX10_place.cls yX10_place yX10_place ∈ zTB := zmem (i := 1527) (by decide +kernel) rfl
theorem cv_L_123 : zCV RL 123 yX10_place cX10_place 8 (some .int) 2 10 := ⟨⟨tb_1528, tb_124, tb_1525, ⟨by decide, by decide, by decide +kernel⟩, by decide⟩, tb_1526, tb_1527, TX10, 29, rfl⟩
set_option maxRecDepth 20000 in
theorem tb_981 : Cond.code yX9_place cX9_place 3 (some .int) ∈ zTB := zmem (i := 981) rfl rfl
theorem tb_978 : Cond.methodLink RL 120 yX9_place ∈ zTB := zmem (i := 978) (by decide +kernel) rfl
theorem tb_979 : Cond.instanceMethod yX9_place ∈ zTB := zmem (i := 979) (by decide +kernel) rfl
theorem tb_980 : Cond.selects yX9_place.cls yX9_place yX9_place ∈ zTB := zmem (i := 980) (by decide +kernel) rfl
theorem cv_L_120 : zCV RL 120 yX9_place cX9_place 3 (some .int) 2 9 := ⟨⟨tb_981, tb_114, tb_978, ⟨by decide, by decide, by decide +kernel⟩, by decide⟩, tb_979, tb_980, TX9, 13, rfl⟩
set_option maxRecDepth 20000 in
theorem tb_1523 : Cond.code yX10_first cX10_first 8 (some .int) ∈ zTB := zmem (i := 1523) rfl rfl
theorem tb_1520 : Cond.methodLink RL 119 yX10_first ∈ zTB := zmem (i := 1520) (by decide +kernel) rfl
theorem tb_1521 : Cond.instanceMethod yX10_first ∈ zTB := zmem (i := 1521) (by decide +kernel) rfl
theorem tb_1522 : Cond.selects yX10_first.cls yX10_first yX10_first ∈ zTB := zmem (i := 1522) (by decide +kernel) rfl
theorem cv_L_119 : zCV RL 119 yX10_first cX10_first 8 (some .int) 2 10 := ⟨⟨tb_1523, tb_124, tb_1520, ⟨by decide, by decide, by decide +kernel⟩, by decide⟩, tb_1521, tb_1522, TX10, 29, rfl⟩
set_option maxRecDepth 20000 in
theorem tb_963 : Cond.code yX9_first cX9_first 3 (some .int) ∈ zTB := zmem (i := 963) rfl rfl
theorem tb_960 : Cond.methodLink RL 116 yX9_first ∈ zTB := zmem (i := 960) (by decide +kernel) rfl
theorem tb_961 : Cond.instanceMethod yX9_first ∈ zTB := zmem (i := 961) (by decide +kernel) rfl
theorem tb_962 : Cond.selects yX9_first.cls yX9_first yX9_first ∈ zTB := zmem (i := 962) (by decide +kernel) rfl
theorem cv_L_116 : zCV RL 116 yX9_first cX9_first 3 (some .int) 2 9 := ⟨⟨tb_963, tb_114, tb_960, ⟨by decide, by decide, by decide +kernel⟩, by decide⟩, tb_961, tb_962, TX9, 13, rfl⟩
set_option maxRecDepth 20000 in
theorem tb_1510 : Cond.code yX10_orders cX10_orders 2 (some .long) ∈ zTB := zmem (i := 1510) rfl rfl
theorem tb_1507 : Cond.methodLink RL 115 yX10_orders ∈ zTB := zmem (i := 1507) (by decide +kernel) rfl
theorem tb_1508 : Cond.instanceMethod yX10_orders ∈ zTB := zmem (i := 1508) (by decide +kernel) rfl
theorem tb_1509 : Cond.selects yX10_orders.cls yX10_orders yX10_orders ∈ zTB := zmem (i := 1509) (by decide +kernel) rfl
theorem cv_L_115 : zCV RL 115 yX10_orders cX10_orders 2 (some .long) 1 10 := ⟨⟨tb_1510, tb_124, tb_1507, ⟨by decide, by decide, by decide +kernel⟩, by decide⟩, tb_1508, tb_1509, TX10, 29, rfl⟩
set_option maxRecDepth 20000 in
theorem tb_928 : Cond.code yX9_orders cX9_orders 2 (some .long) ∈ zTB := zmem (i := 928) rfl rfl
theorem tb_925 : Cond.methodLink RL 111 yX9_orders ∈ zTB := zmem (i := 925) (by decide +kernel) rfl
theorem tb_926 : Cond.instanceMethod yX9_orders ∈ zTB := zmem (i := 926) (by decide +kernel) rfl
theorem tb_927 : Cond.selects yX9_orders.cls yX9_orders yX9_orders ∈ zTB := zmem (i := 927) (by decide +kernel) rfl
theorem cv_L_111 : zCV RL 111 yX9_orders cX9_orders 2 (some .long) 1 9 := ⟨⟨tb_928, tb_114, tb_925, ⟨by decide, by decide, by decide +kernel⟩, by decide⟩, tb_926, tb_927, TX9, 13, rfl⟩
set_option maxRecDepth 20000 in
theorem tb_1502 : Cond.code yX10_over cX10_over 2 (some .int) ∈ zTB := zmem (i := 1502) rfl rfl
theorem tb_1499 : Cond.methodLink RL 110 yX10_over ∈ zTB := zmem (i := 1499) (by decide +kernel) rfl
theorem tb_1500 : Cond.instanceMethod yX10_over ∈ zTB := zmem (i := 1500) (by decide +kernel) rfl
theorem tb_1501 : Cond.selects yX10_over.cls yX10_over yX10_over ∈ zTB := zmem (i := 1501) (by decide +kernel) rfl
theorem cv_L_110 : zCV RL 110 yX10_over cX10_over 2 (some .int) 1 10 := ⟨⟨tb_1502, tb_124, tb_1499, ⟨by decide, by decide, by decide +kernel⟩, by decide⟩, tb_1500, tb_1501, TX10, 29, rfl⟩
set_option maxRecDepth 20000 in
theorem tb_924 : Cond.code yX9_over cX9_over 2 (some .int) ∈ zTB := zmem (i := 924) rfl rfl
theorem tb_921 : Cond.methodLink RL 107 yX9_over ∈ zTB := zmem (i := 921) (by decide +kernel) rfl
theorem tb_922 : Cond.instanceMethod yX9_over ∈ zTB := zmem (i := 922) (by decide +kernel) rfl
theorem tb_923 : Cond.selects yX9_over.cls yX9_over yX9_over ∈ zTB := zmem (i := 923) (by decide +kernel) rfl
theorem cv_L_107 : zCV RL 107 yX9_over cX9_over 2 (some .int) 1 9 := ⟨⟨tb_924, tb_114, tb_921, ⟨by decide, by decide, by decide +kernel⟩, by decide⟩, tb_922, tb_923, TX9, 13, rfl⟩
set_option maxRecDepth 20000 in
theorem tb_1498 : Cond.code yX10_ring cX10_ring 3 (some .int) ∈ zTB := zmem (i := 1498) rfl rfl
theorem tb_1495 : Cond.methodLink RL 106 yX10_ring ∈ zTB := zmem (i := 1495) (by decide +kernel) rfl
theorem tb_1496 : Cond.instanceMethod yX10_ring ∈ zTB := zmem (i := 1496) (by decide +kernel) rfl
theorem tb_1497 : Cond.selects yX10_ring.cls yX10_ring yX10_ring ∈ zTB := zmem (i := 1497) (by decide +kernel) rfl
theorem cv_L_106 : zCV RL 106 yX10_ring cX10_ring 3 (some .int) 2 10 := ⟨⟨tb_1498, tb_124, tb_1495, ⟨by decide, by decide, by decide +kernel⟩, by decide⟩, tb_1496, tb_1497, TX10, 29, rfl⟩
set_option maxRecDepth 20000 in
theorem tb_920 : Cond.code yX9_ring cX9_ring 3 (some .int) ∈ zTB := zmem (i := 920) rfl rfl
theorem tb_917 : Cond.methodLink RL 103 yX9_ring ∈ zTB := zmem (i := 917) (by decide +kernel) rfl
theorem tb_918 : Cond.instanceMethod yX9_ring ∈ zTB := zmem (i := 918) (by decide +kernel) rfl
theorem tb_919 : Cond.selects yX9_ring.cls yX9_ring yX9_ring ∈ zTB := zmem (i := 919) (by decide +kernel) rfl
theorem cv_L_103 : zCV RL 103 yX9_ring cX9_ring 3 (some .int) 2 9 := ⟨⟨tb_920, tb_114, tb_917, ⟨by decide, by decide, by decide +kernel⟩, by decide⟩, tb_918, tb_919, TX9, 13, rfl⟩
set_option maxRecDepth 20000 in
theorem tb_1494 : Cond.code yX10_line cX10_line 3 (some .int) ∈ zTB := zmem (i := 1494) rfl rfl
theorem tb_1491 : Cond.methodLink RL 102 yX10_line ∈ zTB := zmem (i := 1491) (by decide +kernel) rfl
theorem tb_1492 : Cond.instanceMethod yX10_line ∈ zTB := zmem (i := 1492) (by decide +kernel) rfl
theorem tb_1493 : Cond.selects yX10_line.cls yX10_line yX10_line ∈ zTB := zmem (i := 1493) (by decide +kernel) rfl
theorem cv_L_102 : zCV RL 102 yX10_line cX10_line 3 (some .int) 2 10 := ⟨⟨tb_1494, tb_124, tb_1491, ⟨by decide, by decide, by decide +kernel⟩, by decide⟩, tb_1492, tb_1493, TX10, 29, rfl⟩
set_option maxRecDepth 20000 in
theorem tb_913 : Cond.code yX9_line cX9_line 3 (some .int) ∈ zTB := zmem (i := 913) rfl rfl
theorem tb_910 : Cond.methodLink RL 99 yX9_line ∈ zTB := zmem (i := 910) (by decide +kernel) rfl
theorem tb_911 : Cond.instanceMethod yX9_line ∈ zTB := zmem (i := 911) (by decide +kernel) rfl
theorem tb_912 : Cond.selects yX9_line.cls yX9_line yX9_line ∈ zTB := zmem (i := 912) (by decide +kernel) rfl
theorem cv_L_99 : zCV RL 99 yX9_line cX9_line 3 (some .int) 2 9 := ⟨⟨tb_913, tb_114, tb_910, ⟨by decide, by decide, by decide +kernel⟩, by decide⟩, tb_911, tb_912, TX9, 13, rfl⟩
set_option maxRecDepth 20000 in
theorem tb_1490 : Cond.code yX10_flat cX10_flat 6 (some .int) ∈ zTB := zmem (i := 1490) rfl rfl
theorem tb_1487 : Cond.methodLink RL 98 yX10_flat ∈ zTB := zmem (i := 1487) (by decide +kernel) rfl
theorem tb_1488 : Cond.instanceMethod yX10_flat ∈ zTB := zmem (i := 1488) (by decide +kernel) rfl
theorem tb_1489 : Cond.selects yX10_flat.cls yX10_flat yX10_flat ∈ zTB := zmem (i := 1489) (by decide +kernel) rfl
theorem cv_L_98 : zCV RL 98 yX10_flat cX10_flat 6 (some .int) 3 10 := ⟨⟨tb_1490, tb_124, tb_1487, ⟨by decide, by decide, by decide +kernel⟩, by decide⟩, tb_1488, tb_1489, TX10, 29, rfl⟩
set_option maxRecDepth 20000 in
theorem tb_900 : Cond.code yX9_flat cX9_flat 6 (some .int) ∈ zTB := zmem (i := 900) rfl rfl
theorem tb_897 : Cond.methodLink RL 95 yX9_flat ∈ zTB := zmem (i := 897) (by decide +kernel) rfl
theorem tb_898 : Cond.instanceMethod yX9_flat ∈ zTB := zmem (i := 898) (by decide +kernel) rfl
theorem tb_899 : Cond.selects yX9_flat.cls yX9_flat yX9_flat ∈ zTB := zmem (i := 899) (by decide +kernel) rfl
theorem cv_L_95 : zCV RL 95 yX9_flat cX9_flat 6 (some .int) 3 9 := ⟨⟨tb_900, tb_114, tb_897, ⟨by decide, by decide, by decide +kernel⟩, by decide⟩, tb_898, tb_899, TX9, 13, rfl⟩
set_option maxRecDepth 20000 in
theorem tb_1486 : Cond.code yX10_body cX10_body 5 (some .int) ∈ zTB := zmem (i := 1486) rfl rfl
theorem tb_1483 : Cond.methodLink RL 94 yX10_body ∈ zTB := zmem (i := 1483) (by decide +kernel) rfl
theorem tb_1484 : Cond.instanceMethod yX10_body ∈ zTB := zmem (i := 1484) (by decide +kernel) rfl
theorem tb_1485 : Cond.selects yX10_body.cls yX10_body yX10_body ∈ zTB := zmem (i := 1485) (by decide +kernel) rfl
theorem cv_L_94 : zCV RL 94 yX10_body cX10_body 5 (some .int) 3 10 := ⟨⟨tb_1486, tb_124, tb_1483, ⟨by decide, by decide, by decide +kernel⟩, by decide⟩, tb_1484, tb_1485, TX10, 29, rfl⟩
set_option maxRecDepth 20000 in
theorem tb_896 : Cond.code yX9_body cX9_body 6 (some .int) ∈ zTB := zmem (i := 896) rfl rfl
theorem tb_893 : Cond.methodLink RL 91 yX9_body ∈ zTB := zmem (i := 893) (by decide +kernel) rfl
theorem tb_894 : Cond.instanceMethod yX9_body ∈ zTB := zmem (i := 894) (by decide +kernel) rfl
theorem tb_895 : Cond.selects yX9_body.cls yX9_body yX9_body ∈ zTB := zmem (i := 895) (by decide +kernel) rfl
theorem cv_L_91 : zCV RL 91 yX9_body cX9_body 6 (some .int) 3 9 := ⟨⟨tb_896, tb_114, tb_893, ⟨by decide, by decide, by decide +kernel⟩, by decide⟩, tb_894, tb_895, TX9, 13, rfl⟩
set_option maxRecDepth 20000 in
theorem tb_1482 : Cond.code yX10_becomes cX10_becomes 5 (some .int) ∈ zTB := zmem (i := 1482) rfl rfl
theorem tb_1479 : Cond.methodLink RL 90 yX10_becomes ∈ zTB := zmem (i := 1479) (by decide +kernel) rfl
theorem tb_1480 : Cond.instanceMethod yX10_becomes ∈ zTB := zmem (i := 1480) (by decide +kernel) rfl
theorem tb_1481 : Cond.selects yX10_becomes.cls yX10_becomes yX10_becomes ∈ zTB := zmem (i := 1481) (by decide +kernel) rfl
theorem cv_L_90 : zCV RL 90 yX10_becomes cX10_becomes 5 (some .int) 3 10 := ⟨⟨tb_1482, tb_124, tb_1479, ⟨by decide, by decide, by decide +kernel⟩, by decide⟩, tb_1480, tb_1481, TX10, 29, rfl⟩
set_option maxRecDepth 20000 in
theorem tb_892 : Cond.code yX9_becomes cX9_becomes 6 (some .int) ∈ zTB := zmem (i := 892) rfl rfl
theorem tb_889 : Cond.methodLink RL 87 yX9_becomes ∈ zTB := zmem (i := 889) (by decide +kernel) rfl
theorem tb_890 : Cond.instanceMethod yX9_becomes ∈ zTB := zmem (i := 890) (by decide +kernel) rfl
theorem tb_891 : Cond.selects yX9_becomes.cls yX9_becomes yX9_becomes ∈ zTB := zmem (i := 891) (by decide +kernel) rfl
theorem cv_L_87 : zCV RL 87 yX9_becomes cX9_becomes 6 (some .int) 3 9 := ⟨⟨tb_892, tb_114, tb_889, ⟨by decide, by decide, by decide +kernel⟩, by decide⟩, tb_890, tb_891, TX9, 13, rfl⟩
set_option maxRecDepth 20000 in
theorem tb_1478 : Cond.code yX10_used cX10_used 3 (some .int) ∈ zTB := zmem (i := 1478) rfl rfl
theorem tb_1475 : Cond.methodLink RL 86 yX10_used ∈ zTB := zmem (i := 1475) (by decide +kernel) rfl
theorem tb_1476 : Cond.instanceMethod yX10_used ∈ zTB := zmem (i := 1476) (by decide +kernel) rfl
theorem tb_1477 : Cond.selects yX10_used.cls yX10_used yX10_used ∈ zTB := zmem (i := 1477) (by decide +kernel) rfl
theorem cv_L_86 : zCV RL 86 yX10_used cX10_used 3 (some .int) 2 10 := ⟨⟨tb_1478, tb_124, tb_1475, ⟨by decide, by decide, by decide +kernel⟩, by decide⟩, tb_1476, tb_1477, TX10, 29, rfl⟩
set_option maxRecDepth 20000 in
theorem tb_888 : Cond.code yX9_used cX9_used 3 (some .int) ∈ zTB := zmem (i := 888) rfl rfl
theorem tb_885 : Cond.methodLink RL 83 yX9_used ∈ zTB := zmem (i := 885) (by decide +kernel) rfl
theorem tb_886 : Cond.instanceMethod yX9_used ∈ zTB := zmem (i := 886) (by decide +kernel) rfl
theorem tb_887 : Cond.selects yX9_used.cls yX9_used yX9_used ∈ zTB := zmem (i := 887) (by decide +kernel) rfl
theorem cv_L_83 : zCV RL 83 yX9_used cX9_used 3 (some .int) 2 9 := ⟨⟨tb_888, tb_114, tb_885, ⟨by decide, by decide, by decide +kernel⟩, by decide⟩, tb_886, tb_887, TX9, 13, rfl⟩
set_option maxRecDepth 20000 in
theorem tb_1474 : Cond.code yX10_parent cX10_parent 3 (some .int) ∈ zTB := zmem (i := 1474) rfl rfl
theorem tb_1471 : Cond.methodLink RL 82 yX10_parent ∈ zTB := zmem (i := 1471) (by decide +kernel) rfl
theorem tb_1472 : Cond.instanceMethod yX10_parent ∈ zTB := zmem (i := 1472) (by decide +kernel) rfl
theorem tb_1473 : Cond.selects yX10_parent.cls yX10_parent yX10_parent ∈ zTB := zmem (i := 1473) (by decide +kernel) rfl
theorem cv_L_82 : zCV RL 82 yX10_parent cX10_parent 3 (some .int) 2 10 := ⟨⟨tb_1474, tb_124, tb_1471, ⟨by decide, by decide, by decide +kernel⟩, by decide⟩, tb_1472, tb_1473, TX10, 29, rfl⟩
set_option maxRecDepth 20000 in
theorem tb_883 : Cond.code yX9_parent cX9_parent 3 (some .int) ∈ zTB := zmem (i := 883) rfl rfl
theorem tb_880 : Cond.methodLink RL 79 yX9_parent ∈ zTB := zmem (i := 880) (by decide +kernel) rfl
theorem tb_881 : Cond.instanceMethod yX9_parent ∈ zTB := zmem (i := 881) (by decide +kernel) rfl
theorem tb_882 : Cond.selects yX9_parent.cls yX9_parent yX9_parent ∈ zTB := zmem (i := 882) (by decide +kernel) rfl
theorem cv_L_79 : zCV RL 79 yX9_parent cX9_parent 3 (some .int) 2 9 := ⟨⟨tb_883, tb_114, tb_880, ⟨by decide, by decide, by decide +kernel⟩, by decide⟩, tb_881, tb_882, TX9, 13, rfl⟩
set_option maxRecDepth 20000 in
theorem tb_1411 : Cond.code yX10_unit cX10_unit 3 (some .int) ∈ zTB := zmem (i := 1411) rfl rfl
theorem tb_1408 : Cond.methodLink RL 78 yX10_unit ∈ zTB := zmem (i := 1408) (by decide +kernel) rfl
theorem tb_1409 : Cond.instanceMethod yX10_unit ∈ zTB := zmem (i := 1409) (by decide +kernel) rfl
theorem tb_1410 : Cond.selects yX10_unit.cls yX10_unit yX10_unit ∈ zTB := zmem (i := 1410) (by decide +kernel) rfl
theorem cv_L_78 : zCV RL 78 yX10_unit cX10_unit 3 (some .int) 2 10 := ⟨⟨tb_1411, tb_124, tb_1408, ⟨by decide, by decide, by decide +kernel⟩, by decide⟩, tb_1409, tb_1410, TX10, 29, rfl⟩
set_option maxRecDepth 20000 in
theorem tb_783 : Cond.code yX9_unit cX9_unit 4 (some .int) ∈ zTB := zmem (i := 783) rfl rfl
theorem tb_780 : Cond.methodLink RL 75 yX9_unit ∈ zTB := zmem (i := 780) (by decide +kernel) rfl
theorem tb_781 : Cond.instanceMethod yX9_unit ∈ zTB := zmem (i := 781) (by decide +kernel) rfl
theorem tb_782 : Cond.selects yX9_unit.cls yX9_unit yX9_unit ∈ zTB := zmem (i := 782) (by decide +kernel) rfl
theorem cv_L_75 : zCV RL 75 yX9_unit cX9_unit 4 (some .int) 2 9 := ⟨⟨tb_783, tb_114, tb_780, ⟨by decide, by decide, by decide +kernel⟩, by decide⟩, tb_781, tb_782, TX9, 13, rfl⟩
set_option maxRecDepth 20000 in
theorem tb_1319 : Cond.code yX10_back cX10_back 2 (some .int) ∈ zTB := zmem (i := 1319) rfl rfl
theorem tb_1316 : Cond.methodLink RL 74 yX10_back ∈ zTB := zmem (i := 1316) (by decide +kernel) rfl
theorem tb_1317 : Cond.instanceMethod yX10_back ∈ zTB := zmem (i := 1317) (by decide +kernel) rfl
theorem tb_1318 : Cond.selects yX10_back.cls yX10_back yX10_back ∈ zTB := zmem (i := 1318) (by decide +kernel) rfl
theorem cv_L_74 : zCV RL 74 yX10_back cX10_back 2 (some .int) 1 10 := ⟨⟨tb_1319, tb_124, tb_1316, ⟨by decide, by decide, by decide +kernel⟩, by decide⟩, tb_1317, tb_1318, TX10, 29, rfl⟩
set_option maxRecDepth 20000 in
theorem tb_778 : Cond.code yX9_back cX9_back 2 (some .int) ∈ zTB := zmem (i := 778) rfl rfl
theorem tb_775 : Cond.methodLink RL 71 yX9_back ∈ zTB := zmem (i := 775) (by decide +kernel) rfl
theorem tb_776 : Cond.instanceMethod yX9_back ∈ zTB := zmem (i := 776) (by decide +kernel) rfl
theorem tb_777 : Cond.selects yX9_back.cls yX9_back yX9_back ∈ zTB := zmem (i := 777) (by decide +kernel) rfl
theorem cv_L_71 : zCV RL 71 yX9_back cX9_back 2 (some .int) 1 9 := ⟨⟨tb_778, tb_114, tb_775, ⟨by decide, by decide, by decide +kernel⟩, by decide⟩, tb_776, tb_777, TX9, 13, rfl⟩
set_option maxRecDepth 20000 in
theorem tb_1315 : Cond.code yX10_keep cX10_keep 2 (some .int) ∈ zTB := zmem (i := 1315) rfl rfl
theorem tb_1312 : Cond.methodLink RL 70 yX10_keep ∈ zTB := zmem (i := 1312) (by decide +kernel) rfl
theorem tb_1313 : Cond.instanceMethod yX10_keep ∈ zTB := zmem (i := 1313) (by decide +kernel) rfl
theorem tb_1314 : Cond.selects yX10_keep.cls yX10_keep yX10_keep ∈ zTB := zmem (i := 1314) (by decide +kernel) rfl
theorem cv_L_70 : zCV RL 70 yX10_keep cX10_keep 2 (some .int) 1 10 := ⟨⟨tb_1315, tb_124, tb_1312, ⟨by decide, by decide, by decide +kernel⟩, by decide⟩, tb_1313, tb_1314, TX10, 29, rfl⟩
set_option maxRecDepth 20000 in
theorem tb_769 : Cond.code yX9_keep cX9_keep 2 (some .int) ∈ zTB := zmem (i := 769) rfl rfl
theorem tb_766 : Cond.methodLink RL 67 yX9_keep ∈ zTB := zmem (i := 766) (by decide +kernel) rfl
theorem tb_767 : Cond.instanceMethod yX9_keep ∈ zTB := zmem (i := 767) (by decide +kernel) rfl
theorem tb_768 : Cond.selects yX9_keep.cls yX9_keep yX9_keep ∈ zTB := zmem (i := 768) (by decide +kernel) rfl
theorem cv_L_67 : zCV RL 67 yX9_keep cX9_keep 2 (some .int) 1 9 := ⟨⟨tb_769, tb_114, tb_766, ⟨by decide, by decide, by decide +kernel⟩, by decide⟩, tb_767, tb_768, TX9, 13, rfl⟩
set_option maxRecDepth 20000 in
theorem tb_1311 : Cond.code yX10_undo cX10_undo 1 (some .int) ∈ zTB := zmem (i := 1311) rfl rfl
theorem tb_1308 : Cond.methodLink RL 66 yX10_undo ∈ zTB := zmem (i := 1308) (by decide +kernel) rfl
theorem tb_1309 : Cond.instanceMethod yX10_undo ∈ zTB := zmem (i := 1309) (by decide +kernel) rfl
theorem tb_1310 : Cond.selects yX10_undo.cls yX10_undo yX10_undo ∈ zTB := zmem (i := 1310) (by decide +kernel) rfl
theorem cv_L_66 : zCV RL 66 yX10_undo cX10_undo 1 (some .int) 0 10 := ⟨⟨tb_1311, tb_124, tb_1308, ⟨by decide, by decide, by decide +kernel⟩, by decide⟩, tb_1309, tb_1310, TX10, 29, rfl⟩
set_option maxRecDepth 20000 in
theorem tb_761 : Cond.code yX9_undo cX9_undo 1 (some .int) ∈ zTB := zmem (i := 761) rfl rfl
theorem tb_758 : Cond.methodLink RL 63 yX9_undo ∈ zTB := zmem (i := 758) (by decide +kernel) rfl
theorem tb_759 : Cond.instanceMethod yX9_undo ∈ zTB := zmem (i := 759) (by decide +kernel) rfl
theorem tb_760 : Cond.selects yX9_undo.cls yX9_undo yX9_undo ∈ zTB := zmem (i := 760) (by decide +kernel) rfl
theorem cv_L_63 : zCV RL 63 yX9_undo cX9_undo 1 (some .int) 0 9 := ⟨⟨tb_761, tb_114, tb_758, ⟨by decide, by decide, by decide +kernel⟩, by decide⟩, tb_759, tb_760, TX9, 13, rfl⟩
set_option maxRecDepth 20000 in
theorem tb_1399 : Cond.code yX10_change cX10_change 9 (some .int) ∈ zTB := zmem (i := 1399) rfl rfl
theorem tb_1396 : Cond.methodLink RL 62 yX10_change ∈ zTB := zmem (i := 1396) (by decide +kernel) rfl
theorem tb_1397 : Cond.instanceMethod yX10_change ∈ zTB := zmem (i := 1397) (by decide +kernel) rfl
theorem tb_1398 : Cond.selects yX10_change.cls yX10_change yX10_change ∈ zTB := zmem (i := 1398) (by decide +kernel) rfl
theorem cv_L_62 : zCV RL 62 yX10_change cX10_change 9 (some .int) 4 10 := ⟨⟨tb_1399, tb_124, tb_1396, ⟨by decide, by decide, by decide +kernel⟩, by decide⟩, tb_1397, tb_1398, TX10, 29, rfl⟩
set_option maxRecDepth 20000 in
theorem tb_752 : Cond.code yX9_change cX9_change 8 (some .int) ∈ zTB := zmem (i := 752) rfl rfl
theorem tb_749 : Cond.methodLink RL 58 yX9_change ∈ zTB := zmem (i := 749) (by decide +kernel) rfl
theorem tb_750 : Cond.instanceMethod yX9_change ∈ zTB := zmem (i := 750) (by decide +kernel) rfl
theorem tb_751 : Cond.selects yX9_change.cls yX9_change yX9_change ∈ zTB := zmem (i := 751) (by decide +kernel) rfl
theorem cv_L_58 : zCV RL 58 yX9_change cX9_change 8 (some .int) 4 9 := ⟨⟨tb_752, tb_114, tb_749, ⟨by decide, by decide, by decide +kernel⟩, by decide⟩, tb_750, tb_751, TX9, 13, rfl⟩
set_option maxRecDepth 20000 in
theorem tb_1387 : Cond.code yX10_use cX10_use 3 (some .int) ∈ zTB := zmem (i := 1387) rfl rfl
theorem tb_1384 : Cond.methodLink RL 57 yX10_use ∈ zTB := zmem (i := 1384) (by decide +kernel) rfl
theorem tb_1385 : Cond.instanceMethod yX10_use ∈ zTB := zmem (i := 1385) (by decide +kernel) rfl
theorem tb_1386 : Cond.selects yX10_use.cls yX10_use yX10_use ∈ zTB := zmem (i := 1386) (by decide +kernel) rfl
theorem cv_L_57 : zCV RL 57 yX10_use cX10_use 3 (some .int) 2 10 := ⟨⟨tb_1387, tb_124, tb_1384, ⟨by decide, by decide, by decide +kernel⟩, by decide⟩, tb_1385, tb_1386, TX10, 29, rfl⟩
set_option maxRecDepth 20000 in
theorem tb_746 : Cond.code yX9_use cX9_use 4 (some .int) ∈ zTB := zmem (i := 746) rfl rfl
theorem tb_743 : Cond.methodLink RL 54 yX9_use ∈ zTB := zmem (i := 743) (by decide +kernel) rfl
theorem tb_744 : Cond.instanceMethod yX9_use ∈ zTB := zmem (i := 744) (by decide +kernel) rfl
theorem tb_745 : Cond.selects yX9_use.cls yX9_use yX9_use ∈ zTB := zmem (i := 745) (by decide +kernel) rfl
theorem cv_L_54 : zCV RL 54 yX9_use cX9_use 4 (some .int) 2 9 := ⟨⟨tb_746, tb_114, tb_743, ⟨by decide, by decide, by decide +kernel⟩, by decide⟩, tb_744, tb_745, TX9, 13, rfl⟩
set_option maxRecDepth 20000 in
theorem tb_1383 : Cond.code yX10_take cX10_take 4 (some .int) ∈ zTB := zmem (i := 1383) rfl rfl
theorem tb_1380 : Cond.methodLink RL 53 yX10_take ∈ zTB := zmem (i := 1380) (by decide +kernel) rfl
theorem tb_1381 : Cond.instanceMethod yX10_take ∈ zTB := zmem (i := 1381) (by decide +kernel) rfl
theorem tb_1382 : Cond.selects yX10_take.cls yX10_take yX10_take ∈ zTB := zmem (i := 1382) (by decide +kernel) rfl
theorem cv_L_53 : zCV RL 53 yX10_take cX10_take 4 (some .int) 2 10 := ⟨⟨tb_1383, tb_124, tb_1380, ⟨by decide, by decide, by decide +kernel⟩, by decide⟩, tb_1381, tb_1382, TX10, 29, rfl⟩
set_option maxRecDepth 20000 in
theorem tb_738 : Cond.code yX9_take cX9_take 3 (some .int) ∈ zTB := zmem (i := 738) rfl rfl
theorem tb_735 : Cond.methodLink RL 50 yX9_take ∈ zTB := zmem (i := 735) (by decide +kernel) rfl
theorem tb_736 : Cond.instanceMethod yX9_take ∈ zTB := zmem (i := 736) (by decide +kernel) rfl
theorem tb_737 : Cond.selects yX9_take.cls yX9_take yX9_take ∈ zTB := zmem (i := 737) (by decide +kernel) rfl
theorem cv_L_50 : zCV RL 50 yX9_take cX9_take 3 (some .int) 2 9 := ⟨⟨tb_738, tb_114, tb_735, ⟨by decide, by decide, by decide +kernel⟩, by decide⟩, tb_736, tb_737, TX9, 13, rfl⟩
set_option maxRecDepth 20000 in
theorem tb_1379 : Cond.code yX10_need cX10_need 3 (some .int) ∈ zTB := zmem (i := 1379) rfl rfl
theorem tb_1376 : Cond.methodLink RL 49 yX10_need ∈ zTB := zmem (i := 1376) (by decide +kernel) rfl
theorem tb_1377 : Cond.instanceMethod yX10_need ∈ zTB := zmem (i := 1377) (by decide +kernel) rfl
theorem tb_1378 : Cond.selects yX10_need.cls yX10_need yX10_need ∈ zTB := zmem (i := 1378) (by decide +kernel) rfl
theorem cv_L_49 : zCV RL 49 yX10_need cX10_need 3 (some .int) 2 10 := ⟨⟨tb_1379, tb_124, tb_1376, ⟨by decide, by decide, by decide +kernel⟩, by decide⟩, tb_1377, tb_1378, TX10, 29, rfl⟩
set_option maxRecDepth 20000 in
theorem tb_730 : Cond.code yX9_need cX9_need 3 (some .int) ∈ zTB := zmem (i := 730) rfl rfl
theorem tb_727 : Cond.methodLink RL 46 yX9_need ∈ zTB := zmem (i := 727) (by decide +kernel) rfl
theorem tb_728 : Cond.instanceMethod yX9_need ∈ zTB := zmem (i := 728) (by decide +kernel) rfl
theorem tb_729 : Cond.selects yX9_need.cls yX9_need yX9_need ∈ zTB := zmem (i := 729) (by decide +kernel) rfl
theorem cv_L_46 : zCV RL 46 yX9_need cX9_need 3 (some .int) 2 9 := ⟨⟨tb_730, tb_114, tb_727, ⟨by decide, by decide, by decide +kernel⟩, by decide⟩, tb_728, tb_729, TX9, 13, rfl⟩
set_option maxRecDepth 20000 in
theorem tb_1363 : Cond.code yX10_give cX10_give 4 (some .int) ∈ zTB := zmem (i := 1363) rfl rfl
theorem tb_1360 : Cond.methodLink RL 45 yX10_give ∈ zTB := zmem (i := 1360) (by decide +kernel) rfl
theorem tb_1361 : Cond.instanceMethod yX10_give ∈ zTB := zmem (i := 1361) (by decide +kernel) rfl
theorem tb_1362 : Cond.selects yX10_give.cls yX10_give yX10_give ∈ zTB := zmem (i := 1362) (by decide +kernel) rfl
theorem cv_L_45 : zCV RL 45 yX10_give cX10_give 4 (some .int) 3 10 := ⟨⟨tb_1363, tb_124, tb_1360, ⟨by decide, by decide, by decide +kernel⟩, by decide⟩, tb_1361, tb_1362, TX10, 29, rfl⟩
set_option maxRecDepth 20000 in
theorem tb_711 : Cond.code yX9_give cX9_give 7 (some .int) ∈ zTB := zmem (i := 711) rfl rfl
theorem tb_708 : Cond.methodLink RL 41 yX9_give ∈ zTB := zmem (i := 708) (by decide +kernel) rfl
theorem tb_709 : Cond.instanceMethod yX9_give ∈ zTB := zmem (i := 709) (by decide +kernel) rfl
theorem tb_710 : Cond.selects yX9_give.cls yX9_give yX9_give ∈ zTB := zmem (i := 710) (by decide +kernel) rfl
theorem cv_L_41 : zCV RL 41 yX9_give cX9_give 7 (some .int) 3 9 := ⟨⟨tb_711, tb_114, tb_708, ⟨by decide, by decide, by decide +kernel⟩, by decide⟩, tb_709, tb_710, TX9, 13, rfl⟩
set_option maxRecDepth 20000 in
theorem tb_1359 : Cond.code yX10_turn cX10_turn 6 (some .int) ∈ zTB := zmem (i := 1359) rfl rfl
theorem tb_1356 : Cond.methodLink RL 40 yX10_turn ∈ zTB := zmem (i := 1356) (by decide +kernel) rfl
theorem tb_1357 : Cond.instanceMethod yX10_turn ∈ zTB := zmem (i := 1357) (by decide +kernel) rfl
theorem tb_1358 : Cond.selects yX10_turn.cls yX10_turn yX10_turn ∈ zTB := zmem (i := 1358) (by decide +kernel) rfl
theorem cv_L_40 : zCV RL 40 yX10_turn cX10_turn 6 (some .int) 1 10 := ⟨⟨tb_1359, tb_124, tb_1356, ⟨by decide, by decide, by decide +kernel⟩, by decide⟩, tb_1357, tb_1358, TX10, 29, rfl⟩
set_option maxRecDepth 20000 in
theorem tb_703 : Cond.code yX9_turn cX9_turn 3 (some .int) ∈ zTB := zmem (i := 703) rfl rfl
theorem tb_700 : Cond.methodLink RL 37 yX9_turn ∈ zTB := zmem (i := 700) (by decide +kernel) rfl
theorem tb_701 : Cond.instanceMethod yX9_turn ∈ zTB := zmem (i := 701) (by decide +kernel) rfl
theorem tb_702 : Cond.selects yX9_turn.cls yX9_turn yX9_turn ∈ zTB := zmem (i := 702) (by decide +kernel) rfl
theorem cv_L_37 : zCV RL 37 yX9_turn cX9_turn 3 (some .int) 1 9 := ⟨⟨tb_703, tb_114, tb_700, ⟨by decide, by decide, by decide +kernel⟩, by decide⟩, tb_701, tb_702, TX9, 13, rfl⟩
set_option maxRecDepth 20000 in
theorem tb_1355 : Cond.code yX10_leave cX10_leave 4 (some .int) ∈ zTB := zmem (i := 1355) rfl rfl
theorem tb_1352 : Cond.methodLink RL 36 yX10_leave ∈ zTB := zmem (i := 1352) (by decide +kernel) rfl
theorem tb_1353 : Cond.instanceMethod yX10_leave ∈ zTB := zmem (i := 1353) (by decide +kernel) rfl
theorem tb_1354 : Cond.selects yX10_leave.cls yX10_leave yX10_leave ∈ zTB := zmem (i := 1354) (by decide +kernel) rfl
theorem cv_L_36 : zCV RL 36 yX10_leave cX10_leave 4 (some .int) 2 10 := ⟨⟨tb_1355, tb_124, tb_1352, ⟨by decide, by decide, by decide +kernel⟩, by decide⟩, tb_1353, tb_1354, TX10, 29, rfl⟩
set_option maxRecDepth 20000 in
theorem tb_695 : Cond.code yX9_leave cX9_leave 5 (some .int) ∈ zTB := zmem (i := 695) rfl rfl
theorem tb_692 : Cond.methodLink RL 33 yX9_leave ∈ zTB := zmem (i := 692) (by decide +kernel) rfl
theorem tb_693 : Cond.instanceMethod yX9_leave ∈ zTB := zmem (i := 693) (by decide +kernel) rfl
theorem tb_694 : Cond.selects yX9_leave.cls yX9_leave yX9_leave ∈ zTB := zmem (i := 694) (by decide +kernel) rfl
theorem cv_L_33 : zCV RL 33 yX9_leave cX9_leave 5 (some .int) 2 9 := ⟨⟨tb_695, tb_114, tb_692, ⟨by decide, by decide, by decide +kernel⟩, by decide⟩, tb_693, tb_694, TX9, 13, rfl⟩
set_option maxRecDepth 20000 in
theorem tb_1323 : Cond.code yX10_join cX10_join 3 (some .int) ∈ zTB := zmem (i := 1323) rfl rfl
theorem tb_1320 : Cond.methodLink RL 32 yX10_join ∈ zTB := zmem (i := 1320) (by decide +kernel) rfl
theorem tb_1321 : Cond.instanceMethod yX10_join ∈ zTB := zmem (i := 1321) (by decide +kernel) rfl
theorem tb_1322 : Cond.selects yX10_join.cls yX10_join yX10_join ∈ zTB := zmem (i := 1322) (by decide +kernel) rfl
theorem cv_L_32 : zCV RL 32 yX10_join cX10_join 3 (some .int) 2 10 := ⟨⟨tb_1323, tb_124, tb_1320, ⟨by decide, by decide, by decide +kernel⟩, by decide⟩, tb_1321, tb_1322, TX10, 29, rfl⟩
set_option maxRecDepth 20000 in
theorem tb_667 : Cond.code yX9_join cX9_join 4 (some .int) ∈ zTB := zmem (i := 667) rfl rfl
theorem tb_664 : Cond.methodLink RL 28 yX9_join ∈ zTB := zmem (i := 664) (by decide +kernel) rfl
theorem tb_665 : Cond.instanceMethod yX9_join ∈ zTB := zmem (i := 665) (by decide +kernel) rfl
theorem tb_666 : Cond.selects yX9_join.cls yX9_join yX9_join ∈ zTB := zmem (i := 666) (by decide +kernel) rfl
theorem cv_L_28 : zCV RL 28 yX9_join cX9_join 4 (some .int) 2 9 := ⟨⟨tb_667, tb_114, tb_664, ⟨by decide, by decide, by decide +kernel⟩, by decide⟩, tb_665, tb_666, TX9, 13, rfl⟩
set_option maxRecDepth 20000 in
theorem tb_1201 : Cond.code yX10_tell cX10_tell 2 (some .int) ∈ zTB := zmem (i := 1201) rfl rfl
theorem tb_1198 : Cond.methodLink RL 27 yX10_tell ∈ zTB := zmem (i := 1198) (by decide +kernel) rfl
theorem tb_1199 : Cond.instanceMethod yX10_tell ∈ zTB := zmem (i := 1199) (by decide +kernel) rfl
theorem tb_1200 : Cond.selects yX10_tell.cls yX10_tell yX10_tell ∈ zTB := zmem (i := 1200) (by decide +kernel) rfl
theorem cv_L_27 : zCV RL 27 yX10_tell cX10_tell 2 (some .int) 0 10 := ⟨⟨tb_1201, tb_124, tb_1198, ⟨by decide, by decide, by decide +kernel⟩, by decide⟩, tb_1199, tb_1200, TX10, 29, rfl⟩
set_option maxRecDepth 20000 in
theorem tb_475 : Cond.code yX9_tell cX9_tell 3 (some .int) ∈ zTB := zmem (i := 475) rfl rfl
theorem tb_472 : Cond.methodLink RL 23 yX9_tell ∈ zTB := zmem (i := 472) (by decide +kernel) rfl
theorem tb_473 : Cond.instanceMethod yX9_tell ∈ zTB := zmem (i := 473) (by decide +kernel) rfl
theorem tb_474 : Cond.selects yX9_tell.cls yX9_tell yX9_tell ∈ zTB := zmem (i := 474) (by decide +kernel) rfl
theorem cv_L_23 : zCV RL 23 yX9_tell cX9_tell 3 (some .int) 0 9 := ⟨⟨tb_475, tb_114, tb_472, ⟨by decide, by decide, by decide +kernel⟩, by decide⟩, tb_473, tb_474, TX9, 13, rfl⟩
set_option maxRecDepth 20000 in
theorem tb_1197 : Cond.code yX10_end cX10_end 2 (some .int) ∈ zTB := zmem (i := 1197) rfl rfl
theorem tb_1194 : Cond.methodLink RL 22 yX10_end ∈ zTB := zmem (i := 1194) (by decide +kernel) rfl
theorem tb_1195 : Cond.instanceMethod yX10_end ∈ zTB := zmem (i := 1195) (by decide +kernel) rfl
theorem tb_1196 : Cond.selects yX10_end.cls yX10_end yX10_end ∈ zTB := zmem (i := 1196) (by decide +kernel) rfl
theorem cv_L_22 : zCV RL 22 yX10_end cX10_end 2 (some .int) 1 10 := ⟨⟨tb_1197, tb_124, tb_1194, ⟨by decide, by decide, by decide +kernel⟩, by decide⟩, tb_1195, tb_1196, TX10, 29, rfl⟩
set_option maxRecDepth 20000 in
theorem tb_471 : Cond.code yX9_end cX9_end 2 (some .int) ∈ zTB := zmem (i := 471) rfl rfl
theorem tb_468 : Cond.methodLink RL 18 yX9_end ∈ zTB := zmem (i := 468) (by decide +kernel) rfl
theorem tb_469 : Cond.instanceMethod yX9_end ∈ zTB := zmem (i := 469) (by decide +kernel) rfl
theorem tb_470 : Cond.selects yX9_end.cls yX9_end yX9_end ∈ zTB := zmem (i := 470) (by decide +kernel) rfl
theorem cv_L_18 : zCV RL 18 yX9_end cX9_end 2 (some .int) 1 9 := ⟨⟨tb_471, tb_114, tb_468, ⟨by decide, by decide, by decide +kernel⟩, by decide⟩, tb_469, tb_470, TX9, 13, rfl⟩
set_option maxRecDepth 20000 in
theorem tb_1189 : Cond.code yX10_feed cX10_feed 6 (some .int) ∈ zTB := zmem (i := 1189) rfl rfl
theorem tb_1186 : Cond.methodLink RL 17 yX10_feed ∈ zTB := zmem (i := 1186) (by decide +kernel) rfl
theorem tb_1187 : Cond.instanceMethod yX10_feed ∈ zTB := zmem (i := 1187) (by decide +kernel) rfl
theorem tb_1188 : Cond.selects yX10_feed.cls yX10_feed yX10_feed ∈ zTB := zmem (i := 1188) (by decide +kernel) rfl
theorem cv_L_17 : zCV RL 17 yX10_feed cX10_feed 6 (some .int) 5 10 := ⟨⟨tb_1189, tb_124, tb_1186, ⟨by decide, by decide, by decide +kernel⟩, by decide⟩, tb_1187, tb_1188, TX10, 29, rfl⟩
set_option maxRecDepth 20000 in
theorem tb_463 : Cond.code yX9_feed cX9_feed 6 (some .int) ∈ zTB := zmem (i := 463) rfl rfl
theorem tb_460 : Cond.methodLink RL 13 yX9_feed ∈ zTB := zmem (i := 460) (by decide +kernel) rfl
theorem tb_461 : Cond.instanceMethod yX9_feed ∈ zTB := zmem (i := 461) (by decide +kernel) rfl
theorem tb_462 : Cond.selects yX9_feed.cls yX9_feed yX9_feed ∈ zTB := zmem (i := 462) (by decide +kernel) rfl
theorem cv_L_13 : zCV RL 13 yX9_feed cX9_feed 6 (some .int) 5 9 := ⟨⟨tb_463, tb_114, tb_460, ⟨by decide, by decide, by decide +kernel⟩, by decide⟩, tb_461, tb_462, TX9, 13, rfl⟩
def fL_law_L18 (E : zE) (s : (Int32 × zM)) : Option ((Int32 × zM) ⊕ (zM ⊕ (Int32 × zM))) :=
  if (((Int32.ofNat (zsL E))) - 6) < s.1 then (some (.inr (.inl s.2))) else (zob (zin s.1 (zsL E)) (if (((zsx E (zn s.1))) &&& 63) = 0 then (zob (zin ((s.1 + 1)) (zsL E)) (zob (zin ((s.1 + 2)) (zsL E)) (zob (zin ((s.1 + 3)) (zsL E)) (zob (zin ((s.1 + 4)) (zsL E)) (zob (zin ((s.1 + 5)) (zsL E)) ((fX9_feed ((zsx E (zn ((s.1 + 1))))) ((zsx E (zn ((s.1 + 2))))) ((zsx E (zn ((s.1 + 3))))) ((zsx E (zn ((s.1 + 4))))) ((zsx E (zn ((s.1 + 5))))) s.2).bind (fun x69 => zob (zin ((s.1 + 1)) (zsL E)) (zob (zin ((s.1 + 2)) (zsL E)) (zob (zin ((s.1 + 3)) (zsL E)) (zob (zin ((s.1 + 4)) (zsL E)) (zob (zin ((s.1 + 5)) (zsL E)) ((fX10_feed ((zsx E (zn ((s.1 + 1))))) ((zsx E (zn ((s.1 + 2))))) ((zsx E (zn ((s.1 + 3))))) ((zsx E (zn ((s.1 + 4))))) ((zsx E (zn ((s.1 + 5))))) x69.2).bind (fun x70 => if x69.1 = x70.1 then (some (.inl ((s.1 + 6), x70.2))) else (some (.inr (.inr ((0, x70.2)))))))))))))))))) else (if (((zsx E (zn s.1))) &&& 63) = 1 then (zob (zin ((s.1 + 1)) (zsL E)) ((fX9_end ((zsx E (zn ((s.1 + 1))))) s.2).bind (fun x67 => zob (zin ((s.1 + 1)) (zsL E)) ((fX10_end ((zsx E (zn ((s.1 + 1))))) x67.2).bind (fun x68 => if x67.1 = x68.1 then (some (.inl ((s.1 + 6), x68.2))) else (some (.inr (.inr ((0, x68.2)))))))))) else (if (((zsx E (zn s.1))) &&& 63) = 2 then ((fX9_tell s.2).bind (fun x65 => (fX10_tell x65.2).bind (fun x66 => if x65.1 = x66.1 then (some (.inl ((s.1 + 6), x66.2))) else (some (.inr (.inr ((0, x66.2)))))))) else (if (((zsx E (zn s.1))) &&& 63) = 3 then (zob (zin ((s.1 + 1)) (zsL E)) (zob (zin ((s.1 + 2)) (zsL E)) ((fX9_join ((zsx E (zn ((s.1 + 1))))) ((zsx E (zn ((s.1 + 2))))) s.2).bind (fun x63 => zob (zin ((s.1 + 1)) (zsL E)) (zob (zin ((s.1 + 2)) (zsL E)) ((fX10_join ((zsx E (zn ((s.1 + 1))))) ((zsx E (zn ((s.1 + 2))))) x63.2).bind (fun x64 => if x63.1 = x64.1 then (some (.inl ((s.1 + 6), x64.2))) else (some (.inr (.inr ((0, x64.2)))))))))))) else (if (((zsx E (zn s.1))) &&& 63) = 4 then (zob (zin ((s.1 + 1)) (zsL E)) (zob (zin ((s.1 + 2)) (zsL E)) ((fX9_leave ((zsx E (zn ((s.1 + 1))))) ((zsx E (zn ((s.1 + 2))))) s.2).bind (fun x61 => zob (zin ((s.1 + 1)) (zsL E)) (zob (zin ((s.1 + 2)) (zsL E)) ((fX10_leave ((zsx E (zn ((s.1 + 1))))) ((zsx E (zn ((s.1 + 2))))) x61.2).bind (fun x62 => if x61.1 = x62.1 then (some (.inl ((s.1 + 6), x62.2))) else (some (.inr (.inr ((0, x62.2)))))))))))) else (if (((zsx E (zn s.1))) &&& 63) = 5 then (zob (zin ((s.1 + 1)) (zsL E)) ((fX9_turn ((zsx E (zn ((s.1 + 1))))) s.2).bind (fun x59 => zob (zin ((s.1 + 1)) (zsL E)) ((fX10_turn ((zsx E (zn ((s.1 + 1))))) x59.2).bind (fun x60 => if x59.1 = x60.1 then (some (.inl ((s.1 + 6), x60.2))) else (some (.inr (.inr ((0, x60.2)))))))))) else (if (((zsx E (zn s.1))) &&& 63) = 6 then (zob (zin ((s.1 + 1)) (zsL E)) (zob (zin ((s.1 + 2)) (zsL E)) (zob (zin ((s.1 + 3)) (zsL E)) ((fX9_give ((zsx E (zn ((s.1 + 1))))) ((zsx E (zn ((s.1 + 2))))) ((zsx E (zn ((s.1 + 3))))) s.2).bind (fun x57 => zob (zin ((s.1 + 1)) (zsL E)) (zob (zin ((s.1 + 2)) (zsL E)) (zob (zin ((s.1 + 3)) (zsL E)) ((fX10_give ((zsx E (zn ((s.1 + 1))))) ((zsx E (zn ((s.1 + 2))))) ((zsx E (zn ((s.1 + 3))))) x57.2).bind (fun x58 => if x57.1 = x58.1 then (some (.inl ((s.1 + 6), x58.2))) else (some (.inr (.inr ((0, x58.2)))))))))))))) else (if (((zsx E (zn s.1))) &&& 63) = 7 then (zob (zin ((s.1 + 1)) (zsL E)) (zob (zin ((s.1 + 2)) (zsL E)) ((fX9_need ((zsx E (zn ((s.1 + 1))))) ((zsx E (zn ((s.1 + 2))))) s.2).bind (fun x55 => zob (zin ((s.1 + 1)) (zsL E)) (zob (zin ((s.1 + 2)) (zsL E)) ((fX10_need ((zsx E (zn ((s.1 + 1))))) ((zsx E (zn ((s.1 + 2))))) x55.2).bind (fun x56 => if x55.1 = x56.1 then (some (.inl ((s.1 + 6), x56.2))) else (some (.inr (.inr ((0, x56.2)))))))))))) else (if (((zsx E (zn s.1))) &&& 63) = 8 then (zob (zin ((s.1 + 1)) (zsL E)) (zob (zin ((s.1 + 2)) (zsL E)) ((fX9_take ((zsx E (zn ((s.1 + 1))))) ((zsx E (zn ((s.1 + 2))))) s.2).bind (fun x53 => zob (zin ((s.1 + 1)) (zsL E)) (zob (zin ((s.1 + 2)) (zsL E)) ((fX10_take ((zsx E (zn ((s.1 + 1))))) ((zsx E (zn ((s.1 + 2))))) x53.2).bind (fun x54 => if x53.1 = x54.1 then (some (.inl ((s.1 + 6), x54.2))) else (some (.inr (.inr ((0, x54.2)))))))))))) else (if (((zsx E (zn s.1))) &&& 63) = 9 then (zob (zin ((s.1 + 1)) (zsL E)) (zob (zin ((s.1 + 2)) (zsL E)) ((fX9_use ((zsx E (zn ((s.1 + 1))))) ((zsx E (zn ((s.1 + 2))))) s.2).bind (fun x51 => zob (zin ((s.1 + 1)) (zsL E)) (zob (zin ((s.1 + 2)) (zsL E)) ((fX10_use ((zsx E (zn ((s.1 + 1))))) ((zsx E (zn ((s.1 + 2))))) x51.2).bind (fun x52 => if x51.1 = x52.1 then (some (.inl ((s.1 + 6), x52.2))) else (some (.inr (.inr ((0, x52.2)))))))))))) else (if (((zsx E (zn s.1))) &&& 63) = 10 then (zob (zin ((s.1 + 1)) (zsL E)) (zob (zin ((s.1 + 2)) (zsL E)) (zob (zin ((s.1 + 3)) (zsL E)) (zob (zin ((s.1 + 4)) (zsL E)) ((fX9_change ((zsx E (zn ((s.1 + 1))))) ((zsx E (zn ((s.1 + 2))))) ((zsx E (zn ((s.1 + 3))))) ((zsx E (zn ((s.1 + 4))))) s.2).bind (fun x49 => zob (zin ((s.1 + 1)) (zsL E)) (zob (zin ((s.1 + 2)) (zsL E)) (zob (zin ((s.1 + 3)) (zsL E)) (zob (zin ((s.1 + 4)) (zsL E)) ((fX10_change ((zsx E (zn ((s.1 + 1))))) ((zsx E (zn ((s.1 + 2))))) ((zsx E (zn ((s.1 + 3))))) ((zsx E (zn ((s.1 + 4))))) x49.2).bind (fun x50 => if x49.1 = x50.1 then (some (.inl ((s.1 + 6), x50.2))) else (some (.inr (.inr ((0, x50.2)))))))))))))))) else (if (((zsx E (zn s.1))) &&& 63) = 11 then ((fX9_undo s.2).bind (fun x47 => (fX10_undo x47.2).bind (fun x48 => if x47.1 = x48.1 then (some (.inl ((s.1 + 6), x48.2))) else (some (.inr (.inr ((0, x48.2)))))))) else (if (((zsx E (zn s.1))) &&& 63) = 12 then (zob (zin ((s.1 + 1)) (zsL E)) ((fX9_keep ((zsx E (zn ((s.1 + 1))))) s.2).bind (fun x45 => zob (zin ((s.1 + 1)) (zsL E)) ((fX10_keep ((zsx E (zn ((s.1 + 1))))) x45.2).bind (fun x46 => if x45.1 = x46.1 then (some (.inl ((s.1 + 6), x46.2))) else (some (.inr (.inr ((0, x46.2)))))))))) else (if (((zsx E (zn s.1))) &&& 63) = 13 then (zob (zin ((s.1 + 1)) (zsL E)) ((fX9_back ((zsx E (zn ((s.1 + 1))))) s.2).bind (fun x43 => zob (zin ((s.1 + 1)) (zsL E)) ((fX10_back ((zsx E (zn ((s.1 + 1))))) x43.2).bind (fun x44 => if x43.1 = x44.1 then (some (.inl ((s.1 + 6), x44.2))) else (some (.inr (.inr ((0, x44.2)))))))))) else (if (((zsx E (zn s.1))) &&& 63) = 14 then (zob (zin ((s.1 + 1)) (zsL E)) (zob (zin ((s.1 + 2)) (zsL E)) ((fX9_unit ((zsx E (zn ((s.1 + 1))))) ((zsx E (zn ((s.1 + 2))))) s.2).bind (fun x41 => zob (zin ((s.1 + 1)) (zsL E)) (zob (zin ((s.1 + 2)) (zsL E)) ((fX10_unit ((zsx E (zn ((s.1 + 1))))) ((zsx E (zn ((s.1 + 2))))) x41.2).bind (fun x42 => if x41.1 = x42.1 then (some (.inl ((s.1 + 6), x42.2))) else (some (.inr (.inr ((0, x42.2)))))))))))) else (if (((zsx E (zn s.1))) &&& 63) = 15 then (zob (zin ((s.1 + 1)) (zsL E)) (zob (zin ((s.1 + 2)) (zsL E)) ((fX9_parent ((zsx E (zn ((s.1 + 1))))) ((zsx E (zn ((s.1 + 2))))) s.2).bind (fun x39 => zob (zin ((s.1 + 1)) (zsL E)) (zob (zin ((s.1 + 2)) (zsL E)) ((fX10_parent ((zsx E (zn ((s.1 + 1))))) ((zsx E (zn ((s.1 + 2))))) s.2).bind (fun x40 => if x39 = x40 then (some (.inl ((s.1 + 6), s.2))) else (some (.inr (.inr ((0, s.2)))))))))))) else (if (((zsx E (zn s.1))) &&& 63) = 16 then (zob (zin ((s.1 + 1)) (zsL E)) (zob (zin ((s.1 + 2)) (zsL E)) ((fX9_used ((zsx E (zn ((s.1 + 1))))) ((zsx E (zn ((s.1 + 2))))) s.2).bind (fun x37 => zob (zin ((s.1 + 1)) (zsL E)) (zob (zin ((s.1 + 2)) (zsL E)) ((fX10_used ((zsx E (zn ((s.1 + 1))))) ((zsx E (zn ((s.1 + 2))))) s.2).bind (fun x38 => if x37 = x38 then (some (.inl ((s.1 + 6), s.2))) else (some (.inr (.inr ((0, s.2)))))))))))) else (if (((zsx E (zn s.1))) &&& 63) = 17 then (zob (zin ((s.1 + 1)) (zsL E)) (zob (zin ((s.1 + 2)) (zsL E)) (zob (zin ((s.1 + 3)) (zsL E)) ((fX9_becomes ((zsx E (zn ((s.1 + 1))))) ((zsx E (zn ((s.1 + 2))))) ((zsx E (zn ((s.1 + 3))))) s.2).bind (fun x35 => zob (zin ((s.1 + 1)) (zsL E)) (zob (zin ((s.1 + 2)) (zsL E)) (zob (zin ((s.1 + 3)) (zsL E)) ((fX10_becomes ((zsx E (zn ((s.1 + 1))))) ((zsx E (zn ((s.1 + 2))))) ((zsx E (zn ((s.1 + 3))))) s.2).bind (fun x36 => if x35 = x36 then (some (.inl ((s.1 + 6), s.2))) else (some (.inr (.inr ((0, s.2)))))))))))))) else (if (((zsx E (zn s.1))) &&& 63) = 18 then (zob (zin ((s.1 + 1)) (zsL E)) (zob (zin ((s.1 + 2)) (zsL E)) (zob (zin ((s.1 + 3)) (zsL E)) ((fX9_body ((zsx E (zn ((s.1 + 1))))) ((zsx E (zn ((s.1 + 2))))) ((zsx E (zn ((s.1 + 3))))) s.2).bind (fun x33 => zob (zin ((s.1 + 1)) (zsL E)) (zob (zin ((s.1 + 2)) (zsL E)) (zob (zin ((s.1 + 3)) (zsL E)) ((fX10_body ((zsx E (zn ((s.1 + 1))))) ((zsx E (zn ((s.1 + 2))))) ((zsx E (zn ((s.1 + 3))))) s.2).bind (fun x34 => if x33 = x34 then (some (.inl ((s.1 + 6), s.2))) else (some (.inr (.inr ((0, s.2)))))))))))))) else (if (((zsx E (zn s.1))) &&& 63) = 19 then (zob (zin ((s.1 + 1)) (zsL E)) (zob (zin ((s.1 + 2)) (zsL E)) (zob (zin ((s.1 + 3)) (zsL E)) ((fX9_flat ((zsx E (zn ((s.1 + 1))))) ((zsx E (zn ((s.1 + 2))))) ((zsx E (zn ((s.1 + 3))))) s.2).bind (fun x31 => zob (zin ((s.1 + 1)) (zsL E)) (zob (zin ((s.1 + 2)) (zsL E)) (zob (zin ((s.1 + 3)) (zsL E)) ((fX10_flat ((zsx E (zn ((s.1 + 1))))) ((zsx E (zn ((s.1 + 2))))) ((zsx E (zn ((s.1 + 3))))) x31.2).bind (fun x32 => if x31.1 = x32.1 then (some (.inl ((s.1 + 6), x32.2))) else (some (.inr (.inr ((0, x32.2)))))))))))))) else (if (((zsx E (zn s.1))) &&& 63) = 20 then (zob (zin ((s.1 + 1)) (zsL E)) (zob (zin ((s.1 + 2)) (zsL E)) ((fX9_line ((zsx E (zn ((s.1 + 1))))) ((zsx E (zn ((s.1 + 2))))) s.2).bind (fun x29 => zob (zin ((s.1 + 1)) (zsL E)) (zob (zin ((s.1 + 2)) (zsL E)) ((fX10_line ((zsx E (zn ((s.1 + 1))))) ((zsx E (zn ((s.1 + 2))))) x29.2).bind (fun x30 => if x29.1 = x30.1 then (some (.inl ((s.1 + 6), x30.2))) else (some (.inr (.inr ((0, x30.2)))))))))))) else (if (((zsx E (zn s.1))) &&& 63) = 21 then (zob (zin ((s.1 + 1)) (zsL E)) (zob (zin ((s.1 + 2)) (zsL E)) ((fX9_ring ((zsx E (zn ((s.1 + 1))))) ((zsx E (zn ((s.1 + 2))))) s.2).bind (fun x27 => zob (zin ((s.1 + 1)) (zsL E)) (zob (zin ((s.1 + 2)) (zsL E)) ((fX10_ring ((zsx E (zn ((s.1 + 1))))) ((zsx E (zn ((s.1 + 2))))) x27.2).bind (fun x28 => if x27.1 = x28.1 then (some (.inl ((s.1 + 6), x28.2))) else (some (.inr (.inr ((0, x28.2)))))))))))) else (if (((zsx E (zn s.1))) &&& 63) = 22 then (zob (zin ((s.1 + 1)) (zsL E)) ((fX9_over ((zsx E (zn ((s.1 + 1))))) s.2).bind (fun x25 => zob (zin ((s.1 + 1)) (zsL E)) ((fX10_over ((zsx E (zn ((s.1 + 1))))) x25.2).bind (fun x26 => if x25.1 = x26 then (some (.inl ((s.1 + 6), x25.2))) else (some (.inr (.inr ((0, x25.2)))))))))) else (if (((zsx E (zn s.1))) &&& 63) = 23 then (zob (zin ((s.1 + 1)) (zsL E)) ((fX9_orders ((zsx E (zn ((s.1 + 1))))) s.2).bind (fun x23 => zob (zin ((s.1 + 1)) (zsL E)) ((fX10_orders ((zsx E (zn ((s.1 + 1))))) x23.2).bind (fun x24 => if (lg_cmp x23.1 x24.1) = 0 then (some (.inl ((s.1 + 6), x24.2))) else (some (.inr (.inr ((0, x24.2)))))))))) else (if (((zsx E (zn s.1))) &&& 63) = 24 then (zob (zin ((s.1 + 1)) (zsL E)) (zob (zin ((s.1 + 2)) (zsL E)) ((fX9_first ((zsx E (zn ((s.1 + 1))))) ((zsx E (zn ((s.1 + 2))))) s.2).bind (fun x21 => zob (zin ((s.1 + 1)) (zsL E)) (zob (zin ((s.1 + 2)) (zsL E)) ((fX10_first ((zsx E (zn ((s.1 + 1))))) ((zsx E (zn ((s.1 + 2))))) x21.2).bind (fun x22 => if x21.1 = x22.1 then (some (.inl ((s.1 + 6), x22.2))) else (some (.inr (.inr ((0, x22.2)))))))))))) else (if (((zsx E (zn s.1))) &&& 63) = 25 then (zob (zin ((s.1 + 1)) (zsL E)) (zob (zin ((s.1 + 2)) (zsL E)) ((fX9_place ((zsx E (zn ((s.1 + 1))))) ((zsx E (zn ((s.1 + 2))))) s.2).bind (fun x19 => zob (zin ((s.1 + 1)) (zsL E)) (zob (zin ((s.1 + 2)) (zsL E)) ((fX10_place ((zsx E (zn ((s.1 + 1))))) ((zsx E (zn ((s.1 + 2))))) x19.2).bind (fun x20 => if x19.1 = x20.1 then (some (.inl ((s.1 + 6), x20.2))) else (some (.inr (.inr ((0, x20.2)))))))))))) else (if (((zsx E (zn s.1))) &&& 63) = 26 then (zob (zin ((s.1 + 1)) (zsL E)) (zob (zin ((s.1 + 2)) (zsL E)) (zob (zin ((s.1 + 3)) (zsL E)) ((fX9_send ((zsx E (zn ((s.1 + 1))))) ((zsx E (zn ((s.1 + 2))))) ((zsx E (zn ((s.1 + 3))))) s.2).bind (fun x17 => zob (zin ((s.1 + 1)) (zsL E)) (zob (zin ((s.1 + 2)) (zsL E)) (zob (zin ((s.1 + 3)) (zsL E)) ((fX10_send ((zsx E (zn ((s.1 + 1))))) ((zsx E (zn ((s.1 + 2))))) ((zsx E (zn ((s.1 + 3))))) x17.2).bind (fun x18 => if x17.1 = x18.1 then (some (.inl ((s.1 + 6), x18.2))) else (some (.inr (.inr ((0, x18.2)))))))))))))) else (if (((zsx E (zn s.1))) &&& 63) = 27 then (zob (zin ((s.1 + 1)) (zsL E)) (zob (zin ((s.1 + 2)) (zsL E)) (zob (zin ((s.1 + 3)) (zsL E)) ((fX9_chain ((zsx E (zn ((s.1 + 1))))) ((zsx E (zn ((s.1 + 2))))) ((zsx E (zn ((s.1 + 3))))) s.2).bind (fun x15 => zob (zin ((s.1 + 1)) (zsL E)) (zob (zin ((s.1 + 2)) (zsL E)) (zob (zin ((s.1 + 3)) (zsL E)) ((fX10_chain ((zsx E (zn ((s.1 + 1))))) ((zsx E (zn ((s.1 + 2))))) ((zsx E (zn ((s.1 + 3))))) x15.2).bind (fun x16 => if x15.1 = x16.1 then (some (.inl ((s.1 + 6), x16.2))) else (some (.inr (.inr ((0, x16.2)))))))))))))) else (if (((zsx E (zn s.1))) &&& 63) = 28 then (zob (zin ((s.1 + 1)) (zsL E)) ((fX9_lacks ((zsx E (zn ((s.1 + 1))))) s.2).bind (fun x13 => zob (zin ((s.1 + 1)) (zsL E)) ((fX10_lacks ((zsx E (zn ((s.1 + 1))))) x13.2).bind (fun x14 => if x13.1 = x14.1 then (some (.inl ((s.1 + 6), x14.2))) else (some (.inr (.inr ((0, x14.2)))))))))) else (if (((zsx E (zn s.1))) &&& 63) = 29 then (zob (zin ((s.1 + 1)) (zsL E)) ((fX9_answers ((zsx E (zn ((s.1 + 1))))) s.2).bind (fun x11 => zob (zin ((s.1 + 1)) (zsL E)) ((fX10_answers ((zsx E (zn ((s.1 + 1))))) x11.2).bind (fun x12 => if x11.1 = x12.1 then (some (.inl ((s.1 + 6), x12.2))) else (some (.inr (.inr ((0, x12.2)))))))))) else (if (((zsx E (zn s.1))) &&& 63) = 30 then (zob (zin ((s.1 + 1)) (zsL E)) (zob (zin ((s.1 + 2)) (zsL E)) ((fX9_alike ((zsx E (zn ((s.1 + 1))))) ((zsx E (zn ((s.1 + 2))))) s.2).bind (fun x9 => zob (zin ((s.1 + 1)) (zsL E)) (zob (zin ((s.1 + 2)) (zsL E)) ((fX10_alike ((zsx E (zn ((s.1 + 1))))) ((zsx E (zn ((s.1 + 2))))) x9.2).bind (fun x10 => if x9.1 = x10.1 then (some (.inl ((s.1 + 6), x10.2))) else (some (.inr (.inr ((0, x10.2)))))))))))) else (if (((zsx E (zn s.1))) &&& 63) = 31 then (zob (zin ((s.1 + 1)) (zsL E)) (zob (zin ((s.1 + 2)) (zsL E)) ((fX9_origins ((zsx E (zn ((s.1 + 1))))) ((zsx E (zn ((s.1 + 2))))) s.2).bind (fun x7 => zob (zin ((s.1 + 1)) (zsL E)) (zob (zin ((s.1 + 2)) (zsL E)) ((fX10_origins ((zsx E (zn ((s.1 + 1))))) ((zsx E (zn ((s.1 + 2))))) x7.2).bind (fun x8 => if x7.1 = x8.1 then (some (.inl ((s.1 + 6), x8.2))) else (some (.inr (.inr ((0, x8.2)))))))))))) else (if (((zsx E (zn s.1))) &&& 63) = 32 then (zob (zin ((s.1 + 1)) (zsL E)) ((fX9_mean ((zsx E (zn ((s.1 + 1))))) s.2).bind (fun x5 => zob (zin ((s.1 + 1)) (zsL E)) ((fX10_mean ((zsx E (zn ((s.1 + 1))))) x5.2).bind (fun x6 => if (lg_cmp x5.1 x6.1) = 0 then (some (.inl ((s.1 + 6), x6.2))) else (some (.inr (.inr ((0, x6.2)))))))))) else (if (((zsx E (zn s.1))) &&& 63) = 33 then (zob (zin ((s.1 + 1)) (zsL E)) ((fX9_find ((zsx E (zn ((s.1 + 1))))) s.2).bind (fun x3 => zob (zin ((s.1 + 1)) (zsL E)) ((fX10_find ((zsx E (zn ((s.1 + 1))))) s.2).bind (fun x4 => if x3 = x4 then (some (.inl ((s.1 + 6), s.2))) else (some (.inr (.inr ((0, s.2)))))))))) else (if (((zsx E (zn s.1))) &&& 63) = 34 then (zob (zin ((s.1 + 1)) (zsL E)) ((fX9_count ((zsx E (zn ((s.1 + 1))))) s.2).bind (fun x1 => zob (zin ((s.1 + 1)) (zsL E)) ((fX10_count ((zsx E (zn ((s.1 + 1))))) x1.2).bind (fun x2 => if x1.1 = x2.1 then (some (.inl ((s.1 + 6), x2.2))) else (some (.inr (.inr ((0, x2.2)))))))))) else (some (.inl ((s.1 + 6), s.2)))))))))))))))))))))))))))))))))))))))
theorem wL_law_L18 {E : zE} {nc ns : Nat} (hc : nc ≤ 600000 ∧ ns ≤ 7302250) {n : Nat} {s : (Int32 × zM)} {o : zM ⊕ (Int32 × zM)} (h : zloop (fL_law_L18 E) n s = some o) (he : ∀ y : zM, o = .inl y → UL E nc ns 1311 [none, none, none, none] [] y) (hr : ∀ r : (Int32 × zM), o = .inr r → r.1 = 0 → False) : UL E nc ns 18 [some (zK 60 0), some (zK 9 0), some (zK 10 0), some (zI s.1)] [] s.2 := by
  induction n generalizing s with
  | zero => exact (zloop_0 h).elim
  | succ n ih =>
    obtain ⟨o1, h1, hc1, he1⟩ := zloop_s h
    have kc : ∀ s' : (Int32 × zM), o1 = .inl s' → UL E nc ns 18 [some (zK 60 0), some (zK 9 0), some (zK 10 0), some (zI s'.1)] [] s'.2 := fun s' e => ih (hc1 s' e)
    have ke : ∀ y : zM, o1 = .inr (.inl y) → UL E nc ns 1311 [none, none, none, none] [] y := fun y e => he y (he1 _ e)
    have kr : ∀ r : (Int32 × zM), o1 = .inr (.inr r) → r.1 = 0 → False := fun r e => hr r (he1 _ e)
    clear h hc1 he1 ih
    have h := h1
    clear h1
    unfold fL_law_L18 at h
    refine UL_iload_n 19 rfl 3 dL_law_18 rfl rfl ?_
    refine UL_aload_n 20 rfl 0 dL_law_19 rfl rfl ?_
    refine UL_slen 21 rfl dL_law_20 ?_
    refine UL_bipush 23 rfl (v := 6) dL_law_21 (by decide) ?_
    refine UL_isub 24 rfl dL_law_23 ?_
    refine UL_icmp_gt 27 1311 rfl dL_law_24 (by decide) (fun c => ?_) (fun c => ?_)
    · have h := zpos c h
      exact UL_w (zsub_n (zsub_n (zsub_n (zsub_n zsub_0)))) (ke s.2 (zinj h))
    · have h := zneg c h
      refine UL_aload_n 28 rfl 0 dL_law_27 rfl rfl ?_
      refine UL_iload_n 29 rfl 3 dL_law_28 rfl rfl ?_
      obtain ⟨hi, h⟩ := zobd h
      refine UL_sald 30 rfl dL_law_29 hi ?_
      refine UL_bipush 32 rfl (v := 63) dL_law_30 (by decide) ?_
      refine UL_iand 33 rfl dL_law_32 ?_
      by_cases h_0 : (((zsx E (zn s.1))) &&& 63) = 0
      · have h := zpos h_0 h
        refine UL_tabIn 188 (off := 155) dL_law_33 (by rw [h_0]; decide) (by rw [h_0]; decide) (by rw [h_0]; decide) (by decide) ?_
        refine UL_aload_n 189 rfl 1 dL_law_188 rfl rfl ?_
        refine UL_aload_n 190 rfl 0 dL_law_189 rfl rfl ?_
        refine UL_iload_n 191 rfl 3 dL_law_190 rfl rfl ?_
        refine UL_iconst 192 rfl (v := 1) dL_law_191 (by decide) ?_
        refine UL_iadd 193 rfl dL_law_192 ?_
        obtain ⟨hi, h⟩ := zobd h
        refine UL_sald 194 rfl dL_law_193 hi ?_
        refine UL_aload_n 195 rfl 0 dL_law_194 rfl rfl ?_
        refine UL_iload_n 196 rfl 3 dL_law_195 rfl rfl ?_
        refine UL_iconst 197 rfl (v := 2) dL_law_196 (by decide) ?_
        refine UL_iadd 198 rfl dL_law_197 ?_
        obtain ⟨hi, h⟩ := zobd h
        refine UL_sald 199 rfl dL_law_198 hi ?_
        refine UL_aload_n 200 rfl 0 dL_law_199 rfl rfl ?_
        refine UL_iload_n 201 rfl 3 dL_law_200 rfl rfl ?_
        refine UL_iconst 202 rfl (v := 3) dL_law_201 (by decide) ?_
        refine UL_iadd 203 rfl dL_law_202 ?_
        obtain ⟨hi, h⟩ := zobd h
        refine UL_sald 204 rfl dL_law_203 hi ?_
        refine UL_aload_n 205 rfl 0 dL_law_204 rfl rfl ?_
        refine UL_iload_n 206 rfl 3 dL_law_205 rfl rfl ?_
        refine UL_iconst 207 rfl (v := 4) dL_law_206 (by decide) ?_
        refine UL_iadd 208 rfl dL_law_207 ?_
        obtain ⟨hi, h⟩ := zobd h
        refine UL_sald 209 rfl dL_law_208 hi ?_
        refine UL_aload_n 210 rfl 0 dL_law_209 rfl rfl ?_
        refine UL_iload_n 211 rfl 3 dL_law_210 rfl rfl ?_
        refine UL_iconst 212 rfl (v := 5) dL_law_211 (by decide) ?_
        refine UL_iadd 213 rfl dL_law_212 ?_
        obtain ⟨hi, h⟩ := zobd h
        refine UL_sald 214 rfl dL_law_213 hi ?_
        obtain ⟨x69, h1, h⟩ := zbd h
        refine UL_cV 217 rfl 1 [zI (zsx E (zn ((s.1 + 1)))), zI (zsx E (zn ((s.1 + 2)))), zI (zsx E (zn ((s.1 + 3)))), zI (zsx E (zn ((s.1 + 4)))), zI (zsx E (zn ((s.1 + 5))))] [] dL_law_214 cv_L_13 (ctX9_feed (Nat.le_refl 1) h1) (by decide) hc rfl rfl (Nat.le_of_ble_eq_true rfl) zoki rfl ?_
        refine UL_aload_n 218 rfl 2 dL_law_217 rfl rfl ?_
        refine UL_aload_n 219 rfl 0 dL_law_218 rfl rfl ?_
        refine UL_iload_n 220 rfl 3 dL_law_219 rfl rfl ?_
        refine UL_iconst 221 rfl (v := 1) dL_law_220 (by decide) ?_
        refine UL_iadd 222 rfl dL_law_221 ?_
        obtain ⟨hi, h⟩ := zobd h
        refine UL_sald 223 rfl dL_law_222 hi ?_
        refine UL_aload_n 224 rfl 0 dL_law_223 rfl rfl ?_
        refine UL_iload_n 225 rfl 3 dL_law_224 rfl rfl ?_
        refine UL_iconst 226 rfl (v := 2) dL_law_225 (by decide) ?_
        refine UL_iadd 227 rfl dL_law_226 ?_
        obtain ⟨hi, h⟩ := zobd h
        refine UL_sald 228 rfl dL_law_227 hi ?_
        refine UL_aload_n 229 rfl 0 dL_law_228 rfl rfl ?_
        refine UL_iload_n 230 rfl 3 dL_law_229 rfl rfl ?_
        refine UL_iconst 231 rfl (v := 3) dL_law_230 (by decide) ?_
        refine UL_iadd 232 rfl dL_law_231 ?_
        obtain ⟨hi, h⟩ := zobd h
        refine UL_sald 233 rfl dL_law_232 hi ?_
        refine UL_aload_n 234 rfl 0 dL_law_233 rfl rfl ?_
        refine UL_iload_n 235 rfl 3 dL_law_234 rfl rfl ?_
        refine UL_iconst 236 rfl (v := 4) dL_law_235 (by decide) ?_
        refine UL_iadd 237 rfl dL_law_236 ?_
        obtain ⟨hi, h⟩ := zobd h
        refine UL_sald 238 rfl dL_law_237 hi ?_
        refine UL_aload_n 239 rfl 0 dL_law_238 rfl rfl ?_
        refine UL_iload_n 240 rfl 3 dL_law_239 rfl rfl ?_
        refine UL_iconst 241 rfl (v := 5) dL_law_240 (by decide) ?_
        refine UL_iadd 242 rfl dL_law_241 ?_
        obtain ⟨hi, h⟩ := zobd h
        refine UL_sald 243 rfl dL_law_242 hi ?_
        obtain ⟨x70, h1, h⟩ := zbd h
        refine UL_cV 246 rfl 1 [zI (zsx E (zn ((s.1 + 1)))), zI (zsx E (zn ((s.1 + 2)))), zI (zsx E (zn ((s.1 + 3)))), zI (zsx E (zn ((s.1 + 4)))), zI (zsx E (zn ((s.1 + 5))))] [zI x69.1] dL_law_243 cv_L_17 (ctX10_feed (Nat.le_refl 1) h1) (by decide) hc rfl rfl (Nat.le_of_ble_eq_true rfl) zoki rfl ?_
        refine UL_icmp_eq 249 1305 rfl dL_law_246 (by decide) (fun c => ?_) (fun c => ?_)
        · have h := zpos c h
          refine UL_iinc 1308 rfl (s.1 + 6) (L' := [some (zK 60 0), some (zK 9 0), some (zK 10 0), some (zI (s.1 + 6))]) dL_law_1305 rfl rfl (by decide) rfl ?_
          refine UL_goto 18 dL_law_1308 (by decide) ?_
          exact kc ((s.1 + 6), x70.2) (zinj h)
        · have h := zneg c h
          refine UL_iconst 250 rfl (v := 0) dL_law_249 (by decide) ?_
          exact (kr ((0, x70.2)) (zinj h) rfl).elim
      · have h := zneg h_0 h
        by_cases h_1 : (((zsx E (zn s.1))) &&& 63) = 1
        · have h := zpos h_1 h
          refine UL_tabIn 251 (off := 218) dL_law_33 (by rw [h_1]; decide) (by rw [h_1]; decide) (by rw [h_1]; decide) (by decide) ?_
          refine UL_aload_n 252 rfl 1 dL_law_251 rfl rfl ?_
          refine UL_aload_n 253 rfl 0 dL_law_252 rfl rfl ?_
          refine UL_iload_n 254 rfl 3 dL_law_253 rfl rfl ?_
          refine UL_iconst 255 rfl (v := 1) dL_law_254 (by decide) ?_
          refine UL_iadd 256 rfl dL_law_255 ?_
          obtain ⟨hi, h⟩ := zobd h
          refine UL_sald 257 rfl dL_law_256 hi ?_
          obtain ⟨x67, h1, h⟩ := zbd h
          refine UL_cV 260 rfl 0 [zI (zsx E (zn ((s.1 + 1))))] [] dL_law_257 cv_L_18 (ctX9_end (Nat.le_refl 0) h1) (by decide) hc rfl rfl (Nat.le_of_ble_eq_true rfl) zoki rfl ?_
          refine UL_aload_n 261 rfl 2 dL_law_260 rfl rfl ?_
          refine UL_aload_n 262 rfl 0 dL_law_261 rfl rfl ?_
          refine UL_iload_n 263 rfl 3 dL_law_262 rfl rfl ?_
          refine UL_iconst 264 rfl (v := 1) dL_law_263 (by decide) ?_
          refine UL_iadd 265 rfl dL_law_264 ?_
          obtain ⟨hi, h⟩ := zobd h
          refine UL_sald 266 rfl dL_law_265 hi ?_
          obtain ⟨x68, h1, h⟩ := zbd h
          refine UL_cV 269 rfl 0 [zI (zsx E (zn ((s.1 + 1))))] [zI x67.1] dL_law_266 cv_L_22 (ctX10_end (Nat.le_refl 0) h1) (by decide) hc rfl rfl (Nat.le_of_ble_eq_true rfl) zoki rfl ?_
          refine UL_icmp_eq 272 1305 rfl dL_law_269 (by decide) (fun c => ?_) (fun c => ?_)
          · have h := zpos c h
            refine UL_iinc 1308 rfl (s.1 + 6) (L' := [some (zK 60 0), some (zK 9 0), some (zK 10 0), some (zI (s.1 + 6))]) dL_law_1305 rfl rfl (by decide) rfl ?_
            refine UL_goto 18 dL_law_1308 (by decide) ?_
            exact kc ((s.1 + 6), x68.2) (zinj h)
          · have h := zneg c h
            refine UL_iconst 273 rfl (v := 0) dL_law_272 (by decide) ?_
            exact (kr ((0, x68.2)) (zinj h) rfl).elim
        · have h := zneg h_1 h
          by_cases h_2 : (((zsx E (zn s.1))) &&& 63) = 2
          · have h := zpos h_2 h
            refine UL_tabIn 274 (off := 241) dL_law_33 (by rw [h_2]; decide) (by rw [h_2]; decide) (by rw [h_2]; decide) (by decide) ?_
            refine UL_aload_n 275 rfl 1 dL_law_274 rfl rfl ?_
            obtain ⟨x65, h1, h⟩ := zbd h
            refine UL_cV 278 rfl 12 [] [] dL_law_275 cv_L_23 (ctX9_tell (Nat.le_refl 12) h1) (by decide) hc rfl rfl (Nat.le_of_ble_eq_true rfl) zoki rfl ?_
            refine UL_aload_n 279 rfl 2 dL_law_278 rfl rfl ?_
            obtain ⟨x66, h1, h⟩ := zbd h
            refine UL_cV 282 rfl 11 [] [zI x65.1] dL_law_279 cv_L_27 (ctX10_tell (Nat.le_refl 11) h1) (by decide) hc rfl rfl (Nat.le_of_ble_eq_true rfl) zoki rfl ?_
            refine UL_icmp_eq 285 1305 rfl dL_law_282 (by decide) (fun c => ?_) (fun c => ?_)
            · have h := zpos c h
              refine UL_iinc 1308 rfl (s.1 + 6) (L' := [some (zK 60 0), some (zK 9 0), some (zK 10 0), some (zI (s.1 + 6))]) dL_law_1305 rfl rfl (by decide) rfl ?_
              refine UL_goto 18 dL_law_1308 (by decide) ?_
              exact kc ((s.1 + 6), x66.2) (zinj h)
            · have h := zneg c h
              refine UL_iconst 286 rfl (v := 0) dL_law_285 (by decide) ?_
              exact (kr ((0, x66.2)) (zinj h) rfl).elim
          · have h := zneg h_2 h
            by_cases h_3 : (((zsx E (zn s.1))) &&& 63) = 3
            · have h := zpos h_3 h
              refine UL_tabIn 287 (off := 254) dL_law_33 (by rw [h_3]; decide) (by rw [h_3]; decide) (by rw [h_3]; decide) (by decide) ?_
              refine UL_aload_n 288 rfl 1 dL_law_287 rfl rfl ?_
              refine UL_aload_n 289 rfl 0 dL_law_288 rfl rfl ?_
              refine UL_iload_n 290 rfl 3 dL_law_289 rfl rfl ?_
              refine UL_iconst 291 rfl (v := 1) dL_law_290 (by decide) ?_
              refine UL_iadd 292 rfl dL_law_291 ?_
              obtain ⟨hi, h⟩ := zobd h
              refine UL_sald 293 rfl dL_law_292 hi ?_
              refine UL_aload_n 294 rfl 0 dL_law_293 rfl rfl ?_
              refine UL_iload_n 295 rfl 3 dL_law_294 rfl rfl ?_
              refine UL_iconst 296 rfl (v := 2) dL_law_295 (by decide) ?_
              refine UL_iadd 297 rfl dL_law_296 ?_
              obtain ⟨hi, h⟩ := zobd h
              refine UL_sald 298 rfl dL_law_297 hi ?_
              obtain ⟨x63, h1, h⟩ := zbd h
              refine UL_cV 301 rfl 5 [zI (zsx E (zn ((s.1 + 1)))), zI (zsx E (zn ((s.1 + 2))))] [] dL_law_298 cv_L_28 (ctX9_join (Nat.le_refl 5) h1) (by decide) hc rfl rfl (Nat.le_of_ble_eq_true rfl) zoki rfl ?_
              refine UL_aload_n 302 rfl 2 dL_law_301 rfl rfl ?_
              refine UL_aload_n 303 rfl 0 dL_law_302 rfl rfl ?_
              refine UL_iload_n 304 rfl 3 dL_law_303 rfl rfl ?_
              refine UL_iconst 305 rfl (v := 1) dL_law_304 (by decide) ?_
              refine UL_iadd 306 rfl dL_law_305 ?_
              obtain ⟨hi, h⟩ := zobd h
              refine UL_sald 307 rfl dL_law_306 hi ?_
              refine UL_aload_n 308 rfl 0 dL_law_307 rfl rfl ?_
              refine UL_iload_n 309 rfl 3 dL_law_308 rfl rfl ?_
              refine UL_iconst 310 rfl (v := 2) dL_law_309 (by decide) ?_
              refine UL_iadd 311 rfl dL_law_310 ?_
              obtain ⟨hi, h⟩ := zobd h
              refine UL_sald 312 rfl dL_law_311 hi ?_
              obtain ⟨x64, h1, h⟩ := zbd h
              refine UL_cV 315 rfl 3 [zI (zsx E (zn ((s.1 + 1)))), zI (zsx E (zn ((s.1 + 2))))] [zI x63.1] dL_law_312 cv_L_32 (ctX10_join (Nat.le_refl 3) h1) (by decide) hc rfl rfl (Nat.le_of_ble_eq_true rfl) zoki rfl ?_
              refine UL_icmp_eq 318 1305 rfl dL_law_315 (by decide) (fun c => ?_) (fun c => ?_)
              · have h := zpos c h
                refine UL_iinc 1308 rfl (s.1 + 6) (L' := [some (zK 60 0), some (zK 9 0), some (zK 10 0), some (zI (s.1 + 6))]) dL_law_1305 rfl rfl (by decide) rfl ?_
                refine UL_goto 18 dL_law_1308 (by decide) ?_
                exact kc ((s.1 + 6), x64.2) (zinj h)
              · have h := zneg c h
                refine UL_iconst 319 rfl (v := 0) dL_law_318 (by decide) ?_
                exact (kr ((0, x64.2)) (zinj h) rfl).elim
            · have h := zneg h_3 h
              by_cases h_4 : (((zsx E (zn s.1))) &&& 63) = 4
              · have h := zpos h_4 h
                refine UL_tabIn 320 (off := 287) dL_law_33 (by rw [h_4]; decide) (by rw [h_4]; decide) (by rw [h_4]; decide) (by decide) ?_
                refine UL_aload_n 321 rfl 1 dL_law_320 rfl rfl ?_
                refine UL_aload_n 322 rfl 0 dL_law_321 rfl rfl ?_
                refine UL_iload_n 323 rfl 3 dL_law_322 rfl rfl ?_
                refine UL_iconst 324 rfl (v := 1) dL_law_323 (by decide) ?_
                refine UL_iadd 325 rfl dL_law_324 ?_
                obtain ⟨hi, h⟩ := zobd h
                refine UL_sald 326 rfl dL_law_325 hi ?_
                refine UL_aload_n 327 rfl 0 dL_law_326 rfl rfl ?_
                refine UL_iload_n 328 rfl 3 dL_law_327 rfl rfl ?_
                refine UL_iconst 329 rfl (v := 2) dL_law_328 (by decide) ?_
                refine UL_iadd 330 rfl dL_law_329 ?_
                obtain ⟨hi, h⟩ := zobd h
                refine UL_sald 331 rfl dL_law_330 hi ?_
                obtain ⟨x61, h1, h⟩ := zbd h
                refine UL_cV 334 rfl 5 [zI (zsx E (zn ((s.1 + 1)))), zI (zsx E (zn ((s.1 + 2))))] [] dL_law_331 cv_L_33 (ctX9_leave (Nat.le_refl 5) h1) (by decide) hc rfl rfl (Nat.le_of_ble_eq_true rfl) zoki rfl ?_
                refine UL_aload_n 335 rfl 2 dL_law_334 rfl rfl ?_
                refine UL_aload_n 336 rfl 0 dL_law_335 rfl rfl ?_
                refine UL_iload_n 337 rfl 3 dL_law_336 rfl rfl ?_
                refine UL_iconst 338 rfl (v := 1) dL_law_337 (by decide) ?_
                refine UL_iadd 339 rfl dL_law_338 ?_
                obtain ⟨hi, h⟩ := zobd h
                refine UL_sald 340 rfl dL_law_339 hi ?_
                refine UL_aload_n 341 rfl 0 dL_law_340 rfl rfl ?_
                refine UL_iload_n 342 rfl 3 dL_law_341 rfl rfl ?_
                refine UL_iconst 343 rfl (v := 2) dL_law_342 (by decide) ?_
                refine UL_iadd 344 rfl dL_law_343 ?_
                obtain ⟨hi, h⟩ := zobd h
                refine UL_sald 345 rfl dL_law_344 hi ?_
                obtain ⟨x62, h1, h⟩ := zbd h
                refine UL_cV 348 rfl 3 [zI (zsx E (zn ((s.1 + 1)))), zI (zsx E (zn ((s.1 + 2))))] [zI x61.1] dL_law_345 cv_L_36 (ctX10_leave (Nat.le_refl 3) h1) (by decide) hc rfl rfl (Nat.le_of_ble_eq_true rfl) zoki rfl ?_
                refine UL_icmp_eq 351 1305 rfl dL_law_348 (by decide) (fun c => ?_) (fun c => ?_)
                · have h := zpos c h
                  refine UL_iinc 1308 rfl (s.1 + 6) (L' := [some (zK 60 0), some (zK 9 0), some (zK 10 0), some (zI (s.1 + 6))]) dL_law_1305 rfl rfl (by decide) rfl ?_
                  refine UL_goto 18 dL_law_1308 (by decide) ?_
                  exact kc ((s.1 + 6), x62.2) (zinj h)
                · have h := zneg c h
                  refine UL_iconst 352 rfl (v := 0) dL_law_351 (by decide) ?_
                  exact (kr ((0, x62.2)) (zinj h) rfl).elim
              · have h := zneg h_4 h
                by_cases h_5 : (((zsx E (zn s.1))) &&& 63) = 5
                · have h := zpos h_5 h
                  refine UL_tabIn 353 (off := 320) dL_law_33 (by rw [h_5]; decide) (by rw [h_5]; decide) (by rw [h_5]; decide) (by decide) ?_
                  refine UL_aload_n 354 rfl 1 dL_law_353 rfl rfl ?_
                  refine UL_aload_n 355 rfl 0 dL_law_354 rfl rfl ?_
                  refine UL_iload_n 356 rfl 3 dL_law_355 rfl rfl ?_
                  refine UL_iconst 357 rfl (v := 1) dL_law_356 (by decide) ?_
                  refine UL_iadd 358 rfl dL_law_357 ?_
                  obtain ⟨hi, h⟩ := zobd h
                  refine UL_sald 359 rfl dL_law_358 hi ?_
                  obtain ⟨x59, h1, h⟩ := zbd h
                  refine UL_cV 362 rfl 5 [zI (zsx E (zn ((s.1 + 1))))] [] dL_law_359 cv_L_37 (ctX9_turn (Nat.le_refl 5) h1) (by decide) hc rfl rfl (Nat.le_of_ble_eq_true rfl) zoki rfl ?_
                  refine UL_aload_n 363 rfl 2 dL_law_362 rfl rfl ?_
                  refine UL_aload_n 364 rfl 0 dL_law_363 rfl rfl ?_
                  refine UL_iload_n 365 rfl 3 dL_law_364 rfl rfl ?_
                  refine UL_iconst 366 rfl (v := 1) dL_law_365 (by decide) ?_
                  refine UL_iadd 367 rfl dL_law_366 ?_
                  obtain ⟨hi, h⟩ := zobd h
                  refine UL_sald 368 rfl dL_law_367 hi ?_
                  obtain ⟨x60, h1, h⟩ := zbd h
                  refine UL_cV 371 rfl 3 [zI (zsx E (zn ((s.1 + 1))))] [zI x59.1] dL_law_368 cv_L_40 (ctX10_turn (Nat.le_refl 3) h1) (by decide) hc rfl rfl (Nat.le_of_ble_eq_true rfl) zoki rfl ?_
                  refine UL_icmp_eq 374 1305 rfl dL_law_371 (by decide) (fun c => ?_) (fun c => ?_)
                  · have h := zpos c h
                    refine UL_iinc 1308 rfl (s.1 + 6) (L' := [some (zK 60 0), some (zK 9 0), some (zK 10 0), some (zI (s.1 + 6))]) dL_law_1305 rfl rfl (by decide) rfl ?_
                    refine UL_goto 18 dL_law_1308 (by decide) ?_
                    exact kc ((s.1 + 6), x60.2) (zinj h)
                  · have h := zneg c h
                    refine UL_iconst 375 rfl (v := 0) dL_law_374 (by decide) ?_
                    exact (kr ((0, x60.2)) (zinj h) rfl).elim
                · have h := zneg h_5 h
                  by_cases h_6 : (((zsx E (zn s.1))) &&& 63) = 6
                  · have h := zpos h_6 h
                    refine UL_tabIn 376 (off := 343) dL_law_33 (by rw [h_6]; decide) (by rw [h_6]; decide) (by rw [h_6]; decide) (by decide) ?_
                    refine UL_aload_n 377 rfl 1 dL_law_376 rfl rfl ?_
                    refine UL_aload_n 378 rfl 0 dL_law_377 rfl rfl ?_
                    refine UL_iload_n 379 rfl 3 dL_law_378 rfl rfl ?_
                    refine UL_iconst 380 rfl (v := 1) dL_law_379 (by decide) ?_
                    refine UL_iadd 381 rfl dL_law_380 ?_
                    obtain ⟨hi, h⟩ := zobd h
                    refine UL_sald 382 rfl dL_law_381 hi ?_
                    refine UL_aload_n 383 rfl 0 dL_law_382 rfl rfl ?_
                    refine UL_iload_n 384 rfl 3 dL_law_383 rfl rfl ?_
                    refine UL_iconst 385 rfl (v := 2) dL_law_384 (by decide) ?_
                    refine UL_iadd 386 rfl dL_law_385 ?_
                    obtain ⟨hi, h⟩ := zobd h
                    refine UL_sald 387 rfl dL_law_386 hi ?_
                    refine UL_aload_n 388 rfl 0 dL_law_387 rfl rfl ?_
                    refine UL_iload_n 389 rfl 3 dL_law_388 rfl rfl ?_
                    refine UL_iconst 390 rfl (v := 3) dL_law_389 (by decide) ?_
                    refine UL_iadd 391 rfl dL_law_390 ?_
                    obtain ⟨hi, h⟩ := zobd h
                    refine UL_sald 392 rfl dL_law_391 hi ?_
                    obtain ⟨x57, h1, h⟩ := zbd h
                    refine UL_cV 395 rfl 6 [zI (zsx E (zn ((s.1 + 1)))), zI (zsx E (zn ((s.1 + 2)))), zI (zsx E (zn ((s.1 + 3))))] [] dL_law_392 cv_L_41 (ctX9_give (Nat.le_refl 6) h1) (by decide) hc rfl rfl (Nat.le_of_ble_eq_true rfl) zoki rfl ?_
                    refine UL_aload_n 396 rfl 2 dL_law_395 rfl rfl ?_
                    refine UL_aload_n 397 rfl 0 dL_law_396 rfl rfl ?_
                    refine UL_iload_n 398 rfl 3 dL_law_397 rfl rfl ?_
                    refine UL_iconst 399 rfl (v := 1) dL_law_398 (by decide) ?_
                    refine UL_iadd 400 rfl dL_law_399 ?_
                    obtain ⟨hi, h⟩ := zobd h
                    refine UL_sald 401 rfl dL_law_400 hi ?_
                    refine UL_aload_n 402 rfl 0 dL_law_401 rfl rfl ?_
                    refine UL_iload_n 403 rfl 3 dL_law_402 rfl rfl ?_
                    refine UL_iconst 404 rfl (v := 2) dL_law_403 (by decide) ?_
                    refine UL_iadd 405 rfl dL_law_404 ?_
                    obtain ⟨hi, h⟩ := zobd h
                    refine UL_sald 406 rfl dL_law_405 hi ?_
                    refine UL_aload_n 407 rfl 0 dL_law_406 rfl rfl ?_
                    refine UL_iload_n 408 rfl 3 dL_law_407 rfl rfl ?_
                    refine UL_iconst 409 rfl (v := 3) dL_law_408 (by decide) ?_
                    refine UL_iadd 410 rfl dL_law_409 ?_
                    obtain ⟨hi, h⟩ := zobd h
                    refine UL_sald 411 rfl dL_law_410 hi ?_
                    obtain ⟨x58, h1, h⟩ := zbd h
                    refine UL_cV 414 rfl 3 [zI (zsx E (zn ((s.1 + 1)))), zI (zsx E (zn ((s.1 + 2)))), zI (zsx E (zn ((s.1 + 3))))] [zI x57.1] dL_law_411 cv_L_45 (ctX10_give (Nat.le_refl 3) h1) (by decide) hc rfl rfl (Nat.le_of_ble_eq_true rfl) zoki rfl ?_
                    refine UL_icmp_eq 417 1305 rfl dL_law_414 (by decide) (fun c => ?_) (fun c => ?_)
                    · have h := zpos c h
                      refine UL_iinc 1308 rfl (s.1 + 6) (L' := [some (zK 60 0), some (zK 9 0), some (zK 10 0), some (zI (s.1 + 6))]) dL_law_1305 rfl rfl (by decide) rfl ?_
                      refine UL_goto 18 dL_law_1308 (by decide) ?_
                      exact kc ((s.1 + 6), x58.2) (zinj h)
                    · have h := zneg c h
                      refine UL_iconst 418 rfl (v := 0) dL_law_417 (by decide) ?_
                      exact (kr ((0, x58.2)) (zinj h) rfl).elim
                  · have h := zneg h_6 h
                    by_cases h_7 : (((zsx E (zn s.1))) &&& 63) = 7
                    · have h := zpos h_7 h
                      refine UL_tabIn 419 (off := 386) dL_law_33 (by rw [h_7]; decide) (by rw [h_7]; decide) (by rw [h_7]; decide) (by decide) ?_
                      refine UL_aload_n 420 rfl 1 dL_law_419 rfl rfl ?_
                      refine UL_aload_n 421 rfl 0 dL_law_420 rfl rfl ?_
                      refine UL_iload_n 422 rfl 3 dL_law_421 rfl rfl ?_
                      refine UL_iconst 423 rfl (v := 1) dL_law_422 (by decide) ?_
                      refine UL_iadd 424 rfl dL_law_423 ?_
                      obtain ⟨hi, h⟩ := zobd h
                      refine UL_sald 425 rfl dL_law_424 hi ?_
                      refine UL_aload_n 426 rfl 0 dL_law_425 rfl rfl ?_
                      refine UL_iload_n 427 rfl 3 dL_law_426 rfl rfl ?_
                      refine UL_iconst 428 rfl (v := 2) dL_law_427 (by decide) ?_
                      refine UL_iadd 429 rfl dL_law_428 ?_
                      obtain ⟨hi, h⟩ := zobd h
                      refine UL_sald 430 rfl dL_law_429 hi ?_
                      obtain ⟨x55, h1, h⟩ := zbd h
                      refine UL_cV 433 rfl 6 [zI (zsx E (zn ((s.1 + 1)))), zI (zsx E (zn ((s.1 + 2))))] [] dL_law_430 cv_L_46 (ctX9_need (Nat.le_refl 6) h1) (by decide) hc rfl rfl (Nat.le_of_ble_eq_true rfl) zoki rfl ?_
                      refine UL_aload_n 434 rfl 2 dL_law_433 rfl rfl ?_
                      refine UL_aload_n 435 rfl 0 dL_law_434 rfl rfl ?_
                      refine UL_iload_n 436 rfl 3 dL_law_435 rfl rfl ?_
                      refine UL_iconst 437 rfl (v := 1) dL_law_436 (by decide) ?_
                      refine UL_iadd 438 rfl dL_law_437 ?_
                      obtain ⟨hi, h⟩ := zobd h
                      refine UL_sald 439 rfl dL_law_438 hi ?_
                      refine UL_aload_n 440 rfl 0 dL_law_439 rfl rfl ?_
                      refine UL_iload_n 441 rfl 3 dL_law_440 rfl rfl ?_
                      refine UL_iconst 442 rfl (v := 2) dL_law_441 (by decide) ?_
                      refine UL_iadd 443 rfl dL_law_442 ?_
                      obtain ⟨hi, h⟩ := zobd h
                      refine UL_sald 444 rfl dL_law_443 hi ?_
                      obtain ⟨x56, h1, h⟩ := zbd h
                      refine UL_cV 447 rfl 3 [zI (zsx E (zn ((s.1 + 1)))), zI (zsx E (zn ((s.1 + 2))))] [zI x55.1] dL_law_444 cv_L_49 (ctX10_need (Nat.le_refl 3) h1) (by decide) hc rfl rfl (Nat.le_of_ble_eq_true rfl) zoki rfl ?_
                      refine UL_icmp_eq 450 1305 rfl dL_law_447 (by decide) (fun c => ?_) (fun c => ?_)
                      · have h := zpos c h
                        refine UL_iinc 1308 rfl (s.1 + 6) (L' := [some (zK 60 0), some (zK 9 0), some (zK 10 0), some (zI (s.1 + 6))]) dL_law_1305 rfl rfl (by decide) rfl ?_
                        refine UL_goto 18 dL_law_1308 (by decide) ?_
                        exact kc ((s.1 + 6), x56.2) (zinj h)
                      · have h := zneg c h
                        refine UL_iconst 451 rfl (v := 0) dL_law_450 (by decide) ?_
                        exact (kr ((0, x56.2)) (zinj h) rfl).elim
                    · have h := zneg h_7 h
                      by_cases h_8 : (((zsx E (zn s.1))) &&& 63) = 8
                      · have h := zpos h_8 h
                        refine UL_tabIn 452 (off := 419) dL_law_33 (by rw [h_8]; decide) (by rw [h_8]; decide) (by rw [h_8]; decide) (by decide) ?_
                        refine UL_aload_n 453 rfl 1 dL_law_452 rfl rfl ?_
                        refine UL_aload_n 454 rfl 0 dL_law_453 rfl rfl ?_
                        refine UL_iload_n 455 rfl 3 dL_law_454 rfl rfl ?_
                        refine UL_iconst 456 rfl (v := 1) dL_law_455 (by decide) ?_
                        refine UL_iadd 457 rfl dL_law_456 ?_
                        obtain ⟨hi, h⟩ := zobd h
                        refine UL_sald 458 rfl dL_law_457 hi ?_
                        refine UL_aload_n 459 rfl 0 dL_law_458 rfl rfl ?_
                        refine UL_iload_n 460 rfl 3 dL_law_459 rfl rfl ?_
                        refine UL_iconst 461 rfl (v := 2) dL_law_460 (by decide) ?_
                        refine UL_iadd 462 rfl dL_law_461 ?_
                        obtain ⟨hi, h⟩ := zobd h
                        refine UL_sald 463 rfl dL_law_462 hi ?_
                        obtain ⟨x53, h1, h⟩ := zbd h
                        refine UL_cV 466 rfl 5 [zI (zsx E (zn ((s.1 + 1)))), zI (zsx E (zn ((s.1 + 2))))] [] dL_law_463 cv_L_50 (ctX9_take (Nat.le_refl 5) h1) (by decide) hc rfl rfl (Nat.le_of_ble_eq_true rfl) zoki rfl ?_
                        refine UL_aload_n 467 rfl 2 dL_law_466 rfl rfl ?_
                        refine UL_aload_n 468 rfl 0 dL_law_467 rfl rfl ?_
                        refine UL_iload_n 469 rfl 3 dL_law_468 rfl rfl ?_
                        refine UL_iconst 470 rfl (v := 1) dL_law_469 (by decide) ?_
                        refine UL_iadd 471 rfl dL_law_470 ?_
                        obtain ⟨hi, h⟩ := zobd h
                        refine UL_sald 472 rfl dL_law_471 hi ?_
                        refine UL_aload_n 473 rfl 0 dL_law_472 rfl rfl ?_
                        refine UL_iload_n 474 rfl 3 dL_law_473 rfl rfl ?_
                        refine UL_iconst 475 rfl (v := 2) dL_law_474 (by decide) ?_
                        refine UL_iadd 476 rfl dL_law_475 ?_
                        obtain ⟨hi, h⟩ := zobd h
                        refine UL_sald 477 rfl dL_law_476 hi ?_
                        obtain ⟨x54, h1, h⟩ := zbd h
                        refine UL_cV 480 rfl 2 [zI (zsx E (zn ((s.1 + 1)))), zI (zsx E (zn ((s.1 + 2))))] [zI x53.1] dL_law_477 cv_L_53 (ctX10_take (Nat.le_refl 2) h1) (by decide) hc rfl rfl (Nat.le_of_ble_eq_true rfl) zoki rfl ?_
                        refine UL_icmp_eq 483 1305 rfl dL_law_480 (by decide) (fun c => ?_) (fun c => ?_)
                        · have h := zpos c h
                          refine UL_iinc 1308 rfl (s.1 + 6) (L' := [some (zK 60 0), some (zK 9 0), some (zK 10 0), some (zI (s.1 + 6))]) dL_law_1305 rfl rfl (by decide) rfl ?_
                          refine UL_goto 18 dL_law_1308 (by decide) ?_
                          exact kc ((s.1 + 6), x54.2) (zinj h)
                        · have h := zneg c h
                          refine UL_iconst 484 rfl (v := 0) dL_law_483 (by decide) ?_
                          exact (kr ((0, x54.2)) (zinj h) rfl).elim
                      · have h := zneg h_8 h
                        by_cases h_9 : (((zsx E (zn s.1))) &&& 63) = 9
                        · have h := zpos h_9 h
                          refine UL_tabIn 485 (off := 452) dL_law_33 (by rw [h_9]; decide) (by rw [h_9]; decide) (by rw [h_9]; decide) (by decide) ?_
                          refine UL_aload_n 486 rfl 1 dL_law_485 rfl rfl ?_
                          refine UL_aload_n 487 rfl 0 dL_law_486 rfl rfl ?_
                          refine UL_iload_n 488 rfl 3 dL_law_487 rfl rfl ?_
                          refine UL_iconst 489 rfl (v := 1) dL_law_488 (by decide) ?_
                          refine UL_iadd 490 rfl dL_law_489 ?_
                          obtain ⟨hi, h⟩ := zobd h
                          refine UL_sald 491 rfl dL_law_490 hi ?_
                          refine UL_aload_n 492 rfl 0 dL_law_491 rfl rfl ?_
                          refine UL_iload_n 493 rfl 3 dL_law_492 rfl rfl ?_
                          refine UL_iconst 494 rfl (v := 2) dL_law_493 (by decide) ?_
                          refine UL_iadd 495 rfl dL_law_494 ?_
                          obtain ⟨hi, h⟩ := zobd h
                          refine UL_sald 496 rfl dL_law_495 hi ?_
                          obtain ⟨x51, h1, h⟩ := zbd h
                          refine UL_cV 499 rfl 5 [zI (zsx E (zn ((s.1 + 1)))), zI (zsx E (zn ((s.1 + 2))))] [] dL_law_496 cv_L_54 (ctX9_use (Nat.le_refl 5) h1) (by decide) hc rfl rfl (Nat.le_of_ble_eq_true rfl) zoki rfl ?_
                          refine UL_aload_n 500 rfl 2 dL_law_499 rfl rfl ?_
                          refine UL_aload_n 501 rfl 0 dL_law_500 rfl rfl ?_
                          refine UL_iload_n 502 rfl 3 dL_law_501 rfl rfl ?_
                          refine UL_iconst 503 rfl (v := 1) dL_law_502 (by decide) ?_
                          refine UL_iadd 504 rfl dL_law_503 ?_
                          obtain ⟨hi, h⟩ := zobd h
                          refine UL_sald 505 rfl dL_law_504 hi ?_
                          refine UL_aload_n 506 rfl 0 dL_law_505 rfl rfl ?_
                          refine UL_iload_n 507 rfl 3 dL_law_506 rfl rfl ?_
                          refine UL_iconst 508 rfl (v := 2) dL_law_507 (by decide) ?_
                          refine UL_iadd 509 rfl dL_law_508 ?_
                          obtain ⟨hi, h⟩ := zobd h
                          refine UL_sald 510 rfl dL_law_509 hi ?_
                          obtain ⟨x52, h1, h⟩ := zbd h
                          refine UL_cV 513 rfl 2 [zI (zsx E (zn ((s.1 + 1)))), zI (zsx E (zn ((s.1 + 2))))] [zI x51.1] dL_law_510 cv_L_57 (ctX10_use (Nat.le_refl 2) h1) (by decide) hc rfl rfl (Nat.le_of_ble_eq_true rfl) zoki rfl ?_
                          refine UL_icmp_eq 516 1305 rfl dL_law_513 (by decide) (fun c => ?_) (fun c => ?_)
                          · have h := zpos c h
                            refine UL_iinc 1308 rfl (s.1 + 6) (L' := [some (zK 60 0), some (zK 9 0), some (zK 10 0), some (zI (s.1 + 6))]) dL_law_1305 rfl rfl (by decide) rfl ?_
                            refine UL_goto 18 dL_law_1308 (by decide) ?_
                            exact kc ((s.1 + 6), x52.2) (zinj h)
                          · have h := zneg c h
                            refine UL_iconst 517 rfl (v := 0) dL_law_516 (by decide) ?_
                            exact (kr ((0, x52.2)) (zinj h) rfl).elim
                        · have h := zneg h_9 h
                          by_cases h_10 : (((zsx E (zn s.1))) &&& 63) = 10
                          · have h := zpos h_10 h
                            refine UL_tabIn 518 (off := 485) dL_law_33 (by rw [h_10]; decide) (by rw [h_10]; decide) (by rw [h_10]; decide) (by decide) ?_
                            refine UL_aload_n 519 rfl 1 dL_law_518 rfl rfl ?_
                            refine UL_aload_n 520 rfl 0 dL_law_519 rfl rfl ?_
                            refine UL_iload_n 521 rfl 3 dL_law_520 rfl rfl ?_
                            refine UL_iconst 522 rfl (v := 1) dL_law_521 (by decide) ?_
                            refine UL_iadd 523 rfl dL_law_522 ?_
                            obtain ⟨hi, h⟩ := zobd h
                            refine UL_sald 524 rfl dL_law_523 hi ?_
                            refine UL_aload_n 525 rfl 0 dL_law_524 rfl rfl ?_
                            refine UL_iload_n 526 rfl 3 dL_law_525 rfl rfl ?_
                            refine UL_iconst 527 rfl (v := 2) dL_law_526 (by decide) ?_
                            refine UL_iadd 528 rfl dL_law_527 ?_
                            obtain ⟨hi, h⟩ := zobd h
                            refine UL_sald 529 rfl dL_law_528 hi ?_
                            refine UL_aload_n 530 rfl 0 dL_law_529 rfl rfl ?_
                            refine UL_iload_n 531 rfl 3 dL_law_530 rfl rfl ?_
                            refine UL_iconst 532 rfl (v := 3) dL_law_531 (by decide) ?_
                            refine UL_iadd 533 rfl dL_law_532 ?_
                            obtain ⟨hi, h⟩ := zobd h
                            refine UL_sald 534 rfl dL_law_533 hi ?_
                            refine UL_aload_n 535 rfl 0 dL_law_534 rfl rfl ?_
                            refine UL_iload_n 536 rfl 3 dL_law_535 rfl rfl ?_
                            refine UL_iconst 537 rfl (v := 4) dL_law_536 (by decide) ?_
                            refine UL_iadd 538 rfl dL_law_537 ?_
                            obtain ⟨hi, h⟩ := zobd h
                            refine UL_sald 539 rfl dL_law_538 hi ?_
                            obtain ⟨x49, h1, h⟩ := zbd h
                            refine UL_cV 542 rfl 5 [zI (zsx E (zn ((s.1 + 1)))), zI (zsx E (zn ((s.1 + 2)))), zI (zsx E (zn ((s.1 + 3)))), zI (zsx E (zn ((s.1 + 4))))] [] dL_law_539 cv_L_58 (ctX9_change (Nat.le_refl 5) h1) (by decide) hc rfl rfl (Nat.le_of_ble_eq_true rfl) zoki rfl ?_
                            refine UL_aload_n 543 rfl 2 dL_law_542 rfl rfl ?_
                            refine UL_aload_n 544 rfl 0 dL_law_543 rfl rfl ?_
                            refine UL_iload_n 545 rfl 3 dL_law_544 rfl rfl ?_
                            refine UL_iconst 546 rfl (v := 1) dL_law_545 (by decide) ?_
                            refine UL_iadd 547 rfl dL_law_546 ?_
                            obtain ⟨hi, h⟩ := zobd h
                            refine UL_sald 548 rfl dL_law_547 hi ?_
                            refine UL_aload_n 549 rfl 0 dL_law_548 rfl rfl ?_
                            refine UL_iload_n 550 rfl 3 dL_law_549 rfl rfl ?_
                            refine UL_iconst 551 rfl (v := 2) dL_law_550 (by decide) ?_
                            refine UL_iadd 552 rfl dL_law_551 ?_
                            obtain ⟨hi, h⟩ := zobd h
                            refine UL_sald 553 rfl dL_law_552 hi ?_
                            refine UL_aload_n 554 rfl 0 dL_law_553 rfl rfl ?_
                            refine UL_iload_n 555 rfl 3 dL_law_554 rfl rfl ?_
                            refine UL_iconst 556 rfl (v := 3) dL_law_555 (by decide) ?_
                            refine UL_iadd 557 rfl dL_law_556 ?_
                            obtain ⟨hi, h⟩ := zobd h
                            refine UL_sald 558 rfl dL_law_557 hi ?_
                            refine UL_aload_n 559 rfl 0 dL_law_558 rfl rfl ?_
                            refine UL_iload_n 560 rfl 3 dL_law_559 rfl rfl ?_
                            refine UL_iconst 561 rfl (v := 4) dL_law_560 (by decide) ?_
                            refine UL_iadd 562 rfl dL_law_561 ?_
                            obtain ⟨hi, h⟩ := zobd h
                            refine UL_sald 563 rfl dL_law_562 hi ?_
                            obtain ⟨x50, h1, h⟩ := zbd h
                            refine UL_cV 566 rfl 3 [zI (zsx E (zn ((s.1 + 1)))), zI (zsx E (zn ((s.1 + 2)))), zI (zsx E (zn ((s.1 + 3)))), zI (zsx E (zn ((s.1 + 4))))] [zI x49.1] dL_law_563 cv_L_62 (ctX10_change (Nat.le_refl 3) h1) (by decide) hc rfl rfl (Nat.le_of_ble_eq_true rfl) zoki rfl ?_
                            refine UL_icmp_eq 569 1305 rfl dL_law_566 (by decide) (fun c => ?_) (fun c => ?_)
                            · have h := zpos c h
                              refine UL_iinc 1308 rfl (s.1 + 6) (L' := [some (zK 60 0), some (zK 9 0), some (zK 10 0), some (zI (s.1 + 6))]) dL_law_1305 rfl rfl (by decide) rfl ?_
                              refine UL_goto 18 dL_law_1308 (by decide) ?_
                              exact kc ((s.1 + 6), x50.2) (zinj h)
                            · have h := zneg c h
                              refine UL_iconst 570 rfl (v := 0) dL_law_569 (by decide) ?_
                              exact (kr ((0, x50.2)) (zinj h) rfl).elim
                          · have h := zneg h_10 h
                            by_cases h_11 : (((zsx E (zn s.1))) &&& 63) = 11
                            · have h := zpos h_11 h
                              refine UL_tabIn 571 (off := 538) dL_law_33 (by rw [h_11]; decide) (by rw [h_11]; decide) (by rw [h_11]; decide) (by decide) ?_
                              refine UL_aload_n 572 rfl 1 dL_law_571 rfl rfl ?_
                              obtain ⟨x47, h1, h⟩ := zbd h
                              refine UL_cV 575 rfl 4 [] [] dL_law_572 cv_L_63 (ctX9_undo (Nat.le_refl 4) h1) (by decide) hc rfl rfl (Nat.le_of_ble_eq_true rfl) zoki rfl ?_
                              refine UL_aload_n 576 rfl 2 dL_law_575 rfl rfl ?_
                              obtain ⟨x48, h1, h⟩ := zbd h
                              refine UL_cV 579 rfl 1 [] [zI x47.1] dL_law_576 cv_L_66 (ctX10_undo (Nat.le_refl 1) h1) (by decide) hc rfl rfl (Nat.le_of_ble_eq_true rfl) zoki rfl ?_
                              refine UL_icmp_eq 582 1305 rfl dL_law_579 (by decide) (fun c => ?_) (fun c => ?_)
                              · have h := zpos c h
                                refine UL_iinc 1308 rfl (s.1 + 6) (L' := [some (zK 60 0), some (zK 9 0), some (zK 10 0), some (zI (s.1 + 6))]) dL_law_1305 rfl rfl (by decide) rfl ?_
                                refine UL_goto 18 dL_law_1308 (by decide) ?_
                                exact kc ((s.1 + 6), x48.2) (zinj h)
                              · have h := zneg c h
                                refine UL_iconst 583 rfl (v := 0) dL_law_582 (by decide) ?_
                                exact (kr ((0, x48.2)) (zinj h) rfl).elim
                            · have h := zneg h_11 h
                              by_cases h_12 : (((zsx E (zn s.1))) &&& 63) = 12
                              · have h := zpos h_12 h
                                refine UL_tabIn 584 (off := 551) dL_law_33 (by rw [h_12]; decide) (by rw [h_12]; decide) (by rw [h_12]; decide) (by decide) ?_
                                refine UL_aload_n 585 rfl 1 dL_law_584 rfl rfl ?_
                                refine UL_aload_n 586 rfl 0 dL_law_585 rfl rfl ?_
                                refine UL_iload_n 587 rfl 3 dL_law_586 rfl rfl ?_
                                refine UL_iconst 588 rfl (v := 1) dL_law_587 (by decide) ?_
                                refine UL_iadd 589 rfl dL_law_588 ?_
                                obtain ⟨hi, h⟩ := zobd h
                                refine UL_sald 590 rfl dL_law_589 hi ?_
                                obtain ⟨x45, h1, h⟩ := zbd h
                                refine UL_cV 593 rfl 4 [zI (zsx E (zn ((s.1 + 1))))] [] dL_law_590 cv_L_67 (ctX9_keep (Nat.le_refl 4) h1) (by decide) hc rfl rfl (Nat.le_of_ble_eq_true rfl) zoki rfl ?_
                                refine UL_aload_n 594 rfl 2 dL_law_593 rfl rfl ?_
                                refine UL_aload_n 595 rfl 0 dL_law_594 rfl rfl ?_
                                refine UL_iload_n 596 rfl 3 dL_law_595 rfl rfl ?_
                                refine UL_iconst 597 rfl (v := 1) dL_law_596 (by decide) ?_
                                refine UL_iadd 598 rfl dL_law_597 ?_
                                obtain ⟨hi, h⟩ := zobd h
                                refine UL_sald 599 rfl dL_law_598 hi ?_
                                obtain ⟨x46, h1, h⟩ := zbd h
                                refine UL_cV 602 rfl 1 [zI (zsx E (zn ((s.1 + 1))))] [zI x45.1] dL_law_599 cv_L_70 (ctX10_keep (Nat.le_refl 1) h1) (by decide) hc rfl rfl (Nat.le_of_ble_eq_true rfl) zoki rfl ?_
                                refine UL_icmp_eq 605 1305 rfl dL_law_602 (by decide) (fun c => ?_) (fun c => ?_)
                                · have h := zpos c h
                                  refine UL_iinc 1308 rfl (s.1 + 6) (L' := [some (zK 60 0), some (zK 9 0), some (zK 10 0), some (zI (s.1 + 6))]) dL_law_1305 rfl rfl (by decide) rfl ?_
                                  refine UL_goto 18 dL_law_1308 (by decide) ?_
                                  exact kc ((s.1 + 6), x46.2) (zinj h)
                                · have h := zneg c h
                                  refine UL_iconst 606 rfl (v := 0) dL_law_605 (by decide) ?_
                                  exact (kr ((0, x46.2)) (zinj h) rfl).elim
                              · have h := zneg h_12 h
                                by_cases h_13 : (((zsx E (zn s.1))) &&& 63) = 13
                                · have h := zpos h_13 h
                                  refine UL_tabIn 607 (off := 574) dL_law_33 (by rw [h_13]; decide) (by rw [h_13]; decide) (by rw [h_13]; decide) (by decide) ?_
                                  refine UL_aload_n 608 rfl 1 dL_law_607 rfl rfl ?_
                                  refine UL_aload_n 609 rfl 0 dL_law_608 rfl rfl ?_
                                  refine UL_iload_n 610 rfl 3 dL_law_609 rfl rfl ?_
                                  refine UL_iconst 611 rfl (v := 1) dL_law_610 (by decide) ?_
                                  refine UL_iadd 612 rfl dL_law_611 ?_
                                  obtain ⟨hi, h⟩ := zobd h
                                  refine UL_sald 613 rfl dL_law_612 hi ?_
                                  obtain ⟨x43, h1, h⟩ := zbd h
                                  refine UL_cV 616 rfl 4 [zI (zsx E (zn ((s.1 + 1))))] [] dL_law_613 cv_L_71 (ctX9_back (Nat.le_refl 4) h1) (by decide) hc rfl rfl (Nat.le_of_ble_eq_true rfl) zoki rfl ?_
                                  refine UL_aload_n 617 rfl 2 dL_law_616 rfl rfl ?_
                                  refine UL_aload_n 618 rfl 0 dL_law_617 rfl rfl ?_
                                  refine UL_iload_n 619 rfl 3 dL_law_618 rfl rfl ?_
                                  refine UL_iconst 620 rfl (v := 1) dL_law_619 (by decide) ?_
                                  refine UL_iadd 621 rfl dL_law_620 ?_
                                  obtain ⟨hi, h⟩ := zobd h
                                  refine UL_sald 622 rfl dL_law_621 hi ?_
                                  obtain ⟨x44, h1, h⟩ := zbd h
                                  refine UL_cV 625 rfl 1 [zI (zsx E (zn ((s.1 + 1))))] [zI x43.1] dL_law_622 cv_L_74 (ctX10_back (Nat.le_refl 1) h1) (by decide) hc rfl rfl (Nat.le_of_ble_eq_true rfl) zoki rfl ?_
                                  refine UL_icmp_eq 628 1305 rfl dL_law_625 (by decide) (fun c => ?_) (fun c => ?_)
                                  · have h := zpos c h
                                    refine UL_iinc 1308 rfl (s.1 + 6) (L' := [some (zK 60 0), some (zK 9 0), some (zK 10 0), some (zI (s.1 + 6))]) dL_law_1305 rfl rfl (by decide) rfl ?_
                                    refine UL_goto 18 dL_law_1308 (by decide) ?_
                                    exact kc ((s.1 + 6), x44.2) (zinj h)
                                  · have h := zneg c h
                                    refine UL_iconst 629 rfl (v := 0) dL_law_628 (by decide) ?_
                                    exact (kr ((0, x44.2)) (zinj h) rfl).elim
                                · have h := zneg h_13 h
                                  by_cases h_14 : (((zsx E (zn s.1))) &&& 63) = 14
                                  · have h := zpos h_14 h
                                    refine UL_tabIn 630 (off := 597) dL_law_33 (by rw [h_14]; decide) (by rw [h_14]; decide) (by rw [h_14]; decide) (by decide) ?_
                                    refine UL_aload_n 631 rfl 1 dL_law_630 rfl rfl ?_
                                    refine UL_aload_n 632 rfl 0 dL_law_631 rfl rfl ?_
                                    refine UL_iload_n 633 rfl 3 dL_law_632 rfl rfl ?_
                                    refine UL_iconst 634 rfl (v := 1) dL_law_633 (by decide) ?_
                                    refine UL_iadd 635 rfl dL_law_634 ?_
                                    obtain ⟨hi, h⟩ := zobd h
                                    refine UL_sald 636 rfl dL_law_635 hi ?_
                                    refine UL_aload_n 637 rfl 0 dL_law_636 rfl rfl ?_
                                    refine UL_iload_n 638 rfl 3 dL_law_637 rfl rfl ?_
                                    refine UL_iconst 639 rfl (v := 2) dL_law_638 (by decide) ?_
                                    refine UL_iadd 640 rfl dL_law_639 ?_
                                    obtain ⟨hi, h⟩ := zobd h
                                    refine UL_sald 641 rfl dL_law_640 hi ?_
                                    obtain ⟨x41, h1, h⟩ := zbd h
                                    refine UL_cV 644 rfl 5 [zI (zsx E (zn ((s.1 + 1)))), zI (zsx E (zn ((s.1 + 2))))] [] dL_law_641 cv_L_75 (ctX9_unit (Nat.le_refl 5) h1) (by decide) hc rfl rfl (Nat.le_of_ble_eq_true rfl) zoki rfl ?_
                                    refine UL_aload_n 645 rfl 2 dL_law_644 rfl rfl ?_
                                    refine UL_aload_n 646 rfl 0 dL_law_645 rfl rfl ?_
                                    refine UL_iload_n 647 rfl 3 dL_law_646 rfl rfl ?_
                                    refine UL_iconst 648 rfl (v := 1) dL_law_647 (by decide) ?_
                                    refine UL_iadd 649 rfl dL_law_648 ?_
                                    obtain ⟨hi, h⟩ := zobd h
                                    refine UL_sald 650 rfl dL_law_649 hi ?_
                                    refine UL_aload_n 651 rfl 0 dL_law_650 rfl rfl ?_
                                    refine UL_iload_n 652 rfl 3 dL_law_651 rfl rfl ?_
                                    refine UL_iconst 653 rfl (v := 2) dL_law_652 (by decide) ?_
                                    refine UL_iadd 654 rfl dL_law_653 ?_
                                    obtain ⟨hi, h⟩ := zobd h
                                    refine UL_sald 655 rfl dL_law_654 hi ?_
                                    obtain ⟨x42, h1, h⟩ := zbd h
                                    refine UL_cV 658 rfl 5 [zI (zsx E (zn ((s.1 + 1)))), zI (zsx E (zn ((s.1 + 2))))] [zI x41.1] dL_law_655 cv_L_78 (ctX10_unit (Nat.le_refl 5) h1) (by decide) hc rfl rfl (Nat.le_of_ble_eq_true rfl) zoki rfl ?_
                                    refine UL_icmp_eq 661 1305 rfl dL_law_658 (by decide) (fun c => ?_) (fun c => ?_)
                                    · have h := zpos c h
                                      refine UL_iinc 1308 rfl (s.1 + 6) (L' := [some (zK 60 0), some (zK 9 0), some (zK 10 0), some (zI (s.1 + 6))]) dL_law_1305 rfl rfl (by decide) rfl ?_
                                      refine UL_goto 18 dL_law_1308 (by decide) ?_
                                      exact kc ((s.1 + 6), x42.2) (zinj h)
                                    · have h := zneg c h
                                      refine UL_iconst 662 rfl (v := 0) dL_law_661 (by decide) ?_
                                      exact (kr ((0, x42.2)) (zinj h) rfl).elim
                                  · have h := zneg h_14 h
                                    by_cases h_15 : (((zsx E (zn s.1))) &&& 63) = 15
                                    · have h := zpos h_15 h
                                      refine UL_tabIn 663 (off := 630) dL_law_33 (by rw [h_15]; decide) (by rw [h_15]; decide) (by rw [h_15]; decide) (by decide) ?_
                                      refine UL_aload_n 664 rfl 1 dL_law_663 rfl rfl ?_
                                      refine UL_aload_n 665 rfl 0 dL_law_664 rfl rfl ?_
                                      refine UL_iload_n 666 rfl 3 dL_law_665 rfl rfl ?_
                                      refine UL_iconst 667 rfl (v := 1) dL_law_666 (by decide) ?_
                                      refine UL_iadd 668 rfl dL_law_667 ?_
                                      obtain ⟨hi, h⟩ := zobd h
                                      refine UL_sald 669 rfl dL_law_668 hi ?_
                                      refine UL_aload_n 670 rfl 0 dL_law_669 rfl rfl ?_
                                      refine UL_iload_n 671 rfl 3 dL_law_670 rfl rfl ?_
                                      refine UL_iconst 672 rfl (v := 2) dL_law_671 (by decide) ?_
                                      refine UL_iadd 673 rfl dL_law_672 ?_
                                      obtain ⟨hi, h⟩ := zobd h
                                      refine UL_sald 674 rfl dL_law_673 hi ?_
                                      obtain ⟨x39, h1, h⟩ := zbd h
                                      refine UL_cV 677 rfl 2 [zI (zsx E (zn ((s.1 + 1)))), zI (zsx E (zn ((s.1 + 2))))] [] dL_law_674 cv_L_79 (ctX9_parent (Nat.le_refl 2) h1) (by decide) hc rfl rfl (Nat.le_of_ble_eq_true rfl) zoki rfl ?_
                                      refine UL_aload_n 678 rfl 2 dL_law_677 rfl rfl ?_
                                      refine UL_aload_n 679 rfl 0 dL_law_678 rfl rfl ?_
                                      refine UL_iload_n 680 rfl 3 dL_law_679 rfl rfl ?_
                                      refine UL_iconst 681 rfl (v := 1) dL_law_680 (by decide) ?_
                                      refine UL_iadd 682 rfl dL_law_681 ?_
                                      obtain ⟨hi, h⟩ := zobd h
                                      refine UL_sald 683 rfl dL_law_682 hi ?_
                                      refine UL_aload_n 684 rfl 0 dL_law_683 rfl rfl ?_
                                      refine UL_iload_n 685 rfl 3 dL_law_684 rfl rfl ?_
                                      refine UL_iconst 686 rfl (v := 2) dL_law_685 (by decide) ?_
                                      refine UL_iadd 687 rfl dL_law_686 ?_
                                      obtain ⟨hi, h⟩ := zobd h
                                      refine UL_sald 688 rfl dL_law_687 hi ?_
                                      obtain ⟨x40, h1, h⟩ := zbd h
                                      refine UL_cV 691 rfl 3 [zI (zsx E (zn ((s.1 + 1)))), zI (zsx E (zn ((s.1 + 2))))] [zI x39] dL_law_688 cv_L_82 (ctX10_parent (Nat.le_refl 3) h1) (by decide) hc rfl rfl (Nat.le_of_ble_eq_true rfl) zoki rfl ?_
                                      refine UL_icmp_eq 694 1305 rfl dL_law_691 (by decide) (fun c => ?_) (fun c => ?_)
                                      · have h := zpos c h
                                        refine UL_iinc 1308 rfl (s.1 + 6) (L' := [some (zK 60 0), some (zK 9 0), some (zK 10 0), some (zI (s.1 + 6))]) dL_law_1305 rfl rfl (by decide) rfl ?_
                                        refine UL_goto 18 dL_law_1308 (by decide) ?_
                                        exact kc ((s.1 + 6), s.2) (zinj h)
                                      · have h := zneg c h
                                        refine UL_iconst 695 rfl (v := 0) dL_law_694 (by decide) ?_
                                        exact (kr ((0, s.2)) (zinj h) rfl).elim
                                    · have h := zneg h_15 h
                                      by_cases h_16 : (((zsx E (zn s.1))) &&& 63) = 16
                                      · have h := zpos h_16 h
                                        refine UL_tabIn 696 (off := 663) dL_law_33 (by rw [h_16]; decide) (by rw [h_16]; decide) (by rw [h_16]; decide) (by decide) ?_
                                        refine UL_aload_n 697 rfl 1 dL_law_696 rfl rfl ?_
                                        refine UL_aload_n 698 rfl 0 dL_law_697 rfl rfl ?_
                                        refine UL_iload_n 699 rfl 3 dL_law_698 rfl rfl ?_
                                        refine UL_iconst 700 rfl (v := 1) dL_law_699 (by decide) ?_
                                        refine UL_iadd 701 rfl dL_law_700 ?_
                                        obtain ⟨hi, h⟩ := zobd h
                                        refine UL_sald 702 rfl dL_law_701 hi ?_
                                        refine UL_aload_n 703 rfl 0 dL_law_702 rfl rfl ?_
                                        refine UL_iload_n 704 rfl 3 dL_law_703 rfl rfl ?_
                                        refine UL_iconst 705 rfl (v := 2) dL_law_704 (by decide) ?_
                                        refine UL_iadd 706 rfl dL_law_705 ?_
                                        obtain ⟨hi, h⟩ := zobd h
                                        refine UL_sald 707 rfl dL_law_706 hi ?_
                                        obtain ⟨x37, h1, h⟩ := zbd h
                                        refine UL_cV 710 rfl 1 [zI (zsx E (zn ((s.1 + 1)))), zI (zsx E (zn ((s.1 + 2))))] [] dL_law_707 cv_L_83 (ctX9_used (Nat.le_refl 1) h1) (by decide) hc rfl rfl (Nat.le_of_ble_eq_true rfl) zoki rfl ?_
                                        refine UL_aload_n 711 rfl 2 dL_law_710 rfl rfl ?_
                                        refine UL_aload_n 712 rfl 0 dL_law_711 rfl rfl ?_
                                        refine UL_iload_n 713 rfl 3 dL_law_712 rfl rfl ?_
                                        refine UL_iconst 714 rfl (v := 1) dL_law_713 (by decide) ?_
                                        refine UL_iadd 715 rfl dL_law_714 ?_
                                        obtain ⟨hi, h⟩ := zobd h
                                        refine UL_sald 716 rfl dL_law_715 hi ?_
                                        refine UL_aload_n 717 rfl 0 dL_law_716 rfl rfl ?_
                                        refine UL_iload_n 718 rfl 3 dL_law_717 rfl rfl ?_
                                        refine UL_iconst 719 rfl (v := 2) dL_law_718 (by decide) ?_
                                        refine UL_iadd 720 rfl dL_law_719 ?_
                                        obtain ⟨hi, h⟩ := zobd h
                                        refine UL_sald 721 rfl dL_law_720 hi ?_
                                        obtain ⟨x38, h1, h⟩ := zbd h
                                        refine UL_cV 724 rfl 2 [zI (zsx E (zn ((s.1 + 1)))), zI (zsx E (zn ((s.1 + 2))))] [zI x37] dL_law_721 cv_L_86 (ctX10_used (Nat.le_refl 2) h1) (by decide) hc rfl rfl (Nat.le_of_ble_eq_true rfl) zoki rfl ?_
                                        refine UL_icmp_eq 727 1305 rfl dL_law_724 (by decide) (fun c => ?_) (fun c => ?_)
                                        · have h := zpos c h
                                          refine UL_iinc 1308 rfl (s.1 + 6) (L' := [some (zK 60 0), some (zK 9 0), some (zK 10 0), some (zI (s.1 + 6))]) dL_law_1305 rfl rfl (by decide) rfl ?_
                                          refine UL_goto 18 dL_law_1308 (by decide) ?_
                                          exact kc ((s.1 + 6), s.2) (zinj h)
                                        · have h := zneg c h
                                          refine UL_iconst 728 rfl (v := 0) dL_law_727 (by decide) ?_
                                          exact (kr ((0, s.2)) (zinj h) rfl).elim
                                      · have h := zneg h_16 h
                                        by_cases h_17 : (((zsx E (zn s.1))) &&& 63) = 17
                                        · have h := zpos h_17 h
                                          refine UL_tabIn 729 (off := 696) dL_law_33 (by rw [h_17]; decide) (by rw [h_17]; decide) (by rw [h_17]; decide) (by decide) ?_
                                          refine UL_aload_n 730 rfl 1 dL_law_729 rfl rfl ?_
                                          refine UL_aload_n 731 rfl 0 dL_law_730 rfl rfl ?_
                                          refine UL_iload_n 732 rfl 3 dL_law_731 rfl rfl ?_
                                          refine UL_iconst 733 rfl (v := 1) dL_law_732 (by decide) ?_
                                          refine UL_iadd 734 rfl dL_law_733 ?_
                                          obtain ⟨hi, h⟩ := zobd h
                                          refine UL_sald 735 rfl dL_law_734 hi ?_
                                          refine UL_aload_n 736 rfl 0 dL_law_735 rfl rfl ?_
                                          refine UL_iload_n 737 rfl 3 dL_law_736 rfl rfl ?_
                                          refine UL_iconst 738 rfl (v := 2) dL_law_737 (by decide) ?_
                                          refine UL_iadd 739 rfl dL_law_738 ?_
                                          obtain ⟨hi, h⟩ := zobd h
                                          refine UL_sald 740 rfl dL_law_739 hi ?_
                                          refine UL_aload_n 741 rfl 0 dL_law_740 rfl rfl ?_
                                          refine UL_iload_n 742 rfl 3 dL_law_741 rfl rfl ?_
                                          refine UL_iconst 743 rfl (v := 3) dL_law_742 (by decide) ?_
                                          refine UL_iadd 744 rfl dL_law_743 ?_
                                          obtain ⟨hi, h⟩ := zobd h
                                          refine UL_sald 745 rfl dL_law_744 hi ?_
                                          obtain ⟨x35, h1, h⟩ := zbd h
                                          refine UL_cV 748 rfl 1 [zI (zsx E (zn ((s.1 + 1)))), zI (zsx E (zn ((s.1 + 2)))), zI (zsx E (zn ((s.1 + 3))))] [] dL_law_745 cv_L_87 (ctX9_becomes (Nat.le_refl 1) h1) (by decide) hc rfl rfl (Nat.le_of_ble_eq_true rfl) zoki rfl ?_
                                          refine UL_aload_n 749 rfl 2 dL_law_748 rfl rfl ?_
                                          refine UL_aload_n 750 rfl 0 dL_law_749 rfl rfl ?_
                                          refine UL_iload_n 751 rfl 3 dL_law_750 rfl rfl ?_
                                          refine UL_iconst 752 rfl (v := 1) dL_law_751 (by decide) ?_
                                          refine UL_iadd 753 rfl dL_law_752 ?_
                                          obtain ⟨hi, h⟩ := zobd h
                                          refine UL_sald 754 rfl dL_law_753 hi ?_
                                          refine UL_aload_n 755 rfl 0 dL_law_754 rfl rfl ?_
                                          refine UL_iload_n 756 rfl 3 dL_law_755 rfl rfl ?_
                                          refine UL_iconst 757 rfl (v := 2) dL_law_756 (by decide) ?_
                                          refine UL_iadd 758 rfl dL_law_757 ?_
                                          obtain ⟨hi, h⟩ := zobd h
                                          refine UL_sald 759 rfl dL_law_758 hi ?_
                                          refine UL_aload_n 760 rfl 0 dL_law_759 rfl rfl ?_
                                          refine UL_iload_n 761 rfl 3 dL_law_760 rfl rfl ?_
                                          refine UL_iconst 762 rfl (v := 3) dL_law_761 (by decide) ?_
                                          refine UL_iadd 763 rfl dL_law_762 ?_
                                          obtain ⟨hi, h⟩ := zobd h
                                          refine UL_sald 764 rfl dL_law_763 hi ?_
                                          obtain ⟨x36, h1, h⟩ := zbd h
                                          refine UL_cV 767 rfl 3 [zI (zsx E (zn ((s.1 + 1)))), zI (zsx E (zn ((s.1 + 2)))), zI (zsx E (zn ((s.1 + 3))))] [zI x35] dL_law_764 cv_L_90 (ctX10_becomes (Nat.le_refl 3) h1) (by decide) hc rfl rfl (Nat.le_of_ble_eq_true rfl) zoki rfl ?_
                                          refine UL_icmp_eq 770 1305 rfl dL_law_767 (by decide) (fun c => ?_) (fun c => ?_)
                                          · have h := zpos c h
                                            refine UL_iinc 1308 rfl (s.1 + 6) (L' := [some (zK 60 0), some (zK 9 0), some (zK 10 0), some (zI (s.1 + 6))]) dL_law_1305 rfl rfl (by decide) rfl ?_
                                            refine UL_goto 18 dL_law_1308 (by decide) ?_
                                            exact kc ((s.1 + 6), s.2) (zinj h)
                                          · have h := zneg c h
                                            refine UL_iconst 771 rfl (v := 0) dL_law_770 (by decide) ?_
                                            exact (kr ((0, s.2)) (zinj h) rfl).elim
                                        · have h := zneg h_17 h
                                          by_cases h_18 : (((zsx E (zn s.1))) &&& 63) = 18
                                          · have h := zpos h_18 h
                                            refine UL_tabIn 772 (off := 739) dL_law_33 (by rw [h_18]; decide) (by rw [h_18]; decide) (by rw [h_18]; decide) (by decide) ?_
                                            refine UL_aload_n 773 rfl 1 dL_law_772 rfl rfl ?_
                                            refine UL_aload_n 774 rfl 0 dL_law_773 rfl rfl ?_
                                            refine UL_iload_n 775 rfl 3 dL_law_774 rfl rfl ?_
                                            refine UL_iconst 776 rfl (v := 1) dL_law_775 (by decide) ?_
                                            refine UL_iadd 777 rfl dL_law_776 ?_
                                            obtain ⟨hi, h⟩ := zobd h
                                            refine UL_sald 778 rfl dL_law_777 hi ?_
                                            refine UL_aload_n 779 rfl 0 dL_law_778 rfl rfl ?_
                                            refine UL_iload_n 780 rfl 3 dL_law_779 rfl rfl ?_
                                            refine UL_iconst 781 rfl (v := 2) dL_law_780 (by decide) ?_
                                            refine UL_iadd 782 rfl dL_law_781 ?_
                                            obtain ⟨hi, h⟩ := zobd h
                                            refine UL_sald 783 rfl dL_law_782 hi ?_
                                            refine UL_aload_n 784 rfl 0 dL_law_783 rfl rfl ?_
                                            refine UL_iload_n 785 rfl 3 dL_law_784 rfl rfl ?_
                                            refine UL_iconst 786 rfl (v := 3) dL_law_785 (by decide) ?_
                                            refine UL_iadd 787 rfl dL_law_786 ?_
                                            obtain ⟨hi, h⟩ := zobd h
                                            refine UL_sald 788 rfl dL_law_787 hi ?_
                                            obtain ⟨x33, h1, h⟩ := zbd h
                                            refine UL_cV 791 rfl 1 [zI (zsx E (zn ((s.1 + 1)))), zI (zsx E (zn ((s.1 + 2)))), zI (zsx E (zn ((s.1 + 3))))] [] dL_law_788 cv_L_91 (ctX9_body (Nat.le_refl 1) h1) (by decide) hc rfl rfl (Nat.le_of_ble_eq_true rfl) zoki rfl ?_
                                            refine UL_aload_n 792 rfl 2 dL_law_791 rfl rfl ?_
                                            refine UL_aload_n 793 rfl 0 dL_law_792 rfl rfl ?_
                                            refine UL_iload_n 794 rfl 3 dL_law_793 rfl rfl ?_
                                            refine UL_iconst 795 rfl (v := 1) dL_law_794 (by decide) ?_
                                            refine UL_iadd 796 rfl dL_law_795 ?_
                                            obtain ⟨hi, h⟩ := zobd h
                                            refine UL_sald 797 rfl dL_law_796 hi ?_
                                            refine UL_aload_n 798 rfl 0 dL_law_797 rfl rfl ?_
                                            refine UL_iload_n 799 rfl 3 dL_law_798 rfl rfl ?_
                                            refine UL_iconst 800 rfl (v := 2) dL_law_799 (by decide) ?_
                                            refine UL_iadd 801 rfl dL_law_800 ?_
                                            obtain ⟨hi, h⟩ := zobd h
                                            refine UL_sald 802 rfl dL_law_801 hi ?_
                                            refine UL_aload_n 803 rfl 0 dL_law_802 rfl rfl ?_
                                            refine UL_iload_n 804 rfl 3 dL_law_803 rfl rfl ?_
                                            refine UL_iconst 805 rfl (v := 3) dL_law_804 (by decide) ?_
                                            refine UL_iadd 806 rfl dL_law_805 ?_
                                            obtain ⟨hi, h⟩ := zobd h
                                            refine UL_sald 807 rfl dL_law_806 hi ?_
                                            obtain ⟨x34, h1, h⟩ := zbd h
                                            refine UL_cV 810 rfl 2 [zI (zsx E (zn ((s.1 + 1)))), zI (zsx E (zn ((s.1 + 2)))), zI (zsx E (zn ((s.1 + 3))))] [zI x33] dL_law_807 cv_L_94 (ctX10_body (Nat.le_refl 2) h1) (by decide) hc rfl rfl (Nat.le_of_ble_eq_true rfl) zoki rfl ?_
                                            refine UL_icmp_eq 813 1305 rfl dL_law_810 (by decide) (fun c => ?_) (fun c => ?_)
                                            · have h := zpos c h
                                              refine UL_iinc 1308 rfl (s.1 + 6) (L' := [some (zK 60 0), some (zK 9 0), some (zK 10 0), some (zI (s.1 + 6))]) dL_law_1305 rfl rfl (by decide) rfl ?_
                                              refine UL_goto 18 dL_law_1308 (by decide) ?_
                                              exact kc ((s.1 + 6), s.2) (zinj h)
                                            · have h := zneg c h
                                              refine UL_iconst 814 rfl (v := 0) dL_law_813 (by decide) ?_
                                              exact (kr ((0, s.2)) (zinj h) rfl).elim
                                          · have h := zneg h_18 h
                                            by_cases h_19 : (((zsx E (zn s.1))) &&& 63) = 19
                                            · have h := zpos h_19 h
                                              refine UL_tabIn 815 (off := 782) dL_law_33 (by rw [h_19]; decide) (by rw [h_19]; decide) (by rw [h_19]; decide) (by decide) ?_
                                              refine UL_aload_n 816 rfl 1 dL_law_815 rfl rfl ?_
                                              refine UL_aload_n 817 rfl 0 dL_law_816 rfl rfl ?_
                                              refine UL_iload_n 818 rfl 3 dL_law_817 rfl rfl ?_
                                              refine UL_iconst 819 rfl (v := 1) dL_law_818 (by decide) ?_
                                              refine UL_iadd 820 rfl dL_law_819 ?_
                                              obtain ⟨hi, h⟩ := zobd h
                                              refine UL_sald 821 rfl dL_law_820 hi ?_
                                              refine UL_aload_n 822 rfl 0 dL_law_821 rfl rfl ?_
                                              refine UL_iload_n 823 rfl 3 dL_law_822 rfl rfl ?_
                                              refine UL_iconst 824 rfl (v := 2) dL_law_823 (by decide) ?_
                                              refine UL_iadd 825 rfl dL_law_824 ?_
                                              obtain ⟨hi, h⟩ := zobd h
                                              refine UL_sald 826 rfl dL_law_825 hi ?_
                                              refine UL_aload_n 827 rfl 0 dL_law_826 rfl rfl ?_
                                              refine UL_iload_n 828 rfl 3 dL_law_827 rfl rfl ?_
                                              refine UL_iconst 829 rfl (v := 3) dL_law_828 (by decide) ?_
                                              refine UL_iadd 830 rfl dL_law_829 ?_
                                              obtain ⟨hi, h⟩ := zobd h
                                              refine UL_sald 831 rfl dL_law_830 hi ?_
                                              obtain ⟨x31, h1, h⟩ := zbd h
                                              refine UL_cV 834 rfl 5 [zI (zsx E (zn ((s.1 + 1)))), zI (zsx E (zn ((s.1 + 2)))), zI (zsx E (zn ((s.1 + 3))))] [] dL_law_831 cv_L_95 (ctX9_flat (Nat.le_refl 5) h1) (by decide) hc rfl rfl (Nat.le_of_ble_eq_true rfl) zoki rfl ?_
                                              refine UL_aload_n 835 rfl 2 dL_law_834 rfl rfl ?_
                                              refine UL_aload_n 836 rfl 0 dL_law_835 rfl rfl ?_
                                              refine UL_iload_n 837 rfl 3 dL_law_836 rfl rfl ?_
                                              refine UL_iconst 838 rfl (v := 1) dL_law_837 (by decide) ?_
                                              refine UL_iadd 839 rfl dL_law_838 ?_
                                              obtain ⟨hi, h⟩ := zobd h
                                              refine UL_sald 840 rfl dL_law_839 hi ?_
                                              refine UL_aload_n 841 rfl 0 dL_law_840 rfl rfl ?_
                                              refine UL_iload_n 842 rfl 3 dL_law_841 rfl rfl ?_
                                              refine UL_iconst 843 rfl (v := 2) dL_law_842 (by decide) ?_
                                              refine UL_iadd 844 rfl dL_law_843 ?_
                                              obtain ⟨hi, h⟩ := zobd h
                                              refine UL_sald 845 rfl dL_law_844 hi ?_
                                              refine UL_aload_n 846 rfl 0 dL_law_845 rfl rfl ?_
                                              refine UL_iload_n 847 rfl 3 dL_law_846 rfl rfl ?_
                                              refine UL_iconst 848 rfl (v := 3) dL_law_847 (by decide) ?_
                                              refine UL_iadd 849 rfl dL_law_848 ?_
                                              obtain ⟨hi, h⟩ := zobd h
                                              refine UL_sald 850 rfl dL_law_849 hi ?_
                                              obtain ⟨x32, h1, h⟩ := zbd h
                                              refine UL_cV 853 rfl 5 [zI (zsx E (zn ((s.1 + 1)))), zI (zsx E (zn ((s.1 + 2)))), zI (zsx E (zn ((s.1 + 3))))] [zI x31.1] dL_law_850 cv_L_98 (ctX10_flat (Nat.le_refl 5) h1) (by decide) hc rfl rfl (Nat.le_of_ble_eq_true rfl) zoki rfl ?_
                                              refine UL_icmp_eq 856 1305 rfl dL_law_853 (by decide) (fun c => ?_) (fun c => ?_)
                                              · have h := zpos c h
                                                refine UL_iinc 1308 rfl (s.1 + 6) (L' := [some (zK 60 0), some (zK 9 0), some (zK 10 0), some (zI (s.1 + 6))]) dL_law_1305 rfl rfl (by decide) rfl ?_
                                                refine UL_goto 18 dL_law_1308 (by decide) ?_
                                                exact kc ((s.1 + 6), x32.2) (zinj h)
                                              · have h := zneg c h
                                                refine UL_iconst 857 rfl (v := 0) dL_law_856 (by decide) ?_
                                                exact (kr ((0, x32.2)) (zinj h) rfl).elim
                                            · have h := zneg h_19 h
                                              by_cases h_20 : (((zsx E (zn s.1))) &&& 63) = 20
                                              · have h := zpos h_20 h
                                                refine UL_tabIn 858 (off := 825) dL_law_33 (by rw [h_20]; decide) (by rw [h_20]; decide) (by rw [h_20]; decide) (by decide) ?_
                                                refine UL_aload_n 859 rfl 1 dL_law_858 rfl rfl ?_
                                                refine UL_aload_n 860 rfl 0 dL_law_859 rfl rfl ?_
                                                refine UL_iload_n 861 rfl 3 dL_law_860 rfl rfl ?_
                                                refine UL_iconst 862 rfl (v := 1) dL_law_861 (by decide) ?_
                                                refine UL_iadd 863 rfl dL_law_862 ?_
                                                obtain ⟨hi, h⟩ := zobd h
                                                refine UL_sald 864 rfl dL_law_863 hi ?_
                                                refine UL_aload_n 865 rfl 0 dL_law_864 rfl rfl ?_
                                                refine UL_iload_n 866 rfl 3 dL_law_865 rfl rfl ?_
                                                refine UL_iconst 867 rfl (v := 2) dL_law_866 (by decide) ?_
                                                refine UL_iadd 868 rfl dL_law_867 ?_
                                                obtain ⟨hi, h⟩ := zobd h
                                                refine UL_sald 869 rfl dL_law_868 hi ?_
                                                obtain ⟨x29, h1, h⟩ := zbd h
                                                refine UL_cV 872 rfl 5 [zI (zsx E (zn ((s.1 + 1)))), zI (zsx E (zn ((s.1 + 2))))] [] dL_law_869 cv_L_99 (ctX9_line (Nat.le_refl 5) h1) (by decide) hc rfl rfl (Nat.le_of_ble_eq_true rfl) zoki rfl ?_
                                                refine UL_aload_n 873 rfl 2 dL_law_872 rfl rfl ?_
                                                refine UL_aload_n 874 rfl 0 dL_law_873 rfl rfl ?_
                                                refine UL_iload_n 875 rfl 3 dL_law_874 rfl rfl ?_
                                                refine UL_iconst 876 rfl (v := 1) dL_law_875 (by decide) ?_
                                                refine UL_iadd 877 rfl dL_law_876 ?_
                                                obtain ⟨hi, h⟩ := zobd h
                                                refine UL_sald 878 rfl dL_law_877 hi ?_
                                                refine UL_aload_n 879 rfl 0 dL_law_878 rfl rfl ?_
                                                refine UL_iload_n 880 rfl 3 dL_law_879 rfl rfl ?_
                                                refine UL_iconst 881 rfl (v := 2) dL_law_880 (by decide) ?_
                                                refine UL_iadd 882 rfl dL_law_881 ?_
                                                obtain ⟨hi, h⟩ := zobd h
                                                refine UL_sald 883 rfl dL_law_882 hi ?_
                                                obtain ⟨x30, h1, h⟩ := zbd h
                                                refine UL_cV 886 rfl 5 [zI (zsx E (zn ((s.1 + 1)))), zI (zsx E (zn ((s.1 + 2))))] [zI x29.1] dL_law_883 cv_L_102 (ctX10_line (Nat.le_refl 5) h1) (by decide) hc rfl rfl (Nat.le_of_ble_eq_true rfl) zoki rfl ?_
                                                refine UL_icmp_eq 889 1305 rfl dL_law_886 (by decide) (fun c => ?_) (fun c => ?_)
                                                · have h := zpos c h
                                                  refine UL_iinc 1308 rfl (s.1 + 6) (L' := [some (zK 60 0), some (zK 9 0), some (zK 10 0), some (zI (s.1 + 6))]) dL_law_1305 rfl rfl (by decide) rfl ?_
                                                  refine UL_goto 18 dL_law_1308 (by decide) ?_
                                                  exact kc ((s.1 + 6), x30.2) (zinj h)
                                                · have h := zneg c h
                                                  refine UL_iconst 890 rfl (v := 0) dL_law_889 (by decide) ?_
                                                  exact (kr ((0, x30.2)) (zinj h) rfl).elim
                                              · have h := zneg h_20 h
                                                by_cases h_21 : (((zsx E (zn s.1))) &&& 63) = 21
                                                · have h := zpos h_21 h
                                                  refine UL_tabIn 891 (off := 858) dL_law_33 (by rw [h_21]; decide) (by rw [h_21]; decide) (by rw [h_21]; decide) (by decide) ?_
                                                  refine UL_aload_n 892 rfl 1 dL_law_891 rfl rfl ?_
                                                  refine UL_aload_n 893 rfl 0 dL_law_892 rfl rfl ?_
                                                  refine UL_iload_n 894 rfl 3 dL_law_893 rfl rfl ?_
                                                  refine UL_iconst 895 rfl (v := 1) dL_law_894 (by decide) ?_
                                                  refine UL_iadd 896 rfl dL_law_895 ?_
                                                  obtain ⟨hi, h⟩ := zobd h
                                                  refine UL_sald 897 rfl dL_law_896 hi ?_
                                                  refine UL_aload_n 898 rfl 0 dL_law_897 rfl rfl ?_
                                                  refine UL_iload_n 899 rfl 3 dL_law_898 rfl rfl ?_
                                                  refine UL_iconst 900 rfl (v := 2) dL_law_899 (by decide) ?_
                                                  refine UL_iadd 901 rfl dL_law_900 ?_
                                                  obtain ⟨hi, h⟩ := zobd h
                                                  refine UL_sald 902 rfl dL_law_901 hi ?_
                                                  obtain ⟨x27, h1, h⟩ := zbd h
                                                  refine UL_cV 905 rfl 5 [zI (zsx E (zn ((s.1 + 1)))), zI (zsx E (zn ((s.1 + 2))))] [] dL_law_902 cv_L_103 (ctX9_ring (Nat.le_refl 5) h1) (by decide) hc rfl rfl (Nat.le_of_ble_eq_true rfl) zoki rfl ?_
                                                  refine UL_aload_n 906 rfl 2 dL_law_905 rfl rfl ?_
                                                  refine UL_aload_n 907 rfl 0 dL_law_906 rfl rfl ?_
                                                  refine UL_iload_n 908 rfl 3 dL_law_907 rfl rfl ?_
                                                  refine UL_iconst 909 rfl (v := 1) dL_law_908 (by decide) ?_
                                                  refine UL_iadd 910 rfl dL_law_909 ?_
                                                  obtain ⟨hi, h⟩ := zobd h
                                                  refine UL_sald 911 rfl dL_law_910 hi ?_
                                                  refine UL_aload_n 912 rfl 0 dL_law_911 rfl rfl ?_
                                                  refine UL_iload_n 913 rfl 3 dL_law_912 rfl rfl ?_
                                                  refine UL_iconst 914 rfl (v := 2) dL_law_913 (by decide) ?_
                                                  refine UL_iadd 915 rfl dL_law_914 ?_
                                                  obtain ⟨hi, h⟩ := zobd h
                                                  refine UL_sald 916 rfl dL_law_915 hi ?_
                                                  obtain ⟨x28, h1, h⟩ := zbd h
                                                  refine UL_cV 919 rfl 5 [zI (zsx E (zn ((s.1 + 1)))), zI (zsx E (zn ((s.1 + 2))))] [zI x27.1] dL_law_916 cv_L_106 (ctX10_ring (Nat.le_refl 5) h1) (by decide) hc rfl rfl (Nat.le_of_ble_eq_true rfl) zoki rfl ?_
                                                  refine UL_icmp_eq 922 1305 rfl dL_law_919 (by decide) (fun c => ?_) (fun c => ?_)
                                                  · have h := zpos c h
                                                    refine UL_iinc 1308 rfl (s.1 + 6) (L' := [some (zK 60 0), some (zK 9 0), some (zK 10 0), some (zI (s.1 + 6))]) dL_law_1305 rfl rfl (by decide) rfl ?_
                                                    refine UL_goto 18 dL_law_1308 (by decide) ?_
                                                    exact kc ((s.1 + 6), x28.2) (zinj h)
                                                  · have h := zneg c h
                                                    refine UL_iconst 923 rfl (v := 0) dL_law_922 (by decide) ?_
                                                    exact (kr ((0, x28.2)) (zinj h) rfl).elim
                                                · have h := zneg h_21 h
                                                  by_cases h_22 : (((zsx E (zn s.1))) &&& 63) = 22
                                                  · have h := zpos h_22 h
                                                    refine UL_tabIn 924 (off := 891) dL_law_33 (by rw [h_22]; decide) (by rw [h_22]; decide) (by rw [h_22]; decide) (by decide) ?_
                                                    refine UL_aload_n 925 rfl 1 dL_law_924 rfl rfl ?_
                                                    refine UL_aload_n 926 rfl 0 dL_law_925 rfl rfl ?_
                                                    refine UL_iload_n 927 rfl 3 dL_law_926 rfl rfl ?_
                                                    refine UL_iconst 928 rfl (v := 1) dL_law_927 (by decide) ?_
                                                    refine UL_iadd 929 rfl dL_law_928 ?_
                                                    obtain ⟨hi, h⟩ := zobd h
                                                    refine UL_sald 930 rfl dL_law_929 hi ?_
                                                    obtain ⟨x25, h1, h⟩ := zbd h
                                                    refine UL_cV 933 rfl 5 [zI (zsx E (zn ((s.1 + 1))))] [] dL_law_930 cv_L_107 (ctX9_over (Nat.le_refl 5) h1) (by decide) hc rfl rfl (Nat.le_of_ble_eq_true rfl) zoki rfl ?_
                                                    refine UL_aload_n 934 rfl 2 dL_law_933 rfl rfl ?_
                                                    refine UL_aload_n 935 rfl 0 dL_law_934 rfl rfl ?_
                                                    refine UL_iload_n 936 rfl 3 dL_law_935 rfl rfl ?_
                                                    refine UL_iconst 937 rfl (v := 1) dL_law_936 (by decide) ?_
                                                    refine UL_iadd 938 rfl dL_law_937 ?_
                                                    obtain ⟨hi, h⟩ := zobd h
                                                    refine UL_sald 939 rfl dL_law_938 hi ?_
                                                    obtain ⟨x26, h1, h⟩ := zbd h
                                                    refine UL_cV 942 rfl 3 [zI (zsx E (zn ((s.1 + 1))))] [zI x25.1] dL_law_939 cv_L_110 (ctX10_over (Nat.le_refl 3) h1) (by decide) hc rfl rfl (Nat.le_of_ble_eq_true rfl) zoki rfl ?_
                                                    refine UL_icmp_eq 945 1305 rfl dL_law_942 (by decide) (fun c => ?_) (fun c => ?_)
                                                    · have h := zpos c h
                                                      refine UL_iinc 1308 rfl (s.1 + 6) (L' := [some (zK 60 0), some (zK 9 0), some (zK 10 0), some (zI (s.1 + 6))]) dL_law_1305 rfl rfl (by decide) rfl ?_
                                                      refine UL_goto 18 dL_law_1308 (by decide) ?_
                                                      exact kc ((s.1 + 6), x25.2) (zinj h)
                                                    · have h := zneg c h
                                                      refine UL_iconst 946 rfl (v := 0) dL_law_945 (by decide) ?_
                                                      exact (kr ((0, x25.2)) (zinj h) rfl).elim
                                                  · have h := zneg h_22 h
                                                    by_cases h_23 : (((zsx E (zn s.1))) &&& 63) = 23
                                                    · have h := zpos h_23 h
                                                      refine UL_tabIn 947 (off := 914) dL_law_33 (by rw [h_23]; decide) (by rw [h_23]; decide) (by rw [h_23]; decide) (by decide) ?_
                                                      refine UL_aload_n 948 rfl 1 dL_law_947 rfl rfl ?_
                                                      refine UL_aload_n 949 rfl 0 dL_law_948 rfl rfl ?_
                                                      refine UL_iload_n 950 rfl 3 dL_law_949 rfl rfl ?_
                                                      refine UL_iconst 951 rfl (v := 1) dL_law_950 (by decide) ?_
                                                      refine UL_iadd 952 rfl dL_law_951 ?_
                                                      obtain ⟨hi, h⟩ := zobd h
                                                      refine UL_sald 953 rfl dL_law_952 hi ?_
                                                      obtain ⟨x23, h1, h⟩ := zbd h
                                                      refine UL_cV 956 rfl 5 [zI (zsx E (zn ((s.1 + 1))))] [] dL_law_953 cv_L_111 (ctX9_orders (Nat.le_refl 5) h1) (by decide) hc rfl rfl (Nat.le_of_ble_eq_true rfl) zokj rfl ?_
                                                      refine UL_aload_n 957 rfl 2 dL_law_956 rfl rfl ?_
                                                      refine UL_aload_n 958 rfl 0 dL_law_957 rfl rfl ?_
                                                      refine UL_iload_n 959 rfl 3 dL_law_958 rfl rfl ?_
                                                      refine UL_iconst 960 rfl (v := 1) dL_law_959 (by decide) ?_
                                                      refine UL_iadd 961 rfl dL_law_960 ?_
                                                      obtain ⟨hi, h⟩ := zobd h
                                                      refine UL_sald 962 rfl dL_law_961 hi ?_
                                                      obtain ⟨x24, h1, h⟩ := zbd h
                                                      refine UL_cV 965 rfl 3 [zI (zsx E (zn ((s.1 + 1))))] [zJ x23.1] dL_law_962 cv_L_115 (ctX10_orders (Nat.le_refl 3) h1) (by decide) hc rfl rfl (Nat.le_of_ble_eq_true rfl) zokj rfl ?_
                                                      refine UL_lcmp 966 rfl dL_law_965 ?_
                                                      refine UL_if_eq 969 1305 rfl dL_law_966 (by decide) (fun c => ?_) (fun c => ?_)
                                                      · have h := zpos c h
                                                        refine UL_iinc 1308 rfl (s.1 + 6) (L' := [some (zK 60 0), some (zK 9 0), some (zK 10 0), some (zI (s.1 + 6))]) dL_law_1305 rfl rfl (by decide) rfl ?_
                                                        refine UL_goto 18 dL_law_1308 (by decide) ?_
                                                        exact kc ((s.1 + 6), x24.2) (zinj h)
                                                      · have h := zneg c h
                                                        refine UL_iconst 970 rfl (v := 0) dL_law_969 (by decide) ?_
                                                        exact (kr ((0, x24.2)) (zinj h) rfl).elim
                                                    · have h := zneg h_23 h
                                                      by_cases h_24 : (((zsx E (zn s.1))) &&& 63) = 24
                                                      · have h := zpos h_24 h
                                                        refine UL_tabIn 971 (off := 938) dL_law_33 (by rw [h_24]; decide) (by rw [h_24]; decide) (by rw [h_24]; decide) (by decide) ?_
                                                        refine UL_aload_n 972 rfl 1 dL_law_971 rfl rfl ?_
                                                        refine UL_aload_n 973 rfl 0 dL_law_972 rfl rfl ?_
                                                        refine UL_iload_n 974 rfl 3 dL_law_973 rfl rfl ?_
                                                        refine UL_iconst 975 rfl (v := 1) dL_law_974 (by decide) ?_
                                                        refine UL_iadd 976 rfl dL_law_975 ?_
                                                        obtain ⟨hi, h⟩ := zobd h
                                                        refine UL_sald 977 rfl dL_law_976 hi ?_
                                                        refine UL_aload_n 978 rfl 0 dL_law_977 rfl rfl ?_
                                                        refine UL_iload_n 979 rfl 3 dL_law_978 rfl rfl ?_
                                                        refine UL_iconst 980 rfl (v := 2) dL_law_979 (by decide) ?_
                                                        refine UL_iadd 981 rfl dL_law_980 ?_
                                                        obtain ⟨hi, h⟩ := zobd h
                                                        refine UL_sald 982 rfl dL_law_981 hi ?_
                                                        obtain ⟨x21, h1, h⟩ := zbd h
                                                        refine UL_cV 985 rfl 5 [zI (zsx E (zn ((s.1 + 1)))), zI (zsx E (zn ((s.1 + 2))))] [] dL_law_982 cv_L_116 (ctX9_first (Nat.le_refl 5) h1) (by decide) hc rfl rfl (Nat.le_of_ble_eq_true rfl) zoki rfl ?_
                                                        refine UL_aload_n 986 rfl 2 dL_law_985 rfl rfl ?_
                                                        refine UL_aload_n 987 rfl 0 dL_law_986 rfl rfl ?_
                                                        refine UL_iload_n 988 rfl 3 dL_law_987 rfl rfl ?_
                                                        refine UL_iconst 989 rfl (v := 1) dL_law_988 (by decide) ?_
                                                        refine UL_iadd 990 rfl dL_law_989 ?_
                                                        obtain ⟨hi, h⟩ := zobd h
                                                        refine UL_sald 991 rfl dL_law_990 hi ?_
                                                        refine UL_aload_n 992 rfl 0 dL_law_991 rfl rfl ?_
                                                        refine UL_iload_n 993 rfl 3 dL_law_992 rfl rfl ?_
                                                        refine UL_iconst 994 rfl (v := 2) dL_law_993 (by decide) ?_
                                                        refine UL_iadd 995 rfl dL_law_994 ?_
                                                        obtain ⟨hi, h⟩ := zobd h
                                                        refine UL_sald 996 rfl dL_law_995 hi ?_
                                                        obtain ⟨x22, h1, h⟩ := zbd h
                                                        refine UL_cV 999 rfl 3 [zI (zsx E (zn ((s.1 + 1)))), zI (zsx E (zn ((s.1 + 2))))] [zI x21.1] dL_law_996 cv_L_119 (ctX10_first (Nat.le_refl 3) h1) (by decide) hc rfl rfl (Nat.le_of_ble_eq_true rfl) zoki rfl ?_
                                                        refine UL_icmp_eq 1002 1305 rfl dL_law_999 (by decide) (fun c => ?_) (fun c => ?_)
                                                        · have h := zpos c h
                                                          refine UL_iinc 1308 rfl (s.1 + 6) (L' := [some (zK 60 0), some (zK 9 0), some (zK 10 0), some (zI (s.1 + 6))]) dL_law_1305 rfl rfl (by decide) rfl ?_
                                                          refine UL_goto 18 dL_law_1308 (by decide) ?_
                                                          exact kc ((s.1 + 6), x22.2) (zinj h)
                                                        · have h := zneg c h
                                                          refine UL_iconst 1003 rfl (v := 0) dL_law_1002 (by decide) ?_
                                                          exact (kr ((0, x22.2)) (zinj h) rfl).elim
                                                      · have h := zneg h_24 h
                                                        by_cases h_25 : (((zsx E (zn s.1))) &&& 63) = 25
                                                        · have h := zpos h_25 h
                                                          refine UL_tabIn 1004 (off := 971) dL_law_33 (by rw [h_25]; decide) (by rw [h_25]; decide) (by rw [h_25]; decide) (by decide) ?_
                                                          refine UL_aload_n 1005 rfl 1 dL_law_1004 rfl rfl ?_
                                                          refine UL_aload_n 1006 rfl 0 dL_law_1005 rfl rfl ?_
                                                          refine UL_iload_n 1007 rfl 3 dL_law_1006 rfl rfl ?_
                                                          refine UL_iconst 1008 rfl (v := 1) dL_law_1007 (by decide) ?_
                                                          refine UL_iadd 1009 rfl dL_law_1008 ?_
                                                          obtain ⟨hi, h⟩ := zobd h
                                                          refine UL_sald 1010 rfl dL_law_1009 hi ?_
                                                          refine UL_aload_n 1011 rfl 0 dL_law_1010 rfl rfl ?_
                                                          refine UL_iload_n 1012 rfl 3 dL_law_1011 rfl rfl ?_
                                                          refine UL_iconst 1013 rfl (v := 2) dL_law_1012 (by decide) ?_
                                                          refine UL_iadd 1014 rfl dL_law_1013 ?_
                                                          obtain ⟨hi, h⟩ := zobd h
                                                          refine UL_sald 1015 rfl dL_law_1014 hi ?_
                                                          obtain ⟨x19, h1, h⟩ := zbd h
                                                          refine UL_cV 1018 rfl 5 [zI (zsx E (zn ((s.1 + 1)))), zI (zsx E (zn ((s.1 + 2))))] [] dL_law_1015 cv_L_120 (ctX9_place (Nat.le_refl 5) h1) (by decide) hc rfl rfl (Nat.le_of_ble_eq_true rfl) zoki rfl ?_
                                                          refine UL_aload_n 1019 rfl 2 dL_law_1018 rfl rfl ?_
                                                          refine UL_aload_n 1020 rfl 0 dL_law_1019 rfl rfl ?_
                                                          refine UL_iload_n 1021 rfl 3 dL_law_1020 rfl rfl ?_
                                                          refine UL_iconst 1022 rfl (v := 1) dL_law_1021 (by decide) ?_
                                                          refine UL_iadd 1023 rfl dL_law_1022 ?_
                                                          obtain ⟨hi, h⟩ := zobd h
                                                          refine UL_sald 1024 rfl dL_law_1023 hi ?_
                                                          refine UL_aload_n 1025 rfl 0 dL_law_1024 rfl rfl ?_
                                                          refine UL_iload_n 1026 rfl 3 dL_law_1025 rfl rfl ?_
                                                          refine UL_iconst 1027 rfl (v := 2) dL_law_1026 (by decide) ?_
                                                          refine UL_iadd 1028 rfl dL_law_1027 ?_
                                                          obtain ⟨hi, h⟩ := zobd h
                                                          refine UL_sald 1029 rfl dL_law_1028 hi ?_
                                                          obtain ⟨x20, h1, h⟩ := zbd h
                                                          refine UL_cV 1032 rfl 3 [zI (zsx E (zn ((s.1 + 1)))), zI (zsx E (zn ((s.1 + 2))))] [zI x19.1] dL_law_1029 cv_L_123 (ctX10_place (Nat.le_refl 3) h1) (by decide) hc rfl rfl (Nat.le_of_ble_eq_true rfl) zoki rfl ?_
                                                          refine UL_icmp_eq 1035 1305 rfl dL_law_1032 (by decide) (fun c => ?_) (fun c => ?_)
                                                          · have h := zpos c h
                                                            refine UL_iinc 1308 rfl (s.1 + 6) (L' := [some (zK 60 0), some (zK 9 0), some (zK 10 0), some (zI (s.1 + 6))]) dL_law_1305 rfl rfl (by decide) rfl ?_
                                                            refine UL_goto 18 dL_law_1308 (by decide) ?_
                                                            exact kc ((s.1 + 6), x20.2) (zinj h)
                                                          · have h := zneg c h
                                                            refine UL_iconst 1036 rfl (v := 0) dL_law_1035 (by decide) ?_
                                                            exact (kr ((0, x20.2)) (zinj h) rfl).elim
                                                        · have h := zneg h_25 h
                                                          by_cases h_26 : (((zsx E (zn s.1))) &&& 63) = 26
                                                          · have h := zpos h_26 h
                                                            refine UL_tabIn 1037 (off := 1004) dL_law_33 (by rw [h_26]; decide) (by rw [h_26]; decide) (by rw [h_26]; decide) (by decide) ?_
                                                            refine UL_aload_n 1038 rfl 1 dL_law_1037 rfl rfl ?_
                                                            refine UL_aload_n 1039 rfl 0 dL_law_1038 rfl rfl ?_
                                                            refine UL_iload_n 1040 rfl 3 dL_law_1039 rfl rfl ?_
                                                            refine UL_iconst 1041 rfl (v := 1) dL_law_1040 (by decide) ?_
                                                            refine UL_iadd 1042 rfl dL_law_1041 ?_
                                                            obtain ⟨hi, h⟩ := zobd h
                                                            refine UL_sald 1043 rfl dL_law_1042 hi ?_
                                                            refine UL_aload_n 1044 rfl 0 dL_law_1043 rfl rfl ?_
                                                            refine UL_iload_n 1045 rfl 3 dL_law_1044 rfl rfl ?_
                                                            refine UL_iconst 1046 rfl (v := 2) dL_law_1045 (by decide) ?_
                                                            refine UL_iadd 1047 rfl dL_law_1046 ?_
                                                            obtain ⟨hi, h⟩ := zobd h
                                                            refine UL_sald 1048 rfl dL_law_1047 hi ?_
                                                            refine UL_aload_n 1049 rfl 0 dL_law_1048 rfl rfl ?_
                                                            refine UL_iload_n 1050 rfl 3 dL_law_1049 rfl rfl ?_
                                                            refine UL_iconst 1051 rfl (v := 3) dL_law_1050 (by decide) ?_
                                                            refine UL_iadd 1052 rfl dL_law_1051 ?_
                                                            obtain ⟨hi, h⟩ := zobd h
                                                            refine UL_sald 1053 rfl dL_law_1052 hi ?_
                                                            obtain ⟨x17, h1, h⟩ := zbd h
                                                            refine UL_cV 1056 rfl 45 [zI (zsx E (zn ((s.1 + 1)))), zI (zsx E (zn ((s.1 + 2)))), zI (zsx E (zn ((s.1 + 3))))] [] dL_law_1053 cv_L_124 (ctX9_send (Nat.le_refl 45) h1) (by decide) hc rfl rfl (Nat.le_of_ble_eq_true rfl) zoki rfl ?_
                                                            refine UL_aload_n 1057 rfl 2 dL_law_1056 rfl rfl ?_
                                                            refine UL_aload_n 1058 rfl 0 dL_law_1057 rfl rfl ?_
                                                            refine UL_iload_n 1059 rfl 3 dL_law_1058 rfl rfl ?_
                                                            refine UL_iconst 1060 rfl (v := 1) dL_law_1059 (by decide) ?_
                                                            refine UL_iadd 1061 rfl dL_law_1060 ?_
                                                            obtain ⟨hi, h⟩ := zobd h
                                                            refine UL_sald 1062 rfl dL_law_1061 hi ?_
                                                            refine UL_aload_n 1063 rfl 0 dL_law_1062 rfl rfl ?_
                                                            refine UL_iload_n 1064 rfl 3 dL_law_1063 rfl rfl ?_
                                                            refine UL_iconst 1065 rfl (v := 2) dL_law_1064 (by decide) ?_
                                                            refine UL_iadd 1066 rfl dL_law_1065 ?_
                                                            obtain ⟨hi, h⟩ := zobd h
                                                            refine UL_sald 1067 rfl dL_law_1066 hi ?_
                                                            refine UL_aload_n 1068 rfl 0 dL_law_1067 rfl rfl ?_
                                                            refine UL_iload_n 1069 rfl 3 dL_law_1068 rfl rfl ?_
                                                            refine UL_iconst 1070 rfl (v := 3) dL_law_1069 (by decide) ?_
                                                            refine UL_iadd 1071 rfl dL_law_1070 ?_
                                                            obtain ⟨hi, h⟩ := zobd h
                                                            refine UL_sald 1072 rfl dL_law_1071 hi ?_
                                                            obtain ⟨x18, h1, h⟩ := zbd h
                                                            refine UL_cV 1075 rfl 45 [zI (zsx E (zn ((s.1 + 1)))), zI (zsx E (zn ((s.1 + 2)))), zI (zsx E (zn ((s.1 + 3))))] [zI x17.1] dL_law_1072 cv_L_127 (ctX10_send (Nat.le_refl 45) h1) (by decide) hc rfl rfl (Nat.le_of_ble_eq_true rfl) zoki rfl ?_
                                                            refine UL_icmp_eq 1078 1305 rfl dL_law_1075 (by decide) (fun c => ?_) (fun c => ?_)
                                                            · have h := zpos c h
                                                              refine UL_iinc 1308 rfl (s.1 + 6) (L' := [some (zK 60 0), some (zK 9 0), some (zK 10 0), some (zI (s.1 + 6))]) dL_law_1305 rfl rfl (by decide) rfl ?_
                                                              refine UL_goto 18 dL_law_1308 (by decide) ?_
                                                              exact kc ((s.1 + 6), x18.2) (zinj h)
                                                            · have h := zneg c h
                                                              refine UL_iconst 1079 rfl (v := 0) dL_law_1078 (by decide) ?_
                                                              exact (kr ((0, x18.2)) (zinj h) rfl).elim
                                                          · have h := zneg h_26 h
                                                            by_cases h_27 : (((zsx E (zn s.1))) &&& 63) = 27
                                                            · have h := zpos h_27 h
                                                              refine UL_tabIn 1080 (off := 1047) dL_law_33 (by rw [h_27]; decide) (by rw [h_27]; decide) (by rw [h_27]; decide) (by decide) ?_
                                                              refine UL_aload_n 1081 rfl 1 dL_law_1080 rfl rfl ?_
                                                              refine UL_aload_n 1082 rfl 0 dL_law_1081 rfl rfl ?_
                                                              refine UL_iload_n 1083 rfl 3 dL_law_1082 rfl rfl ?_
                                                              refine UL_iconst 1084 rfl (v := 1) dL_law_1083 (by decide) ?_
                                                              refine UL_iadd 1085 rfl dL_law_1084 ?_
                                                              obtain ⟨hi, h⟩ := zobd h
                                                              refine UL_sald 1086 rfl dL_law_1085 hi ?_
                                                              refine UL_aload_n 1087 rfl 0 dL_law_1086 rfl rfl ?_
                                                              refine UL_iload_n 1088 rfl 3 dL_law_1087 rfl rfl ?_
                                                              refine UL_iconst 1089 rfl (v := 2) dL_law_1088 (by decide) ?_
                                                              refine UL_iadd 1090 rfl dL_law_1089 ?_
                                                              obtain ⟨hi, h⟩ := zobd h
                                                              refine UL_sald 1091 rfl dL_law_1090 hi ?_
                                                              refine UL_aload_n 1092 rfl 0 dL_law_1091 rfl rfl ?_
                                                              refine UL_iload_n 1093 rfl 3 dL_law_1092 rfl rfl ?_
                                                              refine UL_iconst 1094 rfl (v := 3) dL_law_1093 (by decide) ?_
                                                              refine UL_iadd 1095 rfl dL_law_1094 ?_
                                                              obtain ⟨hi, h⟩ := zobd h
                                                              refine UL_sald 1096 rfl dL_law_1095 hi ?_
                                                              obtain ⟨x15, h1, h⟩ := zbd h
                                                              refine UL_cV 1099 rfl 5 [zI (zsx E (zn ((s.1 + 1)))), zI (zsx E (zn ((s.1 + 2)))), zI (zsx E (zn ((s.1 + 3))))] [] dL_law_1096 cv_L_128 (ctX9_chain (Nat.le_refl 5) h1) (by decide) hc rfl rfl (Nat.le_of_ble_eq_true rfl) zoki rfl ?_
                                                              refine UL_aload_n 1100 rfl 2 dL_law_1099 rfl rfl ?_
                                                              refine UL_aload_n 1101 rfl 0 dL_law_1100 rfl rfl ?_
                                                              refine UL_iload_n 1102 rfl 3 dL_law_1101 rfl rfl ?_
                                                              refine UL_iconst 1103 rfl (v := 1) dL_law_1102 (by decide) ?_
                                                              refine UL_iadd 1104 rfl dL_law_1103 ?_
                                                              obtain ⟨hi, h⟩ := zobd h
                                                              refine UL_sald 1105 rfl dL_law_1104 hi ?_
                                                              refine UL_aload_n 1106 rfl 0 dL_law_1105 rfl rfl ?_
                                                              refine UL_iload_n 1107 rfl 3 dL_law_1106 rfl rfl ?_
                                                              refine UL_iconst 1108 rfl (v := 2) dL_law_1107 (by decide) ?_
                                                              refine UL_iadd 1109 rfl dL_law_1108 ?_
                                                              obtain ⟨hi, h⟩ := zobd h
                                                              refine UL_sald 1110 rfl dL_law_1109 hi ?_
                                                              refine UL_aload_n 1111 rfl 0 dL_law_1110 rfl rfl ?_
                                                              refine UL_iload_n 1112 rfl 3 dL_law_1111 rfl rfl ?_
                                                              refine UL_iconst 1113 rfl (v := 3) dL_law_1112 (by decide) ?_
                                                              refine UL_iadd 1114 rfl dL_law_1113 ?_
                                                              obtain ⟨hi, h⟩ := zobd h
                                                              refine UL_sald 1115 rfl dL_law_1114 hi ?_
                                                              obtain ⟨x16, h1, h⟩ := zbd h
                                                              refine UL_cV 1118 rfl 5 [zI (zsx E (zn ((s.1 + 1)))), zI (zsx E (zn ((s.1 + 2)))), zI (zsx E (zn ((s.1 + 3))))] [zI x15.1] dL_law_1115 cv_L_131 (ctX10_chain (Nat.le_refl 5) h1) (by decide) hc rfl rfl (Nat.le_of_ble_eq_true rfl) zoki rfl ?_
                                                              refine UL_icmp_eq 1121 1305 rfl dL_law_1118 (by decide) (fun c => ?_) (fun c => ?_)
                                                              · have h := zpos c h
                                                                refine UL_iinc 1308 rfl (s.1 + 6) (L' := [some (zK 60 0), some (zK 9 0), some (zK 10 0), some (zI (s.1 + 6))]) dL_law_1305 rfl rfl (by decide) rfl ?_
                                                                refine UL_goto 18 dL_law_1308 (by decide) ?_
                                                                exact kc ((s.1 + 6), x16.2) (zinj h)
                                                              · have h := zneg c h
                                                                refine UL_iconst 1122 rfl (v := 0) dL_law_1121 (by decide) ?_
                                                                exact (kr ((0, x16.2)) (zinj h) rfl).elim
                                                            · have h := zneg h_27 h
                                                              by_cases h_28 : (((zsx E (zn s.1))) &&& 63) = 28
                                                              · have h := zpos h_28 h
                                                                refine UL_tabIn 1123 (off := 1090) dL_law_33 (by rw [h_28]; decide) (by rw [h_28]; decide) (by rw [h_28]; decide) (by decide) ?_
                                                                refine UL_aload_n 1124 rfl 1 dL_law_1123 rfl rfl ?_
                                                                refine UL_aload_n 1125 rfl 0 dL_law_1124 rfl rfl ?_
                                                                refine UL_iload_n 1126 rfl 3 dL_law_1125 rfl rfl ?_
                                                                refine UL_iconst 1127 rfl (v := 1) dL_law_1126 (by decide) ?_
                                                                refine UL_iadd 1128 rfl dL_law_1127 ?_
                                                                obtain ⟨hi, h⟩ := zobd h
                                                                refine UL_sald 1129 rfl dL_law_1128 hi ?_
                                                                obtain ⟨x13, h1, h⟩ := zbd h
                                                                refine UL_cV 1132 rfl 5 [zI (zsx E (zn ((s.1 + 1))))] [] dL_law_1129 cv_L_132 (ctX9_lacks (Nat.le_refl 5) h1) (by decide) hc rfl rfl (Nat.le_of_ble_eq_true rfl) zoki rfl ?_
                                                                refine UL_aload_n 1133 rfl 2 dL_law_1132 rfl rfl ?_
                                                                refine UL_aload_n 1134 rfl 0 dL_law_1133 rfl rfl ?_
                                                                refine UL_iload_n 1135 rfl 3 dL_law_1134 rfl rfl ?_
                                                                refine UL_iconst 1136 rfl (v := 1) dL_law_1135 (by decide) ?_
                                                                refine UL_iadd 1137 rfl dL_law_1136 ?_
                                                                obtain ⟨hi, h⟩ := zobd h
                                                                refine UL_sald 1138 rfl dL_law_1137 hi ?_
                                                                obtain ⟨x14, h1, h⟩ := zbd h
                                                                refine UL_cV 1141 rfl 5 [zI (zsx E (zn ((s.1 + 1))))] [zI x13.1] dL_law_1138 cv_L_135 (ctX10_lacks (Nat.le_refl 5) h1) (by decide) hc rfl rfl (Nat.le_of_ble_eq_true rfl) zoki rfl ?_
                                                                refine UL_icmp_eq 1144 1305 rfl dL_law_1141 (by decide) (fun c => ?_) (fun c => ?_)
                                                                · have h := zpos c h
                                                                  refine UL_iinc 1308 rfl (s.1 + 6) (L' := [some (zK 60 0), some (zK 9 0), some (zK 10 0), some (zI (s.1 + 6))]) dL_law_1305 rfl rfl (by decide) rfl ?_
                                                                  refine UL_goto 18 dL_law_1308 (by decide) ?_
                                                                  exact kc ((s.1 + 6), x14.2) (zinj h)
                                                                · have h := zneg c h
                                                                  refine UL_iconst 1145 rfl (v := 0) dL_law_1144 (by decide) ?_
                                                                  exact (kr ((0, x14.2)) (zinj h) rfl).elim
                                                              · have h := zneg h_28 h
                                                                by_cases h_29 : (((zsx E (zn s.1))) &&& 63) = 29
                                                                · have h := zpos h_29 h
                                                                  refine UL_tabIn 1146 (off := 1113) dL_law_33 (by rw [h_29]; decide) (by rw [h_29]; decide) (by rw [h_29]; decide) (by decide) ?_
                                                                  refine UL_aload_n 1147 rfl 1 dL_law_1146 rfl rfl ?_
                                                                  refine UL_aload_n 1148 rfl 0 dL_law_1147 rfl rfl ?_
                                                                  refine UL_iload_n 1149 rfl 3 dL_law_1148 rfl rfl ?_
                                                                  refine UL_iconst 1150 rfl (v := 1) dL_law_1149 (by decide) ?_
                                                                  refine UL_iadd 1151 rfl dL_law_1150 ?_
                                                                  obtain ⟨hi, h⟩ := zobd h
                                                                  refine UL_sald 1152 rfl dL_law_1151 hi ?_
                                                                  obtain ⟨x11, h1, h⟩ := zbd h
                                                                  refine UL_cV 1155 rfl 45 [zI (zsx E (zn ((s.1 + 1))))] [] dL_law_1152 cv_L_136 (ctX9_answers (Nat.le_refl 45) h1) (by decide) hc rfl rfl (Nat.le_of_ble_eq_true rfl) zoki rfl ?_
                                                                  refine UL_aload_n 1156 rfl 2 dL_law_1155 rfl rfl ?_
                                                                  refine UL_aload_n 1157 rfl 0 dL_law_1156 rfl rfl ?_
                                                                  refine UL_iload_n 1158 rfl 3 dL_law_1157 rfl rfl ?_
                                                                  refine UL_iconst 1159 rfl (v := 1) dL_law_1158 (by decide) ?_
                                                                  refine UL_iadd 1160 rfl dL_law_1159 ?_
                                                                  obtain ⟨hi, h⟩ := zobd h
                                                                  refine UL_sald 1161 rfl dL_law_1160 hi ?_
                                                                  obtain ⟨x12, h1, h⟩ := zbd h
                                                                  refine UL_cV 1164 rfl 45 [zI (zsx E (zn ((s.1 + 1))))] [zI x11.1] dL_law_1161 cv_L_139 (ctX10_answers (Nat.le_refl 45) h1) (by decide) hc rfl rfl (Nat.le_of_ble_eq_true rfl) zoki rfl ?_
                                                                  refine UL_icmp_eq 1167 1305 rfl dL_law_1164 (by decide) (fun c => ?_) (fun c => ?_)
                                                                  · have h := zpos c h
                                                                    refine UL_iinc 1308 rfl (s.1 + 6) (L' := [some (zK 60 0), some (zK 9 0), some (zK 10 0), some (zI (s.1 + 6))]) dL_law_1305 rfl rfl (by decide) rfl ?_
                                                                    refine UL_goto 18 dL_law_1308 (by decide) ?_
                                                                    exact kc ((s.1 + 6), x12.2) (zinj h)
                                                                  · have h := zneg c h
                                                                    refine UL_iconst 1168 rfl (v := 0) dL_law_1167 (by decide) ?_
                                                                    exact (kr ((0, x12.2)) (zinj h) rfl).elim
                                                                · have h := zneg h_29 h
                                                                  by_cases h_30 : (((zsx E (zn s.1))) &&& 63) = 30
                                                                  · have h := zpos h_30 h
                                                                    refine UL_tabIn 1169 (off := 1136) dL_law_33 (by rw [h_30]; decide) (by rw [h_30]; decide) (by rw [h_30]; decide) (by decide) ?_
                                                                    refine UL_aload_n 1170 rfl 1 dL_law_1169 rfl rfl ?_
                                                                    refine UL_aload_n 1171 rfl 0 dL_law_1170 rfl rfl ?_
                                                                    refine UL_iload_n 1172 rfl 3 dL_law_1171 rfl rfl ?_
                                                                    refine UL_iconst 1173 rfl (v := 1) dL_law_1172 (by decide) ?_
                                                                    refine UL_iadd 1174 rfl dL_law_1173 ?_
                                                                    obtain ⟨hi, h⟩ := zobd h
                                                                    refine UL_sald 1175 rfl dL_law_1174 hi ?_
                                                                    refine UL_aload_n 1176 rfl 0 dL_law_1175 rfl rfl ?_
                                                                    refine UL_iload_n 1177 rfl 3 dL_law_1176 rfl rfl ?_
                                                                    refine UL_iconst 1178 rfl (v := 2) dL_law_1177 (by decide) ?_
                                                                    refine UL_iadd 1179 rfl dL_law_1178 ?_
                                                                    obtain ⟨hi, h⟩ := zobd h
                                                                    refine UL_sald 1180 rfl dL_law_1179 hi ?_
                                                                    obtain ⟨x9, h1, h⟩ := zbd h
                                                                    refine UL_cV 1183 rfl 45 [zI (zsx E (zn ((s.1 + 1)))), zI (zsx E (zn ((s.1 + 2))))] [] dL_law_1180 cv_L_140 (ctX9_alike (Nat.le_refl 45) h1) (by decide) hc rfl rfl (Nat.le_of_ble_eq_true rfl) zoki rfl ?_
                                                                    refine UL_aload_n 1184 rfl 2 dL_law_1183 rfl rfl ?_
                                                                    refine UL_aload_n 1185 rfl 0 dL_law_1184 rfl rfl ?_
                                                                    refine UL_iload_n 1186 rfl 3 dL_law_1185 rfl rfl ?_
                                                                    refine UL_iconst 1187 rfl (v := 1) dL_law_1186 (by decide) ?_
                                                                    refine UL_iadd 1188 rfl dL_law_1187 ?_
                                                                    obtain ⟨hi, h⟩ := zobd h
                                                                    refine UL_sald 1189 rfl dL_law_1188 hi ?_
                                                                    refine UL_aload_n 1190 rfl 0 dL_law_1189 rfl rfl ?_
                                                                    refine UL_iload_n 1191 rfl 3 dL_law_1190 rfl rfl ?_
                                                                    refine UL_iconst 1192 rfl (v := 2) dL_law_1191 (by decide) ?_
                                                                    refine UL_iadd 1193 rfl dL_law_1192 ?_
                                                                    obtain ⟨hi, h⟩ := zobd h
                                                                    refine UL_sald 1194 rfl dL_law_1193 hi ?_
                                                                    obtain ⟨x10, h1, h⟩ := zbd h
                                                                    refine UL_cV 1197 rfl 45 [zI (zsx E (zn ((s.1 + 1)))), zI (zsx E (zn ((s.1 + 2))))] [zI x9.1] dL_law_1194 cv_L_143 (ctX10_alike (Nat.le_refl 45) h1) (by decide) hc rfl rfl (Nat.le_of_ble_eq_true rfl) zoki rfl ?_
                                                                    refine UL_icmp_eq 1200 1305 rfl dL_law_1197 (by decide) (fun c => ?_) (fun c => ?_)
                                                                    · have h := zpos c h
                                                                      refine UL_iinc 1308 rfl (s.1 + 6) (L' := [some (zK 60 0), some (zK 9 0), some (zK 10 0), some (zI (s.1 + 6))]) dL_law_1305 rfl rfl (by decide) rfl ?_
                                                                      refine UL_goto 18 dL_law_1308 (by decide) ?_
                                                                      exact kc ((s.1 + 6), x10.2) (zinj h)
                                                                    · have h := zneg c h
                                                                      refine UL_iconst 1201 rfl (v := 0) dL_law_1200 (by decide) ?_
                                                                      exact (kr ((0, x10.2)) (zinj h) rfl).elim
                                                                  · have h := zneg h_30 h
                                                                    by_cases h_31 : (((zsx E (zn s.1))) &&& 63) = 31
                                                                    · have h := zpos h_31 h
                                                                      refine UL_tabIn 1202 (off := 1169) dL_law_33 (by rw [h_31]; decide) (by rw [h_31]; decide) (by rw [h_31]; decide) (by decide) ?_
                                                                      refine UL_aload_n 1203 rfl 1 dL_law_1202 rfl rfl ?_
                                                                      refine UL_aload_n 1204 rfl 0 dL_law_1203 rfl rfl ?_
                                                                      refine UL_iload_n 1205 rfl 3 dL_law_1204 rfl rfl ?_
                                                                      refine UL_iconst 1206 rfl (v := 1) dL_law_1205 (by decide) ?_
                                                                      refine UL_iadd 1207 rfl dL_law_1206 ?_
                                                                      obtain ⟨hi, h⟩ := zobd h
                                                                      refine UL_sald 1208 rfl dL_law_1207 hi ?_
                                                                      refine UL_aload_n 1209 rfl 0 dL_law_1208 rfl rfl ?_
                                                                      refine UL_iload_n 1210 rfl 3 dL_law_1209 rfl rfl ?_
                                                                      refine UL_iconst 1211 rfl (v := 2) dL_law_1210 (by decide) ?_
                                                                      refine UL_iadd 1212 rfl dL_law_1211 ?_
                                                                      obtain ⟨hi, h⟩ := zobd h
                                                                      refine UL_sald 1213 rfl dL_law_1212 hi ?_
                                                                      obtain ⟨x7, h1, h⟩ := zbd h
                                                                      refine UL_cV 1216 rfl 45 [zI (zsx E (zn ((s.1 + 1)))), zI (zsx E (zn ((s.1 + 2))))] [] dL_law_1213 cv_L_144 (ctX9_origins (Nat.le_refl 45) h1) (by decide) hc rfl rfl (Nat.le_of_ble_eq_true rfl) zoki rfl ?_
                                                                      refine UL_aload_n 1217 rfl 2 dL_law_1216 rfl rfl ?_
                                                                      refine UL_aload_n 1218 rfl 0 dL_law_1217 rfl rfl ?_
                                                                      refine UL_iload_n 1219 rfl 3 dL_law_1218 rfl rfl ?_
                                                                      refine UL_iconst 1220 rfl (v := 1) dL_law_1219 (by decide) ?_
                                                                      refine UL_iadd 1221 rfl dL_law_1220 ?_
                                                                      obtain ⟨hi, h⟩ := zobd h
                                                                      refine UL_sald 1222 rfl dL_law_1221 hi ?_
                                                                      refine UL_aload_n 1223 rfl 0 dL_law_1222 rfl rfl ?_
                                                                      refine UL_iload_n 1224 rfl 3 dL_law_1223 rfl rfl ?_
                                                                      refine UL_iconst 1225 rfl (v := 2) dL_law_1224 (by decide) ?_
                                                                      refine UL_iadd 1226 rfl dL_law_1225 ?_
                                                                      obtain ⟨hi, h⟩ := zobd h
                                                                      refine UL_sald 1227 rfl dL_law_1226 hi ?_
                                                                      obtain ⟨x8, h1, h⟩ := zbd h
                                                                      refine UL_cV 1230 rfl 45 [zI (zsx E (zn ((s.1 + 1)))), zI (zsx E (zn ((s.1 + 2))))] [zI x7.1] dL_law_1227 cv_L_147 (ctX10_origins (Nat.le_refl 45) h1) (by decide) hc rfl rfl (Nat.le_of_ble_eq_true rfl) zoki rfl ?_
                                                                      refine UL_icmp_eq 1233 1305 rfl dL_law_1230 (by decide) (fun c => ?_) (fun c => ?_)
                                                                      · have h := zpos c h
                                                                        refine UL_iinc 1308 rfl (s.1 + 6) (L' := [some (zK 60 0), some (zK 9 0), some (zK 10 0), some (zI (s.1 + 6))]) dL_law_1305 rfl rfl (by decide) rfl ?_
                                                                        refine UL_goto 18 dL_law_1308 (by decide) ?_
                                                                        exact kc ((s.1 + 6), x8.2) (zinj h)
                                                                      · have h := zneg c h
                                                                        refine UL_iconst 1234 rfl (v := 0) dL_law_1233 (by decide) ?_
                                                                        exact (kr ((0, x8.2)) (zinj h) rfl).elim
                                                                    · have h := zneg h_31 h
                                                                      by_cases h_32 : (((zsx E (zn s.1))) &&& 63) = 32
                                                                      · have h := zpos h_32 h
                                                                        refine UL_tabIn 1235 (off := 1202) dL_law_33 (by rw [h_32]; decide) (by rw [h_32]; decide) (by rw [h_32]; decide) (by decide) ?_
                                                                        refine UL_aload_n 1236 rfl 1 dL_law_1235 rfl rfl ?_
                                                                        refine UL_aload_n 1237 rfl 0 dL_law_1236 rfl rfl ?_
                                                                        refine UL_iload_n 1238 rfl 3 dL_law_1237 rfl rfl ?_
                                                                        refine UL_iconst 1239 rfl (v := 1) dL_law_1238 (by decide) ?_
                                                                        refine UL_iadd 1240 rfl dL_law_1239 ?_
                                                                        obtain ⟨hi, h⟩ := zobd h
                                                                        refine UL_sald 1241 rfl dL_law_1240 hi ?_
                                                                        obtain ⟨x5, h1, h⟩ := zbd h
                                                                        refine UL_cV 1244 rfl 45 [zI (zsx E (zn ((s.1 + 1))))] [] dL_law_1241 cv_L_148 (ctX9_mean (Nat.le_refl 45) h1) (by decide) hc rfl rfl (Nat.le_of_ble_eq_true rfl) zokj rfl ?_
                                                                        refine UL_aload_n 1245 rfl 2 dL_law_1244 rfl rfl ?_
                                                                        refine UL_aload_n 1246 rfl 0 dL_law_1245 rfl rfl ?_
                                                                        refine UL_iload_n 1247 rfl 3 dL_law_1246 rfl rfl ?_
                                                                        refine UL_iconst 1248 rfl (v := 1) dL_law_1247 (by decide) ?_
                                                                        refine UL_iadd 1249 rfl dL_law_1248 ?_
                                                                        obtain ⟨hi, h⟩ := zobd h
                                                                        refine UL_sald 1250 rfl dL_law_1249 hi ?_
                                                                        obtain ⟨x6, h1, h⟩ := zbd h
                                                                        refine UL_cV 1253 rfl 45 [zI (zsx E (zn ((s.1 + 1))))] [zJ x5.1] dL_law_1250 cv_L_151 (ctX10_mean (Nat.le_refl 45) h1) (by decide) hc rfl rfl (Nat.le_of_ble_eq_true rfl) zokj rfl ?_
                                                                        refine UL_lcmp 1254 rfl dL_law_1253 ?_
                                                                        refine UL_if_eq 1257 1305 rfl dL_law_1254 (by decide) (fun c => ?_) (fun c => ?_)
                                                                        · have h := zpos c h
                                                                          refine UL_iinc 1308 rfl (s.1 + 6) (L' := [some (zK 60 0), some (zK 9 0), some (zK 10 0), some (zI (s.1 + 6))]) dL_law_1305 rfl rfl (by decide) rfl ?_
                                                                          refine UL_goto 18 dL_law_1308 (by decide) ?_
                                                                          exact kc ((s.1 + 6), x6.2) (zinj h)
                                                                        · have h := zneg c h
                                                                          refine UL_iconst 1258 rfl (v := 0) dL_law_1257 (by decide) ?_
                                                                          exact (kr ((0, x6.2)) (zinj h) rfl).elim
                                                                      · have h := zneg h_32 h
                                                                        by_cases h_33 : (((zsx E (zn s.1))) &&& 63) = 33
                                                                        · have h := zpos h_33 h
                                                                          refine UL_tabIn 1259 (off := 1226) dL_law_33 (by rw [h_33]; decide) (by rw [h_33]; decide) (by rw [h_33]; decide) (by decide) ?_
                                                                          refine UL_aload_n 1260 rfl 1 dL_law_1259 rfl rfl ?_
                                                                          refine UL_aload_n 1261 rfl 0 dL_law_1260 rfl rfl ?_
                                                                          refine UL_iload_n 1262 rfl 3 dL_law_1261 rfl rfl ?_
                                                                          refine UL_iconst 1263 rfl (v := 1) dL_law_1262 (by decide) ?_
                                                                          refine UL_iadd 1264 rfl dL_law_1263 ?_
                                                                          obtain ⟨hi, h⟩ := zobd h
                                                                          refine UL_sald 1265 rfl dL_law_1264 hi ?_
                                                                          obtain ⟨x3, h1, h⟩ := zbd h
                                                                          refine UL_cV 1268 rfl 1 [zI (zsx E (zn ((s.1 + 1))))] [] dL_law_1265 cv_L_152 (ctX9_find (Nat.le_refl 1) h1) (by decide) hc rfl rfl (Nat.le_of_ble_eq_true rfl) zoki rfl ?_
                                                                          refine UL_aload_n 1269 rfl 2 dL_law_1268 rfl rfl ?_
                                                                          refine UL_aload_n 1270 rfl 0 dL_law_1269 rfl rfl ?_
                                                                          refine UL_iload_n 1271 rfl 3 dL_law_1270 rfl rfl ?_
                                                                          refine UL_iconst 1272 rfl (v := 1) dL_law_1271 (by decide) ?_
                                                                          refine UL_iadd 1273 rfl dL_law_1272 ?_
                                                                          obtain ⟨hi, h⟩ := zobd h
                                                                          refine UL_sald 1274 rfl dL_law_1273 hi ?_
                                                                          obtain ⟨x4, h1, h⟩ := zbd h
                                                                          refine UL_cV 1277 rfl 0 [zI (zsx E (zn ((s.1 + 1))))] [zI x3] dL_law_1274 cv_L_155 (ctX10_find (Nat.le_refl 0) h1) (by decide) hc rfl rfl (Nat.le_of_ble_eq_true rfl) zoki rfl ?_
                                                                          refine UL_icmp_eq 1280 1305 rfl dL_law_1277 (by decide) (fun c => ?_) (fun c => ?_)
                                                                          · have h := zpos c h
                                                                            refine UL_iinc 1308 rfl (s.1 + 6) (L' := [some (zK 60 0), some (zK 9 0), some (zK 10 0), some (zI (s.1 + 6))]) dL_law_1305 rfl rfl (by decide) rfl ?_
                                                                            refine UL_goto 18 dL_law_1308 (by decide) ?_
                                                                            exact kc ((s.1 + 6), s.2) (zinj h)
                                                                          · have h := zneg c h
                                                                            refine UL_iconst 1281 rfl (v := 0) dL_law_1280 (by decide) ?_
                                                                            exact (kr ((0, s.2)) (zinj h) rfl).elim
                                                                        · have h := zneg h_33 h
                                                                          by_cases h_34 : (((zsx E (zn s.1))) &&& 63) = 34
                                                                          · have h := zpos h_34 h
                                                                            refine UL_tabIn 1282 (off := 1249) dL_law_33 (by rw [h_34]; decide) (by rw [h_34]; decide) (by rw [h_34]; decide) (by decide) ?_
                                                                            refine UL_aload_n 1283 rfl 1 dL_law_1282 rfl rfl ?_
                                                                            refine UL_aload_n 1284 rfl 0 dL_law_1283 rfl rfl ?_
                                                                            refine UL_iload_n 1285 rfl 3 dL_law_1284 rfl rfl ?_
                                                                            refine UL_iconst 1286 rfl (v := 1) dL_law_1285 (by decide) ?_
                                                                            refine UL_iadd 1287 rfl dL_law_1286 ?_
                                                                            obtain ⟨hi, h⟩ := zobd h
                                                                            refine UL_sald 1288 rfl dL_law_1287 hi ?_
                                                                            obtain ⟨x1, h1, h⟩ := zbd h
                                                                            refine UL_cV 1291 rfl 5 [zI (zsx E (zn ((s.1 + 1))))] [] dL_law_1288 cv_L_156 (ctX9_count (Nat.le_refl 5) h1) (by decide) hc rfl rfl (Nat.le_of_ble_eq_true rfl) zoki rfl ?_
                                                                            refine UL_aload_n 1292 rfl 2 dL_law_1291 rfl rfl ?_
                                                                            refine UL_aload_n 1293 rfl 0 dL_law_1292 rfl rfl ?_
                                                                            refine UL_iload_n 1294 rfl 3 dL_law_1293 rfl rfl ?_
                                                                            refine UL_iconst 1295 rfl (v := 1) dL_law_1294 (by decide) ?_
                                                                            refine UL_iadd 1296 rfl dL_law_1295 ?_
                                                                            obtain ⟨hi, h⟩ := zobd h
                                                                            refine UL_sald 1297 rfl dL_law_1296 hi ?_
                                                                            obtain ⟨x2, h1, h⟩ := zbd h
                                                                            refine UL_cV 1300 rfl 6 [zI (zsx E (zn ((s.1 + 1))))] [zI x1.1] dL_law_1297 cv_L_159 (ctX10_count (Nat.le_refl 6) h1) (by decide) hc rfl rfl (Nat.le_of_ble_eq_true rfl) zoki rfl ?_
                                                                            refine UL_icmp_eq 1303 1305 rfl dL_law_1300 (by decide) (fun c => ?_) (fun c => ?_)
                                                                            · have h := zpos c h
                                                                              refine UL_iinc 1308 rfl (s.1 + 6) (L' := [some (zK 60 0), some (zK 9 0), some (zK 10 0), some (zI (s.1 + 6))]) dL_law_1305 rfl rfl (by decide) rfl ?_
                                                                              refine UL_goto 18 dL_law_1308 (by decide) ?_
                                                                              exact kc ((s.1 + 6), x2.2) (zinj h)
                                                                            · have h := zneg c h
                                                                              refine UL_iconst 1304 rfl (v := 0) dL_law_1303 (by decide) ?_
                                                                              exact (kr ((0, x2.2)) (zinj h) rfl).elim
                                                                          · have h := zneg h_34 h
                                                                            refine UL_tabOut 1305 dL_law_33 (by have n0 := zne h_0; simp only [show ((0 : Int32)).toInt = 0 from by decide] at n0; have n1 := zne h_1; simp only [show ((1 : Int32)).toInt = 1 from by decide] at n1; have n2 := zne h_2; simp only [show ((2 : Int32)).toInt = 2 from by decide] at n2; have n3 := zne h_3; simp only [show ((3 : Int32)).toInt = 3 from by decide] at n3; have n4 := zne h_4; simp only [show ((4 : Int32)).toInt = 4 from by decide] at n4; have n5 := zne h_5; simp only [show ((5 : Int32)).toInt = 5 from by decide] at n5; have n6 := zne h_6; simp only [show ((6 : Int32)).toInt = 6 from by decide] at n6; have n7 := zne h_7; simp only [show ((7 : Int32)).toInt = 7 from by decide] at n7; have n8 := zne h_8; simp only [show ((8 : Int32)).toInt = 8 from by decide] at n8; have n9 := zne h_9; simp only [show ((9 : Int32)).toInt = 9 from by decide] at n9; have n10 := zne h_10; simp only [show ((10 : Int32)).toInt = 10 from by decide] at n10; have n11 := zne h_11; simp only [show ((11 : Int32)).toInt = 11 from by decide] at n11; have n12 := zne h_12; simp only [show ((12 : Int32)).toInt = 12 from by decide] at n12; have n13 := zne h_13; simp only [show ((13 : Int32)).toInt = 13 from by decide] at n13; have n14 := zne h_14; simp only [show ((14 : Int32)).toInt = 14 from by decide] at n14; have n15 := zne h_15; simp only [show ((15 : Int32)).toInt = 15 from by decide] at n15; have n16 := zne h_16; simp only [show ((16 : Int32)).toInt = 16 from by decide] at n16; have n17 := zne h_17; simp only [show ((17 : Int32)).toInt = 17 from by decide] at n17; have n18 := zne h_18; simp only [show ((18 : Int32)).toInt = 18 from by decide] at n18; have n19 := zne h_19; simp only [show ((19 : Int32)).toInt = 19 from by decide] at n19; have n20 := zne h_20; simp only [show ((20 : Int32)).toInt = 20 from by decide] at n20; have n21 := zne h_21; simp only [show ((21 : Int32)).toInt = 21 from by decide] at n21; have n22 := zne h_22; simp only [show ((22 : Int32)).toInt = 22 from by decide] at n22; have n23 := zne h_23; simp only [show ((23 : Int32)).toInt = 23 from by decide] at n23; have n24 := zne h_24; simp only [show ((24 : Int32)).toInt = 24 from by decide] at n24; have n25 := zne h_25; simp only [show ((25 : Int32)).toInt = 25 from by decide] at n25; have n26 := zne h_26; simp only [show ((26 : Int32)).toInt = 26 from by decide] at n26; have n27 := zne h_27; simp only [show ((27 : Int32)).toInt = 27 from by decide] at n27; have n28 := zne h_28; simp only [show ((28 : Int32)).toInt = 28 from by decide] at n28; have n29 := zne h_29; simp only [show ((29 : Int32)).toInt = 29 from by decide] at n29; have n30 := zne h_30; simp only [show ((30 : Int32)).toInt = 30 from by decide] at n30; have n31 := zne h_31; simp only [show ((31 : Int32)).toInt = 31 from by decide] at n31; have n32 := zne h_32; simp only [show ((32 : Int32)).toInt = 32 from by decide] at n32; have n33 := zne h_33; simp only [show ((33 : Int32)).toInt = 33 from by decide] at n33; have n34 := zne h_34; simp only [show ((34 : Int32)).toInt = 34 from by decide] at n34; omega) (by decide) ?_
                                                                            refine UL_iinc 1308 rfl (s.1 + 6) (L' := [some (zK 60 0), some (zK 9 0), some (zK 10 0), some (zI (s.1 + 6))]) dL_law_1305 rfl rfl (by decide) rfl ?_
                                                                            refine UL_goto 18 dL_law_1308 (by decide) ?_
                                                                            exact kc ((s.1 + 6), s.2) (zinj h)
