/-! more of the same -/
theorem ok_C_tryNights : okM t_C_tryNights := ⟨by decide +kernel, by decide +kernel, Or.inr (mem_ps (ps := [737, 129, 736, 68]) (by decide +kernel))⟩
theorem ok_C_bare : okM t_C_bare := ⟨by decide +kernel, by decide +kernel, Or.inr (mem_ps (ps := [547, 129, 546, 39]) (by decide +kernel))⟩
theorem ok_C_roomFor : okM t_C_roomFor := ⟨by decide +kernel, by decide +kernel, Or.inr (mem_ps (ps := [612, 129, 611, 49]) (by decide +kernel))⟩
theorem ok_C_bestRoomFor : okM t_C_bestRoomFor := ⟨by decide +kernel, by decide +kernel, Or.inr (mem_ps (ps := [754, 129, 753, 69]) (by decide +kernel))⟩
theorem ok_C_shortestRound : okM t_C_shortestRound := ⟨by decide +kernel, by decide +kernel, Or.inr (mem_ps (ps := [772, 129, 771, 71]) (by decide +kernel))⟩
theorem ok_C_tenToThe : okM t_C_tenToThe := ⟨by decide +kernel, by decide +kernel, Or.inr (mem_ps (ps := [775, 129, 774]) (by decide +kernel))⟩
theorem ok_C_fitsFound : okM t_C_fitsFound := ⟨by decide +kernel, by decide +kernel, Or.inr (mem_ps (ps := [816, 129, 815, 75]) (by decide +kernel))⟩
theorem ok_C_howManyFit : okM t_C_howManyFit := ⟨by decide +kernel, by decide +kernel, Or.inr (mem_ps (ps := [808, 129, 807, 73]) (by decide +kernel))⟩
theorem ok_C_howManyOfKindFit : okM t_C_howManyOfKindFit := ⟨by decide +kernel, by decide +kernel, Or.inr (mem_ps (ps := [812, 129, 811, 74]) (by decide +kernel))⟩
theorem ok_C_tallyFits : okM t_C_tallyFits := ⟨by decide +kernel, by decide +kernel, Or.inr (mem_ps (ps := [837, 129, 836, 79]) (by decide +kernel))⟩
theorem ok_C_tallyCells : okM t_C_tallyCells := ⟨by decide +kernel, by decide +kernel, Or.inr (mem_ps (ps := [842, 129, 841, 80]) (by decide +kernel))⟩
theorem ok_C_leastFit : okM t_C_leastFit := ⟨by decide +kernel, by decide +kernel, Or.inr (mem_ps (ps := [825, 129, 824, 77]) (by decide +kernel))⟩
theorem ok_C_kindsThatFit : okM t_C_kindsThatFit := ⟨by decide +kernel, by decide +kernel, Or.inr (mem_ps (ps := [829, 129, 828, 78]) (by decide +kernel))⟩
theorem ok_M_init : okM t_M_init := ⟨by decide +kernel, by decide +kernel, Or.inr (mem_ps (ps := [884, 137, 883]) (by decide +kernel))⟩
theorem ok_M_in : okM t_M_in := ⟨by decide +kernel, by decide +kernel, Or.inr (mem_ps (ps := [894, 137, 893]) (by decide +kernel))⟩
theorem ok_M_has : okM t_M_has := ⟨by decide +kernel, by decide +kernel, Or.inr (mem_ps (ps := [1252, 137, 1251]) (by decide +kernel))⟩
theorem okg_7 : ∀ t ∈ mt_7, okM t := List.forall_mem_cons.mpr ⟨ok_C_tryNights, List.forall_mem_cons.mpr ⟨ok_C_bare, List.forall_mem_cons.mpr ⟨ok_C_roomFor, List.forall_mem_cons.mpr ⟨ok_C_bestRoomFor, List.forall_mem_cons.mpr ⟨ok_C_shortestRound, List.forall_mem_cons.mpr ⟨ok_C_tenToThe, List.forall_mem_cons.mpr ⟨ok_C_fitsFound, List.forall_mem_cons.mpr ⟨ok_C_howManyFit, List.forall_mem_cons.mpr ⟨ok_C_howManyOfKindFit, List.forall_mem_cons.mpr ⟨ok_C_tallyFits, List.forall_mem_cons.mpr ⟨ok_C_tallyCells, List.forall_mem_cons.mpr ⟨ok_C_leastFit, List.forall_mem_cons.mpr ⟨ok_C_kindsThatFit, List.forall_mem_cons.mpr ⟨ok_M_init, List.forall_mem_cons.mpr ⟨ok_M_in, List.forall_mem_cons.mpr ⟨ok_M_has, fun t h => by cases h⟩⟩⟩⟩⟩⟩⟩⟩⟩⟩⟩⟩⟩⟩⟩⟩
theorem ok_M_holds : okM t_M_holds := ⟨by decide +kernel, by decide +kernel, Or.inr (mem_ps (ps := [1053, 137, 1052]) (by decide +kernel))⟩
theorem ok_M_bits : okM t_M_bits := ⟨by decide +kernel, by decide +kernel, Or.inr (mem_ps (ps := [1064, 137, 1063]) (by decide +kernel))⟩
theorem ok_M_lesser : okM t_M_lesser := ⟨by decide +kernel, by decide +kernel, Or.inr (mem_ps (ps := [1099, 137, 1098]) (by decide +kernel))⟩
theorem ok_M_greater : okM t_M_greater := ⟨by decide +kernel, by decide +kernel, Or.inr (mem_ps (ps := [1079, 137, 1078]) (by decide +kernel))⟩
theorem ok_M_copies : okM t_M_copies := ⟨by decide +kernel, by decide +kernel, Or.inr (mem_ps (ps := [1019, 137, 1018]) (by decide +kernel))⟩
theorem ok_M_begins : okM t_M_begins := ⟨by decide +kernel, by decide +kernel, Or.inr (mem_ps (ps := [889, 137, 888, 84]) (by decide +kernel))⟩
theorem ok_M_feed : okM t_M_feed := ⟨by decide +kernel, by decide +kernel, Or.inr (mem_ps (ps := [971, 137, 969, 970]) (by decide +kernel))⟩
theorem ok_M_here : okM t_M_here := ⟨by decide +kernel, by decide +kernel, Or.inr (mem_ps (ps := [986, 137, 985, 86]) (by decide +kernel))⟩
theorem ok_M_step : okM t_M_step := ⟨by decide +kernel, by decide +kernel, Or.inr (mem_ps (ps := [982, 137, 981, 85]) (by decide +kernel))⟩
theorem ok_M_fails : okM t_M_fails := ⟨by decide +kernel, by decide +kernel, Or.inr (mem_ps (ps := [996, 137, 995, 88]) (by decide +kernel))⟩
theorem ok_M_number : okM t_M_number := ⟨by decide +kernel, by decide +kernel, Or.inr (mem_ps (ps := [1000, 137, 999, 89]) (by decide +kernel))⟩
theorem ok_M_ends : okM t_M_ends := ⟨by decide +kernel, by decide +kernel, Or.inr (mem_ps (ps := [1004, 137, 1003, 90]) (by decide +kernel))⟩
theorem ok_M_readsPerson : okM t_M_readsPerson := ⟨by decide +kernel, by decide +kernel, Or.inr (mem_ps (ps := [1008, 137, 1007, 91]) (by decide +kernel))⟩
theorem ok_M_readsWind : okM t_M_readsWind := ⟨by decide +kernel, by decide +kernel, Or.inr (mem_ps (ps := [1012, 137, 1011, 92]) (by decide +kernel))⟩
theorem ok_M_readsRock : okM t_M_readsRock := ⟨by decide +kernel, by decide +kernel, Or.inr (mem_ps (ps := [1016, 137, 1015, 93]) (by decide +kernel))⟩
theorem ok_M_readsClause : okM t_M_readsClause := ⟨by decide +kernel, by decide +kernel, Or.inr (mem_ps (ps := [992, 137, 991, 87]) (by decide +kernel))⟩
theorem okg_8 : ∀ t ∈ mt_8, okM t := List.forall_mem_cons.mpr ⟨ok_M_holds, List.forall_mem_cons.mpr ⟨ok_M_bits, List.forall_mem_cons.mpr ⟨ok_M_lesser, List.forall_mem_cons.mpr ⟨ok_M_greater, List.forall_mem_cons.mpr ⟨ok_M_copies, List.forall_mem_cons.mpr ⟨ok_M_begins, List.forall_mem_cons.mpr ⟨ok_M_feed, List.forall_mem_cons.mpr ⟨ok_M_here, List.forall_mem_cons.mpr ⟨ok_M_step, List.forall_mem_cons.mpr ⟨ok_M_fails, List.forall_mem_cons.mpr ⟨ok_M_number, List.forall_mem_cons.mpr ⟨ok_M_ends, List.forall_mem_cons.mpr ⟨ok_M_readsPerson, List.forall_mem_cons.mpr ⟨ok_M_readsWind, List.forall_mem_cons.mpr ⟨ok_M_readsRock, List.forall_mem_cons.mpr ⟨ok_M_readsClause, fun t h => by cases h⟩⟩⟩⟩⟩⟩⟩⟩⟩⟩⟩⟩⟩⟩⟩⟩
theorem ok_M_north : okM t_M_north := ⟨by decide +kernel, by decide +kernel, Or.inr (mem_ps (ps := [978, 137, 976, 977]) (by decide +kernel))⟩
theorem ok_M_fault : okM t_M_fault := ⟨by decide +kernel, by decide +kernel, Or.inr (mem_ps (ps := [1023, 137, 1021, 1022]) (by decide +kernel))⟩
theorem ok_M_cells : okM t_M_cells := ⟨by decide +kernel, by decide +kernel, Or.inr (mem_ps (ps := [1047, 137, 1046, 98]) (by decide +kernel))⟩
theorem ok_M_isCell : okM t_M_isCell := ⟨by decide +kernel, by decide +kernel, Or.inr (mem_ps (ps := [1123, 137, 1122, 111]) (by decide +kernel))⟩
theorem ok_M_isPerson : okM t_M_isPerson := ⟨by decide +kernel, by decide +kernel, Or.inr (mem_ps (ps := [1140, 137, 1139, 114]) (by decide +kernel))⟩
theorem ok_M_rocks : okM t_M_rocks := ⟨by decide +kernel, by decide +kernel, Or.inr (mem_ps (ps := [1115, 137, 1114, 110]) (by decide +kernel))⟩
theorem ok_M_isRock : okM t_M_isRock := ⟨by decide +kernel, by decide +kernel, Or.inr (mem_ps (ps := [1128, 137, 1127, 112]) (by decide +kernel))⟩
theorem ok_M_beside : okM t_M_beside := ⟨by decide +kernel, by decide +kernel, Or.inr (mem_ps (ps := [1061, 137, 1060, 100]) (by decide +kernel))⟩
theorem ok_M_shape : okM t_M_shape := ⟨by decide +kernel, by decide +kernel, Or.inr (mem_ps (ps := [1087, 137, 1086, 104]) (by decide +kernel))⟩
theorem ok_M_dented : okM t_M_dented := ⟨by decide +kernel, by decide +kernel, Or.inr (mem_ps (ps := [1043, 137, 1042, 97]) (by decide +kernel))⟩
theorem ok_M_mayLie : okM t_M_mayLie := ⟨by decide +kernel, by decide +kernel, Or.inr (mem_ps (ps := [1152, 137, 1151, 116]) (by decide +kernel))⟩
theorem ok_M_dents : okM t_M_dents := ⟨by decide +kernel, by decide +kernel, Or.inr (mem_ps (ps := [1165, 137, 1164, 119]) (by decide +kernel))⟩
theorem ok_M_group : okM t_M_group := ⟨by decide +kernel, by decide +kernel, Or.inr (mem_ps (ps := [1057, 137, 1056, 99]) (by decide +kernel))⟩
theorem ok_M_lowest : okM t_M_lowest := ⟨by decide +kernel, by decide +kernel, Or.inr (mem_ps (ps := [1050, 137, 1049]) (by decide +kernel))⟩
theorem ok_M_counted : okM t_M_counted := ⟨by decide +kernel, by decide +kernel, Or.inr (mem_ps (ps := [1067, 137, 1066]) (by decide +kernel))⟩
theorem ok_M_countOn : okM t_M_countOn := ⟨by decide +kernel, by decide +kernel, Or.inr (mem_ps (ps := [1039, 137, 1038, 96]) (by decide +kernel))⟩
theorem okg_9 : ∀ t ∈ mt_9, okM t := List.forall_mem_cons.mpr ⟨ok_M_north, List.forall_mem_cons.mpr ⟨ok_M_fault, List.forall_mem_cons.mpr ⟨ok_M_cells, List.forall_mem_cons.mpr ⟨ok_M_isCell, List.forall_mem_cons.mpr ⟨ok_M_isPerson, List.forall_mem_cons.mpr ⟨ok_M_rocks, List.forall_mem_cons.mpr ⟨ok_M_isRock, List.forall_mem_cons.mpr ⟨ok_M_beside, List.forall_mem_cons.mpr ⟨ok_M_shape, List.forall_mem_cons.mpr ⟨ok_M_dented, List.forall_mem_cons.mpr ⟨ok_M_mayLie, List.forall_mem_cons.mpr ⟨ok_M_dents, List.forall_mem_cons.mpr ⟨ok_M_group, List.forall_mem_cons.mpr ⟨ok_M_lowest, List.forall_mem_cons.mpr ⟨ok_M_counted, List.forall_mem_cons.mpr ⟨ok_M_countOn, fun t h => by cases h⟩⟩⟩⟩⟩⟩⟩⟩⟩⟩⟩⟩⟩⟩⟩⟩
theorem ok_M_groups : okM t_M_groups := ⟨by decide +kernel, by decide +kernel, Or.inr (mem_ps (ps := [1076, 137, 1075, 102]) (by decide +kernel))⟩
theorem ok_M_isShape : okM t_M_isShape := ⟨by decide +kernel, by decide +kernel, Or.inr (mem_ps (ps := [1083, 137, 1082, 103]) (by decide +kernel))⟩
theorem ok_M_isLying : okM t_M_isLying := ⟨by decide +kernel, by decide +kernel, Or.inr (mem_ps (ps := [1035, 137, 1034, 95]) (by decide +kernel))⟩
theorem ok_M_whoLies : okM t_M_whoLies := ⟨by decide +kernel, by decide +kernel, Or.inr (mem_ps (ps := [1031, 137, 1030, 94]) (by decide +kernel))⟩
theorem ok_M_truly : okM t_M_truly := ⟨by decide +kernel, by decide +kernel, Or.inr (mem_ps (ps := [1072, 137, 1071, 101]) (by decide +kernel))⟩
theorem ok_M_steps : okM t_M_steps := ⟨by decide +kernel, by decide +kernel, Or.inr (mem_ps (ps := [1096, 137, 1095, 106]) (by decide +kernel))⟩
theorem ok_M_farOut : okM t_M_farOut := ⟨by decide +kernel, by decide +kernel, Or.inr (mem_ps (ps := [1091, 137, 1090, 105]) (by decide +kernel))⟩
theorem ok_M_layAside : okM t_M_layAside := ⟨by decide +kernel, by decide +kernel, Or.inr (mem_ps (ps := [1107, 137, 1106, 108]) (by decide +kernel))⟩
theorem ok_M_bare : okM t_M_bare := ⟨by decide +kernel, by decide +kernel, Or.inr (mem_ps (ps := [1103, 137, 1102, 107]) (by decide +kernel))⟩
theorem ok_M_told : okM t_M_told := ⟨by decide +kernel, by decide +kernel, Or.inr (mem_ps (ps := [1027, 137, 1025, 1026]) (by decide +kernel))⟩
theorem ok_M_whoIsAt : okM t_M_whoIsAt := ⟨by decide +kernel, by decide +kernel, Or.inr (mem_ps (ps := [1132, 137, 1131, 113]) (by decide +kernel))⟩
theorem ok_M_cell : okM t_M_cell := ⟨by decide +kernel, by decide +kernel, Or.inr (mem_ps (ps := [1119, 137, 1117, 1118]) (by decide +kernel))⟩
theorem ok_M_shapeOf : okM t_M_shapeOf := ⟨by decide +kernel, by decide +kernel, Or.inr (mem_ps (ps := [1144, 137, 1143, 115]) (by decide +kernel))⟩
theorem ok_M_person : okM t_M_person := ⟨by decide +kernel, by decide +kernel, Or.inr (mem_ps (ps := [1136, 137, 1134, 1135]) (by decide +kernel))⟩
theorem ok_M_remember : okM t_M_remember := ⟨by decide +kernel, by decide +kernel, Or.inr (mem_ps (ps := [1157, 137, 1156, 117]) (by decide +kernel))⟩
theorem ok_M_lies : okM t_M_lies := ⟨by decide +kernel, by decide +kernel, Or.inr (mem_ps (ps := [1161, 137, 1160, 118]) (by decide +kernel))⟩
theorem okg_10 : ∀ t ∈ mt_10, okM t := List.forall_mem_cons.mpr ⟨ok_M_groups, List.forall_mem_cons.mpr ⟨ok_M_isShape, List.forall_mem_cons.mpr ⟨ok_M_isLying, List.forall_mem_cons.mpr ⟨ok_M_whoLies, List.forall_mem_cons.mpr ⟨ok_M_truly, List.forall_mem_cons.mpr ⟨ok_M_steps, List.forall_mem_cons.mpr ⟨ok_M_farOut, List.forall_mem_cons.mpr ⟨ok_M_layAside, List.forall_mem_cons.mpr ⟨ok_M_bare, List.forall_mem_cons.mpr ⟨ok_M_told, List.forall_mem_cons.mpr ⟨ok_M_whoIsAt, List.forall_mem_cons.mpr ⟨ok_M_cell, List.forall_mem_cons.mpr ⟨ok_M_shapeOf, List.forall_mem_cons.mpr ⟨ok_M_person, List.forall_mem_cons.mpr ⟨ok_M_remember, List.forall_mem_cons.mpr ⟨ok_M_lies, fun t h => by cases h⟩⟩⟩⟩⟩⟩⟩⟩⟩⟩⟩⟩⟩⟩⟩⟩
theorem ok_M_lie : okM t_M_lie := ⟨by decide +kernel, by decide +kernel, Or.inr (mem_ps (ps := [1148, 137, 1146, 1147]) (by decide +kernel))⟩
theorem ok_M_rise : okM t_M_rise := ⟨by decide +kernel, by decide +kernel, Or.inr (mem_ps (ps := [1169, 137, 1167, 1168]) (by decide +kernel))⟩
theorem ok_M_nightGoes : okM t_M_nightGoes := ⟨by decide +kernel, by decide +kernel, Or.inr (mem_ps (ps := [1111, 137, 1110, 109]) (by decide +kernel))⟩
theorem ok_M_refuses : okM t_M_refuses := ⟨by decide +kernel, by decide +kernel, Or.inr (mem_ps (ps := [1177, 137, 1176, 120]) (by decide +kernel))⟩
theorem ok_M_night : okM t_M_night := ⟨by decide +kernel, by decide +kernel, Or.inr (mem_ps (ps := [1173, 137, 1171, 1172]) (by decide +kernel))⟩
theorem ok_M_thaw : okM t_M_thaw := ⟨by decide +kernel, by decide +kernel, Or.inr (mem_ps (ps := [1182, 137, 1180, 1181]) (by decide +kernel))⟩
theorem ok_M_snows : okM t_M_snows := ⟨by decide +kernel, by decide +kernel, Or.inr (mem_ps (ps := [1190, 137, 1189, 121]) (by decide +kernel))⟩
theorem ok_M_snow : okM t_M_snow := ⟨by decide +kernel, by decide +kernel, Or.inr (mem_ps (ps := [1186, 137, 1184, 1185]) (by decide +kernel))⟩
theorem ok_M_runs : okM t_M_runs := ⟨by decide +kernel, by decide +kernel, Or.inr (mem_ps (ps := [1198, 137, 1197, 122]) (by decide +kernel))⟩
theorem ok_M_hare : okM t_M_hare := ⟨by decide +kernel, by decide +kernel, Or.inr (mem_ps (ps := [1194, 137, 1192, 1193]) (by decide +kernel))⟩
theorem ok_M_pin : okM t_M_pin := ⟨by decide +kernel, by decide +kernel, Or.inr (mem_ps (ps := [1202, 137, 1200, 1201]) (by decide +kernel))⟩
theorem ok_M_wind : okM t_M_wind := ⟨by decide +kernel, by decide +kernel, Or.inr (mem_ps (ps := [1206, 137, 1204, 1205]) (by decide +kernel))⟩
theorem ok_M_draw : okM t_M_draw := ⟨by decide +kernel, by decide +kernel, Or.inr (mem_ps (ps := [1219, 137, 1218, 124]) (by decide +kernel))⟩
theorem ok_M_draws : okM t_M_draws := ⟨by decide +kernel, by decide +kernel, Or.inr (mem_ps (ps := [1215, 137, 1214, 123]) (by decide +kernel))⟩
theorem ok_M_drift : okM t_M_drift := ⟨by decide +kernel, by decide +kernel, Or.inr (mem_ps (ps := [1211, 137, 1209, 1210]) (by decide +kernel))⟩
theorem ok_M_undo : okM t_M_undo := ⟨by decide +kernel, by decide +kernel, Or.inr (mem_ps (ps := [1227, 137, 1225, 1226]) (by decide +kernel))⟩
theorem okg_11 : ∀ t ∈ mt_11, okM t := List.forall_mem_cons.mpr ⟨ok_M_lie, List.forall_mem_cons.mpr ⟨ok_M_rise, List.forall_mem_cons.mpr ⟨ok_M_nightGoes, List.forall_mem_cons.mpr ⟨ok_M_refuses, List.forall_mem_cons.mpr ⟨ok_M_night, List.forall_mem_cons.mpr ⟨ok_M_thaw, List.forall_mem_cons.mpr ⟨ok_M_snows, List.forall_mem_cons.mpr ⟨ok_M_snow, List.forall_mem_cons.mpr ⟨ok_M_runs, List.forall_mem_cons.mpr ⟨ok_M_hare, List.forall_mem_cons.mpr ⟨ok_M_pin, List.forall_mem_cons.mpr ⟨ok_M_wind, List.forall_mem_cons.mpr ⟨ok_M_draw, List.forall_mem_cons.mpr ⟨ok_M_draws, List.forall_mem_cons.mpr ⟨ok_M_drift, List.forall_mem_cons.mpr ⟨ok_M_undo, fun t h => by cases h⟩⟩⟩⟩⟩⟩⟩⟩⟩⟩⟩⟩⟩⟩⟩⟩
theorem ok_M_left : okM t_M_left := ⟨by decide +kernel, by decide +kernel, Or.inr (mem_ps (ps := [1232, 137, 1230, 1231]) (by decide +kernel))⟩
theorem ok_M_willCount : okM t_M_willCount := ⟨by decide +kernel, by decide +kernel, Or.inr (mem_ps (ps := [1236, 137, 1234, 1235]) (by decide +kernel))⟩
theorem ok_M_wrongFirst : okM t_M_wrongFirst := ⟨by decide +kernel, by decide +kernel, Or.inr (mem_ps (ps := [1240, 137, 1238, 1239]) (by decide +kernel))⟩
theorem ok_M_canLie : okM t_M_canLie := ⟨by decide +kernel, by decide +kernel, Or.inr (mem_ps (ps := [1244, 137, 1242, 1243]) (by decide +kernel))⟩
theorem ok_M_nextOrder : okM t_M_nextOrder := ⟨by decide +kernel, by decide +kernel, Or.inr (mem_ps (ps := [1257, 137, 1256, 125]) (by decide +kernel))⟩
theorem ok_M_round : okM t_M_round := ⟨by decide +kernel, by decide +kernel, Or.inr (mem_ps (ps := [1249, 137, 1247, 1248]) (by decide +kernel))⟩
theorem ok_M_isBy : okM t_M_isBy := ⟨by decide +kernel, by decide +kernel, Or.inr (mem_ps (ps := [1265, 137, 1264, 126]) (by decide +kernel))⟩
theorem ok_M_touch : okM t_M_touch := ⟨by decide +kernel, by decide +kernel, Or.inr (mem_ps (ps := [1261, 137, 1259, 1260]) (by decide +kernel))⟩
theorem ok_M_still : okM t_M_still := ⟨by decide +kernel, by decide +kernel, Or.inr (mem_ps (ps := [1269, 137, 1267, 1268]) (by decide +kernel))⟩
theorem ok_M_find : okM t_M_find := ⟨by decide +kernel, by decide +kernel, Or.inr (mem_ps (ps := [1276, 137, 1274, 1275]) (by decide +kernel))⟩
theorem ok_M_isSo : okM t_M_isSo := ⟨by decide +kernel, by decide +kernel, Or.inr (mem_ps (ps := [1285, 137, 1284, 127]) (by decide +kernel))⟩
theorem ok_M_fits : okM t_M_fits := ⟨by decide +kernel, by decide +kernel, Or.inr (mem_ps (ps := [1280, 137, 1278, 1279]) (by decide +kernel))⟩
theorem ok_M_look : okM t_M_look := ⟨by decide +kernel, by decide +kernel, Or.inr (mem_ps (ps := [1289, 137, 1287, 1288]) (by decide +kernel))⟩
theorem ok_M_write : okM t_M_write := ⟨by decide +kernel, by decide +kernel, Or.inr (mem_ps (ps := [1294, 137, 1292, 1293]) (by decide +kernel))⟩
theorem ok_M_judge : okM t_M_judge := ⟨by decide +kernel, by decide +kernel, Or.inr (mem_ps (ps := [1299, 137, 1297, 1298]) (by decide +kernel))⟩
theorem ok_M_tear : okM t_M_tear := ⟨by decide +kernel, by decide +kernel, Or.inr (mem_ps (ps := [1303, 137, 1301, 1302]) (by decide +kernel))⟩
theorem okg_12 : ∀ t ∈ mt_12, okM t := List.forall_mem_cons.mpr ⟨ok_M_left, List.forall_mem_cons.mpr ⟨ok_M_willCount, List.forall_mem_cons.mpr ⟨ok_M_wrongFirst, List.forall_mem_cons.mpr ⟨ok_M_canLie, List.forall_mem_cons.mpr ⟨ok_M_nextOrder, List.forall_mem_cons.mpr ⟨ok_M_round, List.forall_mem_cons.mpr ⟨ok_M_isBy, List.forall_mem_cons.mpr ⟨ok_M_touch, List.forall_mem_cons.mpr ⟨ok_M_still, List.forall_mem_cons.mpr ⟨ok_M_find, List.forall_mem_cons.mpr ⟨ok_M_isSo, List.forall_mem_cons.mpr ⟨ok_M_fits, List.forall_mem_cons.mpr ⟨ok_M_look, List.forall_mem_cons.mpr ⟨ok_M_write, List.forall_mem_cons.mpr ⟨ok_M_judge, List.forall_mem_cons.mpr ⟨ok_M_tear, fun t h => by cases h⟩⟩⟩⟩⟩⟩⟩⟩⟩⟩⟩⟩⟩⟩⟩⟩
theorem ok_M_seed : okM t_M_seed := ⟨by decide +kernel, by decide +kernel, Or.inr (mem_ps (ps := [1307, 137, 1305, 1306]) (by decide +kernel))⟩
theorem ok_M_keep : okM t_M_keep := ⟨by decide +kernel, by decide +kernel, Or.inr (mem_ps (ps := [1311, 137, 1309, 1310]) (by decide +kernel))⟩
theorem ok_M_goBack : okM t_M_goBack := ⟨by decide +kernel, by decide +kernel, Or.inr (mem_ps (ps := [1315, 137, 1313, 1314]) (by decide +kernel))⟩
theorem ok_JI_bitCount : okM t_JI_bitCount := ⟨by decide +kernel, by decide +kernel, Or.inr (mem_ps (ps := [765, 140, 764]) (by decide +kernel))⟩
theorem ok_JL_bitCount : okM t_JL_bitCount := ⟨by decide +kernel, by decide +kernel, Or.inr (mem_ps (ps := [414, 138, 413]) (by decide +kernel))⟩
theorem ok_JA_fillL : okM t_JA_fillL := ⟨by decide +kernel, by decide +kernel, Or.inr (mem_ps (ps := [371, 133, 370]) (by decide +kernel))⟩
theorem ok_JA_fill : okM t_JA_fill := ⟨by decide +kernel, by decide +kernel, Or.inr (mem_ps (ps := [241, 133, 240]) (by decide +kernel))⟩
theorem ok_W_law : okM t_W_law := ⟨by decide +kernel, by
  show (k_W_law).all (chkE 7 4 (some .boolean) (decide (y_W_law.name = "<init>")) code) = true
  unfold k_W_law
  rw [List.all_append, List.all_append, List.all_append, List.all_append, List.all_append, List.all_append, List.all_append, List.all_append, List.all_append, List.all_append, List.all_append, List.all_append, List.all_append, List.all_append, okp_0, okp_1, okp_2, okp_3, okp_4, okp_5, okp_6, okp_7, okp_8, okp_9, okp_10, okp_11, okp_12, okp_13, okp_14]
  rfl, Or.inl rfl⟩
theorem okg_13 : ∀ t ∈ mt_13, okM t := List.forall_mem_cons.mpr ⟨ok_M_seed, List.forall_mem_cons.mpr ⟨ok_M_keep, List.forall_mem_cons.mpr ⟨ok_M_goBack, List.forall_mem_cons.mpr ⟨ok_JI_bitCount, List.forall_mem_cons.mpr ⟨ok_JL_bitCount, List.forall_mem_cons.mpr ⟨ok_JA_fillL, List.forall_mem_cons.mpr ⟨ok_JA_fill, List.forall_mem_cons.mpr ⟨ok_W_law, fun t h => by cases h⟩⟩⟩⟩⟩⟩⟩⟩
theorem ok_all : ∀ g ∈ mts, ∀ t ∈ g, okM t := List.forall_mem_cons.mpr ⟨okg_0, List.forall_mem_cons.mpr ⟨okg_1, List.forall_mem_cons.mpr ⟨okg_2, List.forall_mem_cons.mpr ⟨okg_3, List.forall_mem_cons.mpr ⟨okg_4, List.forall_mem_cons.mpr ⟨okg_5, List.forall_mem_cons.mpr ⟨okg_6, List.forall_mem_cons.mpr ⟨okg_7, List.forall_mem_cons.mpr ⟨okg_8, List.forall_mem_cons.mpr ⟨okg_9, List.forall_mem_cons.mpr ⟨okg_10, List.forall_mem_cons.mpr ⟨okg_11, List.forall_mem_cons.mpr ⟨okg_12, List.forall_mem_cons.mpr ⟨okg_13, fun t h => by cases h⟩⟩⟩⟩⟩⟩⟩⟩⟩⟩⟩⟩⟩⟩
theorem ok_mt {M : Nat} {t : Meta} (h : mt M = some t) : okM t := by
  unfold mt at h
  have h1 : t ∈ mts.getD (M / 16) [] := List.mem_of_getElem? h
  rw [List.getD_eq_getElem?_getD] at h1
  cases hg : mts[M / 16]? with
  | none => rw [hg] at h1; cases h1
  | some g => rw [hg] at h1; exact ok_all g (List.mem_of_getElem? hg) t h1
theorem gC_mem {pc : Nat} {e : Ent} : ∀ {k : List (Nat × Ent)}, gC k pc = some e → (pc, e) ∈ k
  | [], h => by cases h
  | (j, x) :: r, h => by
    unfold gC at h
    cases hj : Nat.beq j pc with
    | true =>
      rw [hj] at h
      cases h
      rw [Nat.eq_of_beq_eq_true hj]
      exact List.mem_cons_self
    | false =>
      rw [hj] at h
      exact List.mem_cons_of_mem _ (gC_mem h)

