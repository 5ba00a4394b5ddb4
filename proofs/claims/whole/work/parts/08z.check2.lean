/-! more of the same -/
theorem ok_C_tryNights : okM t_C_tryNights := ⟨by decide +kernel, by decide +kernel, Or.inr (mem_ps (ps := [736, 128, 735, 68]) (by decide +kernel))⟩
theorem ok_C_bare : okM t_C_bare := ⟨by decide +kernel, by decide +kernel, Or.inr (mem_ps (ps := [546, 128, 545, 39]) (by decide +kernel))⟩
theorem ok_C_roomFor : okM t_C_roomFor := ⟨by decide +kernel, by decide +kernel, Or.inr (mem_ps (ps := [611, 128, 610, 49]) (by decide +kernel))⟩
theorem ok_C_bestRoomFor : okM t_C_bestRoomFor := ⟨by decide +kernel, by decide +kernel, Or.inr (mem_ps (ps := [753, 128, 752, 69]) (by decide +kernel))⟩
theorem ok_C_shortestRound : okM t_C_shortestRound := ⟨by decide +kernel, by decide +kernel, Or.inr (mem_ps (ps := [770, 128, 769]) (by decide +kernel))⟩
theorem ok_C_tenToThe : okM t_C_tenToThe := ⟨by decide +kernel, by decide +kernel, Or.inr (mem_ps (ps := [773, 128, 772]) (by decide +kernel))⟩
theorem ok_C_fitsFound : okM t_C_fitsFound := ⟨by decide +kernel, by decide +kernel, Or.inr (mem_ps (ps := [814, 128, 813, 74]) (by decide +kernel))⟩
theorem ok_C_howManyFit : okM t_C_howManyFit := ⟨by decide +kernel, by decide +kernel, Or.inr (mem_ps (ps := [806, 128, 805, 72]) (by decide +kernel))⟩
theorem ok_C_howManyOfKindFit : okM t_C_howManyOfKindFit := ⟨by decide +kernel, by decide +kernel, Or.inr (mem_ps (ps := [810, 128, 809, 73]) (by decide +kernel))⟩
theorem ok_C_tallyFits : okM t_C_tallyFits := ⟨by decide +kernel, by decide +kernel, Or.inr (mem_ps (ps := [835, 128, 834, 78]) (by decide +kernel))⟩
theorem ok_C_tallyCells : okM t_C_tallyCells := ⟨by decide +kernel, by decide +kernel, Or.inr (mem_ps (ps := [840, 128, 839, 79]) (by decide +kernel))⟩
theorem ok_C_leastFit : okM t_C_leastFit := ⟨by decide +kernel, by decide +kernel, Or.inr (mem_ps (ps := [823, 128, 822, 76]) (by decide +kernel))⟩
theorem ok_C_kindsThatFit : okM t_C_kindsThatFit := ⟨by decide +kernel, by decide +kernel, Or.inr (mem_ps (ps := [827, 128, 826, 77]) (by decide +kernel))⟩
theorem ok_M_init : okM t_M_init := ⟨by decide +kernel, by decide +kernel, Or.inr (mem_ps (ps := [882, 136, 881]) (by decide +kernel))⟩
theorem ok_M_in : okM t_M_in := ⟨by decide +kernel, by decide +kernel, Or.inr (mem_ps (ps := [892, 136, 891]) (by decide +kernel))⟩
theorem ok_M_has : okM t_M_has := ⟨by decide +kernel, by decide +kernel, Or.inr (mem_ps (ps := [1250, 136, 1249]) (by decide +kernel))⟩
theorem okg_7 : ∀ t ∈ mt_7, okM t := List.forall_mem_cons.mpr ⟨ok_C_tryNights, List.forall_mem_cons.mpr ⟨ok_C_bare, List.forall_mem_cons.mpr ⟨ok_C_roomFor, List.forall_mem_cons.mpr ⟨ok_C_bestRoomFor, List.forall_mem_cons.mpr ⟨ok_C_shortestRound, List.forall_mem_cons.mpr ⟨ok_C_tenToThe, List.forall_mem_cons.mpr ⟨ok_C_fitsFound, List.forall_mem_cons.mpr ⟨ok_C_howManyFit, List.forall_mem_cons.mpr ⟨ok_C_howManyOfKindFit, List.forall_mem_cons.mpr ⟨ok_C_tallyFits, List.forall_mem_cons.mpr ⟨ok_C_tallyCells, List.forall_mem_cons.mpr ⟨ok_C_leastFit, List.forall_mem_cons.mpr ⟨ok_C_kindsThatFit, List.forall_mem_cons.mpr ⟨ok_M_init, List.forall_mem_cons.mpr ⟨ok_M_in, List.forall_mem_cons.mpr ⟨ok_M_has, fun t h => by cases h⟩⟩⟩⟩⟩⟩⟩⟩⟩⟩⟩⟩⟩⟩⟩⟩
theorem ok_M_holds : okM t_M_holds := ⟨by decide +kernel, by decide +kernel, Or.inr (mem_ps (ps := [1051, 136, 1050]) (by decide +kernel))⟩
theorem ok_M_bits : okM t_M_bits := ⟨by decide +kernel, by decide +kernel, Or.inr (mem_ps (ps := [1062, 136, 1061]) (by decide +kernel))⟩
theorem ok_M_lesser : okM t_M_lesser := ⟨by decide +kernel, by decide +kernel, Or.inr (mem_ps (ps := [1097, 136, 1096]) (by decide +kernel))⟩
theorem ok_M_greater : okM t_M_greater := ⟨by decide +kernel, by decide +kernel, Or.inr (mem_ps (ps := [1077, 136, 1076]) (by decide +kernel))⟩
theorem ok_M_copies : okM t_M_copies := ⟨by decide +kernel, by decide +kernel, Or.inr (mem_ps (ps := [1017, 136, 1016]) (by decide +kernel))⟩
theorem ok_M_begins : okM t_M_begins := ⟨by decide +kernel, by decide +kernel, Or.inr (mem_ps (ps := [887, 136, 886, 83]) (by decide +kernel))⟩
theorem ok_M_feed : okM t_M_feed := ⟨by decide +kernel, by decide +kernel, Or.inr (mem_ps (ps := [969, 136, 967, 968]) (by decide +kernel))⟩
theorem ok_M_here : okM t_M_here := ⟨by decide +kernel, by decide +kernel, Or.inr (mem_ps (ps := [984, 136, 983, 85]) (by decide +kernel))⟩
theorem ok_M_step : okM t_M_step := ⟨by decide +kernel, by decide +kernel, Or.inr (mem_ps (ps := [980, 136, 979, 84]) (by decide +kernel))⟩
theorem ok_M_fails : okM t_M_fails := ⟨by decide +kernel, by decide +kernel, Or.inr (mem_ps (ps := [994, 136, 993, 87]) (by decide +kernel))⟩
theorem ok_M_number : okM t_M_number := ⟨by decide +kernel, by decide +kernel, Or.inr (mem_ps (ps := [998, 136, 997, 88]) (by decide +kernel))⟩
theorem ok_M_ends : okM t_M_ends := ⟨by decide +kernel, by decide +kernel, Or.inr (mem_ps (ps := [1002, 136, 1001, 89]) (by decide +kernel))⟩
theorem ok_M_readsPerson : okM t_M_readsPerson := ⟨by decide +kernel, by decide +kernel, Or.inr (mem_ps (ps := [1006, 136, 1005, 90]) (by decide +kernel))⟩
theorem ok_M_readsWind : okM t_M_readsWind := ⟨by decide +kernel, by decide +kernel, Or.inr (mem_ps (ps := [1010, 136, 1009, 91]) (by decide +kernel))⟩
theorem ok_M_readsRock : okM t_M_readsRock := ⟨by decide +kernel, by decide +kernel, Or.inr (mem_ps (ps := [1014, 136, 1013, 92]) (by decide +kernel))⟩
theorem ok_M_readsClause : okM t_M_readsClause := ⟨by decide +kernel, by decide +kernel, Or.inr (mem_ps (ps := [990, 136, 989, 86]) (by decide +kernel))⟩
theorem okg_8 : ∀ t ∈ mt_8, okM t := List.forall_mem_cons.mpr ⟨ok_M_holds, List.forall_mem_cons.mpr ⟨ok_M_bits, List.forall_mem_cons.mpr ⟨ok_M_lesser, List.forall_mem_cons.mpr ⟨ok_M_greater, List.forall_mem_cons.mpr ⟨ok_M_copies, List.forall_mem_cons.mpr ⟨ok_M_begins, List.forall_mem_cons.mpr ⟨ok_M_feed, List.forall_mem_cons.mpr ⟨ok_M_here, List.forall_mem_cons.mpr ⟨ok_M_step, List.forall_mem_cons.mpr ⟨ok_M_fails, List.forall_mem_cons.mpr ⟨ok_M_number, List.forall_mem_cons.mpr ⟨ok_M_ends, List.forall_mem_cons.mpr ⟨ok_M_readsPerson, List.forall_mem_cons.mpr ⟨ok_M_readsWind, List.forall_mem_cons.mpr ⟨ok_M_readsRock, List.forall_mem_cons.mpr ⟨ok_M_readsClause, fun t h => by cases h⟩⟩⟩⟩⟩⟩⟩⟩⟩⟩⟩⟩⟩⟩⟩⟩
theorem ok_M_north : okM t_M_north := ⟨by decide +kernel, by decide +kernel, Or.inr (mem_ps (ps := [976, 136, 974, 975]) (by decide +kernel))⟩
theorem ok_M_fault : okM t_M_fault := ⟨by decide +kernel, by decide +kernel, Or.inr (mem_ps (ps := [1021, 136, 1019, 1020]) (by decide +kernel))⟩
theorem ok_M_cells : okM t_M_cells := ⟨by decide +kernel, by decide +kernel, Or.inr (mem_ps (ps := [1045, 136, 1044, 97]) (by decide +kernel))⟩
theorem ok_M_isCell : okM t_M_isCell := ⟨by decide +kernel, by decide +kernel, Or.inr (mem_ps (ps := [1121, 136, 1120, 110]) (by decide +kernel))⟩
theorem ok_M_isPerson : okM t_M_isPerson := ⟨by decide +kernel, by decide +kernel, Or.inr (mem_ps (ps := [1138, 136, 1137, 113]) (by decide +kernel))⟩
theorem ok_M_rocks : okM t_M_rocks := ⟨by decide +kernel, by decide +kernel, Or.inr (mem_ps (ps := [1113, 136, 1112, 109]) (by decide +kernel))⟩
theorem ok_M_isRock : okM t_M_isRock := ⟨by decide +kernel, by decide +kernel, Or.inr (mem_ps (ps := [1126, 136, 1125, 111]) (by decide +kernel))⟩
theorem ok_M_beside : okM t_M_beside := ⟨by decide +kernel, by decide +kernel, Or.inr (mem_ps (ps := [1059, 136, 1058, 99]) (by decide +kernel))⟩
theorem ok_M_shape : okM t_M_shape := ⟨by decide +kernel, by decide +kernel, Or.inr (mem_ps (ps := [1085, 136, 1084, 103]) (by decide +kernel))⟩
theorem ok_M_dented : okM t_M_dented := ⟨by decide +kernel, by decide +kernel, Or.inr (mem_ps (ps := [1041, 136, 1040, 96]) (by decide +kernel))⟩
theorem ok_M_mayLie : okM t_M_mayLie := ⟨by decide +kernel, by decide +kernel, Or.inr (mem_ps (ps := [1150, 136, 1149, 115]) (by decide +kernel))⟩
theorem ok_M_dents : okM t_M_dents := ⟨by decide +kernel, by decide +kernel, Or.inr (mem_ps (ps := [1163, 136, 1162, 118]) (by decide +kernel))⟩
theorem ok_M_group : okM t_M_group := ⟨by decide +kernel, by decide +kernel, Or.inr (mem_ps (ps := [1055, 136, 1054, 98]) (by decide +kernel))⟩
theorem ok_M_lowest : okM t_M_lowest := ⟨by decide +kernel, by decide +kernel, Or.inr (mem_ps (ps := [1048, 136, 1047]) (by decide +kernel))⟩
theorem ok_M_counted : okM t_M_counted := ⟨by decide +kernel, by decide +kernel, Or.inr (mem_ps (ps := [1065, 136, 1064]) (by decide +kernel))⟩
theorem ok_M_countOn : okM t_M_countOn := ⟨by decide +kernel, by decide +kernel, Or.inr (mem_ps (ps := [1037, 136, 1036, 95]) (by decide +kernel))⟩
theorem okg_9 : ∀ t ∈ mt_9, okM t := List.forall_mem_cons.mpr ⟨ok_M_north, List.forall_mem_cons.mpr ⟨ok_M_fault, List.forall_mem_cons.mpr ⟨ok_M_cells, List.forall_mem_cons.mpr ⟨ok_M_isCell, List.forall_mem_cons.mpr ⟨ok_M_isPerson, List.forall_mem_cons.mpr ⟨ok_M_rocks, List.forall_mem_cons.mpr ⟨ok_M_isRock, List.forall_mem_cons.mpr ⟨ok_M_beside, List.forall_mem_cons.mpr ⟨ok_M_shape, List.forall_mem_cons.mpr ⟨ok_M_dented, List.forall_mem_cons.mpr ⟨ok_M_mayLie, List.forall_mem_cons.mpr ⟨ok_M_dents, List.forall_mem_cons.mpr ⟨ok_M_group, List.forall_mem_cons.mpr ⟨ok_M_lowest, List.forall_mem_cons.mpr ⟨ok_M_counted, List.forall_mem_cons.mpr ⟨ok_M_countOn, fun t h => by cases h⟩⟩⟩⟩⟩⟩⟩⟩⟩⟩⟩⟩⟩⟩⟩⟩
theorem ok_M_groups : okM t_M_groups := ⟨by decide +kernel, by decide +kernel, Or.inr (mem_ps (ps := [1074, 136, 1073, 101]) (by decide +kernel))⟩
theorem ok_M_isShape : okM t_M_isShape := ⟨by decide +kernel, by decide +kernel, Or.inr (mem_ps (ps := [1081, 136, 1080, 102]) (by decide +kernel))⟩
theorem ok_M_isLying : okM t_M_isLying := ⟨by decide +kernel, by decide +kernel, Or.inr (mem_ps (ps := [1033, 136, 1032, 94]) (by decide +kernel))⟩
theorem ok_M_whoLies : okM t_M_whoLies := ⟨by decide +kernel, by decide +kernel, Or.inr (mem_ps (ps := [1029, 136, 1028, 93]) (by decide +kernel))⟩
theorem ok_M_truly : okM t_M_truly := ⟨by decide +kernel, by decide +kernel, Or.inr (mem_ps (ps := [1070, 136, 1069, 100]) (by decide +kernel))⟩
theorem ok_M_steps : okM t_M_steps := ⟨by decide +kernel, by decide +kernel, Or.inr (mem_ps (ps := [1094, 136, 1093, 105]) (by decide +kernel))⟩
theorem ok_M_farOut : okM t_M_farOut := ⟨by decide +kernel, by decide +kernel, Or.inr (mem_ps (ps := [1089, 136, 1088, 104]) (by decide +kernel))⟩
theorem ok_M_layAside : okM t_M_layAside := ⟨by decide +kernel, by decide +kernel, Or.inr (mem_ps (ps := [1105, 136, 1104, 107]) (by decide +kernel))⟩
theorem ok_M_bare : okM t_M_bare := ⟨by decide +kernel, by decide +kernel, Or.inr (mem_ps (ps := [1101, 136, 1100, 106]) (by decide +kernel))⟩
theorem ok_M_told : okM t_M_told := ⟨by decide +kernel, by decide +kernel, Or.inr (mem_ps (ps := [1025, 136, 1023, 1024]) (by decide +kernel))⟩
theorem ok_M_whoIsAt : okM t_M_whoIsAt := ⟨by decide +kernel, by decide +kernel, Or.inr (mem_ps (ps := [1130, 136, 1129, 112]) (by decide +kernel))⟩
theorem ok_M_cell : okM t_M_cell := ⟨by decide +kernel, by decide +kernel, Or.inr (mem_ps (ps := [1117, 136, 1115, 1116]) (by decide +kernel))⟩
theorem ok_M_shapeOf : okM t_M_shapeOf := ⟨by decide +kernel, by decide +kernel, Or.inr (mem_ps (ps := [1142, 136, 1141, 114]) (by decide +kernel))⟩
theorem ok_M_person : okM t_M_person := ⟨by decide +kernel, by decide +kernel, Or.inr (mem_ps (ps := [1134, 136, 1132, 1133]) (by decide +kernel))⟩
theorem ok_M_remember : okM t_M_remember := ⟨by decide +kernel, by decide +kernel, Or.inr (mem_ps (ps := [1155, 136, 1154, 116]) (by decide +kernel))⟩
theorem ok_M_lies : okM t_M_lies := ⟨by decide +kernel, by decide +kernel, Or.inr (mem_ps (ps := [1159, 136, 1158, 117]) (by decide +kernel))⟩
theorem okg_10 : ∀ t ∈ mt_10, okM t := List.forall_mem_cons.mpr ⟨ok_M_groups, List.forall_mem_cons.mpr ⟨ok_M_isShape, List.forall_mem_cons.mpr ⟨ok_M_isLying, List.forall_mem_cons.mpr ⟨ok_M_whoLies, List.forall_mem_cons.mpr ⟨ok_M_truly, List.forall_mem_cons.mpr ⟨ok_M_steps, List.forall_mem_cons.mpr ⟨ok_M_farOut, List.forall_mem_cons.mpr ⟨ok_M_layAside, List.forall_mem_cons.mpr ⟨ok_M_bare, List.forall_mem_cons.mpr ⟨ok_M_told, List.forall_mem_cons.mpr ⟨ok_M_whoIsAt, List.forall_mem_cons.mpr ⟨ok_M_cell, List.forall_mem_cons.mpr ⟨ok_M_shapeOf, List.forall_mem_cons.mpr ⟨ok_M_person, List.forall_mem_cons.mpr ⟨ok_M_remember, List.forall_mem_cons.mpr ⟨ok_M_lies, fun t h => by cases h⟩⟩⟩⟩⟩⟩⟩⟩⟩⟩⟩⟩⟩⟩⟩⟩
theorem ok_M_lie : okM t_M_lie := ⟨by decide +kernel, by decide +kernel, Or.inr (mem_ps (ps := [1146, 136, 1144, 1145]) (by decide +kernel))⟩
theorem ok_M_rise : okM t_M_rise := ⟨by decide +kernel, by decide +kernel, Or.inr (mem_ps (ps := [1167, 136, 1165, 1166]) (by decide +kernel))⟩
theorem ok_M_nightGoes : okM t_M_nightGoes := ⟨by decide +kernel, by decide +kernel, Or.inr (mem_ps (ps := [1109, 136, 1108, 108]) (by decide +kernel))⟩
theorem ok_M_refuses : okM t_M_refuses := ⟨by decide +kernel, by decide +kernel, Or.inr (mem_ps (ps := [1175, 136, 1174, 119]) (by decide +kernel))⟩
theorem ok_M_night : okM t_M_night := ⟨by decide +kernel, by decide +kernel, Or.inr (mem_ps (ps := [1171, 136, 1169, 1170]) (by decide +kernel))⟩
theorem ok_M_thaw : okM t_M_thaw := ⟨by decide +kernel, by decide +kernel, Or.inr (mem_ps (ps := [1180, 136, 1178, 1179]) (by decide +kernel))⟩
theorem ok_M_snows : okM t_M_snows := ⟨by decide +kernel, by decide +kernel, Or.inr (mem_ps (ps := [1188, 136, 1187, 120]) (by decide +kernel))⟩
theorem ok_M_snow : okM t_M_snow := ⟨by decide +kernel, by decide +kernel, Or.inr (mem_ps (ps := [1184, 136, 1182, 1183]) (by decide +kernel))⟩
theorem ok_M_runs : okM t_M_runs := ⟨by decide +kernel, by decide +kernel, Or.inr (mem_ps (ps := [1196, 136, 1195, 121]) (by decide +kernel))⟩
theorem ok_M_hare : okM t_M_hare := ⟨by decide +kernel, by decide +kernel, Or.inr (mem_ps (ps := [1192, 136, 1190, 1191]) (by decide +kernel))⟩
theorem ok_M_pin : okM t_M_pin := ⟨by decide +kernel, by decide +kernel, Or.inr (mem_ps (ps := [1200, 136, 1198, 1199]) (by decide +kernel))⟩
theorem ok_M_wind : okM t_M_wind := ⟨by decide +kernel, by decide +kernel, Or.inr (mem_ps (ps := [1204, 136, 1202, 1203]) (by decide +kernel))⟩
theorem ok_M_draw : okM t_M_draw := ⟨by decide +kernel, by decide +kernel, Or.inr (mem_ps (ps := [1217, 136, 1216, 123]) (by decide +kernel))⟩
theorem ok_M_draws : okM t_M_draws := ⟨by decide +kernel, by decide +kernel, Or.inr (mem_ps (ps := [1213, 136, 1212, 122]) (by decide +kernel))⟩
theorem ok_M_drift : okM t_M_drift := ⟨by decide +kernel, by decide +kernel, Or.inr (mem_ps (ps := [1209, 136, 1207, 1208]) (by decide +kernel))⟩
theorem ok_M_undo : okM t_M_undo := ⟨by decide +kernel, by decide +kernel, Or.inr (mem_ps (ps := [1225, 136, 1223, 1224]) (by decide +kernel))⟩
theorem okg_11 : ∀ t ∈ mt_11, okM t := List.forall_mem_cons.mpr ⟨ok_M_lie, List.forall_mem_cons.mpr ⟨ok_M_rise, List.forall_mem_cons.mpr ⟨ok_M_nightGoes, List.forall_mem_cons.mpr ⟨ok_M_refuses, List.forall_mem_cons.mpr ⟨ok_M_night, List.forall_mem_cons.mpr ⟨ok_M_thaw, List.forall_mem_cons.mpr ⟨ok_M_snows, List.forall_mem_cons.mpr ⟨ok_M_snow, List.forall_mem_cons.mpr ⟨ok_M_runs, List.forall_mem_cons.mpr ⟨ok_M_hare, List.forall_mem_cons.mpr ⟨ok_M_pin, List.forall_mem_cons.mpr ⟨ok_M_wind, List.forall_mem_cons.mpr ⟨ok_M_draw, List.forall_mem_cons.mpr ⟨ok_M_draws, List.forall_mem_cons.mpr ⟨ok_M_drift, List.forall_mem_cons.mpr ⟨ok_M_undo, fun t h => by cases h⟩⟩⟩⟩⟩⟩⟩⟩⟩⟩⟩⟩⟩⟩⟩⟩
theorem ok_M_left : okM t_M_left := ⟨by decide +kernel, by decide +kernel, Or.inr (mem_ps (ps := [1230, 136, 1228, 1229]) (by decide +kernel))⟩
theorem ok_M_willCount : okM t_M_willCount := ⟨by decide +kernel, by decide +kernel, Or.inr (mem_ps (ps := [1234, 136, 1232, 1233]) (by decide +kernel))⟩
theorem ok_M_wrongFirst : okM t_M_wrongFirst := ⟨by decide +kernel, by decide +kernel, Or.inr (mem_ps (ps := [1238, 136, 1236, 1237]) (by decide +kernel))⟩
theorem ok_M_canLie : okM t_M_canLie := ⟨by decide +kernel, by decide +kernel, Or.inr (mem_ps (ps := [1242, 136, 1240, 1241]) (by decide +kernel))⟩
theorem ok_M_nextOrder : okM t_M_nextOrder := ⟨by decide +kernel, by decide +kernel, Or.inr (mem_ps (ps := [1255, 136, 1254, 124]) (by decide +kernel))⟩
theorem ok_M_round : okM t_M_round := ⟨by decide +kernel, by decide +kernel, Or.inr (mem_ps (ps := [1247, 136, 1245, 1246]) (by decide +kernel))⟩
theorem ok_M_isBy : okM t_M_isBy := ⟨by decide +kernel, by decide +kernel, Or.inr (mem_ps (ps := [1263, 136, 1262, 125]) (by decide +kernel))⟩
theorem ok_M_touch : okM t_M_touch := ⟨by decide +kernel, by decide +kernel, Or.inr (mem_ps (ps := [1259, 136, 1257, 1258]) (by decide +kernel))⟩
theorem ok_M_still : okM t_M_still := ⟨by decide +kernel, by decide +kernel, Or.inr (mem_ps (ps := [1267, 136, 1265, 1266]) (by decide +kernel))⟩
theorem ok_M_find : okM t_M_find := ⟨by decide +kernel, by decide +kernel, Or.inr (mem_ps (ps := [1274, 136, 1272, 1273]) (by decide +kernel))⟩
theorem ok_M_isSo : okM t_M_isSo := ⟨by decide +kernel, by decide +kernel, Or.inr (mem_ps (ps := [1283, 136, 1282, 126]) (by decide +kernel))⟩
theorem ok_M_fits : okM t_M_fits := ⟨by decide +kernel, by decide +kernel, Or.inr (mem_ps (ps := [1278, 136, 1276, 1277]) (by decide +kernel))⟩
theorem ok_M_look : okM t_M_look := ⟨by decide +kernel, by decide +kernel, Or.inr (mem_ps (ps := [1287, 136, 1285, 1286]) (by decide +kernel))⟩
theorem ok_M_write : okM t_M_write := ⟨by decide +kernel, by decide +kernel, Or.inr (mem_ps (ps := [1292, 136, 1290, 1291]) (by decide +kernel))⟩
theorem ok_M_judge : okM t_M_judge := ⟨by decide +kernel, by decide +kernel, Or.inr (mem_ps (ps := [1297, 136, 1295, 1296]) (by decide +kernel))⟩
theorem ok_M_tear : okM t_M_tear := ⟨by decide +kernel, by decide +kernel, Or.inr (mem_ps (ps := [1301, 136, 1299, 1300]) (by decide +kernel))⟩
theorem okg_12 : ∀ t ∈ mt_12, okM t := List.forall_mem_cons.mpr ⟨ok_M_left, List.forall_mem_cons.mpr ⟨ok_M_willCount, List.forall_mem_cons.mpr ⟨ok_M_wrongFirst, List.forall_mem_cons.mpr ⟨ok_M_canLie, List.forall_mem_cons.mpr ⟨ok_M_nextOrder, List.forall_mem_cons.mpr ⟨ok_M_round, List.forall_mem_cons.mpr ⟨ok_M_isBy, List.forall_mem_cons.mpr ⟨ok_M_touch, List.forall_mem_cons.mpr ⟨ok_M_still, List.forall_mem_cons.mpr ⟨ok_M_find, List.forall_mem_cons.mpr ⟨ok_M_isSo, List.forall_mem_cons.mpr ⟨ok_M_fits, List.forall_mem_cons.mpr ⟨ok_M_look, List.forall_mem_cons.mpr ⟨ok_M_write, List.forall_mem_cons.mpr ⟨ok_M_judge, List.forall_mem_cons.mpr ⟨ok_M_tear, fun t h => by cases h⟩⟩⟩⟩⟩⟩⟩⟩⟩⟩⟩⟩⟩⟩⟩⟩
theorem ok_M_seed : okM t_M_seed := ⟨by decide +kernel, by decide +kernel, Or.inr (mem_ps (ps := [1305, 136, 1303, 1304]) (by decide +kernel))⟩
theorem ok_M_keep : okM t_M_keep := ⟨by decide +kernel, by decide +kernel, Or.inr (mem_ps (ps := [1309, 136, 1307, 1308]) (by decide +kernel))⟩
theorem ok_M_goBack : okM t_M_goBack := ⟨by decide +kernel, by decide +kernel, Or.inr (mem_ps (ps := [1313, 136, 1311, 1312]) (by decide +kernel))⟩
theorem ok_JI_bitCount : okM t_JI_bitCount := ⟨by decide +kernel, by decide +kernel, Or.inr (mem_ps (ps := [764, 139, 763]) (by decide +kernel))⟩
theorem ok_JL_bitCount : okM t_JL_bitCount := ⟨by decide +kernel, by decide +kernel, Or.inr (mem_ps (ps := [413, 137, 412]) (by decide +kernel))⟩
theorem ok_JA_fillL : okM t_JA_fillL := ⟨by decide +kernel, by decide +kernel, Or.inr (mem_ps (ps := [370, 132, 369]) (by decide +kernel))⟩
theorem ok_JA_fill : okM t_JA_fill := ⟨by decide +kernel, by decide +kernel, Or.inr (mem_ps (ps := [240, 132, 239]) (by decide +kernel))⟩
theorem ok_W_law : okM t_W_law := ⟨by decide +kernel, by
  show (k_W_law).all (chkE 7 4 (some .boolean) (decide (y_W_law.name = "<init>")) code) = true
  unfold k_W_law
  rw [List.all_append, List.all_append, List.all_append, List.all_append, List.all_append, List.all_append, List.all_append, List.all_append, List.all_append, List.all_append, List.all_append, List.all_append, List.all_append, List.all_append, okp_0, okp_1, okp_2, okp_3, okp_4, okp_5, okp_6, okp_7, okp_8, okp_9, okp_10, okp_11, okp_12, okp_13, okp_14]
  rfl, Or.inl rfl⟩
theorem okg_13 : ∀ t ∈ mt_13, okM t := List.forall_mem_cons.mpr ⟨ok_M_seed, List.forall_mem_cons.mpr ⟨ok_M_keep, List.forall_mem_cons.mpr ⟨ok_M_goBack, List.forall_mem_cons.mpr ⟨ok_JI_bitCount, List.forall_mem_cons.mpr ⟨ok_JL_bitCount, List.forall_mem_cons.mpr ⟨ok_JA_fillL, List.forall_mem_cons.mpr ⟨ok_JA_fill, List.forall_mem_cons.mpr ⟨ok_W_law, fun t h => by cases h⟩⟩⟩⟩⟩⟩⟩⟩
theorem ok_all : ∀ g ∈ mts, ∀ t ∈ g, okM t := List.forall_mem_cons.mpr ⟨okg_0, List.forall_mem_cons.mpr ⟨okg_1, List.forall_mem_cons.mpr ⟨okg_2, List.forall_mem_cons.mpr ⟨okg_3, List.forall_mem_cons.mpr ⟨okg_4, List.forall_mem_cons.mpr ⟨okg_5, List.forall_mem_cons.mpr ⟨okg_6, List.forall_mem_cons.mpr ⟨okg_7, List.forall_mem_cons.mpr ⟨okg_8, List.forall_mem_cons.mpr ⟨okg_9, List.forall_mem_cons.mpr ⟨okg_10, List.forall_mem_cons.mpr ⟨okg_11, List.forall_mem_cons.mpr ⟨okg_12, List.forall_mem_cons.mpr ⟨okg_13, fun t h => by cases h⟩⟩⟩⟩⟩⟩⟩⟩⟩⟩⟩⟩⟩⟩
theorem ok_mt {M : Nat} {t : Meta} (h : mt M = some t) : okM t := by
  unfold mt at h
  have h1 : t ∈ mts.getD (M / 16) [] := List.mem_of_getElem? h
  rw [List.getD_eq_getElem?_getD] at h1
  cases hg : mts[M / 16]? with
  | none => rw [hg] at h1; cases h1
  | some g => rw [hg] at h1; exact ok_all g (List.mem_of_getElem? hg) t h1
theorem gC_mem {pc : Nat} {e : Ent} : ∀ {k : List (Nat × Ent)}, gC k pc = some e → (pc, e) ∈ k
  | [], h => by cases h
  | (j, x) :: r, h => by
    unfold gC at h
    cases hj : Nat.beq j pc with
    | true =>
      rw [hj] at h
      cases h
      rw [Nat.eq_of_beq_eq_true hj]
      exact List.mem_cons_self
    | false =>
      rw [hj] at h
      exact List.mem_cons_of_mem _ (gC_mem h)

