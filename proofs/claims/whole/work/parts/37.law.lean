/-! ===== THE LAW: its calls, case by case ===== -/
def cs_L_law : List (Nat × zCall) := [(89, 2, 1, some 5, 20, 869, true, sp_X4_init), (92, 2, 1, some 6, 14, 746, true, sp_X5_init), (93, 1, 4, none, 2, 12, false, sp_L_sound), (98, 0, 3, some 6, 0, 0, false, zMc sp_X5_sound), (99, 0, 1, some 6, 0, 0, false, sp_X5_thrown), (103, 1, 5, none, 3, 18, false, sp_L_sweep), (106, 0, 4, some 6, 0, 0, false, zMc sp_X5_sweep), (107, 0, 1, some 5, 0, 0, false, sp_X4_shapes), (110, 0, 1, some 6, 0, 0, false, sp_X5_shapes), (111, 1, 3, none, 1, 6, false, sp_L_shapeOf), (114, 0, 2, some 6, 0, 0, false, zMc sp_X5_shapeOf), (115, 1, 3, none, 1, 6, false, sp_L_size), (117, 0, 2, some 6, 0, 0, false, zMc sp_X5_size), (118, 1, 3, none, 1, 6, false, sp_L_top), (120, 0, 2, some 6, 0, 0, false, zMc sp_X5_top), (121, 1, 3, none, 1, 6, false, sp_L_nameOf), (123, 0, 2, some 6, 0, 0, false, zMc sp_X5_nameOf), (124, 1, 4, none, 2, 12, false, sp_L_titleAt), (126, 0, 3, some 6, 0, 0, false, zMc sp_X5_titleAt), (127, 1, 6, none, 6, 36, false, sp_L_name), (130, 0, 5, some 6, 0, 0, false, zMc sp_X5_name), (131, 1, 6, none, 9, 54, false, sp_L_raise), (133, 0, 5, some 6, 0, 0, false, zMc sp_X5_raise), (134, 1, 3, none, 2, 12, false, sp_L_fill), (136, 0, 2, some 6, 0, 0, false, zMc sp_X5_fill), (137, 1, 3, none, 1, 6, false, sp_L_air), (139, 0, 2, some 6, 0, 0, false, zMc sp_X5_air), (140, 1, 3, none, 1, 6, false, sp_L_rest), (142, 0, 2, some 6, 0, 0, false, zMc sp_X5_rest), (143, 1, 4, none, 2, 12, false, sp_L_longest), (145, 0, 3, some 6, 0, 0, false, zMc sp_X5_longest), (146, 1, 4, none, 6, 36, false, sp_L_claim), (148, 0, 3, some 6, 0, 0, false, zMc sp_X5_claim), (149, 1, 3, none, 2, 12, false, sp_L_renew), (151, 0, 2, some 6, 0, 0, false, zMc sp_X5_renew), (152, 1, 3, none, 2, 12, false, sp_L_advance), (154, 0, 2, some 6, 0, 0, false, zMc sp_X5_advance), (155, 0, 1, some 5, 0, 0, false, sp_X4_minute), (158, 0, 1, some 6, 0, 0, false, sp_X5_minute), (159, 1, 3, none, 1, 6, false, sp_L_finder), (161, 0, 2, some 6, 0, 0, false, zMc sp_X5_finder), (162, 1, 3, none, 1, 6, false, sp_L_finderBySoundings), (164, 0, 2, some 6, 0, 0, false, zMc sp_X5_finderBySoundings), (165, 0, 1, some 5, 0, 0, false, sp_X4_claims), (168, 0, 1, some 6, 0, 0, false, sp_X5_claims), (169, 1, 3, none, 1, 6, false, sp_L_runs), (171, 0, 2, some 6, 0, 0, false, zMc sp_X5_runs), (172, 1, 3, none, 1, 6, false, sp_L_holds), (174, 0, 2, some 6, 0, 0, false, zMc sp_X5_holds), (175, 0, 1, some 5, 0, 0, false, sp_X4_things), (178, 0, 1, some 6, 0, 0, false, sp_X5_things), (179, 1, 3, none, 1, 6, false, sp_L_shapeOfThing), (181, 0, 2, some 6, 0, 0, false, zMc sp_X5_shapeOfThing), (182, 1, 3, none, 1, 6, false, sp_L_finderOfThing), (184, 0, 2, some 6, 0, 0, false, zMc sp_X5_finderOfThing), (185, 1, 3, none, 1, 6, false, sp_L_reward), (187, 0, 2, some 6, 0, 0, false, zMc sp_X5_reward), (188, 0, 1, some 5, 0, 0, false, sp_X4_kept), (191, 0, 1, some 6, 0, 0, false, sp_X5_kept)]
theorem hcs_L_law {l : Launch} (hl0 : l.stackTraces = false) : ∀ q ∈ cs_L_law, zCallable l RL 9 q := List.forall_mem_cons.mpr ⟨zcI (ps := [56, 57, 28, 58]) (c_X4_init hl0) (by decide +kernel) rfl ⟨by decide +kernel, by decide +kernel, by decide +kernel⟩ (by decide) (by decide), List.forall_mem_cons.mpr ⟨zcI (ps := [1050, 1051, 38, 1052]) (c_X5_init hl0) (by decide +kernel) rfl ⟨by decide +kernel, by decide +kernel, by decide +kernel⟩ (by decide) (by decide), List.forall_mem_cons.mpr ⟨zcSX (ps := [240, 241, 27, 242]) (c_L_sound hl0) (by decide +kernel) ⟨by decide +kernel, by decide +kernel, by decide +kernel⟩ (by decide) (by decide), List.forall_mem_cons.mpr ⟨zcV (C := (RX5, TX5, 21)) (ps := [1130, 1131, 1132, 38, 1133]) (CT_mono (c_X5_sound hl0)) (by decide +kernel) rfl ⟨rfl, by decide +kernel, by decide +kernel, by decide +kernel⟩ (by decide) (by decide), List.forall_mem_cons.mpr ⟨zcV (C := (RX5, TX5, 21)) (ps := [1126, 1127, 1128, 38, 1129]) (c_X5_thrown hl0) (by decide +kernel) rfl ⟨rfl, by decide +kernel, by decide +kernel, by decide +kernel⟩ (by decide) (by decide), List.forall_mem_cons.mpr ⟨zcSX (ps := [374, 375, 27, 376]) (c_L_sweep hl0) (by decide +kernel) ⟨by decide +kernel, by decide +kernel, by decide +kernel⟩ (by decide) (by decide), List.forall_mem_cons.mpr ⟨zcV (C := (RX5, TX5, 21)) (ps := [1140, 1141, 1142, 38, 1143]) (CT_mono (c_X5_sweep hl0)) (by decide +kernel) rfl ⟨rfl, by decide +kernel, by decide +kernel, by decide +kernel⟩ (by decide) (by decide), List.forall_mem_cons.mpr ⟨zcV (C := (RX4, TX4, 6)) (ps := [204, 205, 206, 28, 207]) (c_X4_shapes hl0) (by decide +kernel) rfl ⟨rfl, by decide +kernel, by decide +kernel, by decide +kernel⟩ (by decide) (by decide), List.forall_mem_cons.mpr ⟨zcV (C := (RX5, TX5, 21)) (ps := [1148, 1149, 1150, 38, 1151]) (c_X5_shapes hl0) (by decide +kernel) rfl ⟨rfl, by decide +kernel, by decide +kernel, by decide +kernel⟩ (by decide) (by decide), List.forall_mem_cons.mpr ⟨zcSX (ps := [382, 383, 27, 384]) (c_L_shapeOf hl0) (by decide +kernel) ⟨by decide +kernel, by decide +kernel, by decide +kernel⟩ (by decide) (by decide), List.forall_mem_cons.mpr ⟨zcV (C := (RX5, TX5, 21)) (ps := [1152, 1153, 1154, 38, 1155]) (CT_mono (c_X5_shapeOf hl0)) (by decide +kernel) rfl ⟨rfl, by decide +kernel, by decide +kernel, by decide +kernel⟩ (by decide) (by decide), List.forall_mem_cons.mpr ⟨zcSX (ps := [393, 394, 27, 395]) (c_L_size hl0) (by decide +kernel) ⟨by decide +kernel, by decide +kernel, by decide +kernel⟩ (by decide) (by decide), List.forall_mem_cons.mpr ⟨zcV (C := (RX5, TX5, 21)) (ps := [1160, 1161, 1162, 38, 1163]) (CT_mono (c_X5_size hl0)) (by decide +kernel) rfl ⟨rfl, by decide +kernel, by decide +kernel, by decide +kernel⟩ (by decide) (by decide), List.forall_mem_cons.mpr ⟨zcSX (ps := [408, 409, 27, 410]) (c_L_top hl0) (by decide +kernel) ⟨by decide +kernel, by decide +kernel, by decide +kernel⟩ (by decide) (by decide), List.forall_mem_cons.mpr ⟨zcV (C := (RX5, TX5, 21)) (ps := [1168, 1169, 1170, 38, 1171]) (CT_mono (c_X5_top hl0)) (by decide +kernel) rfl ⟨rfl, by decide +kernel, by decide +kernel, by decide +kernel⟩ (by decide) (by decide), List.forall_mem_cons.mpr ⟨zcSX (ps := [422, 423, 27, 424]) (c_L_nameOf hl0) (by decide +kernel) ⟨by decide +kernel, by decide +kernel, by decide +kernel⟩ (by decide) (by decide), List.forall_mem_cons.mpr ⟨zcV (C := (RX5, TX5, 21)) (ps := [1172, 1173, 1174, 38, 1175]) (CT_mono (c_X5_nameOf hl0)) (by decide +kernel) rfl ⟨rfl, by decide +kernel, by decide +kernel, by decide +kernel⟩ (by decide) (by decide), List.forall_mem_cons.mpr ⟨zcSX (ps := [433, 434, 27, 435]) (c_L_titleAt hl0) (by decide +kernel) ⟨by decide +kernel, by decide +kernel, by decide +kernel⟩ (by decide) (by decide), List.forall_mem_cons.mpr ⟨zcV (C := (RX5, TX5, 21)) (ps := [1180, 1181, 1182, 38, 1183]) (CT_mono (c_X5_titleAt hl0)) (by decide +kernel) rfl ⟨rfl, by decide +kernel, by decide +kernel, by decide +kernel⟩ (by decide) (by decide), List.forall_mem_cons.mpr ⟨zcSX (ps := [779, 780, 27, 781]) (c_L_name hl0) (by decide +kernel) ⟨by decide +kernel, by decide +kernel, by decide +kernel⟩ (by decide) (by decide), List.forall_mem_cons.mpr ⟨zcV (C := (RX5, TX5, 21)) (ps := [1200, 1201, 1202, 38, 1203]) (CT_mono (c_X5_name hl0)) (by decide +kernel) rfl ⟨rfl, by decide +kernel, by decide +kernel, by decide +kernel⟩ (by decide) (by decide), List.forall_mem_cons.mpr ⟨zcSX (ps := [847, 848, 27, 849]) (c_L_raise hl0) (by decide +kernel) ⟨by decide +kernel, by decide +kernel, by decide +kernel⟩ (by decide) (by decide), List.forall_mem_cons.mpr ⟨zcV (C := (RX5, TX5, 21)) (ps := [1218, 1219, 1220, 38, 1221]) (CT_mono (c_X5_raise hl0)) (by decide +kernel) rfl ⟨rfl, by decide +kernel, by decide +kernel, by decide +kernel⟩ (by decide) (by decide), List.forall_mem_cons.mpr ⟨zcSX (ps := [881, 882, 27, 883]) (c_L_fill hl0) (by decide +kernel) ⟨by decide +kernel, by decide +kernel, by decide +kernel⟩ (by decide) (by decide), List.forall_mem_cons.mpr ⟨zcV (C := (RX5, TX5, 21)) (ps := [1223, 1224, 1225, 38, 1226]) (CT_mono (c_X5_fill hl0)) (by decide +kernel) rfl ⟨rfl, by decide +kernel, by decide +kernel, by decide +kernel⟩ (by decide) (by decide), List.forall_mem_cons.mpr ⟨zcSX (ps := [892, 893, 27, 894]) (c_L_air hl0) (by decide +kernel) ⟨by decide +kernel, by decide +kernel, by decide +kernel⟩ (by decide) (by decide), List.forall_mem_cons.mpr ⟨zcV (C := (RX5, TX5, 21)) (ps := [1227, 1228, 1229, 38, 1230]) (CT_mono (c_X5_air hl0)) (by decide +kernel) rfl ⟨rfl, by decide +kernel, by decide +kernel, by decide +kernel⟩ (by decide) (by decide), List.forall_mem_cons.mpr ⟨zcSX (ps := [899, 900, 27, 901]) (c_L_rest hl0) (by decide +kernel) ⟨by decide +kernel, by decide +kernel, by decide +kernel⟩ (by decide) (by decide), List.forall_mem_cons.mpr ⟨zcV (C := (RX5, TX5, 21)) (ps := [1231, 1232, 1233, 38, 1234]) (CT_mono (c_X5_rest hl0)) (by decide +kernel) rfl ⟨rfl, by decide +kernel, by decide +kernel, by decide +kernel⟩ (by decide) (by decide), List.forall_mem_cons.mpr ⟨zcSX (ps := [907, 908, 27, 909]) (c_L_longest hl0) (by decide +kernel) ⟨by decide +kernel, by decide +kernel, by decide +kernel⟩ (by decide) (by decide), List.forall_mem_cons.mpr ⟨zcV (C := (RX5, TX5, 21)) (ps := [1235, 1236, 1237, 38, 1238]) (CT_mono (c_X5_longest hl0)) (by decide +kernel) rfl ⟨rfl, by decide +kernel, by decide +kernel, by decide +kernel⟩ (by decide) (by decide), List.forall_mem_cons.mpr ⟨zcSX (ps := [919, 920, 27, 921]) (c_L_claim hl0) (by decide +kernel) ⟨by decide +kernel, by decide +kernel, by decide +kernel⟩ (by decide) (by decide), List.forall_mem_cons.mpr ⟨zcV (C := (RX5, TX5, 21)) (ps := [1239, 1240, 1241, 38, 1242]) (CT_mono (c_X5_claim hl0)) (by decide +kernel) rfl ⟨rfl, by decide +kernel, by decide +kernel, by decide +kernel⟩ (by decide) (by decide), List.forall_mem_cons.mpr ⟨zcSX (ps := [941, 942, 27, 943]) (c_L_renew hl0) (by decide +kernel) ⟨by decide +kernel, by decide +kernel, by decide +kernel⟩ (by decide) (by decide), List.forall_mem_cons.mpr ⟨zcV (C := (RX5, TX5, 21)) (ps := [1243, 1244, 1245, 38, 1246]) (CT_mono (c_X5_renew hl0)) (by decide +kernel) rfl ⟨rfl, by decide +kernel, by decide +kernel, by decide +kernel⟩ (by decide) (by decide), List.forall_mem_cons.mpr ⟨zcSX (ps := [959, 960, 27, 961]) (c_L_advance hl0) (by decide +kernel) ⟨by decide +kernel, by decide +kernel, by decide +kernel⟩ (by decide) (by decide), List.forall_mem_cons.mpr ⟨zcV (C := (RX5, TX5, 21)) (ps := [1247, 1248, 1249, 38, 1250]) (CT_mono (c_X5_advance hl0)) (by decide +kernel) rfl ⟨rfl, by decide +kernel, by decide +kernel, by decide +kernel⟩ (by decide) (by decide), List.forall_mem_cons.mpr ⟨zcV (C := (RX4, TX4, 6)) (ps := [212, 213, 214, 28, 215]) (c_X4_minute hl0) (by decide +kernel) rfl ⟨rfl, by decide +kernel, by decide +kernel, by decide +kernel⟩ (by decide) (by decide), List.forall_mem_cons.mpr ⟨zcV (C := (RX5, TX5, 21)) (ps := [1252, 1253, 1254, 38, 1255]) (c_X5_minute hl0) (by decide +kernel) rfl ⟨rfl, by decide +kernel, by decide +kernel, by decide +kernel⟩ (by decide) (by decide), List.forall_mem_cons.mpr ⟨zcSX (ps := [968, 969, 27, 970]) (c_L_finder hl0) (by decide +kernel) ⟨by decide +kernel, by decide +kernel, by decide +kernel⟩ (by decide) (by decide), List.forall_mem_cons.mpr ⟨zcV (C := (RX5, TX5, 21)) (ps := [1256, 1257, 1258, 38, 1259]) (CT_mono (c_X5_finder hl0)) (by decide +kernel) rfl ⟨rfl, by decide +kernel, by decide +kernel, by decide +kernel⟩ (by decide) (by decide), List.forall_mem_cons.mpr ⟨zcSX (ps := [975, 976, 27, 977]) (c_L_finderBySoundings hl0) (by decide +kernel) ⟨by decide +kernel, by decide +kernel, by decide +kernel⟩ (by decide) (by decide), List.forall_mem_cons.mpr ⟨zcV (C := (RX5, TX5, 21)) (ps := [1260, 1261, 1262, 38, 1263]) (CT_mono (c_X5_finderBySoundings hl0)) (by decide +kernel) rfl ⟨rfl, by decide +kernel, by decide +kernel, by decide +kernel⟩ (by decide) (by decide), List.forall_mem_cons.mpr ⟨zcV (C := (RX4, TX4, 6)) (ps := [216, 217, 218, 28, 219]) (c_X4_claims hl0) (by decide +kernel) rfl ⟨rfl, by decide +kernel, by decide +kernel, by decide +kernel⟩ (by decide) (by decide), List.forall_mem_cons.mpr ⟨zcV (C := (RX5, TX5, 21)) (ps := [1265, 1266, 1267, 38, 1268]) (c_X5_claims hl0) (by decide +kernel) rfl ⟨rfl, by decide +kernel, by decide +kernel, by decide +kernel⟩ (by decide) (by decide), List.forall_mem_cons.mpr ⟨zcSX (ps := [991, 992, 27, 993]) (c_L_runs hl0) (by decide +kernel) ⟨by decide +kernel, by decide +kernel, by decide +kernel⟩ (by decide) (by decide), List.forall_mem_cons.mpr ⟨zcV (C := (RX5, TX5, 21)) (ps := [1269, 1270, 1271, 38, 1272]) (CT_mono (c_X5_runs hl0)) (by decide +kernel) rfl ⟨rfl, by decide +kernel, by decide +kernel, by decide +kernel⟩ (by decide) (by decide), List.forall_mem_cons.mpr ⟨zcSX (ps := [998, 999, 27, 1000]) (c_L_holds hl0) (by decide +kernel) ⟨by decide +kernel, by decide +kernel, by decide +kernel⟩ (by decide) (by decide), List.forall_mem_cons.mpr ⟨zcV (C := (RX5, TX5, 21)) (ps := [1277, 1278, 1279, 38, 1280]) (CT_mono (c_X5_holds hl0)) (by decide +kernel) rfl ⟨rfl, by decide +kernel, by decide +kernel, by decide +kernel⟩ (by decide) (by decide), List.forall_mem_cons.mpr ⟨zcV (C := (RX4, TX4, 6)) (ps := [224, 225, 226, 28, 227]) (c_X4_things hl0) (by decide +kernel) rfl ⟨rfl, by decide +kernel, by decide +kernel, by decide +kernel⟩ (by decide) (by decide), List.forall_mem_cons.mpr ⟨zcV (C := (RX5, TX5, 21)) (ps := [1281, 1282, 1283, 38, 1284]) (c_X5_things hl0) (by decide +kernel) rfl ⟨rfl, by decide +kernel, by decide +kernel, by decide +kernel⟩ (by decide) (by decide), List.forall_mem_cons.mpr ⟨zcSX (ps := [1005, 1006, 27, 1007]) (c_L_shapeOfThing hl0) (by decide +kernel) ⟨by decide +kernel, by decide +kernel, by decide +kernel⟩ (by decide) (by decide), List.forall_mem_cons.mpr ⟨zcV (C := (RX5, TX5, 21)) (ps := [1285, 1286, 1287, 38, 1288]) (CT_mono (c_X5_shapeOfThing hl0)) (by decide +kernel) rfl ⟨rfl, by decide +kernel, by decide +kernel, by decide +kernel⟩ (by decide) (by decide), List.forall_mem_cons.mpr ⟨zcSX (ps := [1026, 1027, 27, 1028]) (c_L_finderOfThing hl0) (by decide +kernel) ⟨by decide +kernel, by decide +kernel, by decide +kernel⟩ (by decide) (by decide), List.forall_mem_cons.mpr ⟨zcV (C := (RX5, TX5, 21)) (ps := [1293, 1294, 1295, 38, 1296]) (CT_mono (c_X5_finderOfThing hl0)) (by decide +kernel) rfl ⟨rfl, by decide +kernel, by decide +kernel, by decide +kernel⟩ (by decide) (by decide), List.forall_mem_cons.mpr ⟨zcSX (ps := [1037, 1038, 27, 1039]) (c_L_reward hl0) (by decide +kernel) ⟨by decide +kernel, by decide +kernel, by decide +kernel⟩ (by decide) (by decide), List.forall_mem_cons.mpr ⟨zcV (C := (RX5, TX5, 21)) (ps := [1297, 1298, 1299, 38, 1300]) (CT_mono (c_X5_reward hl0)) (by decide +kernel) rfl ⟨rfl, by decide +kernel, by decide +kernel, by decide +kernel⟩ (by decide) (by decide), List.forall_mem_cons.mpr ⟨zcV (C := (RX4, TX4, 6)) (ps := [232, 233, 234, 28, 235]) (c_X4_kept hl0) (by decide +kernel) rfl ⟨rfl, by decide +kernel, by decide +kernel, by decide +kernel⟩ (by decide) (by decide), List.forall_mem_cons.mpr ⟨zcV (C := (RX5, TX5, 21)) (ps := [1301, 1302, 1303, 38, 1304]) (c_X5_kept hl0) (by decide +kernel) rfl ⟨rfl, by decide +kernel, by decide +kernel, by decide +kernel⟩ (by decide) (by decide), fun _ h => absurd h List.not_mem_nil⟩⟩⟩⟩⟩⟩⟩⟩⟩⟩⟩⟩⟩⟩⟩⟩⟩⟩⟩⟩⟩⟩⟩⟩⟩⟩⟩⟩⟩⟩⟩⟩⟩⟩⟩⟩⟩⟩⟩⟩⟩⟩⟩⟩⟩⟩⟩⟩⟩⟩⟩⟩⟩⟩⟩⟩⟩⟩⟩
def nw_L_law : List (Nat × Nat × Nat × List Value) := [(8, 5, 6, [.null, .null, .null, .null, .null, .int 0]), (90, 6, 21, [.null, .null, .null, .int 0, .null, .null, .int 0, .null, .null, .int 0, .null, .null, .null, .int 0, .null, .null, .null, .int 0, .null, .int 0, .int 0])]
theorem hnw_L_law : ∀ q ∈ nw_L_law, zNew RL q := List.forall_mem_cons.mpr ⟨⟨(RX4, TX4, 6), rfl, rfl, by decide +kernel, rfl, rfl, zmem (i := 54) (by decide +kernel) rfl, zmem (i := 55) (by decide +kernel) rfl, zmem (i := 28) (by decide +kernel) rfl⟩, List.forall_mem_cons.mpr ⟨⟨(RX5, TX5, 21), rfl, rfl, by decide +kernel, rfl, rfl, zmem (i := 1048) (by decide +kernel) rfl, zmem (i := 1049) (by decide +kernel) rfl, zmem (i := 38) (by decide +kernel) rfl⟩, fun _ h => absurd h List.not_mem_nil⟩⟩
def pg_L0 : List zE := [(0, .new 8, 3, []), (3, .dup, 1, []), (4, .invokespecial 89, 3, []), (7, .astore_n 1, 1, []), (8, .new 90, 3, []), (11, .dup, 1, []), (12, .invokespecial 92, 3, []), (15, .astore_n 2, 1, []), (16, .iconst 1, 1, [1]), (17, .newarray .long, 2, []), (19, .astore_n 3, 1, []), (20, .iconst 0, 1, [0]), (21, .istore 4, 2, []), (23, .iload 4, 2, [])]
theorem hp_L0 : ∀ q ∈ pg_L0, decode code q.1 = .ok (q.2.1, q.2.2.1) ∧ ztg q.2.1 q.1 q.2.2.1 q.2.2.2 = true := zpg_of (by decide +kernel)
def pg_L23 : List zE := [(23, .iload 4, 2, []), (25, .aload_n 0, 1, []), (26, .arraylength, 1, []), (27, .iconst 5, 1, [5]), (28, .isub, 1, []), (29, .if_icmp .gt 1652, 3, [1681]), (32, .aload_n 0, 1, []), (33, .iload 4, 2, []), (35, .iaload, 1, []), (36, .bipush 31, 2, [31]), (38, .iand, 1, []), (39, .tableswitch 1636 0 27 #[125, 193, 273, 286, 342, 398, 454, 510, 578, 670, 762, 818, 874, 930, 998, 1066, 1122, 1178, 1191, 1247, 1303, 1316, 1379, 1442, 1455, 1511, 1567, 1623], 125, [1675, 164, 232, 312, 325, 381, 437, 493, 549, 617, 709, 801, 857, 913, 969, 1037, 1105, 1161, 1217, 1230, 1286, 1342, 1355, 1418, 1481, 1494, 1550, 1606, 1662]), (1681, .iconst 1, 1, [1]), (1682, .ireturn, 1, [])]
theorem hp_L23 : ∀ q ∈ pg_L23, decode code q.1 = .ok (q.2.1, q.2.2.1) ∧ ztg q.2.1 q.1 q.2.2.1 q.2.2.2 = true := zpg_of (by decide +kernel)
def pg_L1675 : List zE := [(1675, .iinc 4 5, 3, [5]), (1678, .goto (-1655), 3, [23])]
theorem hp_L1675 : ∀ q ∈ pg_L1675, decode code q.1 = .ok (q.2.1, q.2.2.1) ∧ ztg q.2.1 q.1 q.2.2.1 q.2.2.2 = true := zpg_of (by decide +kernel)
abbrev zLT (L : Nat) (xs : Nat → Int32) : zT := ([], cs_L_law, nw_L_law, [], [], [], [(1000, 0, L, xs)], false, (601024, 7293034), (fun v _ cu su => v = some (.int 1) ∧ cu ≤ 601024 ∧ su ≤ 7293034), (fun _ _ _ _ _ _ => False), (true, 0))
def zI5 (n : Nat) : zL := [(0, .ref 1000), (1, .ref 0), (2, .ref 21), (3, .ref 36), (4, .int (nI (5 * n)))]
def zSt (k n : Nat) (Lc : zL) (S : zS) (w : zW) (cu su : Nat) : Prop := zsub (zI5 n) Lc ∧ S = [] ∧ (∃ α ν β μ f, w = zW3 α ν β μ f ∧ zRel k α ν β μ) ∧ cu ≤ 40 + 10 * k ∧ su ≤ 2000 + 60 * k
theorem zble {a b : Nat} (h : a ≤ b) : Nat.ble a b = true := Nat.ble_eq_true_of_le h
theorem zidx {n L k : Nat} (h : 5 * n + 5 ≤ L) (hL : L ≤ 2560) (hk : k < 5) : vp_in (nI (5 * n) + nI k) L := by
  rw [nI_add]
  exact vp_in_nI (by omega) (by omega)
def pg_LC0 : List zE := [(164, .aload_n 1, 1, []), (165, .aload_n 0, 1, []), (166, .iload 4, 2, []), (168, .iconst 1, 1, [1]), (169, .iadd, 1, []), (170, .iaload, 1, []), (171, .aload_n 0, 1, []), (172, .iload 4, 2, []), (174, .iconst 2, 1, [2]), (175, .iadd, 1, []), (176, .iaload, 1, []), (177, .aload_n 3, 1, []), (178, .invokestatic 93, 3, []), (181, .istore 5, 2, []), (183, .aload_n 2, 1, []), (184, .aload_n 0, 1, []), (185, .iload 4, 2, []), (187, .iconst 1, 1, [1]), (188, .iadd, 1, []), (189, .iaload, 1, []), (190, .aload_n 0, 1, []), (191, .iload 4, 2, []), (193, .iconst 2, 1, [2]), (194, .iadd, 1, []), (195, .iaload, 1, []), (196, .invokevirtual 98, 3, []), (199, .istore 6, 2, []), (201, .aload_n 2, 1, []), (202, .invokevirtual 99, 3, []), (205, .iload 5, 2, []), (207, .if_icmp .eq 5, 3, [212]), (210, .iconst 0, 1, [0]), (211, .ireturn, 1, []), (212, .iload 5, 2, []), (214, .ifCond .ne 15, 3, [229]), (217, .aload_n 3, 1, []), (218, .iconst 0, 1, [0]), (219, .laload, 1, []), (220, .iload 6, 2, []), (222, .i2l, 1, []), (223, .lcmp, 1, []), (224, .ifCond .eq 5, 3, [229]), (227, .iconst 0, 1, [0]), (228, .ireturn, 1, []), (229, .goto 1446, 3, [1675])]
theorem hp_LC0 : ∀ q ∈ pg_LC0, decode code q.1 = .ok (q.2.1, q.2.2.1) ∧ ztg q.2.1 q.1 q.2.2.1 q.2.2.2 = true := zpg_of (by decide +kernel)
set_option maxHeartbeats 8000000 in
set_option maxRecDepth 40000 in
theorem wc_0 {L : Nat} {xs : Nat → Int32} {n : Nat} {α : Nat → Nat → Int32} {ν : Nat → Int32} {β : Nat → Nat → Int32} {μ : Nat → Int32} {f : Nat → Int64} {cu su : Nat} {K : zK} (hL : 5 * n + 5 ≤ L) (hL2 : L ≤ 2560) (hr : zRel n α ν β μ) (hcu : cu ≤ 40 + 10 * n) (hsu : su ≤ 2000 + 60 * n)
    (hK : ∀ Lc w cu2 su2, zSt (n + 1) n Lc [] w cu2 su2 → K Lc [] w cu2 su2) : zwp (zLT L xs) 7 pg_LC0 [(1675, K)] 100 pg_LC0 (zI5 n) [] (zW3 α ν β μ f) cu su := by
  (conv => whnf)
  refine ⟨zidx hL hL2 (k := 1) (by decide), ?_⟩
  (conv => whnf)
  refine ⟨zidx hL hL2 (k := 2) (by decide), ?_⟩
  (conv => whnf)
  rw [zble (show cu + 2 ≤ 601024 by omega)]
  (conv => whnf)
  rw [zble (show su + 12 ≤ 7293034 by omega)]
  (conv => whnf)
  refine j_sound (n := n) (by omega) hr _ _ _ (fun _ _ => True) (fun k α1 ν1 f1 hm => ?_)
  (conv => whnf)
  refine ⟨zidx hL hL2 (k := 1) (by decide), ?_⟩
  (conv => whnf)
  refine ⟨zidx hL hL2 (k := 2) (by decide), ?_⟩
  (conv => whnf)
  rw [zble (show cu + 2 + 0 ≤ 601024 by omega)]
  (conv => whnf)
  rw [zble (show su + 12 + 0 ≤ 7293034 by omega)]
  (conv => whnf)
  refine ⟨zEnd n k, fun _ _ => False, hm _ _ (fun _ _ h => h), fun rv w2 he => ?_, fun _ _ h => h.elim⟩
  obtain ⟨α2, ν2, β2, μ2, f2, rfl, hr2, t, b, rfl, ht, e7, rfl, ef⟩ := he
  (conv => whnf)
  rw [zble (show cu + 2 + 0 + 0 ≤ 601024 by omega)]
  (conv => whnf)
  rw [zble (show su + 12 + 0 + 0 ≤ 7293034 by omega)]
  (conv => whnf)
  refine ⟨α2, ν2, β2, μ2, _, rfl, rfl, ?_⟩
  (conv => whnf)
  refine And.intro (fun _ => ?_) (fun c => absurd (show _ from e7) c)
  (conv => whnf)
  refine And.intro (fun h0 => ?_) (fun h0 => ?_)
  · have t0 : t = 0 := nI_inj (by omega) (by decide) h0
    (conv => whnf)
    refine ⟨vp_in_nI (show 0 < 1 by decide) (by decide), ?_⟩
    (conv => whnf)
    refine And.intro (fun _ => ?_) (fun c => absurd (show f2 (nI 0).toNatClampNeg = b.toInt64 by rw [nI_clamp (by decide)]; exact ef t0) c)
    (conv => whnf)
    refine And.intro (fun _ => ?_) (fun c => absurd (show _ from rfl) c)
    (conv => whnf)
    exact hK _ _ _ _ ⟨⟨rfl, rfl, rfl, rfl, rfl, trivial⟩, rfl, ⟨_, _, _, _, _, rfl, hr2⟩, by omega, by omega⟩
  · (conv => whnf)
    exact hK _ _ _ _ ⟨⟨rfl, rfl, rfl, rfl, rfl, trivial⟩, rfl, ⟨_, _, _, _, _, rfl, hr2⟩, by omega, by omega⟩
def pg_LC1 : List zE := [(232, .aload_n 1, 1, []), (233, .aload_n 0, 1, []), (234, .iload 4, 2, []), (236, .iconst 1, 1, [1]), (237, .iadd, 1, []), (238, .iaload, 1, []), (239, .aload_n 0, 1, []), (240, .iload 4, 2, []), (242, .iconst 2, 1, [2]), (243, .iadd, 1, []), (244, .iaload, 1, []), (245, .aload_n 0, 1, []), (246, .iload 4, 2, []), (248, .iconst 3, 1, [3]), (249, .iadd, 1, []), (250, .iaload, 1, []), (251, .aload_n 3, 1, []), (252, .invokestatic 103, 3, []), (255, .istore 5, 2, []), (257, .aload_n 2, 1, []), (258, .aload_n 0, 1, []), (259, .iload 4, 2, []), (261, .iconst 1, 1, [1]), (262, .iadd, 1, []), (263, .iaload, 1, []), (264, .aload_n 0, 1, []), (265, .iload 4, 2, []), (267, .iconst 2, 1, [2]), (268, .iadd, 1, []), (269, .iaload, 1, []), (270, .aload_n 0, 1, []), (271, .iload 4, 2, []), (273, .iconst 3, 1, [3]), (274, .iadd, 1, []), (275, .iaload, 1, []), (276, .invokevirtual 106, 3, []), (279, .istore 6, 2, []), (281, .aload_n 2, 1, []), (282, .invokevirtual 99, 3, []), (285, .iload 5, 2, []), (287, .if_icmp .eq 5, 3, [292]), (290, .iconst 0, 1, [0]), (291, .ireturn, 1, []), (292, .iload 5, 2, []), (294, .ifCond .ne 15, 3, [309]), (297, .aload_n 3, 1, []), (298, .iconst 0, 1, [0]), (299, .laload, 1, []), (300, .iload 6, 2, []), (302, .i2l, 1, []), (303, .lcmp, 1, []), (304, .ifCond .eq 5, 3, [309]), (307, .iconst 0, 1, [0]), (308, .ireturn, 1, []), (309, .goto 1366, 3, [1675])]
theorem hp_LC1 : ∀ q ∈ pg_LC1, decode code q.1 = .ok (q.2.1, q.2.2.1) ∧ ztg q.2.1 q.1 q.2.2.1 q.2.2.2 = true := zpg_of (by decide +kernel)
set_option maxHeartbeats 8000000 in
set_option maxRecDepth 40000 in
theorem wc_1 {L : Nat} {xs : Nat → Int32} {n : Nat} {α : Nat → Nat → Int32} {ν : Nat → Int32} {β : Nat → Nat → Int32} {μ : Nat → Int32} {f : Nat → Int64} {cu su : Nat} {K : zK} (hL : 5 * n + 5 ≤ L) (hL2 : L ≤ 2560) (hr : zRel n α ν β μ) (hcu : cu ≤ 40 + 10 * n) (hsu : su ≤ 2000 + 60 * n)
    (hK : ∀ Lc w cu2 su2, zSt (n + 1) n Lc [] w cu2 su2 → K Lc [] w cu2 su2) : zwp (zLT L xs) 7 pg_LC1 [(1675, K)] 100 pg_LC1 (zI5 n) [] (zW3 α ν β μ f) cu su := by
  (conv => whnf)
  refine ⟨zidx hL hL2 (k := 1) (by decide), ?_⟩
  (conv => whnf)
  refine ⟨zidx hL hL2 (k := 2) (by decide), ?_⟩
  (conv => whnf)
  refine ⟨zidx hL hL2 (k := 3) (by decide), ?_⟩
  (conv => whnf)
  rw [zble (show cu + 3 ≤ 601024 by omega)]
  (conv => whnf)
  rw [zble (show su + 18 ≤ 7293034 by omega)]
  (conv => whnf)
  refine j_sweep (n := n) (by omega) hr _ _ _ _ (fun _ _ => True) (fun k α1 ν1 f1 hm => ?_)
  (conv => whnf)
  refine ⟨zidx hL hL2 (k := 1) (by decide), ?_⟩
  (conv => whnf)
  refine ⟨zidx hL hL2 (k := 2) (by decide), ?_⟩
  (conv => whnf)
  refine ⟨zidx hL hL2 (k := 3) (by decide), ?_⟩
  (conv => whnf)
  rw [zble (show cu + 3 + 0 ≤ 601024 by omega)]
  (conv => whnf)
  rw [zble (show su + 18 + 0 ≤ 7293034 by omega)]
  (conv => whnf)
  refine ⟨zEnd n k, fun _ _ => False, hm _ _ (fun _ _ h => h), fun rv w2 he => ?_, fun _ _ h => h.elim⟩
  obtain ⟨α2, ν2, β2, μ2, f2, rfl, hr2, t, b, rfl, ht, e7, rfl, ef⟩ := he
  (conv => whnf)
  rw [zble (show cu + 3 + 0 + 0 ≤ 601024 by omega)]
  (conv => whnf)
  rw [zble (show su + 18 + 0 + 0 ≤ 7293034 by omega)]
  (conv => whnf)
  refine ⟨α2, ν2, β2, μ2, _, rfl, rfl, ?_⟩
  (conv => whnf)
  refine And.intro (fun _ => ?_) (fun c => absurd (show _ from e7) c)
  (conv => whnf)
  refine And.intro (fun h0 => ?_) (fun h0 => ?_)
  · have t0 : t = 0 := nI_inj (by omega) (by decide) h0
    (conv => whnf)
    refine ⟨vp_in_nI (show 0 < 1 by decide) (by decide), ?_⟩
    (conv => whnf)
    refine And.intro (fun _ => ?_) (fun c => absurd (show f2 (nI 0).toNatClampNeg = b.toInt64 by rw [nI_clamp (by decide)]; exact ef t0) c)
    (conv => whnf)
    refine And.intro (fun _ => ?_) (fun c => absurd (show _ from rfl) c)
    (conv => whnf)
    exact hK _ _ _ _ ⟨⟨rfl, rfl, rfl, rfl, rfl, trivial⟩, rfl, ⟨_, _, _, _, _, rfl, hr2⟩, by omega, by omega⟩
  · (conv => whnf)
    exact hK _ _ _ _ ⟨⟨rfl, rfl, rfl, rfl, rfl, trivial⟩, rfl, ⟨_, _, _, _, _, rfl, hr2⟩, by omega, by omega⟩
def pg_LC2 : List zE := [(312, .aload_n 1, 1, []), (313, .invokevirtual 107, 3, []), (316, .aload_n 2, 1, []), (317, .invokevirtual 110, 3, []), (320, .if_icmp .eq 1355, 3, [1675]), (323, .iconst 0, 1, [0]), (324, .ireturn, 1, [])]
theorem hp_LC2 : ∀ q ∈ pg_LC2, decode code q.1 = .ok (q.2.1, q.2.2.1) ∧ ztg q.2.1 q.1 q.2.2.1 q.2.2.2 = true := zpg_of (by decide +kernel)
set_option maxHeartbeats 8000000 in
set_option maxRecDepth 40000 in
theorem wc_2 {L : Nat} {xs : Nat → Int32} {n : Nat} {α : Nat → Nat → Int32} {ν : Nat → Int32} {β : Nat → Nat → Int32} {μ : Nat → Int32} {f : Nat → Int64} {cu su : Nat} {K : zK} (hL : 5 * n + 5 ≤ L) (hL2 : L ≤ 2560) (hr : zRel n α ν β μ) (hcu : cu ≤ 40 + 10 * n) (hsu : su ≤ 2000 + 60 * n)
    (hK : ∀ Lc w cu2 su2, zSt (n + 1) n Lc [] w cu2 su2 → K Lc [] w cu2 su2) : zwp (zLT L xs) 7 pg_LC2 [(1675, K)] 100 pg_LC2 (zI5 n) [] (zW3 α ν β μ f) cu su := by
  (conv => whnf)
  rw [zble (show cu + 0 ≤ 601024 by omega)]
  (conv => whnf)
  rw [zble (show su + 0 ≤ 7293034 by omega)]
  (conv => whnf)
  refine ⟨α, ν, _, rfl, rfl, ?_⟩
  (conv => whnf)
  rw [zble (show cu + 0 + 0 ≤ 601024 by omega)]
  (conv => whnf)
  rw [zble (show su + 0 + 0 ≤ 7293034 by omega)]
  (conv => whnf)
  refine ⟨α, ν, β, μ, _, rfl, rfl, ?_⟩
  (conv => whnf)
  refine And.intro (fun _ => ?_) (fun c => absurd (show _ from congrArg nI (zcs_congr (zRel_3 hr))) c)
  (conv => whnf)
  exact hK _ _ _ _ ⟨⟨rfl, rfl, rfl, rfl, rfl, trivial⟩, rfl, ⟨_, _, _, _, _, rfl, zRel_th hr⟩, by omega, by omega⟩
def pg_LC3 : List zE := [(325, .aload_n 1, 1, []), (326, .aload_n 0, 1, []), (327, .iload 4, 2, []), (329, .iconst 1, 1, [1]), (330, .iadd, 1, []), (331, .iaload, 1, []), (332, .aload_n 3, 1, []), (333, .invokestatic 111, 3, []), (336, .istore 5, 2, []), (338, .aload_n 2, 1, []), (339, .aload_n 0, 1, []), (340, .iload 4, 2, []), (342, .iconst 1, 1, [1]), (343, .iadd, 1, []), (344, .iaload, 1, []), (345, .invokevirtual 114, 3, []), (348, .istore 6, 2, []), (350, .aload_n 2, 1, []), (351, .invokevirtual 99, 3, []), (354, .iload 5, 2, []), (356, .if_icmp .eq 5, 3, [361]), (359, .iconst 0, 1, [0]), (360, .ireturn, 1, []), (361, .iload 5, 2, []), (363, .ifCond .ne 15, 3, [378]), (366, .aload_n 3, 1, []), (367, .iconst 0, 1, [0]), (368, .laload, 1, []), (369, .iload 6, 2, []), (371, .i2l, 1, []), (372, .lcmp, 1, []), (373, .ifCond .eq 5, 3, [378]), (376, .iconst 0, 1, [0]), (377, .ireturn, 1, []), (378, .goto 1297, 3, [1675])]
theorem hp_LC3 : ∀ q ∈ pg_LC3, decode code q.1 = .ok (q.2.1, q.2.2.1) ∧ ztg q.2.1 q.1 q.2.2.1 q.2.2.2 = true := zpg_of (by decide +kernel)
set_option maxHeartbeats 8000000 in
set_option maxRecDepth 40000 in
theorem wc_3 {L : Nat} {xs : Nat → Int32} {n : Nat} {α : Nat → Nat → Int32} {ν : Nat → Int32} {β : Nat → Nat → Int32} {μ : Nat → Int32} {f : Nat → Int64} {cu su : Nat} {K : zK} (hL : 5 * n + 5 ≤ L) (hL2 : L ≤ 2560) (hr : zRel n α ν β μ) (hcu : cu ≤ 40 + 10 * n) (hsu : su ≤ 2000 + 60 * n)
    (hK : ∀ Lc w cu2 su2, zSt (n + 1) n Lc [] w cu2 su2 → K Lc [] w cu2 su2) : zwp (zLT L xs) 7 pg_LC3 [(1675, K)] 100 pg_LC3 (zI5 n) [] (zW3 α ν β μ f) cu su := by
  (conv => whnf)
  refine ⟨zidx hL hL2 (k := 1) (by decide), ?_⟩
  (conv => whnf)
  rw [zble (show cu + 1 ≤ 601024 by omega)]
  (conv => whnf)
  rw [zble (show su + 6 ≤ 7293034 by omega)]
  (conv => whnf)
  refine j_shapeOf (n := n) hr _ _ (fun _ _ => True) (fun k α1 ν1 f1 hm => ?_)
  (conv => whnf)
  refine ⟨zidx hL hL2 (k := 1) (by decide), ?_⟩
  (conv => whnf)
  rw [zble (show cu + 1 + 0 ≤ 601024 by omega)]
  (conv => whnf)
  rw [zble (show su + 6 + 0 ≤ 7293034 by omega)]
  (conv => whnf)
  refine ⟨zEnd n k, fun _ _ => False, hm _ _ (fun _ _ h => h), fun rv w2 he => ?_, fun _ _ h => h.elim⟩
  obtain ⟨α2, ν2, β2, μ2, f2, rfl, hr2, t, b, rfl, ht, e7, rfl, ef⟩ := he
  (conv => whnf)
  rw [zble (show cu + 1 + 0 + 0 ≤ 601024 by omega)]
  (conv => whnf)
  rw [zble (show su + 6 + 0 + 0 ≤ 7293034 by omega)]
  (conv => whnf)
  refine ⟨α2, ν2, β2, μ2, _, rfl, rfl, ?_⟩
  (conv => whnf)
  refine And.intro (fun _ => ?_) (fun c => absurd (show _ from e7) c)
  (conv => whnf)
  refine And.intro (fun h0 => ?_) (fun h0 => ?_)
  · have t0 : t = 0 := nI_inj (by omega) (by decide) h0
    (conv => whnf)
    refine ⟨vp_in_nI (show 0 < 1 by decide) (by decide), ?_⟩
    (conv => whnf)
    refine And.intro (fun _ => ?_) (fun c => absurd (show f2 (nI 0).toNatClampNeg = b.toInt64 by rw [nI_clamp (by decide)]; exact ef t0) c)
    (conv => whnf)
    refine And.intro (fun _ => ?_) (fun c => absurd (show _ from rfl) c)
    (conv => whnf)
    exact hK _ _ _ _ ⟨⟨rfl, rfl, rfl, rfl, rfl, trivial⟩, rfl, ⟨_, _, _, _, _, rfl, hr2⟩, by omega, by omega⟩
  · (conv => whnf)
    exact hK _ _ _ _ ⟨⟨rfl, rfl, rfl, rfl, rfl, trivial⟩, rfl, ⟨_, _, _, _, _, rfl, hr2⟩, by omega, by omega⟩
def pg_LC4 : List zE := [(381, .aload_n 1, 1, []), (382, .aload_n 0, 1, []), (383, .iload 4, 2, []), (385, .iconst 1, 1, [1]), (386, .iadd, 1, []), (387, .iaload, 1, []), (388, .aload_n 3, 1, []), (389, .invokestatic 115, 3, []), (392, .istore 5, 2, []), (394, .aload_n 2, 1, []), (395, .aload_n 0, 1, []), (396, .iload 4, 2, []), (398, .iconst 1, 1, [1]), (399, .iadd, 1, []), (400, .iaload, 1, []), (401, .invokevirtual 117, 3, []), (404, .istore 6, 2, []), (406, .aload_n 2, 1, []), (407, .invokevirtual 99, 3, []), (410, .iload 5, 2, []), (412, .if_icmp .eq 5, 3, [417]), (415, .iconst 0, 1, [0]), (416, .ireturn, 1, []), (417, .iload 5, 2, []), (419, .ifCond .ne 15, 3, [434]), (422, .aload_n 3, 1, []), (423, .iconst 0, 1, [0]), (424, .laload, 1, []), (425, .iload 6, 2, []), (427, .i2l, 1, []), (428, .lcmp, 1, []), (429, .ifCond .eq 5, 3, [434]), (432, .iconst 0, 1, [0]), (433, .ireturn, 1, []), (434, .goto 1241, 3, [1675])]
theorem hp_LC4 : ∀ q ∈ pg_LC4, decode code q.1 = .ok (q.2.1, q.2.2.1) ∧ ztg q.2.1 q.1 q.2.2.1 q.2.2.2 = true := zpg_of (by decide +kernel)
set_option maxHeartbeats 8000000 in
set_option maxRecDepth 40000 in
theorem wc_4 {L : Nat} {xs : Nat → Int32} {n : Nat} {α : Nat → Nat → Int32} {ν : Nat → Int32} {β : Nat → Nat → Int32} {μ : Nat → Int32} {f : Nat → Int64} {cu su : Nat} {K : zK} (hL : 5 * n + 5 ≤ L) (hL2 : L ≤ 2560) (hr : zRel n α ν β μ) (hcu : cu ≤ 40 + 10 * n) (hsu : su ≤ 2000 + 60 * n)
    (hK : ∀ Lc w cu2 su2, zSt (n + 1) n Lc [] w cu2 su2 → K Lc [] w cu2 su2) : zwp (zLT L xs) 7 pg_LC4 [(1675, K)] 100 pg_LC4 (zI5 n) [] (zW3 α ν β μ f) cu su := by
  (conv => whnf)
  refine ⟨zidx hL hL2 (k := 1) (by decide), ?_⟩
  (conv => whnf)
  rw [zble (show cu + 1 ≤ 601024 by omega)]
  (conv => whnf)
  rw [zble (show su + 6 ≤ 7293034 by omega)]
  (conv => whnf)
  refine j_size (n := n) hr _ _ (fun _ _ => True) (fun k α1 ν1 f1 hm => ?_)
  (conv => whnf)
  refine ⟨zidx hL hL2 (k := 1) (by decide), ?_⟩
  (conv => whnf)
  rw [zble (show cu + 1 + 0 ≤ 601024 by omega)]
  (conv => whnf)
  rw [zble (show su + 6 + 0 ≤ 7293034 by omega)]
  (conv => whnf)
  refine ⟨zEnd n k, fun _ _ => False, hm _ _ (fun _ _ h => h), fun rv w2 he => ?_, fun _ _ h => h.elim⟩
  obtain ⟨α2, ν2, β2, μ2, f2, rfl, hr2, t, b, rfl, ht, e7, rfl, ef⟩ := he
  (conv => whnf)
  rw [zble (show cu + 1 + 0 + 0 ≤ 601024 by omega)]
  (conv => whnf)
  rw [zble (show su + 6 + 0 + 0 ≤ 7293034 by omega)]
  (conv => whnf)
  refine ⟨α2, ν2, β2, μ2, _, rfl, rfl, ?_⟩
  (conv => whnf)
  refine And.intro (fun _ => ?_) (fun c => absurd (show _ from e7) c)
  (conv => whnf)
  refine And.intro (fun h0 => ?_) (fun h0 => ?_)
  · have t0 : t = 0 := nI_inj (by omega) (by decide) h0
    (conv => whnf)
    refine ⟨vp_in_nI (show 0 < 1 by decide) (by decide), ?_⟩
    (conv => whnf)
    refine And.intro (fun _ => ?_) (fun c => absurd (show f2 (nI 0).toNatClampNeg = b.toInt64 by rw [nI_clamp (by decide)]; exact ef t0) c)
    (conv => whnf)
    refine And.intro (fun _ => ?_) (fun c => absurd (show _ from rfl) c)
    (conv => whnf)
    exact hK _ _ _ _ ⟨⟨rfl, rfl, rfl, rfl, rfl, trivial⟩, rfl, ⟨_, _, _, _, _, rfl, hr2⟩, by omega, by omega⟩
  · (conv => whnf)
    exact hK _ _ _ _ ⟨⟨rfl, rfl, rfl, rfl, rfl, trivial⟩, rfl, ⟨_, _, _, _, _, rfl, hr2⟩, by omega, by omega⟩
def pg_LC5 : List zE := [(437, .aload_n 1, 1, []), (438, .aload_n 0, 1, []), (439, .iload 4, 2, []), (441, .iconst 1, 1, [1]), (442, .iadd, 1, []), (443, .iaload, 1, []), (444, .aload_n 3, 1, []), (445, .invokestatic 118, 3, []), (448, .istore 5, 2, []), (450, .aload_n 2, 1, []), (451, .aload_n 0, 1, []), (452, .iload 4, 2, []), (454, .iconst 1, 1, [1]), (455, .iadd, 1, []), (456, .iaload, 1, []), (457, .invokevirtual 120, 3, []), (460, .istore 6, 2, []), (462, .aload_n 2, 1, []), (463, .invokevirtual 99, 3, []), (466, .iload 5, 2, []), (468, .if_icmp .eq 5, 3, [473]), (471, .iconst 0, 1, [0]), (472, .ireturn, 1, []), (473, .iload 5, 2, []), (475, .ifCond .ne 15, 3, [490]), (478, .aload_n 3, 1, []), (479, .iconst 0, 1, [0]), (480, .laload, 1, []), (481, .iload 6, 2, []), (483, .i2l, 1, []), (484, .lcmp, 1, []), (485, .ifCond .eq 5, 3, [490]), (488, .iconst 0, 1, [0]), (489, .ireturn, 1, []), (490, .goto 1185, 3, [1675])]
theorem hp_LC5 : ∀ q ∈ pg_LC5, decode code q.1 = .ok (q.2.1, q.2.2.1) ∧ ztg q.2.1 q.1 q.2.2.1 q.2.2.2 = true := zpg_of (by decide +kernel)
set_option maxHeartbeats 8000000 in
set_option maxRecDepth 40000 in
theorem wc_5 {L : Nat} {xs : Nat → Int32} {n : Nat} {α : Nat → Nat → Int32} {ν : Nat → Int32} {β : Nat → Nat → Int32} {μ : Nat → Int32} {f : Nat → Int64} {cu su : Nat} {K : zK} (hL : 5 * n + 5 ≤ L) (hL2 : L ≤ 2560) (hr : zRel n α ν β μ) (hcu : cu ≤ 40 + 10 * n) (hsu : su ≤ 2000 + 60 * n)
    (hK : ∀ Lc w cu2 su2, zSt (n + 1) n Lc [] w cu2 su2 → K Lc [] w cu2 su2) : zwp (zLT L xs) 7 pg_LC5 [(1675, K)] 100 pg_LC5 (zI5 n) [] (zW3 α ν β μ f) cu su := by
  (conv => whnf)
  refine ⟨zidx hL hL2 (k := 1) (by decide), ?_⟩
  (conv => whnf)
  rw [zble (show cu + 1 ≤ 601024 by omega)]
  (conv => whnf)
  rw [zble (show su + 6 ≤ 7293034 by omega)]
  (conv => whnf)
  refine j_top (n := n) hr _ _ (fun _ _ => True) (fun k α1 ν1 f1 hm => ?_)
  (conv => whnf)
  refine ⟨zidx hL hL2 (k := 1) (by decide), ?_⟩
  (conv => whnf)
  rw [zble (show cu + 1 + 0 ≤ 601024 by omega)]
  (conv => whnf)
  rw [zble (show su + 6 + 0 ≤ 7293034 by omega)]
  (conv => whnf)
  refine ⟨zEnd n k, fun _ _ => False, hm _ _ (fun _ _ h => h), fun rv w2 he => ?_, fun _ _ h => h.elim⟩
  obtain ⟨α2, ν2, β2, μ2, f2, rfl, hr2, t, b, rfl, ht, e7, rfl, ef⟩ := he
  (conv => whnf)
  rw [zble (show cu + 1 + 0 + 0 ≤ 601024 by omega)]
  (conv => whnf)
  rw [zble (show su + 6 + 0 + 0 ≤ 7293034 by omega)]
  (conv => whnf)
  refine ⟨α2, ν2, β2, μ2, _, rfl, rfl, ?_⟩
  (conv => whnf)
  refine And.intro (fun _ => ?_) (fun c => absurd (show _ from e7) c)
  (conv => whnf)
  refine And.intro (fun h0 => ?_) (fun h0 => ?_)
  · have t0 : t = 0 := nI_inj (by omega) (by decide) h0
    (conv => whnf)
    refine ⟨vp_in_nI (show 0 < 1 by decide) (by decide), ?_⟩
    (conv => whnf)
    refine And.intro (fun _ => ?_) (fun c => absurd (show f2 (nI 0).toNatClampNeg = b.toInt64 by rw [nI_clamp (by decide)]; exact ef t0) c)
    (conv => whnf)
    refine And.intro (fun _ => ?_) (fun c => absurd (show _ from rfl) c)
    (conv => whnf)
    exact hK _ _ _ _ ⟨⟨rfl, rfl, rfl, rfl, rfl, trivial⟩, rfl, ⟨_, _, _, _, _, rfl, hr2⟩, by omega, by omega⟩
  · (conv => whnf)
    exact hK _ _ _ _ ⟨⟨rfl, rfl, rfl, rfl, rfl, trivial⟩, rfl, ⟨_, _, _, _, _, rfl, hr2⟩, by omega, by omega⟩
def pg_LC6 : List zE := [(493, .aload_n 1, 1, []), (494, .aload_n 0, 1, []), (495, .iload 4, 2, []), (497, .iconst 1, 1, [1]), (498, .iadd, 1, []), (499, .iaload, 1, []), (500, .aload_n 3, 1, []), (501, .invokestatic 121, 3, []), (504, .istore 5, 2, []), (506, .aload_n 2, 1, []), (507, .aload_n 0, 1, []), (508, .iload 4, 2, []), (510, .iconst 1, 1, [1]), (511, .iadd, 1, []), (512, .iaload, 1, []), (513, .invokevirtual 123, 3, []), (516, .istore 6, 2, []), (518, .aload_n 2, 1, []), (519, .invokevirtual 99, 3, []), (522, .iload 5, 2, []), (524, .if_icmp .eq 5, 3, [529]), (527, .iconst 0, 1, [0]), (528, .ireturn, 1, []), (529, .iload 5, 2, []), (531, .ifCond .ne 15, 3, [546]), (534, .aload_n 3, 1, []), (535, .iconst 0, 1, [0]), (536, .laload, 1, []), (537, .iload 6, 2, []), (539, .i2l, 1, []), (540, .lcmp, 1, []), (541, .ifCond .eq 5, 3, [546]), (544, .iconst 0, 1, [0]), (545, .ireturn, 1, []), (546, .goto 1129, 3, [1675])]
theorem hp_LC6 : ∀ q ∈ pg_LC6, decode code q.1 = .ok (q.2.1, q.2.2.1) ∧ ztg q.2.1 q.1 q.2.2.1 q.2.2.2 = true := zpg_of (by decide +kernel)
set_option maxHeartbeats 8000000 in
set_option maxRecDepth 40000 in
theorem wc_6 {L : Nat} {xs : Nat → Int32} {n : Nat} {α : Nat → Nat → Int32} {ν : Nat → Int32} {β : Nat → Nat → Int32} {μ : Nat → Int32} {f : Nat → Int64} {cu su : Nat} {K : zK} (hL : 5 * n + 5 ≤ L) (hL2 : L ≤ 2560) (hr : zRel n α ν β μ) (hcu : cu ≤ 40 + 10 * n) (hsu : su ≤ 2000 + 60 * n)
    (hK : ∀ Lc w cu2 su2, zSt (n + 1) n Lc [] w cu2 su2 → K Lc [] w cu2 su2) : zwp (zLT L xs) 7 pg_LC6 [(1675, K)] 100 pg_LC6 (zI5 n) [] (zW3 α ν β μ f) cu su := by
  (conv => whnf)
  refine ⟨zidx hL hL2 (k := 1) (by decide), ?_⟩
  (conv => whnf)
  rw [zble (show cu + 1 ≤ 601024 by omega)]
  (conv => whnf)
  rw [zble (show su + 6 ≤ 7293034 by omega)]
  (conv => whnf)
  refine j_nameOf (n := n) hr _ _ (fun _ _ => True) (fun k α1 ν1 f1 hm => ?_)
  (conv => whnf)
  refine ⟨zidx hL hL2 (k := 1) (by decide), ?_⟩
  (conv => whnf)
  rw [zble (show cu + 1 + 0 ≤ 601024 by omega)]
  (conv => whnf)
  rw [zble (show su + 6 + 0 ≤ 7293034 by omega)]
  (conv => whnf)
  refine ⟨zEnd n k, fun _ _ => False, hm _ _ (fun _ _ h => h), fun rv w2 he => ?_, fun _ _ h => h.elim⟩
  obtain ⟨α2, ν2, β2, μ2, f2, rfl, hr2, t, b, rfl, ht, e7, rfl, ef⟩ := he
  (conv => whnf)
  rw [zble (show cu + 1 + 0 + 0 ≤ 601024 by omega)]
  (conv => whnf)
  rw [zble (show su + 6 + 0 + 0 ≤ 7293034 by omega)]
  (conv => whnf)
  refine ⟨α2, ν2, β2, μ2, _, rfl, rfl, ?_⟩
  (conv => whnf)
  refine And.intro (fun _ => ?_) (fun c => absurd (show _ from e7) c)
  (conv => whnf)
  refine And.intro (fun h0 => ?_) (fun h0 => ?_)
  · have t0 : t = 0 := nI_inj (by omega) (by decide) h0
    (conv => whnf)
    refine ⟨vp_in_nI (show 0 < 1 by decide) (by decide), ?_⟩
    (conv => whnf)
    refine And.intro (fun _ => ?_) (fun c => absurd (show f2 (nI 0).toNatClampNeg = b.toInt64 by rw [nI_clamp (by decide)]; exact ef t0) c)
    (conv => whnf)
    refine And.intro (fun _ => ?_) (fun c => absurd (show _ from rfl) c)
    (conv => whnf)
    exact hK _ _ _ _ ⟨⟨rfl, rfl, rfl, rfl, rfl, trivial⟩, rfl, ⟨_, _, _, _, _, rfl, hr2⟩, by omega, by omega⟩
  · (conv => whnf)
    exact hK _ _ _ _ ⟨⟨rfl, rfl, rfl, rfl, rfl, trivial⟩, rfl, ⟨_, _, _, _, _, rfl, hr2⟩, by omega, by omega⟩
def pg_LC7 : List zE := [(549, .aload_n 1, 1, []), (550, .aload_n 0, 1, []), (551, .iload 4, 2, []), (553, .iconst 1, 1, [1]), (554, .iadd, 1, []), (555, .iaload, 1, []), (556, .aload_n 0, 1, []), (557, .iload 4, 2, []), (559, .iconst 2, 1, [2]), (560, .iadd, 1, []), (561, .iaload, 1, []), (562, .aload_n 3, 1, []), (563, .invokestatic 124, 3, []), (566, .istore 5, 2, []), (568, .aload_n 2, 1, []), (569, .aload_n 0, 1, []), (570, .iload 4, 2, []), (572, .iconst 1, 1, [1]), (573, .iadd, 1, []), (574, .iaload, 1, []), (575, .aload_n 0, 1, []), (576, .iload 4, 2, []), (578, .iconst 2, 1, [2]), (579, .iadd, 1, []), (580, .iaload, 1, []), (581, .invokevirtual 126, 3, []), (584, .istore 6, 2, []), (586, .aload_n 2, 1, []), (587, .invokevirtual 99, 3, []), (590, .iload 5, 2, []), (592, .if_icmp .eq 5, 3, [597]), (595, .iconst 0, 1, [0]), (596, .ireturn, 1, []), (597, .iload 5, 2, []), (599, .ifCond .ne 15, 3, [614]), (602, .aload_n 3, 1, []), (603, .iconst 0, 1, [0]), (604, .laload, 1, []), (605, .iload 6, 2, []), (607, .i2l, 1, []), (608, .lcmp, 1, []), (609, .ifCond .eq 5, 3, [614]), (612, .iconst 0, 1, [0]), (613, .ireturn, 1, []), (614, .goto 1061, 3, [1675])]
theorem hp_LC7 : ∀ q ∈ pg_LC7, decode code q.1 = .ok (q.2.1, q.2.2.1) ∧ ztg q.2.1 q.1 q.2.2.1 q.2.2.2 = true := zpg_of (by decide +kernel)
set_option maxHeartbeats 8000000 in
set_option maxRecDepth 40000 in
theorem wc_7 {L : Nat} {xs : Nat → Int32} {n : Nat} {α : Nat → Nat → Int32} {ν : Nat → Int32} {β : Nat → Nat → Int32} {μ : Nat → Int32} {f : Nat → Int64} {cu su : Nat} {K : zK} (hL : 5 * n + 5 ≤ L) (hL2 : L ≤ 2560) (hr : zRel n α ν β μ) (hcu : cu ≤ 40 + 10 * n) (hsu : su ≤ 2000 + 60 * n)
    (hK : ∀ Lc w cu2 su2, zSt (n + 1) n Lc [] w cu2 su2 → K Lc [] w cu2 su2) : zwp (zLT L xs) 7 pg_LC7 [(1675, K)] 100 pg_LC7 (zI5 n) [] (zW3 α ν β μ f) cu su := by
  (conv => whnf)
  refine ⟨zidx hL hL2 (k := 1) (by decide), ?_⟩
  (conv => whnf)
  refine ⟨zidx hL hL2 (k := 2) (by decide), ?_⟩
  (conv => whnf)
  rw [zble (show cu + 2 ≤ 601024 by omega)]
  (conv => whnf)
  rw [zble (show su + 12 ≤ 7293034 by omega)]
  (conv => whnf)
  refine j_titleAt (n := n) hr _ _ _ (fun _ _ => True) (fun k α1 ν1 f1 hm => ?_)
  (conv => whnf)
  refine ⟨zidx hL hL2 (k := 1) (by decide), ?_⟩
  (conv => whnf)
  refine ⟨zidx hL hL2 (k := 2) (by decide), ?_⟩
  (conv => whnf)
  rw [zble (show cu + 2 + 0 ≤ 601024 by omega)]
  (conv => whnf)
  rw [zble (show su + 12 + 0 ≤ 7293034 by omega)]
  (conv => whnf)
  refine ⟨zEnd n k, fun _ _ => False, hm _ _ (fun _ _ h => h), fun rv w2 he => ?_, fun _ _ h => h.elim⟩
  obtain ⟨α2, ν2, β2, μ2, f2, rfl, hr2, t, b, rfl, ht, e7, rfl, ef⟩ := he
  (conv => whnf)
  rw [zble (show cu + 2 + 0 + 0 ≤ 601024 by omega)]
  (conv => whnf)
  rw [zble (show su + 12 + 0 + 0 ≤ 7293034 by omega)]
  (conv => whnf)
  refine ⟨α2, ν2, β2, μ2, _, rfl, rfl, ?_⟩
  (conv => whnf)
  refine And.intro (fun _ => ?_) (fun c => absurd (show _ from e7) c)
  (conv => whnf)
  refine And.intro (fun h0 => ?_) (fun h0 => ?_)
  · have t0 : t = 0 := nI_inj (by omega) (by decide) h0
    (conv => whnf)
    refine ⟨vp_in_nI (show 0 < 1 by decide) (by decide), ?_⟩
    (conv => whnf)
    refine And.intro (fun _ => ?_) (fun c => absurd (show f2 (nI 0).toNatClampNeg = b.toInt64 by rw [nI_clamp (by decide)]; exact ef t0) c)
    (conv => whnf)
    refine And.intro (fun _ => ?_) (fun c => absurd (show _ from rfl) c)
    (conv => whnf)
    exact hK _ _ _ _ ⟨⟨rfl, rfl, rfl, rfl, rfl, trivial⟩, rfl, ⟨_, _, _, _, _, rfl, hr2⟩, by omega, by omega⟩
  · (conv => whnf)
    exact hK _ _ _ _ ⟨⟨rfl, rfl, rfl, rfl, rfl, trivial⟩, rfl, ⟨_, _, _, _, _, rfl, hr2⟩, by omega, by omega⟩
def pg_LC8 : List zE := [(617, .aload_n 1, 1, []), (618, .aload_n 0, 1, []), (619, .iload 4, 2, []), (621, .iconst 1, 1, [1]), (622, .iadd, 1, []), (623, .iaload, 1, []), (624, .aload_n 0, 1, []), (625, .iload 4, 2, []), (627, .iconst 2, 1, [2]), (628, .iadd, 1, []), (629, .iaload, 1, []), (630, .aload_n 0, 1, []), (631, .iload 4, 2, []), (633, .iconst 3, 1, [3]), (634, .iadd, 1, []), (635, .iaload, 1, []), (636, .aload_n 0, 1, []), (637, .iload 4, 2, []), (639, .iconst 4, 1, [4]), (640, .iadd, 1, []), (641, .iaload, 1, []), (642, .aload_n 3, 1, []), (643, .invokestatic 127, 3, []), (646, .istore 5, 2, []), (648, .aload_n 2, 1, []), (649, .aload_n 0, 1, []), (650, .iload 4, 2, []), (652, .iconst 1, 1, [1]), (653, .iadd, 1, []), (654, .iaload, 1, []), (655, .aload_n 0, 1, []), (656, .iload 4, 2, []), (658, .iconst 2, 1, [2]), (659, .iadd, 1, []), (660, .iaload, 1, []), (661, .aload_n 0, 1, []), (662, .iload 4, 2, []), (664, .iconst 3, 1, [3]), (665, .iadd, 1, []), (666, .iaload, 1, []), (667, .aload_n 0, 1, []), (668, .iload 4, 2, []), (670, .iconst 4, 1, [4]), (671, .iadd, 1, []), (672, .iaload, 1, []), (673, .invokevirtual 130, 3, []), (676, .istore 6, 2, []), (678, .aload_n 2, 1, []), (679, .invokevirtual 99, 3, []), (682, .iload 5, 2, []), (684, .if_icmp .eq 5, 3, [689]), (687, .iconst 0, 1, [0]), (688, .ireturn, 1, []), (689, .iload 5, 2, []), (691, .ifCond .ne 15, 3, [706]), (694, .aload_n 3, 1, []), (695, .iconst 0, 1, [0]), (696, .laload, 1, []), (697, .iload 6, 2, []), (699, .i2l, 1, []), (700, .lcmp, 1, []), (701, .ifCond .eq 5, 3, [706]), (704, .iconst 0, 1, [0]), (705, .ireturn, 1, []), (706, .goto 969, 3, [1675])]
theorem hp_LC8 : ∀ q ∈ pg_LC8, decode code q.1 = .ok (q.2.1, q.2.2.1) ∧ ztg q.2.1 q.1 q.2.2.1 q.2.2.2 = true := zpg_of (by decide +kernel)
set_option maxHeartbeats 8000000 in
set_option maxRecDepth 40000 in
theorem wc_8 {L : Nat} {xs : Nat → Int32} {n : Nat} {α : Nat → Nat → Int32} {ν : Nat → Int32} {β : Nat → Nat → Int32} {μ : Nat → Int32} {f : Nat → Int64} {cu su : Nat} {K : zK} (hL : 5 * n + 5 ≤ L) (hL2 : L ≤ 2560) (hr : zRel n α ν β μ) (hcu : cu ≤ 40 + 10 * n) (hsu : su ≤ 2000 + 60 * n)
    (hK : ∀ Lc w cu2 su2, zSt (n + 1) n Lc [] w cu2 su2 → K Lc [] w cu2 su2) : zwp (zLT L xs) 7 pg_LC8 [(1675, K)] 100 pg_LC8 (zI5 n) [] (zW3 α ν β μ f) cu su := by
  (conv => whnf)
  refine ⟨zidx hL hL2 (k := 1) (by decide), ?_⟩
  (conv => whnf)
  refine ⟨zidx hL hL2 (k := 2) (by decide), ?_⟩
  (conv => whnf)
  refine ⟨zidx hL hL2 (k := 3) (by decide), ?_⟩
  (conv => whnf)
  refine ⟨zidx hL hL2 (k := 4) (by decide), ?_⟩
  (conv => whnf)
  rw [zble (show cu + 6 ≤ 601024 by omega)]
  (conv => whnf)
  rw [zble (show su + 36 ≤ 7293034 by omega)]
  (conv => whnf)
  refine j_name (n := n) (by omega) hr _ _ _ _ _ (fun _ _ => True) (fun k α1 ν1 f1 hm => ?_)
  (conv => whnf)
  refine ⟨zidx hL hL2 (k := 1) (by decide), ?_⟩
  (conv => whnf)
  refine ⟨zidx hL hL2 (k := 2) (by decide), ?_⟩
  (conv => whnf)
  refine ⟨zidx hL hL2 (k := 3) (by decide), ?_⟩
  (conv => whnf)
  refine ⟨zidx hL hL2 (k := 4) (by decide), ?_⟩
  (conv => whnf)
  rw [zble (show cu + 6 + 0 ≤ 601024 by omega)]
  (conv => whnf)
  rw [zble (show su + 36 + 0 ≤ 7293034 by omega)]
  (conv => whnf)
  refine ⟨zEnd n k, fun _ _ => False, hm _ _ (fun _ _ h => h), fun rv w2 he => ?_, fun _ _ h => h.elim⟩
  obtain ⟨α2, ν2, β2, μ2, f2, rfl, hr2, t, b, rfl, ht, e7, rfl, ef⟩ := he
  (conv => whnf)
  rw [zble (show cu + 6 + 0 + 0 ≤ 601024 by omega)]
  (conv => whnf)
  rw [zble (show su + 36 + 0 + 0 ≤ 7293034 by omega)]
  (conv => whnf)
  refine ⟨α2, ν2, β2, μ2, _, rfl, rfl, ?_⟩
  (conv => whnf)
  refine And.intro (fun _ => ?_) (fun c => absurd (show _ from e7) c)
  (conv => whnf)
  refine And.intro (fun h0 => ?_) (fun h0 => ?_)
  · have t0 : t = 0 := nI_inj (by omega) (by decide) h0
    (conv => whnf)
    refine ⟨vp_in_nI (show 0 < 1 by decide) (by decide), ?_⟩
    (conv => whnf)
    refine And.intro (fun _ => ?_) (fun c => absurd (show f2 (nI 0).toNatClampNeg = b.toInt64 by rw [nI_clamp (by decide)]; exact ef t0) c)
    (conv => whnf)
    refine And.intro (fun _ => ?_) (fun c => absurd (show _ from rfl) c)
    (conv => whnf)
    exact hK _ _ _ _ ⟨⟨rfl, rfl, rfl, rfl, rfl, trivial⟩, rfl, ⟨_, _, _, _, _, rfl, hr2⟩, by omega, by omega⟩
  · (conv => whnf)
    exact hK _ _ _ _ ⟨⟨rfl, rfl, rfl, rfl, rfl, trivial⟩, rfl, ⟨_, _, _, _, _, rfl, hr2⟩, by omega, by omega⟩
def pg_LC9 : List zE := [(709, .aload_n 1, 1, []), (710, .aload_n 0, 1, []), (711, .iload 4, 2, []), (713, .iconst 1, 1, [1]), (714, .iadd, 1, []), (715, .iaload, 1, []), (716, .aload_n 0, 1, []), (717, .iload 4, 2, []), (719, .iconst 2, 1, [2]), (720, .iadd, 1, []), (721, .iaload, 1, []), (722, .aload_n 0, 1, []), (723, .iload 4, 2, []), (725, .iconst 3, 1, [3]), (726, .iadd, 1, []), (727, .iaload, 1, []), (728, .aload_n 0, 1, []), (729, .iload 4, 2, []), (731, .iconst 4, 1, [4]), (732, .iadd, 1, []), (733, .iaload, 1, []), (734, .aload_n 3, 1, []), (735, .invokestatic 131, 3, []), (738, .istore 5, 2, []), (740, .aload_n 2, 1, []), (741, .aload_n 0, 1, []), (742, .iload 4, 2, []), (744, .iconst 1, 1, [1]), (745, .iadd, 1, []), (746, .iaload, 1, []), (747, .aload_n 0, 1, []), (748, .iload 4, 2, []), (750, .iconst 2, 1, [2]), (751, .iadd, 1, []), (752, .iaload, 1, []), (753, .aload_n 0, 1, []), (754, .iload 4, 2, []), (756, .iconst 3, 1, [3]), (757, .iadd, 1, []), (758, .iaload, 1, []), (759, .aload_n 0, 1, []), (760, .iload 4, 2, []), (762, .iconst 4, 1, [4]), (763, .iadd, 1, []), (764, .iaload, 1, []), (765, .invokevirtual 133, 3, []), (768, .istore 6, 2, []), (770, .aload_n 2, 1, []), (771, .invokevirtual 99, 3, []), (774, .iload 5, 2, []), (776, .if_icmp .eq 5, 3, [781]), (779, .iconst 0, 1, [0]), (780, .ireturn, 1, []), (781, .iload 5, 2, []), (783, .ifCond .ne 15, 3, [798]), (786, .aload_n 3, 1, []), (787, .iconst 0, 1, [0]), (788, .laload, 1, []), (789, .iload 6, 2, []), (791, .i2l, 1, []), (792, .lcmp, 1, []), (793, .ifCond .eq 5, 3, [798]), (796, .iconst 0, 1, [0]), (797, .ireturn, 1, []), (798, .goto 877, 3, [1675])]
theorem hp_LC9 : ∀ q ∈ pg_LC9, decode code q.1 = .ok (q.2.1, q.2.2.1) ∧ ztg q.2.1 q.1 q.2.2.1 q.2.2.2 = true := zpg_of (by decide +kernel)
set_option maxHeartbeats 8000000 in
set_option maxRecDepth 40000 in
theorem wc_9 {L : Nat} {xs : Nat → Int32} {n : Nat} {α : Nat → Nat → Int32} {ν : Nat → Int32} {β : Nat → Nat → Int32} {μ : Nat → Int32} {f : Nat → Int64} {cu su : Nat} {K : zK} (hL : 5 * n + 5 ≤ L) (hL2 : L ≤ 2560) (hr : zRel n α ν β μ) (hcu : cu ≤ 40 + 10 * n) (hsu : su ≤ 2000 + 60 * n)
    (hK : ∀ Lc w cu2 su2, zSt (n + 1) n Lc [] w cu2 su2 → K Lc [] w cu2 su2) : zwp (zLT L xs) 7 pg_LC9 [(1675, K)] 100 pg_LC9 (zI5 n) [] (zW3 α ν β μ f) cu su := by
  (conv => whnf)
  refine ⟨zidx hL hL2 (k := 1) (by decide), ?_⟩
  (conv => whnf)
  refine ⟨zidx hL hL2 (k := 2) (by decide), ?_⟩
  (conv => whnf)
  refine ⟨zidx hL hL2 (k := 3) (by decide), ?_⟩
  (conv => whnf)
  refine ⟨zidx hL hL2 (k := 4) (by decide), ?_⟩
  (conv => whnf)
  rw [zble (show cu + 9 ≤ 601024 by omega)]
  (conv => whnf)
  rw [zble (show su + 54 ≤ 7293034 by omega)]
  (conv => whnf)
  refine j_raise (n := n) hr _ _ _ _ _ (fun _ _ => True) (fun k α1 ν1 f1 hm => ?_)
  (conv => whnf)
  refine ⟨zidx hL hL2 (k := 1) (by decide), ?_⟩
  (conv => whnf)
  refine ⟨zidx hL hL2 (k := 2) (by decide), ?_⟩
  (conv => whnf)
  refine ⟨zidx hL hL2 (k := 3) (by decide), ?_⟩
  (conv => whnf)
  refine ⟨zidx hL hL2 (k := 4) (by decide), ?_⟩
  (conv => whnf)
  rw [zble (show cu + 9 + 0 ≤ 601024 by omega)]
  (conv => whnf)
  rw [zble (show su + 54 + 0 ≤ 7293034 by omega)]
  (conv => whnf)
  refine ⟨zEnd n k, fun _ _ => False, hm _ _ (fun _ _ h => h), fun rv w2 he => ?_, fun _ _ h => h.elim⟩
  obtain ⟨α2, ν2, β2, μ2, f2, rfl, hr2, t, b, rfl, ht, e7, rfl, ef⟩ := he
  (conv => whnf)
  rw [zble (show cu + 9 + 0 + 0 ≤ 601024 by omega)]
  (conv => whnf)
  rw [zble (show su + 54 + 0 + 0 ≤ 7293034 by omega)]
  (conv => whnf)
  refine ⟨α2, ν2, β2, μ2, _, rfl, rfl, ?_⟩
  (conv => whnf)
  refine And.intro (fun _ => ?_) (fun c => absurd (show _ from e7) c)
  (conv => whnf)
  refine And.intro (fun h0 => ?_) (fun h0 => ?_)
  · have t0 : t = 0 := nI_inj (by omega) (by decide) h0
    (conv => whnf)
    refine ⟨vp_in_nI (show 0 < 1 by decide) (by decide), ?_⟩
    (conv => whnf)
    refine And.intro (fun _ => ?_) (fun c => absurd (show f2 (nI 0).toNatClampNeg = b.toInt64 by rw [nI_clamp (by decide)]; exact ef t0) c)
    (conv => whnf)
    refine And.intro (fun _ => ?_) (fun c => absurd (show _ from rfl) c)
    (conv => whnf)
    exact hK _ _ _ _ ⟨⟨rfl, rfl, rfl, rfl, rfl, trivial⟩, rfl, ⟨_, _, _, _, _, rfl, hr2⟩, by omega, by omega⟩
  · (conv => whnf)
    exact hK _ _ _ _ ⟨⟨rfl, rfl, rfl, rfl, rfl, trivial⟩, rfl, ⟨_, _, _, _, _, rfl, hr2⟩, by omega, by omega⟩
def pg_LC10 : List zE := [(801, .aload_n 1, 1, []), (802, .aload_n 0, 1, []), (803, .iload 4, 2, []), (805, .iconst 1, 1, [1]), (806, .iadd, 1, []), (807, .iaload, 1, []), (808, .aload_n 3, 1, []), (809, .invokestatic 134, 3, []), (812, .istore 5, 2, []), (814, .aload_n 2, 1, []), (815, .aload_n 0, 1, []), (816, .iload 4, 2, []), (818, .iconst 1, 1, [1]), (819, .iadd, 1, []), (820, .iaload, 1, []), (821, .invokevirtual 136, 3, []), (824, .istore 6, 2, []), (826, .aload_n 2, 1, []), (827, .invokevirtual 99, 3, []), (830, .iload 5, 2, []), (832, .if_icmp .eq 5, 3, [837]), (835, .iconst 0, 1, [0]), (836, .ireturn, 1, []), (837, .iload 5, 2, []), (839, .ifCond .ne 15, 3, [854]), (842, .aload_n 3, 1, []), (843, .iconst 0, 1, [0]), (844, .laload, 1, []), (845, .iload 6, 2, []), (847, .i2l, 1, []), (848, .lcmp, 1, []), (849, .ifCond .eq 5, 3, [854]), (852, .iconst 0, 1, [0]), (853, .ireturn, 1, []), (854, .goto 821, 3, [1675])]
theorem hp_LC10 : ∀ q ∈ pg_LC10, decode code q.1 = .ok (q.2.1, q.2.2.1) ∧ ztg q.2.1 q.1 q.2.2.1 q.2.2.2 = true := zpg_of (by decide +kernel)
set_option maxHeartbeats 8000000 in
set_option maxRecDepth 40000 in
theorem wc_10 {L : Nat} {xs : Nat → Int32} {n : Nat} {α : Nat → Nat → Int32} {ν : Nat → Int32} {β : Nat → Nat → Int32} {μ : Nat → Int32} {f : Nat → Int64} {cu su : Nat} {K : zK} (hL : 5 * n + 5 ≤ L) (hL2 : L ≤ 2560) (hr : zRel n α ν β μ) (hcu : cu ≤ 40 + 10 * n) (hsu : su ≤ 2000 + 60 * n)
    (hK : ∀ Lc w cu2 su2, zSt (n + 1) n Lc [] w cu2 su2 → K Lc [] w cu2 su2) : zwp (zLT L xs) 7 pg_LC10 [(1675, K)] 100 pg_LC10 (zI5 n) [] (zW3 α ν β μ f) cu su := by
  (conv => whnf)
  refine ⟨zidx hL hL2 (k := 1) (by decide), ?_⟩
  (conv => whnf)
  rw [zble (show cu + 2 ≤ 601024 by omega)]
  (conv => whnf)
  rw [zble (show su + 12 ≤ 7293034 by omega)]
  (conv => whnf)
  refine j_fill (n := n) hr _ _ (fun _ _ => True) (fun k α1 ν1 f1 hm => ?_)
  (conv => whnf)
  refine ⟨zidx hL hL2 (k := 1) (by decide), ?_⟩
  (conv => whnf)
  rw [zble (show cu + 2 + 0 ≤ 601024 by omega)]
  (conv => whnf)
  rw [zble (show su + 12 + 0 ≤ 7293034 by omega)]
  (conv => whnf)
  refine ⟨zEnd n k, fun _ _ => False, hm _ _ (fun _ _ h => h), fun rv w2 he => ?_, fun _ _ h => h.elim⟩
  obtain ⟨α2, ν2, β2, μ2, f2, rfl, hr2, t, b, rfl, ht, e7, rfl, ef⟩ := he
  (conv => whnf)
  rw [zble (show cu + 2 + 0 + 0 ≤ 601024 by omega)]
  (conv => whnf)
  rw [zble (show su + 12 + 0 + 0 ≤ 7293034 by omega)]
  (conv => whnf)
  refine ⟨α2, ν2, β2, μ2, _, rfl, rfl, ?_⟩
  (conv => whnf)
  refine And.intro (fun _ => ?_) (fun c => absurd (show _ from e7) c)
  (conv => whnf)
  refine And.intro (fun h0 => ?_) (fun h0 => ?_)
  · have t0 : t = 0 := nI_inj (by omega) (by decide) h0
    (conv => whnf)
    refine ⟨vp_in_nI (show 0 < 1 by decide) (by decide), ?_⟩
    (conv => whnf)
    refine And.intro (fun _ => ?_) (fun c => absurd (show f2 (nI 0).toNatClampNeg = b.toInt64 by rw [nI_clamp (by decide)]; exact ef t0) c)
    (conv => whnf)
    refine And.intro (fun _ => ?_) (fun c => absurd (show _ from rfl) c)
    (conv => whnf)
    exact hK _ _ _ _ ⟨⟨rfl, rfl, rfl, rfl, rfl, trivial⟩, rfl, ⟨_, _, _, _, _, rfl, hr2⟩, by omega, by omega⟩
  · (conv => whnf)
    exact hK _ _ _ _ ⟨⟨rfl, rfl, rfl, rfl, rfl, trivial⟩, rfl, ⟨_, _, _, _, _, rfl, hr2⟩, by omega, by omega⟩
def pg_LC11 : List zE := [(857, .aload_n 1, 1, []), (858, .aload_n 0, 1, []), (859, .iload 4, 2, []), (861, .iconst 1, 1, [1]), (862, .iadd, 1, []), (863, .iaload, 1, []), (864, .aload_n 3, 1, []), (865, .invokestatic 137, 3, []), (868, .istore 5, 2, []), (870, .aload_n 2, 1, []), (871, .aload_n 0, 1, []), (872, .iload 4, 2, []), (874, .iconst 1, 1, [1]), (875, .iadd, 1, []), (876, .iaload, 1, []), (877, .invokevirtual 139, 3, []), (880, .istore 6, 2, []), (882, .aload_n 2, 1, []), (883, .invokevirtual 99, 3, []), (886, .iload 5, 2, []), (888, .if_icmp .eq 5, 3, [893]), (891, .iconst 0, 1, [0]), (892, .ireturn, 1, []), (893, .iload 5, 2, []), (895, .ifCond .ne 15, 3, [910]), (898, .aload_n 3, 1, []), (899, .iconst 0, 1, [0]), (900, .laload, 1, []), (901, .iload 6, 2, []), (903, .i2l, 1, []), (904, .lcmp, 1, []), (905, .ifCond .eq 5, 3, [910]), (908, .iconst 0, 1, [0]), (909, .ireturn, 1, []), (910, .goto 765, 3, [1675])]
theorem hp_LC11 : ∀ q ∈ pg_LC11, decode code q.1 = .ok (q.2.1, q.2.2.1) ∧ ztg q.2.1 q.1 q.2.2.1 q.2.2.2 = true := zpg_of (by decide +kernel)
set_option maxHeartbeats 8000000 in
set_option maxRecDepth 40000 in
theorem wc_11 {L : Nat} {xs : Nat → Int32} {n : Nat} {α : Nat → Nat → Int32} {ν : Nat → Int32} {β : Nat → Nat → Int32} {μ : Nat → Int32} {f : Nat → Int64} {cu su : Nat} {K : zK} (hL : 5 * n + 5 ≤ L) (hL2 : L ≤ 2560) (hr : zRel n α ν β μ) (hcu : cu ≤ 40 + 10 * n) (hsu : su ≤ 2000 + 60 * n)
    (hK : ∀ Lc w cu2 su2, zSt (n + 1) n Lc [] w cu2 su2 → K Lc [] w cu2 su2) : zwp (zLT L xs) 7 pg_LC11 [(1675, K)] 100 pg_LC11 (zI5 n) [] (zW3 α ν β μ f) cu su := by
  (conv => whnf)
  refine ⟨zidx hL hL2 (k := 1) (by decide), ?_⟩
  (conv => whnf)
  rw [zble (show cu + 1 ≤ 601024 by omega)]
  (conv => whnf)
  rw [zble (show su + 6 ≤ 7293034 by omega)]
  (conv => whnf)
  refine j_air (n := n) hr _ _ (fun _ _ => True) (fun k α1 ν1 f1 hm => ?_)
  (conv => whnf)
  refine ⟨zidx hL hL2 (k := 1) (by decide), ?_⟩
  (conv => whnf)
  rw [zble (show cu + 1 + 0 ≤ 601024 by omega)]
  (conv => whnf)
  rw [zble (show su + 6 + 0 ≤ 7293034 by omega)]
  (conv => whnf)
  refine ⟨zEnd n k, fun _ _ => False, hm _ _ (fun _ _ h => h), fun rv w2 he => ?_, fun _ _ h => h.elim⟩
  obtain ⟨α2, ν2, β2, μ2, f2, rfl, hr2, t, b, rfl, ht, e7, rfl, ef⟩ := he
  (conv => whnf)
  rw [zble (show cu + 1 + 0 + 0 ≤ 601024 by omega)]
  (conv => whnf)
  rw [zble (show su + 6 + 0 + 0 ≤ 7293034 by omega)]
  (conv => whnf)
  refine ⟨α2, ν2, β2, μ2, _, rfl, rfl, ?_⟩
  (conv => whnf)
  refine And.intro (fun _ => ?_) (fun c => absurd (show _ from e7) c)
  (conv => whnf)
  refine And.intro (fun h0 => ?_) (fun h0 => ?_)
  · have t0 : t = 0 := nI_inj (by omega) (by decide) h0
    (conv => whnf)
    refine ⟨vp_in_nI (show 0 < 1 by decide) (by decide), ?_⟩
    (conv => whnf)
    refine And.intro (fun _ => ?_) (fun c => absurd (show f2 (nI 0).toNatClampNeg = b.toInt64 by rw [nI_clamp (by decide)]; exact ef t0) c)
    (conv => whnf)
    refine And.intro (fun _ => ?_) (fun c => absurd (show _ from rfl) c)
    (conv => whnf)
    exact hK _ _ _ _ ⟨⟨rfl, rfl, rfl, rfl, rfl, trivial⟩, rfl, ⟨_, _, _, _, _, rfl, hr2⟩, by omega, by omega⟩
  · (conv => whnf)
    exact hK _ _ _ _ ⟨⟨rfl, rfl, rfl, rfl, rfl, trivial⟩, rfl, ⟨_, _, _, _, _, rfl, hr2⟩, by omega, by omega⟩
def pg_LC12 : List zE := [(913, .aload_n 1, 1, []), (914, .aload_n 0, 1, []), (915, .iload 4, 2, []), (917, .iconst 1, 1, [1]), (918, .iadd, 1, []), (919, .iaload, 1, []), (920, .aload_n 3, 1, []), (921, .invokestatic 140, 3, []), (924, .istore 5, 2, []), (926, .aload_n 2, 1, []), (927, .aload_n 0, 1, []), (928, .iload 4, 2, []), (930, .iconst 1, 1, [1]), (931, .iadd, 1, []), (932, .iaload, 1, []), (933, .invokevirtual 142, 3, []), (936, .istore 6, 2, []), (938, .aload_n 2, 1, []), (939, .invokevirtual 99, 3, []), (942, .iload 5, 2, []), (944, .if_icmp .eq 5, 3, [949]), (947, .iconst 0, 1, [0]), (948, .ireturn, 1, []), (949, .iload 5, 2, []), (951, .ifCond .ne 15, 3, [966]), (954, .aload_n 3, 1, []), (955, .iconst 0, 1, [0]), (956, .laload, 1, []), (957, .iload 6, 2, []), (959, .i2l, 1, []), (960, .lcmp, 1, []), (961, .ifCond .eq 5, 3, [966]), (964, .iconst 0, 1, [0]), (965, .ireturn, 1, []), (966, .goto 709, 3, [1675])]
theorem hp_LC12 : ∀ q ∈ pg_LC12, decode code q.1 = .ok (q.2.1, q.2.2.1) ∧ ztg q.2.1 q.1 q.2.2.1 q.2.2.2 = true := zpg_of (by decide +kernel)
set_option maxHeartbeats 8000000 in
set_option maxRecDepth 40000 in
theorem wc_12 {L : Nat} {xs : Nat → Int32} {n : Nat} {α : Nat → Nat → Int32} {ν : Nat → Int32} {β : Nat → Nat → Int32} {μ : Nat → Int32} {f : Nat → Int64} {cu su : Nat} {K : zK} (hL : 5 * n + 5 ≤ L) (hL2 : L ≤ 2560) (hr : zRel n α ν β μ) (hcu : cu ≤ 40 + 10 * n) (hsu : su ≤ 2000 + 60 * n)
    (hK : ∀ Lc w cu2 su2, zSt (n + 1) n Lc [] w cu2 su2 → K Lc [] w cu2 su2) : zwp (zLT L xs) 7 pg_LC12 [(1675, K)] 100 pg_LC12 (zI5 n) [] (zW3 α ν β μ f) cu su := by
  (conv => whnf)
  refine ⟨zidx hL hL2 (k := 1) (by decide), ?_⟩
  (conv => whnf)
  rw [zble (show cu + 1 ≤ 601024 by omega)]
  (conv => whnf)
  rw [zble (show su + 6 ≤ 7293034 by omega)]
  (conv => whnf)
  refine j_rest (n := n) hr _ _ (fun _ _ => True) (fun k α1 ν1 f1 hm => ?_)
  (conv => whnf)
  refine ⟨zidx hL hL2 (k := 1) (by decide), ?_⟩
  (conv => whnf)
  rw [zble (show cu + 1 + 0 ≤ 601024 by omega)]
  (conv => whnf)
  rw [zble (show su + 6 + 0 ≤ 7293034 by omega)]
  (conv => whnf)
  refine ⟨zEnd n k, fun _ _ => False, hm _ _ (fun _ _ h => h), fun rv w2 he => ?_, fun _ _ h => h.elim⟩
  obtain ⟨α2, ν2, β2, μ2, f2, rfl, hr2, t, b, rfl, ht, e7, rfl, ef⟩ := he
  (conv => whnf)
  rw [zble (show cu + 1 + 0 + 0 ≤ 601024 by omega)]
  (conv => whnf)
  rw [zble (show su + 6 + 0 + 0 ≤ 7293034 by omega)]
  (conv => whnf)
  refine ⟨α2, ν2, β2, μ2, _, rfl, rfl, ?_⟩
  (conv => whnf)
  refine And.intro (fun _ => ?_) (fun c => absurd (show _ from e7) c)
  (conv => whnf)
  refine And.intro (fun h0 => ?_) (fun h0 => ?_)
  · have t0 : t = 0 := nI_inj (by omega) (by decide) h0
    (conv => whnf)
    refine ⟨vp_in_nI (show 0 < 1 by decide) (by decide), ?_⟩
    (conv => whnf)
    refine And.intro (fun _ => ?_) (fun c => absurd (show f2 (nI 0).toNatClampNeg = b.toInt64 by rw [nI_clamp (by decide)]; exact ef t0) c)
    (conv => whnf)
    refine And.intro (fun _ => ?_) (fun c => absurd (show _ from rfl) c)
    (conv => whnf)
    exact hK _ _ _ _ ⟨⟨rfl, rfl, rfl, rfl, rfl, trivial⟩, rfl, ⟨_, _, _, _, _, rfl, hr2⟩, by omega, by omega⟩
  · (conv => whnf)
    exact hK _ _ _ _ ⟨⟨rfl, rfl, rfl, rfl, rfl, trivial⟩, rfl, ⟨_, _, _, _, _, rfl, hr2⟩, by omega, by omega⟩
def pg_LC13 : List zE := [(969, .aload_n 1, 1, []), (970, .aload_n 0, 1, []), (971, .iload 4, 2, []), (973, .iconst 1, 1, [1]), (974, .iadd, 1, []), (975, .iaload, 1, []), (976, .aload_n 0, 1, []), (977, .iload 4, 2, []), (979, .iconst 2, 1, [2]), (980, .iadd, 1, []), (981, .iaload, 1, []), (982, .aload_n 3, 1, []), (983, .invokestatic 143, 3, []), (986, .istore 5, 2, []), (988, .aload_n 2, 1, []), (989, .aload_n 0, 1, []), (990, .iload 4, 2, []), (992, .iconst 1, 1, [1]), (993, .iadd, 1, []), (994, .iaload, 1, []), (995, .aload_n 0, 1, []), (996, .iload 4, 2, []), (998, .iconst 2, 1, [2]), (999, .iadd, 1, []), (1000, .iaload, 1, []), (1001, .invokevirtual 145, 3, []), (1004, .istore 6, 2, []), (1006, .aload_n 2, 1, []), (1007, .invokevirtual 99, 3, []), (1010, .iload 5, 2, []), (1012, .if_icmp .eq 5, 3, [1017]), (1015, .iconst 0, 1, [0]), (1016, .ireturn, 1, []), (1017, .iload 5, 2, []), (1019, .ifCond .ne 15, 3, [1034]), (1022, .aload_n 3, 1, []), (1023, .iconst 0, 1, [0]), (1024, .laload, 1, []), (1025, .iload 6, 2, []), (1027, .i2l, 1, []), (1028, .lcmp, 1, []), (1029, .ifCond .eq 5, 3, [1034]), (1032, .iconst 0, 1, [0]), (1033, .ireturn, 1, []), (1034, .goto 641, 3, [1675])]
theorem hp_LC13 : ∀ q ∈ pg_LC13, decode code q.1 = .ok (q.2.1, q.2.2.1) ∧ ztg q.2.1 q.1 q.2.2.1 q.2.2.2 = true := zpg_of (by decide +kernel)
set_option maxHeartbeats 8000000 in
set_option maxRecDepth 40000 in
theorem wc_13 {L : Nat} {xs : Nat → Int32} {n : Nat} {α : Nat → Nat → Int32} {ν : Nat → Int32} {β : Nat → Nat → Int32} {μ : Nat → Int32} {f : Nat → Int64} {cu su : Nat} {K : zK} (hL : 5 * n + 5 ≤ L) (hL2 : L ≤ 2560) (hr : zRel n α ν β μ) (hcu : cu ≤ 40 + 10 * n) (hsu : su ≤ 2000 + 60 * n)
    (hK : ∀ Lc w cu2 su2, zSt (n + 1) n Lc [] w cu2 su2 → K Lc [] w cu2 su2) : zwp (zLT L xs) 7 pg_LC13 [(1675, K)] 100 pg_LC13 (zI5 n) [] (zW3 α ν β μ f) cu su := by
  (conv => whnf)
  refine ⟨zidx hL hL2 (k := 1) (by decide), ?_⟩
  (conv => whnf)
  refine ⟨zidx hL hL2 (k := 2) (by decide), ?_⟩
  (conv => whnf)
  rw [zble (show cu + 2 ≤ 601024 by omega)]
  (conv => whnf)
  rw [zble (show su + 12 ≤ 7293034 by omega)]
  (conv => whnf)
  refine j_longest (n := n) hr _ _ _ (fun _ _ => True) (fun k α1 ν1 f1 hm => ?_)
  (conv => whnf)
  refine ⟨zidx hL hL2 (k := 1) (by decide), ?_⟩
  (conv => whnf)
  refine ⟨zidx hL hL2 (k := 2) (by decide), ?_⟩
  (conv => whnf)
  rw [zble (show cu + 2 + 0 ≤ 601024 by omega)]
  (conv => whnf)
  rw [zble (show su + 12 + 0 ≤ 7293034 by omega)]
  (conv => whnf)
  refine ⟨zEnd n k, fun _ _ => False, hm _ _ (fun _ _ h => h), fun rv w2 he => ?_, fun _ _ h => h.elim⟩
  obtain ⟨α2, ν2, β2, μ2, f2, rfl, hr2, t, b, rfl, ht, e7, rfl, ef⟩ := he
  (conv => whnf)
  rw [zble (show cu + 2 + 0 + 0 ≤ 601024 by omega)]
  (conv => whnf)
  rw [zble (show su + 12 + 0 + 0 ≤ 7293034 by omega)]
  (conv => whnf)
  refine ⟨α2, ν2, β2, μ2, _, rfl, rfl, ?_⟩
  (conv => whnf)
  refine And.intro (fun _ => ?_) (fun c => absurd (show _ from e7) c)
  (conv => whnf)
  refine And.intro (fun h0 => ?_) (fun h0 => ?_)
  · have t0 : t = 0 := nI_inj (by omega) (by decide) h0
    (conv => whnf)
    refine ⟨vp_in_nI (show 0 < 1 by decide) (by decide), ?_⟩
    (conv => whnf)
    refine And.intro (fun _ => ?_) (fun c => absurd (show f2 (nI 0).toNatClampNeg = b.toInt64 by rw [nI_clamp (by decide)]; exact ef t0) c)
    (conv => whnf)
    refine And.intro (fun _ => ?_) (fun c => absurd (show _ from rfl) c)
    (conv => whnf)
    exact hK _ _ _ _ ⟨⟨rfl, rfl, rfl, rfl, rfl, trivial⟩, rfl, ⟨_, _, _, _, _, rfl, hr2⟩, by omega, by omega⟩
  · (conv => whnf)
    exact hK _ _ _ _ ⟨⟨rfl, rfl, rfl, rfl, rfl, trivial⟩, rfl, ⟨_, _, _, _, _, rfl, hr2⟩, by omega, by omega⟩
def pg_LC14 : List zE := [(1037, .aload_n 1, 1, []), (1038, .aload_n 0, 1, []), (1039, .iload 4, 2, []), (1041, .iconst 1, 1, [1]), (1042, .iadd, 1, []), (1043, .iaload, 1, []), (1044, .aload_n 0, 1, []), (1045, .iload 4, 2, []), (1047, .iconst 2, 1, [2]), (1048, .iadd, 1, []), (1049, .iaload, 1, []), (1050, .aload_n 3, 1, []), (1051, .invokestatic 146, 3, []), (1054, .istore 5, 2, []), (1056, .aload_n 2, 1, []), (1057, .aload_n 0, 1, []), (1058, .iload 4, 2, []), (1060, .iconst 1, 1, [1]), (1061, .iadd, 1, []), (1062, .iaload, 1, []), (1063, .aload_n 0, 1, []), (1064, .iload 4, 2, []), (1066, .iconst 2, 1, [2]), (1067, .iadd, 1, []), (1068, .iaload, 1, []), (1069, .invokevirtual 148, 3, []), (1072, .istore 6, 2, []), (1074, .aload_n 2, 1, []), (1075, .invokevirtual 99, 3, []), (1078, .iload 5, 2, []), (1080, .if_icmp .eq 5, 3, [1085]), (1083, .iconst 0, 1, [0]), (1084, .ireturn, 1, []), (1085, .iload 5, 2, []), (1087, .ifCond .ne 15, 3, [1102]), (1090, .aload_n 3, 1, []), (1091, .iconst 0, 1, [0]), (1092, .laload, 1, []), (1093, .iload 6, 2, []), (1095, .i2l, 1, []), (1096, .lcmp, 1, []), (1097, .ifCond .eq 5, 3, [1102]), (1100, .iconst 0, 1, [0]), (1101, .ireturn, 1, []), (1102, .goto 573, 3, [1675])]
theorem hp_LC14 : ∀ q ∈ pg_LC14, decode code q.1 = .ok (q.2.1, q.2.2.1) ∧ ztg q.2.1 q.1 q.2.2.1 q.2.2.2 = true := zpg_of (by decide +kernel)
set_option maxHeartbeats 8000000 in
set_option maxRecDepth 40000 in
theorem wc_14 {L : Nat} {xs : Nat → Int32} {n : Nat} {α : Nat → Nat → Int32} {ν : Nat → Int32} {β : Nat → Nat → Int32} {μ : Nat → Int32} {f : Nat → Int64} {cu su : Nat} {K : zK} (hL : 5 * n + 5 ≤ L) (hL2 : L ≤ 2560) (hr : zRel n α ν β μ) (hcu : cu ≤ 40 + 10 * n) (hsu : su ≤ 2000 + 60 * n)
    (hK : ∀ Lc w cu2 su2, zSt (n + 1) n Lc [] w cu2 su2 → K Lc [] w cu2 su2) : zwp (zLT L xs) 7 pg_LC14 [(1675, K)] 100 pg_LC14 (zI5 n) [] (zW3 α ν β μ f) cu su := by
  (conv => whnf)
  refine ⟨zidx hL hL2 (k := 1) (by decide), ?_⟩
  (conv => whnf)
  refine ⟨zidx hL hL2 (k := 2) (by decide), ?_⟩
  (conv => whnf)
  rw [zble (show cu + 6 ≤ 601024 by omega)]
  (conv => whnf)
  rw [zble (show su + 36 ≤ 7293034 by omega)]
  (conv => whnf)
  refine j_claim (n := n) hr _ _ _ (fun _ _ => True) (fun k α1 ν1 f1 hm => ?_)
  (conv => whnf)
  refine ⟨zidx hL hL2 (k := 1) (by decide), ?_⟩
  (conv => whnf)
  refine ⟨zidx hL hL2 (k := 2) (by decide), ?_⟩
  (conv => whnf)
  rw [zble (show cu + 6 + 0 ≤ 601024 by omega)]
  (conv => whnf)
  rw [zble (show su + 36 + 0 ≤ 7293034 by omega)]
  (conv => whnf)
  refine ⟨zEnd n k, fun _ _ => False, hm _ _ (fun _ _ h => h), fun rv w2 he => ?_, fun _ _ h => h.elim⟩
  obtain ⟨α2, ν2, β2, μ2, f2, rfl, hr2, t, b, rfl, ht, e7, rfl, ef⟩ := he
  (conv => whnf)
  rw [zble (show cu + 6 + 0 + 0 ≤ 601024 by omega)]
  (conv => whnf)
  rw [zble (show su + 36 + 0 + 0 ≤ 7293034 by omega)]
  (conv => whnf)
  refine ⟨α2, ν2, β2, μ2, _, rfl, rfl, ?_⟩
  (conv => whnf)
  refine And.intro (fun _ => ?_) (fun c => absurd (show _ from e7) c)
  (conv => whnf)
  refine And.intro (fun h0 => ?_) (fun h0 => ?_)
  · have t0 : t = 0 := nI_inj (by omega) (by decide) h0
    (conv => whnf)
    refine ⟨vp_in_nI (show 0 < 1 by decide) (by decide), ?_⟩
    (conv => whnf)
    refine And.intro (fun _ => ?_) (fun c => absurd (show f2 (nI 0).toNatClampNeg = b.toInt64 by rw [nI_clamp (by decide)]; exact ef t0) c)
    (conv => whnf)
    refine And.intro (fun _ => ?_) (fun c => absurd (show _ from rfl) c)
    (conv => whnf)
    exact hK _ _ _ _ ⟨⟨rfl, rfl, rfl, rfl, rfl, trivial⟩, rfl, ⟨_, _, _, _, _, rfl, hr2⟩, by omega, by omega⟩
  · (conv => whnf)
    exact hK _ _ _ _ ⟨⟨rfl, rfl, rfl, rfl, rfl, trivial⟩, rfl, ⟨_, _, _, _, _, rfl, hr2⟩, by omega, by omega⟩
def pg_LC15 : List zE := [(1105, .aload_n 1, 1, []), (1106, .aload_n 0, 1, []), (1107, .iload 4, 2, []), (1109, .iconst 1, 1, [1]), (1110, .iadd, 1, []), (1111, .iaload, 1, []), (1112, .aload_n 3, 1, []), (1113, .invokestatic 149, 3, []), (1116, .istore 5, 2, []), (1118, .aload_n 2, 1, []), (1119, .aload_n 0, 1, []), (1120, .iload 4, 2, []), (1122, .iconst 1, 1, [1]), (1123, .iadd, 1, []), (1124, .iaload, 1, []), (1125, .invokevirtual 151, 3, []), (1128, .istore 6, 2, []), (1130, .aload_n 2, 1, []), (1131, .invokevirtual 99, 3, []), (1134, .iload 5, 2, []), (1136, .if_icmp .eq 5, 3, [1141]), (1139, .iconst 0, 1, [0]), (1140, .ireturn, 1, []), (1141, .iload 5, 2, []), (1143, .ifCond .ne 15, 3, [1158]), (1146, .aload_n 3, 1, []), (1147, .iconst 0, 1, [0]), (1148, .laload, 1, []), (1149, .iload 6, 2, []), (1151, .i2l, 1, []), (1152, .lcmp, 1, []), (1153, .ifCond .eq 5, 3, [1158]), (1156, .iconst 0, 1, [0]), (1157, .ireturn, 1, []), (1158, .goto 517, 3, [1675])]
theorem hp_LC15 : ∀ q ∈ pg_LC15, decode code q.1 = .ok (q.2.1, q.2.2.1) ∧ ztg q.2.1 q.1 q.2.2.1 q.2.2.2 = true := zpg_of (by decide +kernel)
set_option maxHeartbeats 8000000 in
set_option maxRecDepth 40000 in
theorem wc_15 {L : Nat} {xs : Nat → Int32} {n : Nat} {α : Nat → Nat → Int32} {ν : Nat → Int32} {β : Nat → Nat → Int32} {μ : Nat → Int32} {f : Nat → Int64} {cu su : Nat} {K : zK} (hL : 5 * n + 5 ≤ L) (hL2 : L ≤ 2560) (hr : zRel n α ν β μ) (hcu : cu ≤ 40 + 10 * n) (hsu : su ≤ 2000 + 60 * n)
    (hK : ∀ Lc w cu2 su2, zSt (n + 1) n Lc [] w cu2 su2 → K Lc [] w cu2 su2) : zwp (zLT L xs) 7 pg_LC15 [(1675, K)] 100 pg_LC15 (zI5 n) [] (zW3 α ν β μ f) cu su := by
  (conv => whnf)
  refine ⟨zidx hL hL2 (k := 1) (by decide), ?_⟩
  (conv => whnf)
  rw [zble (show cu + 2 ≤ 601024 by omega)]
  (conv => whnf)
  rw [zble (show su + 12 ≤ 7293034 by omega)]
  (conv => whnf)
  refine j_renew (n := n) hr _ _ (fun _ _ => True) (fun k α1 ν1 f1 hm => ?_)
  (conv => whnf)
  refine ⟨zidx hL hL2 (k := 1) (by decide), ?_⟩
  (conv => whnf)
  rw [zble (show cu + 2 + 0 ≤ 601024 by omega)]
  (conv => whnf)
  rw [zble (show su + 12 + 0 ≤ 7293034 by omega)]
  (conv => whnf)
  refine ⟨zEnd n k, fun _ _ => False, hm _ _ (fun _ _ h => h), fun rv w2 he => ?_, fun _ _ h => h.elim⟩
  obtain ⟨α2, ν2, β2, μ2, f2, rfl, hr2, t, b, rfl, ht, e7, rfl, ef⟩ := he
  (conv => whnf)
  rw [zble (show cu + 2 + 0 + 0 ≤ 601024 by omega)]
  (conv => whnf)
  rw [zble (show su + 12 + 0 + 0 ≤ 7293034 by omega)]
  (conv => whnf)
  refine ⟨α2, ν2, β2, μ2, _, rfl, rfl, ?_⟩
  (conv => whnf)
  refine And.intro (fun _ => ?_) (fun c => absurd (show _ from e7) c)
  (conv => whnf)
  refine And.intro (fun h0 => ?_) (fun h0 => ?_)
  · have t0 : t = 0 := nI_inj (by omega) (by decide) h0
    (conv => whnf)
    refine ⟨vp_in_nI (show 0 < 1 by decide) (by decide), ?_⟩
    (conv => whnf)
    refine And.intro (fun _ => ?_) (fun c => absurd (show f2 (nI 0).toNatClampNeg = b.toInt64 by rw [nI_clamp (by decide)]; exact ef t0) c)
    (conv => whnf)
    refine And.intro (fun _ => ?_) (fun c => absurd (show _ from rfl) c)
    (conv => whnf)
    exact hK _ _ _ _ ⟨⟨rfl, rfl, rfl, rfl, rfl, trivial⟩, rfl, ⟨_, _, _, _, _, rfl, hr2⟩, by omega, by omega⟩
  · (conv => whnf)
    exact hK _ _ _ _ ⟨⟨rfl, rfl, rfl, rfl, rfl, trivial⟩, rfl, ⟨_, _, _, _, _, rfl, hr2⟩, by omega, by omega⟩
def pg_LC16 : List zE := [(1161, .aload_n 1, 1, []), (1162, .aload_n 0, 1, []), (1163, .iload 4, 2, []), (1165, .iconst 1, 1, [1]), (1166, .iadd, 1, []), (1167, .iaload, 1, []), (1168, .aload_n 3, 1, []), (1169, .invokestatic 152, 3, []), (1172, .istore 5, 2, []), (1174, .aload_n 2, 1, []), (1175, .aload_n 0, 1, []), (1176, .iload 4, 2, []), (1178, .iconst 1, 1, [1]), (1179, .iadd, 1, []), (1180, .iaload, 1, []), (1181, .invokevirtual 154, 3, []), (1184, .istore 6, 2, []), (1186, .aload_n 2, 1, []), (1187, .invokevirtual 99, 3, []), (1190, .iload 5, 2, []), (1192, .if_icmp .eq 5, 3, [1197]), (1195, .iconst 0, 1, [0]), (1196, .ireturn, 1, []), (1197, .iload 5, 2, []), (1199, .ifCond .ne 15, 3, [1214]), (1202, .aload_n 3, 1, []), (1203, .iconst 0, 1, [0]), (1204, .laload, 1, []), (1205, .iload 6, 2, []), (1207, .i2l, 1, []), (1208, .lcmp, 1, []), (1209, .ifCond .eq 5, 3, [1214]), (1212, .iconst 0, 1, [0]), (1213, .ireturn, 1, []), (1214, .goto 461, 3, [1675])]
theorem hp_LC16 : ∀ q ∈ pg_LC16, decode code q.1 = .ok (q.2.1, q.2.2.1) ∧ ztg q.2.1 q.1 q.2.2.1 q.2.2.2 = true := zpg_of (by decide +kernel)
set_option maxHeartbeats 8000000 in
set_option maxRecDepth 40000 in
theorem wc_16 {L : Nat} {xs : Nat → Int32} {n : Nat} {α : Nat → Nat → Int32} {ν : Nat → Int32} {β : Nat → Nat → Int32} {μ : Nat → Int32} {f : Nat → Int64} {cu su : Nat} {K : zK} (hL : 5 * n + 5 ≤ L) (hL2 : L ≤ 2560) (hr : zRel n α ν β μ) (hcu : cu ≤ 40 + 10 * n) (hsu : su ≤ 2000 + 60 * n)
    (hK : ∀ Lc w cu2 su2, zSt (n + 1) n Lc [] w cu2 su2 → K Lc [] w cu2 su2) : zwp (zLT L xs) 7 pg_LC16 [(1675, K)] 100 pg_LC16 (zI5 n) [] (zW3 α ν β μ f) cu su := by
  (conv => whnf)
  refine ⟨zidx hL hL2 (k := 1) (by decide), ?_⟩
  (conv => whnf)
  rw [zble (show cu + 2 ≤ 601024 by omega)]
  (conv => whnf)
  rw [zble (show su + 12 ≤ 7293034 by omega)]
  (conv => whnf)
  refine j_advance (n := n) hr _ _ (fun _ _ => True) (fun k α1 ν1 f1 hm => ?_)
  (conv => whnf)
  refine ⟨zidx hL hL2 (k := 1) (by decide), ?_⟩
  (conv => whnf)
  rw [zble (show cu + 2 + 0 ≤ 601024 by omega)]
  (conv => whnf)
  rw [zble (show su + 12 + 0 ≤ 7293034 by omega)]
  (conv => whnf)
  refine ⟨zEnd n k, fun _ _ => False, hm _ _ (fun _ _ h => h), fun rv w2 he => ?_, fun _ _ h => h.elim⟩
  obtain ⟨α2, ν2, β2, μ2, f2, rfl, hr2, t, b, rfl, ht, e7, rfl, ef⟩ := he
  (conv => whnf)
  rw [zble (show cu + 2 + 0 + 0 ≤ 601024 by omega)]
  (conv => whnf)
  rw [zble (show su + 12 + 0 + 0 ≤ 7293034 by omega)]
  (conv => whnf)
  refine ⟨α2, ν2, β2, μ2, _, rfl, rfl, ?_⟩
  (conv => whnf)
  refine And.intro (fun _ => ?_) (fun c => absurd (show _ from e7) c)
  (conv => whnf)
  refine And.intro (fun h0 => ?_) (fun h0 => ?_)
  · have t0 : t = 0 := nI_inj (by omega) (by decide) h0
    (conv => whnf)
    refine ⟨vp_in_nI (show 0 < 1 by decide) (by decide), ?_⟩
    (conv => whnf)
    refine And.intro (fun _ => ?_) (fun c => absurd (show f2 (nI 0).toNatClampNeg = b.toInt64 by rw [nI_clamp (by decide)]; exact ef t0) c)
    (conv => whnf)
    refine And.intro (fun _ => ?_) (fun c => absurd (show _ from rfl) c)
    (conv => whnf)
    exact hK _ _ _ _ ⟨⟨rfl, rfl, rfl, rfl, rfl, trivial⟩, rfl, ⟨_, _, _, _, _, rfl, hr2⟩, by omega, by omega⟩
  · (conv => whnf)
    exact hK _ _ _ _ ⟨⟨rfl, rfl, rfl, rfl, rfl, trivial⟩, rfl, ⟨_, _, _, _, _, rfl, hr2⟩, by omega, by omega⟩
def pg_LC17 : List zE := [(1217, .aload_n 1, 1, []), (1218, .invokevirtual 155, 3, []), (1221, .aload_n 2, 1, []), (1222, .invokevirtual 158, 3, []), (1225, .if_icmp .eq 450, 3, [1675]), (1228, .iconst 0, 1, [0]), (1229, .ireturn, 1, [])]
theorem hp_LC17 : ∀ q ∈ pg_LC17, decode code q.1 = .ok (q.2.1, q.2.2.1) ∧ ztg q.2.1 q.1 q.2.2.1 q.2.2.2 = true := zpg_of (by decide +kernel)
set_option maxHeartbeats 8000000 in
set_option maxRecDepth 40000 in
theorem wc_17 {L : Nat} {xs : Nat → Int32} {n : Nat} {α : Nat → Nat → Int32} {ν : Nat → Int32} {β : Nat → Nat → Int32} {μ : Nat → Int32} {f : Nat → Int64} {cu su : Nat} {K : zK} (hL : 5 * n + 5 ≤ L) (hL2 : L ≤ 2560) (hr : zRel n α ν β μ) (hcu : cu ≤ 40 + 10 * n) (hsu : su ≤ 2000 + 60 * n)
    (hK : ∀ Lc w cu2 su2, zSt (n + 1) n Lc [] w cu2 su2 → K Lc [] w cu2 su2) : zwp (zLT L xs) 7 pg_LC17 [(1675, K)] 100 pg_LC17 (zI5 n) [] (zW3 α ν β μ f) cu su := by
  (conv => whnf)
  rw [zble (show cu + 0 ≤ 601024 by omega)]
  (conv => whnf)
  rw [zble (show su + 0 ≤ 7293034 by omega)]
  (conv => whnf)
  refine ⟨α, ν, _, rfl, rfl, ?_⟩
  (conv => whnf)
  rw [zble (show cu + 0 + 0 ≤ 601024 by omega)]
  (conv => whnf)
  rw [zble (show su + 0 + 0 ≤ 7293034 by omega)]
  (conv => whnf)
  refine ⟨α, ν, β, μ, _, rfl, rfl, ?_⟩
  (conv => whnf)
  refine And.intro (fun _ => ?_) (fun c => absurd (show _ from (by obtain ⟨t, _, a, b⟩ : ∃ t, t ≤ 1000000 ∧ ν 0 = nI t ∧ μ 0 = nI t := hr.2.2.2.2.2.1; exact a.trans b.symm)) c)
  (conv => whnf)
  exact hK _ _ _ _ ⟨⟨rfl, rfl, rfl, rfl, rfl, trivial⟩, rfl, ⟨_, _, _, _, _, rfl, zRel_th hr⟩, by omega, by omega⟩
def pg_LC18 : List zE := [(1230, .aload_n 1, 1, []), (1231, .aload_n 0, 1, []), (1232, .iload 4, 2, []), (1234, .iconst 1, 1, [1]), (1235, .iadd, 1, []), (1236, .iaload, 1, []), (1237, .aload_n 3, 1, []), (1238, .invokestatic 159, 3, []), (1241, .istore 5, 2, []), (1243, .aload_n 2, 1, []), (1244, .aload_n 0, 1, []), (1245, .iload 4, 2, []), (1247, .iconst 1, 1, [1]), (1248, .iadd, 1, []), (1249, .iaload, 1, []), (1250, .invokevirtual 161, 3, []), (1253, .istore 6, 2, []), (1255, .aload_n 2, 1, []), (1256, .invokevirtual 99, 3, []), (1259, .iload 5, 2, []), (1261, .if_icmp .eq 5, 3, [1266]), (1264, .iconst 0, 1, [0]), (1265, .ireturn, 1, []), (1266, .iload 5, 2, []), (1268, .ifCond .ne 15, 3, [1283]), (1271, .aload_n 3, 1, []), (1272, .iconst 0, 1, [0]), (1273, .laload, 1, []), (1274, .iload 6, 2, []), (1276, .i2l, 1, []), (1277, .lcmp, 1, []), (1278, .ifCond .eq 5, 3, [1283]), (1281, .iconst 0, 1, [0]), (1282, .ireturn, 1, []), (1283, .goto 392, 3, [1675])]
theorem hp_LC18 : ∀ q ∈ pg_LC18, decode code q.1 = .ok (q.2.1, q.2.2.1) ∧ ztg q.2.1 q.1 q.2.2.1 q.2.2.2 = true := zpg_of (by decide +kernel)
set_option maxHeartbeats 8000000 in
set_option maxRecDepth 40000 in
theorem wc_18 {L : Nat} {xs : Nat → Int32} {n : Nat} {α : Nat → Nat → Int32} {ν : Nat → Int32} {β : Nat → Nat → Int32} {μ : Nat → Int32} {f : Nat → Int64} {cu su : Nat} {K : zK} (hL : 5 * n + 5 ≤ L) (hL2 : L ≤ 2560) (hr : zRel n α ν β μ) (hcu : cu ≤ 40 + 10 * n) (hsu : su ≤ 2000 + 60 * n)
    (hK : ∀ Lc w cu2 su2, zSt (n + 1) n Lc [] w cu2 su2 → K Lc [] w cu2 su2) : zwp (zLT L xs) 7 pg_LC18 [(1675, K)] 100 pg_LC18 (zI5 n) [] (zW3 α ν β μ f) cu su := by
  (conv => whnf)
  refine ⟨zidx hL hL2 (k := 1) (by decide), ?_⟩
  (conv => whnf)
  rw [zble (show cu + 1 ≤ 601024 by omega)]
  (conv => whnf)
  rw [zble (show su + 6 ≤ 7293034 by omega)]
  (conv => whnf)
  refine j_finder (n := n) hr _ _ (fun _ _ => True) (fun k α1 ν1 f1 hm => ?_)
  (conv => whnf)
  refine ⟨zidx hL hL2 (k := 1) (by decide), ?_⟩
  (conv => whnf)
  rw [zble (show cu + 1 + 0 ≤ 601024 by omega)]
  (conv => whnf)
  rw [zble (show su + 6 + 0 ≤ 7293034 by omega)]
  (conv => whnf)
  refine ⟨zEnd n k, fun _ _ => False, hm _ _ (fun _ _ h => h), fun rv w2 he => ?_, fun _ _ h => h.elim⟩
  obtain ⟨α2, ν2, β2, μ2, f2, rfl, hr2, t, b, rfl, ht, e7, rfl, ef⟩ := he
  (conv => whnf)
  rw [zble (show cu + 1 + 0 + 0 ≤ 601024 by omega)]
  (conv => whnf)
  rw [zble (show su + 6 + 0 + 0 ≤ 7293034 by omega)]
  (conv => whnf)
  refine ⟨α2, ν2, β2, μ2, _, rfl, rfl, ?_⟩
  (conv => whnf)
  refine And.intro (fun _ => ?_) (fun c => absurd (show _ from e7) c)
  (conv => whnf)
  refine And.intro (fun h0 => ?_) (fun h0 => ?_)
  · have t0 : t = 0 := nI_inj (by omega) (by decide) h0
    (conv => whnf)
    refine ⟨vp_in_nI (show 0 < 1 by decide) (by decide), ?_⟩
    (conv => whnf)
    refine And.intro (fun _ => ?_) (fun c => absurd (show f2 (nI 0).toNatClampNeg = b.toInt64 by rw [nI_clamp (by decide)]; exact ef t0) c)
    (conv => whnf)
    refine And.intro (fun _ => ?_) (fun c => absurd (show _ from rfl) c)
    (conv => whnf)
    exact hK _ _ _ _ ⟨⟨rfl, rfl, rfl, rfl, rfl, trivial⟩, rfl, ⟨_, _, _, _, _, rfl, hr2⟩, by omega, by omega⟩
  · (conv => whnf)
    exact hK _ _ _ _ ⟨⟨rfl, rfl, rfl, rfl, rfl, trivial⟩, rfl, ⟨_, _, _, _, _, rfl, hr2⟩, by omega, by omega⟩
def pg_LC19 : List zE := [(1286, .aload_n 1, 1, []), (1287, .aload_n 0, 1, []), (1288, .iload 4, 2, []), (1290, .iconst 1, 1, [1]), (1291, .iadd, 1, []), (1292, .iaload, 1, []), (1293, .aload_n 3, 1, []), (1294, .invokestatic 162, 3, []), (1297, .istore 5, 2, []), (1299, .aload_n 2, 1, []), (1300, .aload_n 0, 1, []), (1301, .iload 4, 2, []), (1303, .iconst 1, 1, [1]), (1304, .iadd, 1, []), (1305, .iaload, 1, []), (1306, .invokevirtual 164, 3, []), (1309, .istore 6, 2, []), (1311, .aload_n 2, 1, []), (1312, .invokevirtual 99, 3, []), (1315, .iload 5, 2, []), (1317, .if_icmp .eq 5, 3, [1322]), (1320, .iconst 0, 1, [0]), (1321, .ireturn, 1, []), (1322, .iload 5, 2, []), (1324, .ifCond .ne 15, 3, [1339]), (1327, .aload_n 3, 1, []), (1328, .iconst 0, 1, [0]), (1329, .laload, 1, []), (1330, .iload 6, 2, []), (1332, .i2l, 1, []), (1333, .lcmp, 1, []), (1334, .ifCond .eq 5, 3, [1339]), (1337, .iconst 0, 1, [0]), (1338, .ireturn, 1, []), (1339, .goto 336, 3, [1675])]
theorem hp_LC19 : ∀ q ∈ pg_LC19, decode code q.1 = .ok (q.2.1, q.2.2.1) ∧ ztg q.2.1 q.1 q.2.2.1 q.2.2.2 = true := zpg_of (by decide +kernel)
set_option maxHeartbeats 8000000 in
set_option maxRecDepth 40000 in
theorem wc_19 {L : Nat} {xs : Nat → Int32} {n : Nat} {α : Nat → Nat → Int32} {ν : Nat → Int32} {β : Nat → Nat → Int32} {μ : Nat → Int32} {f : Nat → Int64} {cu su : Nat} {K : zK} (hL : 5 * n + 5 ≤ L) (hL2 : L ≤ 2560) (hr : zRel n α ν β μ) (hcu : cu ≤ 40 + 10 * n) (hsu : su ≤ 2000 + 60 * n)
    (hK : ∀ Lc w cu2 su2, zSt (n + 1) n Lc [] w cu2 su2 → K Lc [] w cu2 su2) : zwp (zLT L xs) 7 pg_LC19 [(1675, K)] 100 pg_LC19 (zI5 n) [] (zW3 α ν β μ f) cu su := by
  (conv => whnf)
  refine ⟨zidx hL hL2 (k := 1) (by decide), ?_⟩
  (conv => whnf)
  rw [zble (show cu + 1 ≤ 601024 by omega)]
  (conv => whnf)
  rw [zble (show su + 6 ≤ 7293034 by omega)]
  (conv => whnf)
  refine j_finderBySoundings (n := n) (by omega) hr _ _ (fun _ _ => True) (fun k α1 ν1 f1 hm => ?_)
  (conv => whnf)
  refine ⟨zidx hL hL2 (k := 1) (by decide), ?_⟩
  (conv => whnf)
  rw [zble (show cu + 1 + 0 ≤ 601024 by omega)]
  (conv => whnf)
  rw [zble (show su + 6 + 0 ≤ 7293034 by omega)]
  (conv => whnf)
  refine ⟨zEnd n k, fun _ _ => False, hm _ _ (fun _ _ h => h), fun rv w2 he => ?_, fun _ _ h => h.elim⟩
  obtain ⟨α2, ν2, β2, μ2, f2, rfl, hr2, t, b, rfl, ht, e7, rfl, ef⟩ := he
  (conv => whnf)
  rw [zble (show cu + 1 + 0 + 0 ≤ 601024 by omega)]
  (conv => whnf)
  rw [zble (show su + 6 + 0 + 0 ≤ 7293034 by omega)]
  (conv => whnf)
  refine ⟨α2, ν2, β2, μ2, _, rfl, rfl, ?_⟩
  (conv => whnf)
  refine And.intro (fun _ => ?_) (fun c => absurd (show _ from e7) c)
  (conv => whnf)
  refine And.intro (fun h0 => ?_) (fun h0 => ?_)
  · have t0 : t = 0 := nI_inj (by omega) (by decide) h0
    (conv => whnf)
    refine ⟨vp_in_nI (show 0 < 1 by decide) (by decide), ?_⟩
    (conv => whnf)
    refine And.intro (fun _ => ?_) (fun c => absurd (show f2 (nI 0).toNatClampNeg = b.toInt64 by rw [nI_clamp (by decide)]; exact ef t0) c)
    (conv => whnf)
    refine And.intro (fun _ => ?_) (fun c => absurd (show _ from rfl) c)
    (conv => whnf)
    exact hK _ _ _ _ ⟨⟨rfl, rfl, rfl, rfl, rfl, trivial⟩, rfl, ⟨_, _, _, _, _, rfl, hr2⟩, by omega, by omega⟩
  · (conv => whnf)
    exact hK _ _ _ _ ⟨⟨rfl, rfl, rfl, rfl, rfl, trivial⟩, rfl, ⟨_, _, _, _, _, rfl, hr2⟩, by omega, by omega⟩
def pg_LC20 : List zE := [(1342, .aload_n 1, 1, []), (1343, .invokevirtual 165, 3, []), (1346, .aload_n 2, 1, []), (1347, .invokevirtual 168, 3, []), (1350, .if_icmp .eq 325, 3, [1675]), (1353, .iconst 0, 1, [0]), (1354, .ireturn, 1, [])]
theorem hp_LC20 : ∀ q ∈ pg_LC20, decode code q.1 = .ok (q.2.1, q.2.2.1) ∧ ztg q.2.1 q.1 q.2.2.1 q.2.2.2 = true := zpg_of (by decide +kernel)
set_option maxHeartbeats 8000000 in
set_option maxRecDepth 40000 in
theorem wc_20 {L : Nat} {xs : Nat → Int32} {n : Nat} {α : Nat → Nat → Int32} {ν : Nat → Int32} {β : Nat → Nat → Int32} {μ : Nat → Int32} {f : Nat → Int64} {cu su : Nat} {K : zK} (hL : 5 * n + 5 ≤ L) (hL2 : L ≤ 2560) (hr : zRel n α ν β μ) (hcu : cu ≤ 40 + 10 * n) (hsu : su ≤ 2000 + 60 * n)
    (hK : ∀ Lc w cu2 su2, zSt (n + 1) n Lc [] w cu2 su2 → K Lc [] w cu2 su2) : zwp (zLT L xs) 7 pg_LC20 [(1675, K)] 100 pg_LC20 (zI5 n) [] (zW3 α ν β μ f) cu su := by
  (conv => whnf)
  rw [zble (show cu + 0 ≤ 601024 by omega)]
  (conv => whnf)
  rw [zble (show su + 0 ≤ 7293034 by omega)]
  (conv => whnf)
  refine ⟨α, ν, _, rfl, rfl, ?_⟩
  (conv => whnf)
  rw [zble (show cu + 0 + 0 ≤ 601024 by omega)]
  (conv => whnf)
  rw [zble (show su + 0 + 0 ≤ 7293034 by omega)]
  (conv => whnf)
  refine ⟨α, ν, β, μ, _, rfl, rfl, ?_⟩
  (conv => whnf)
  refine And.intro (fun _ => ?_) (fun c => absurd (show _ from (by obtain ⟨c, hc, hcm, _⟩ := zRel_c hr; exact hc.2.1.trans hcm.2.1.symm)) c)
  (conv => whnf)
  exact hK _ _ _ _ ⟨⟨rfl, rfl, rfl, rfl, rfl, trivial⟩, rfl, ⟨_, _, _, _, _, rfl, zRel_th hr⟩, by omega, by omega⟩
def pg_LC21 : List zE := [(1355, .aload_n 1, 1, []), (1356, .aload_n 0, 1, []), (1357, .iload 4, 2, []), (1359, .iconst 1, 1, [1]), (1360, .iadd, 1, []), (1361, .iaload, 1, []), (1362, .aload_n 3, 1, []), (1363, .invokestatic 169, 3, []), (1366, .istore 5, 2, []), (1368, .aload_n 2, 1, []), (1369, .aload_n 0, 1, []), (1370, .iload 4, 2, []), (1372, .iconst 1, 1, [1]), (1373, .iadd, 1, []), (1374, .iaload, 1, []), (1375, .invokevirtual 171, 3, []), (1378, .istore 6, 2, []), (1380, .aload_n 2, 1, []), (1381, .invokevirtual 99, 3, []), (1384, .iload 5, 2, []), (1386, .if_icmp .eq 5, 3, [1391]), (1389, .iconst 0, 1, [0]), (1390, .ireturn, 1, []), (1391, .iload 5, 2, []), (1393, .ifCond .ne 22, 3, [1415]), (1396, .aload_n 3, 1, []), (1397, .iconst 0, 1, [0]), (1398, .laload, 1, []), (1399, .iload 6, 2, []), (1401, .ifCond .eq 7, 3, [1408]), (1404, .lconst 1, 1, []), (1405, .goto 4, 3, [1409]), (1408, .lconst 0, 1, []), (1409, .lcmp, 1, []), (1410, .ifCond .eq 5, 3, [1415]), (1413, .iconst 0, 1, [0]), (1414, .ireturn, 1, []), (1415, .goto 260, 3, [1675])]
theorem hp_LC21 : ∀ q ∈ pg_LC21, decode code q.1 = .ok (q.2.1, q.2.2.1) ∧ ztg q.2.1 q.1 q.2.2.1 q.2.2.2 = true := zpg_of (by decide +kernel)
set_option maxHeartbeats 8000000 in
set_option maxRecDepth 40000 in
theorem wc_21 {L : Nat} {xs : Nat → Int32} {n : Nat} {α : Nat → Nat → Int32} {ν : Nat → Int32} {β : Nat → Nat → Int32} {μ : Nat → Int32} {f : Nat → Int64} {cu su : Nat} {K : zK} (hL : 5 * n + 5 ≤ L) (hL2 : L ≤ 2560) (hr : zRel n α ν β μ) (hcu : cu ≤ 40 + 10 * n) (hsu : su ≤ 2000 + 60 * n)
    (hK : ∀ Lc w cu2 su2, zSt (n + 1) n Lc [] w cu2 su2 → K Lc [] w cu2 su2) : zwp (zLT L xs) 7 pg_LC21 [(1675, K)] 100 pg_LC21 (zI5 n) [] (zW3 α ν β μ f) cu su := by
  (conv => whnf)
  refine ⟨zidx hL hL2 (k := 1) (by decide), ?_⟩
  (conv => whnf)
  rw [zble (show cu + 1 ≤ 601024 by omega)]
  (conv => whnf)
  rw [zble (show su + 6 ≤ 7293034 by omega)]
  (conv => whnf)
  refine j_runs (n := n) hr _ _ (fun _ _ => True) (fun k α1 ν1 f1 hm => ?_)
  (conv => whnf)
  refine ⟨zidx hL hL2 (k := 1) (by decide), ?_⟩
  (conv => whnf)
  rw [zble (show cu + 1 + 0 ≤ 601024 by omega)]
  (conv => whnf)
  rw [zble (show su + 6 + 0 ≤ 7293034 by omega)]
  (conv => whnf)
  refine ⟨zEndB n k, fun _ _ => False, hm _ _ (fun _ _ h => h), fun rv w2 he => ?_, fun _ _ h => h.elim⟩
  obtain ⟨α2, ν2, β2, μ2, f2, rfl, hr2, t, b, rfl, ht, e7, hb, rfl, ef⟩ := he
  (conv => whnf)
  rw [zble (show cu + 1 + 0 + 0 ≤ 601024 by omega)]
  (conv => whnf)
  rw [zble (show su + 6 + 0 + 0 ≤ 7293034 by omega)]
  (conv => whnf)
  refine ⟨α2, ν2, β2, μ2, _, rfl, rfl, ?_⟩
  (conv => whnf)
  refine And.intro (fun _ => ?_) (fun c => absurd (show _ from e7) c)
  (conv => whnf)
  refine And.intro (fun h0 => ?_) (fun h0 => ?_)
  · have t0 : t = 0 := nI_inj (by omega) (by decide) h0
    (conv => whnf)
    refine ⟨vp_in_nI (show 0 < 1 by decide) (by decide), ?_⟩
    (conv => whnf)
    have hb2 : b = 0 ∨ b = 1 := by omega
    rcases hb2 with rfl | rfl
    · refine And.intro (fun _ => ?_) (fun c => absurd (show _ from rfl) c)
      (conv => whnf)
      refine And.intro (fun _ => ?_) (fun c => absurd (show f2 (nI 0).toNatClampNeg = 0 by rw [nI_clamp (by decide)]; exact ef t0) c)
      (conv => whnf)
      refine And.intro (fun _ => ?_) (fun c => absurd (show _ from rfl) c)
      (conv => whnf)
      exact hK _ _ _ _ ⟨⟨rfl, rfl, rfl, rfl, rfl, trivial⟩, rfl, ⟨_, _, _, _, _, rfl, hr2⟩, by omega, by omega⟩
    · refine And.intro (fun c => absurd c (show ¬ _ from (by decide))) (fun _ => ?_)
      (conv => whnf)
      refine And.intro (fun _ => ?_) (fun c => absurd (show f2 (nI 0).toNatClampNeg = 1 by rw [nI_clamp (by decide)]; exact ef t0) c)
      (conv => whnf)
      refine And.intro (fun _ => ?_) (fun c => absurd (show _ from rfl) c)
      (conv => whnf)
      exact hK _ _ _ _ ⟨⟨rfl, rfl, rfl, rfl, rfl, trivial⟩, rfl, ⟨_, _, _, _, _, rfl, hr2⟩, by omega, by omega⟩
  · (conv => whnf)
    exact hK _ _ _ _ ⟨⟨rfl, rfl, rfl, rfl, rfl, trivial⟩, rfl, ⟨_, _, _, _, _, rfl, hr2⟩, by omega, by omega⟩
def pg_LC22 : List zE := [(1418, .aload_n 1, 1, []), (1419, .aload_n 0, 1, []), (1420, .iload 4, 2, []), (1422, .iconst 1, 1, [1]), (1423, .iadd, 1, []), (1424, .iaload, 1, []), (1425, .aload_n 3, 1, []), (1426, .invokestatic 172, 3, []), (1429, .istore 5, 2, []), (1431, .aload_n 2, 1, []), (1432, .aload_n 0, 1, []), (1433, .iload 4, 2, []), (1435, .iconst 1, 1, [1]), (1436, .iadd, 1, []), (1437, .iaload, 1, []), (1438, .invokevirtual 174, 3, []), (1441, .istore 6, 2, []), (1443, .aload_n 2, 1, []), (1444, .invokevirtual 99, 3, []), (1447, .iload 5, 2, []), (1449, .if_icmp .eq 5, 3, [1454]), (1452, .iconst 0, 1, [0]), (1453, .ireturn, 1, []), (1454, .iload 5, 2, []), (1456, .ifCond .ne 22, 3, [1478]), (1459, .aload_n 3, 1, []), (1460, .iconst 0, 1, [0]), (1461, .laload, 1, []), (1462, .iload 6, 2, []), (1464, .ifCond .eq 7, 3, [1471]), (1467, .lconst 1, 1, []), (1468, .goto 4, 3, [1472]), (1471, .lconst 0, 1, []), (1472, .lcmp, 1, []), (1473, .ifCond .eq 5, 3, [1478]), (1476, .iconst 0, 1, [0]), (1477, .ireturn, 1, []), (1478, .goto 197, 3, [1675])]
theorem hp_LC22 : ∀ q ∈ pg_LC22, decode code q.1 = .ok (q.2.1, q.2.2.1) ∧ ztg q.2.1 q.1 q.2.2.1 q.2.2.2 = true := zpg_of (by decide +kernel)
set_option maxHeartbeats 8000000 in
set_option maxRecDepth 40000 in
theorem wc_22 {L : Nat} {xs : Nat → Int32} {n : Nat} {α : Nat → Nat → Int32} {ν : Nat → Int32} {β : Nat → Nat → Int32} {μ : Nat → Int32} {f : Nat → Int64} {cu su : Nat} {K : zK} (hL : 5 * n + 5 ≤ L) (hL2 : L ≤ 2560) (hr : zRel n α ν β μ) (hcu : cu ≤ 40 + 10 * n) (hsu : su ≤ 2000 + 60 * n)
    (hK : ∀ Lc w cu2 su2, zSt (n + 1) n Lc [] w cu2 su2 → K Lc [] w cu2 su2) : zwp (zLT L xs) 7 pg_LC22 [(1675, K)] 100 pg_LC22 (zI5 n) [] (zW3 α ν β μ f) cu su := by
  (conv => whnf)
  refine ⟨zidx hL hL2 (k := 1) (by decide), ?_⟩
  (conv => whnf)
  rw [zble (show cu + 1 ≤ 601024 by omega)]
  (conv => whnf)
  rw [zble (show su + 6 ≤ 7293034 by omega)]
  (conv => whnf)
  refine j_holds (n := n) hr _ _ (fun _ _ => True) (fun k α1 ν1 f1 hm => ?_)
  (conv => whnf)
  refine ⟨zidx hL hL2 (k := 1) (by decide), ?_⟩
  (conv => whnf)
  rw [zble (show cu + 1 + 0 ≤ 601024 by omega)]
  (conv => whnf)
  rw [zble (show su + 6 + 0 ≤ 7293034 by omega)]
  (conv => whnf)
  refine ⟨zEndB n k, fun _ _ => False, hm _ _ (fun _ _ h => h), fun rv w2 he => ?_, fun _ _ h => h.elim⟩
  obtain ⟨α2, ν2, β2, μ2, f2, rfl, hr2, t, b, rfl, ht, e7, hb, rfl, ef⟩ := he
  (conv => whnf)
  rw [zble (show cu + 1 + 0 + 0 ≤ 601024 by omega)]
  (conv => whnf)
  rw [zble (show su + 6 + 0 + 0 ≤ 7293034 by omega)]
  (conv => whnf)
  refine ⟨α2, ν2, β2, μ2, _, rfl, rfl, ?_⟩
  (conv => whnf)
  refine And.intro (fun _ => ?_) (fun c => absurd (show _ from e7) c)
  (conv => whnf)
  refine And.intro (fun h0 => ?_) (fun h0 => ?_)
  · have t0 : t = 0 := nI_inj (by omega) (by decide) h0
    (conv => whnf)
    refine ⟨vp_in_nI (show 0 < 1 by decide) (by decide), ?_⟩
    (conv => whnf)
    have hb2 : b = 0 ∨ b = 1 := by omega
    rcases hb2 with rfl | rfl
    · refine And.intro (fun _ => ?_) (fun c => absurd (show _ from rfl) c)
      (conv => whnf)
      refine And.intro (fun _ => ?_) (fun c => absurd (show f2 (nI 0).toNatClampNeg = 0 by rw [nI_clamp (by decide)]; exact ef t0) c)
      (conv => whnf)
      refine And.intro (fun _ => ?_) (fun c => absurd (show _ from rfl) c)
      (conv => whnf)
      exact hK _ _ _ _ ⟨⟨rfl, rfl, rfl, rfl, rfl, trivial⟩, rfl, ⟨_, _, _, _, _, rfl, hr2⟩, by omega, by omega⟩
    · refine And.intro (fun c => absurd c (show ¬ _ from (by decide))) (fun _ => ?_)
      (conv => whnf)
      refine And.intro (fun _ => ?_) (fun c => absurd (show f2 (nI 0).toNatClampNeg = 1 by rw [nI_clamp (by decide)]; exact ef t0) c)
      (conv => whnf)
      refine And.intro (fun _ => ?_) (fun c => absurd (show _ from rfl) c)
      (conv => whnf)
      exact hK _ _ _ _ ⟨⟨rfl, rfl, rfl, rfl, rfl, trivial⟩, rfl, ⟨_, _, _, _, _, rfl, hr2⟩, by omega, by omega⟩
  · (conv => whnf)
    exact hK _ _ _ _ ⟨⟨rfl, rfl, rfl, rfl, rfl, trivial⟩, rfl, ⟨_, _, _, _, _, rfl, hr2⟩, by omega, by omega⟩
def pg_LC23 : List zE := [(1481, .aload_n 1, 1, []), (1482, .invokevirtual 175, 3, []), (1485, .aload_n 2, 1, []), (1486, .invokevirtual 178, 3, []), (1489, .if_icmp .eq 186, 3, [1675]), (1492, .iconst 0, 1, [0]), (1493, .ireturn, 1, [])]
theorem hp_LC23 : ∀ q ∈ pg_LC23, decode code q.1 = .ok (q.2.1, q.2.2.1) ∧ ztg q.2.1 q.1 q.2.2.1 q.2.2.2 = true := zpg_of (by decide +kernel)
set_option maxHeartbeats 8000000 in
set_option maxRecDepth 40000 in
theorem wc_23 {L : Nat} {xs : Nat → Int32} {n : Nat} {α : Nat → Nat → Int32} {ν : Nat → Int32} {β : Nat → Nat → Int32} {μ : Nat → Int32} {f : Nat → Int64} {cu su : Nat} {K : zK} (hL : 5 * n + 5 ≤ L) (hL2 : L ≤ 2560) (hr : zRel n α ν β μ) (hcu : cu ≤ 40 + 10 * n) (hsu : su ≤ 2000 + 60 * n)
    (hK : ∀ Lc w cu2 su2, zSt (n + 1) n Lc [] w cu2 su2 → K Lc [] w cu2 su2) : zwp (zLT L xs) 7 pg_LC23 [(1675, K)] 100 pg_LC23 (zI5 n) [] (zW3 α ν β μ f) cu su := by
  (conv => whnf)
  rw [zble (show cu + 0 ≤ 601024 by omega)]
  (conv => whnf)
  rw [zble (show su + 0 ≤ 7293034 by omega)]
  (conv => whnf)
  refine ⟨α, ν, _, rfl, rfl, ?_⟩
  (conv => whnf)
  rw [zble (show cu + 0 + 0 ≤ 601024 by omega)]
  (conv => whnf)
  rw [zble (show su + 0 + 0 ≤ 7293034 by omega)]
  (conv => whnf)
  refine ⟨α, ν, β, μ, _, rfl, rfl, ?_⟩
  (conv => whnf)
  refine And.intro (fun _ => ?_) (fun c => absurd (show _ from (by obtain ⟨t, _, a, b⟩ : ∃ h, h ≤ 60 ∧ ν 4 = nI h ∧ μ 4 = nI h := hr.2.2.2.2.2.2.2.2.2.1; exact a.trans b.symm)) c)
  (conv => whnf)
  exact hK _ _ _ _ ⟨⟨rfl, rfl, rfl, rfl, rfl, trivial⟩, rfl, ⟨_, _, _, _, _, rfl, zRel_th hr⟩, by omega, by omega⟩
def pg_LC24 : List zE := [(1494, .aload_n 1, 1, []), (1495, .aload_n 0, 1, []), (1496, .iload 4, 2, []), (1498, .iconst 1, 1, [1]), (1499, .iadd, 1, []), (1500, .iaload, 1, []), (1501, .aload_n 3, 1, []), (1502, .invokestatic 179, 3, []), (1505, .istore 5, 2, []), (1507, .aload_n 2, 1, []), (1508, .aload_n 0, 1, []), (1509, .iload 4, 2, []), (1511, .iconst 1, 1, [1]), (1512, .iadd, 1, []), (1513, .iaload, 1, []), (1514, .invokevirtual 181, 3, []), (1517, .istore 6, 2, []), (1519, .aload_n 2, 1, []), (1520, .invokevirtual 99, 3, []), (1523, .iload 5, 2, []), (1525, .if_icmp .eq 5, 3, [1530]), (1528, .iconst 0, 1, [0]), (1529, .ireturn, 1, []), (1530, .iload 5, 2, []), (1532, .ifCond .ne 15, 3, [1547]), (1535, .aload_n 3, 1, []), (1536, .iconst 0, 1, [0]), (1537, .laload, 1, []), (1538, .iload 6, 2, []), (1540, .i2l, 1, []), (1541, .lcmp, 1, []), (1542, .ifCond .eq 5, 3, [1547]), (1545, .iconst 0, 1, [0]), (1546, .ireturn, 1, []), (1547, .goto 128, 3, [1675])]
theorem hp_LC24 : ∀ q ∈ pg_LC24, decode code q.1 = .ok (q.2.1, q.2.2.1) ∧ ztg q.2.1 q.1 q.2.2.1 q.2.2.2 = true := zpg_of (by decide +kernel)
set_option maxHeartbeats 8000000 in
set_option maxRecDepth 40000 in
theorem wc_24 {L : Nat} {xs : Nat → Int32} {n : Nat} {α : Nat → Nat → Int32} {ν : Nat → Int32} {β : Nat → Nat → Int32} {μ : Nat → Int32} {f : Nat → Int64} {cu su : Nat} {K : zK} (hL : 5 * n + 5 ≤ L) (hL2 : L ≤ 2560) (hr : zRel n α ν β μ) (hcu : cu ≤ 40 + 10 * n) (hsu : su ≤ 2000 + 60 * n)
    (hK : ∀ Lc w cu2 su2, zSt (n + 1) n Lc [] w cu2 su2 → K Lc [] w cu2 su2) : zwp (zLT L xs) 7 pg_LC24 [(1675, K)] 100 pg_LC24 (zI5 n) [] (zW3 α ν β μ f) cu su := by
  (conv => whnf)
  refine ⟨zidx hL hL2 (k := 1) (by decide), ?_⟩
  (conv => whnf)
  rw [zble (show cu + 1 ≤ 601024 by omega)]
  (conv => whnf)
  rw [zble (show su + 6 ≤ 7293034 by omega)]
  (conv => whnf)
  refine j_shapeOfThing (n := n) hr _ _ (fun _ _ => True) (fun k α1 ν1 f1 hm => ?_)
  (conv => whnf)
  refine ⟨zidx hL hL2 (k := 1) (by decide), ?_⟩
  (conv => whnf)
  rw [zble (show cu + 1 + 0 ≤ 601024 by omega)]
  (conv => whnf)
  rw [zble (show su + 6 + 0 ≤ 7293034 by omega)]
  (conv => whnf)
  refine ⟨zEnd n k, fun _ _ => False, hm _ _ (fun _ _ h => h), fun rv w2 he => ?_, fun _ _ h => h.elim⟩
  obtain ⟨α2, ν2, β2, μ2, f2, rfl, hr2, t, b, rfl, ht, e7, rfl, ef⟩ := he
  (conv => whnf)
  rw [zble (show cu + 1 + 0 + 0 ≤ 601024 by omega)]
  (conv => whnf)
  rw [zble (show su + 6 + 0 + 0 ≤ 7293034 by omega)]
  (conv => whnf)
  refine ⟨α2, ν2, β2, μ2, _, rfl, rfl, ?_⟩
  (conv => whnf)
  refine And.intro (fun _ => ?_) (fun c => absurd (show _ from e7) c)
  (conv => whnf)
  refine And.intro (fun h0 => ?_) (fun h0 => ?_)
  · have t0 : t = 0 := nI_inj (by omega) (by decide) h0
    (conv => whnf)
    refine ⟨vp_in_nI (show 0 < 1 by decide) (by decide), ?_⟩
    (conv => whnf)
    refine And.intro (fun _ => ?_) (fun c => absurd (show f2 (nI 0).toNatClampNeg = b.toInt64 by rw [nI_clamp (by decide)]; exact ef t0) c)
    (conv => whnf)
    refine And.intro (fun _ => ?_) (fun c => absurd (show _ from rfl) c)
    (conv => whnf)
    exact hK _ _ _ _ ⟨⟨rfl, rfl, rfl, rfl, rfl, trivial⟩, rfl, ⟨_, _, _, _, _, rfl, hr2⟩, by omega, by omega⟩
  · (conv => whnf)
    exact hK _ _ _ _ ⟨⟨rfl, rfl, rfl, rfl, rfl, trivial⟩, rfl, ⟨_, _, _, _, _, rfl, hr2⟩, by omega, by omega⟩
def pg_LC25 : List zE := [(1550, .aload_n 1, 1, []), (1551, .aload_n 0, 1, []), (1552, .iload 4, 2, []), (1554, .iconst 1, 1, [1]), (1555, .iadd, 1, []), (1556, .iaload, 1, []), (1557, .aload_n 3, 1, []), (1558, .invokestatic 182, 3, []), (1561, .istore 5, 2, []), (1563, .aload_n 2, 1, []), (1564, .aload_n 0, 1, []), (1565, .iload 4, 2, []), (1567, .iconst 1, 1, [1]), (1568, .iadd, 1, []), (1569, .iaload, 1, []), (1570, .invokevirtual 184, 3, []), (1573, .istore 6, 2, []), (1575, .aload_n 2, 1, []), (1576, .invokevirtual 99, 3, []), (1579, .iload 5, 2, []), (1581, .if_icmp .eq 5, 3, [1586]), (1584, .iconst 0, 1, [0]), (1585, .ireturn, 1, []), (1586, .iload 5, 2, []), (1588, .ifCond .ne 15, 3, [1603]), (1591, .aload_n 3, 1, []), (1592, .iconst 0, 1, [0]), (1593, .laload, 1, []), (1594, .iload 6, 2, []), (1596, .i2l, 1, []), (1597, .lcmp, 1, []), (1598, .ifCond .eq 5, 3, [1603]), (1601, .iconst 0, 1, [0]), (1602, .ireturn, 1, []), (1603, .goto 72, 3, [1675])]
theorem hp_LC25 : ∀ q ∈ pg_LC25, decode code q.1 = .ok (q.2.1, q.2.2.1) ∧ ztg q.2.1 q.1 q.2.2.1 q.2.2.2 = true := zpg_of (by decide +kernel)
set_option maxHeartbeats 8000000 in
set_option maxRecDepth 40000 in
theorem wc_25 {L : Nat} {xs : Nat → Int32} {n : Nat} {α : Nat → Nat → Int32} {ν : Nat → Int32} {β : Nat → Nat → Int32} {μ : Nat → Int32} {f : Nat → Int64} {cu su : Nat} {K : zK} (hL : 5 * n + 5 ≤ L) (hL2 : L ≤ 2560) (hr : zRel n α ν β μ) (hcu : cu ≤ 40 + 10 * n) (hsu : su ≤ 2000 + 60 * n)
    (hK : ∀ Lc w cu2 su2, zSt (n + 1) n Lc [] w cu2 su2 → K Lc [] w cu2 su2) : zwp (zLT L xs) 7 pg_LC25 [(1675, K)] 100 pg_LC25 (zI5 n) [] (zW3 α ν β μ f) cu su := by
  (conv => whnf)
  refine ⟨zidx hL hL2 (k := 1) (by decide), ?_⟩
  (conv => whnf)
  rw [zble (show cu + 1 ≤ 601024 by omega)]
  (conv => whnf)
  rw [zble (show su + 6 ≤ 7293034 by omega)]
  (conv => whnf)
  refine j_finderOfThing (n := n) hr _ _ (fun _ _ => True) (fun k α1 ν1 f1 hm => ?_)
  (conv => whnf)
  refine ⟨zidx hL hL2 (k := 1) (by decide), ?_⟩
  (conv => whnf)
  rw [zble (show cu + 1 + 0 ≤ 601024 by omega)]
  (conv => whnf)
  rw [zble (show su + 6 + 0 ≤ 7293034 by omega)]
  (conv => whnf)
  refine ⟨zEnd n k, fun _ _ => False, hm _ _ (fun _ _ h => h), fun rv w2 he => ?_, fun _ _ h => h.elim⟩
  obtain ⟨α2, ν2, β2, μ2, f2, rfl, hr2, t, b, rfl, ht, e7, rfl, ef⟩ := he
  (conv => whnf)
  rw [zble (show cu + 1 + 0 + 0 ≤ 601024 by omega)]
  (conv => whnf)
  rw [zble (show su + 6 + 0 + 0 ≤ 7293034 by omega)]
  (conv => whnf)
  refine ⟨α2, ν2, β2, μ2, _, rfl, rfl, ?_⟩
  (conv => whnf)
  refine And.intro (fun _ => ?_) (fun c => absurd (show _ from e7) c)
  (conv => whnf)
  refine And.intro (fun h0 => ?_) (fun h0 => ?_)
  · have t0 : t = 0 := nI_inj (by omega) (by decide) h0
    (conv => whnf)
    refine ⟨vp_in_nI (show 0 < 1 by decide) (by decide), ?_⟩
    (conv => whnf)
    refine And.intro (fun _ => ?_) (fun c => absurd (show f2 (nI 0).toNatClampNeg = b.toInt64 by rw [nI_clamp (by decide)]; exact ef t0) c)
    (conv => whnf)
    refine And.intro (fun _ => ?_) (fun c => absurd (show _ from rfl) c)
    (conv => whnf)
    exact hK _ _ _ _ ⟨⟨rfl, rfl, rfl, rfl, rfl, trivial⟩, rfl, ⟨_, _, _, _, _, rfl, hr2⟩, by omega, by omega⟩
  · (conv => whnf)
    exact hK _ _ _ _ ⟨⟨rfl, rfl, rfl, rfl, rfl, trivial⟩, rfl, ⟨_, _, _, _, _, rfl, hr2⟩, by omega, by omega⟩
def pg_LC26 : List zE := [(1606, .aload_n 1, 1, []), (1607, .aload_n 0, 1, []), (1608, .iload 4, 2, []), (1610, .iconst 1, 1, [1]), (1611, .iadd, 1, []), (1612, .iaload, 1, []), (1613, .aload_n 3, 1, []), (1614, .invokestatic 185, 3, []), (1617, .istore 5, 2, []), (1619, .aload_n 2, 1, []), (1620, .aload_n 0, 1, []), (1621, .iload 4, 2, []), (1623, .iconst 1, 1, [1]), (1624, .iadd, 1, []), (1625, .iaload, 1, []), (1626, .invokevirtual 187, 3, []), (1629, .istore 6, 2, []), (1631, .aload_n 2, 1, []), (1632, .invokevirtual 99, 3, []), (1635, .iload 5, 2, []), (1637, .if_icmp .eq 5, 3, [1642]), (1640, .iconst 0, 1, [0]), (1641, .ireturn, 1, []), (1642, .iload 5, 2, []), (1644, .ifCond .ne 15, 3, [1659]), (1647, .aload_n 3, 1, []), (1648, .iconst 0, 1, [0]), (1649, .laload, 1, []), (1650, .iload 6, 2, []), (1652, .i2l, 1, []), (1653, .lcmp, 1, []), (1654, .ifCond .eq 5, 3, [1659]), (1657, .iconst 0, 1, [0]), (1658, .ireturn, 1, []), (1659, .goto 16, 3, [1675])]
theorem hp_LC26 : ∀ q ∈ pg_LC26, decode code q.1 = .ok (q.2.1, q.2.2.1) ∧ ztg q.2.1 q.1 q.2.2.1 q.2.2.2 = true := zpg_of (by decide +kernel)
set_option maxHeartbeats 8000000 in
set_option maxRecDepth 40000 in
theorem wc_26 {L : Nat} {xs : Nat → Int32} {n : Nat} {α : Nat → Nat → Int32} {ν : Nat → Int32} {β : Nat → Nat → Int32} {μ : Nat → Int32} {f : Nat → Int64} {cu su : Nat} {K : zK} (hL : 5 * n + 5 ≤ L) (hL2 : L ≤ 2560) (hr : zRel n α ν β μ) (hcu : cu ≤ 40 + 10 * n) (hsu : su ≤ 2000 + 60 * n)
    (hK : ∀ Lc w cu2 su2, zSt (n + 1) n Lc [] w cu2 su2 → K Lc [] w cu2 su2) : zwp (zLT L xs) 7 pg_LC26 [(1675, K)] 100 pg_LC26 (zI5 n) [] (zW3 α ν β μ f) cu su := by
  (conv => whnf)
  refine ⟨zidx hL hL2 (k := 1) (by decide), ?_⟩
  (conv => whnf)
  rw [zble (show cu + 1 ≤ 601024 by omega)]
  (conv => whnf)
  rw [zble (show su + 6 ≤ 7293034 by omega)]
  (conv => whnf)
  refine j_reward (n := n) hr _ _ (fun _ _ => True) (fun k α1 ν1 f1 hm => ?_)
  (conv => whnf)
  refine ⟨zidx hL hL2 (k := 1) (by decide), ?_⟩
  (conv => whnf)
  rw [zble (show cu + 1 + 0 ≤ 601024 by omega)]
  (conv => whnf)
  rw [zble (show su + 6 + 0 ≤ 7293034 by omega)]
  (conv => whnf)
  refine ⟨zEnd n k, fun _ _ => False, hm _ _ (fun _ _ h => h), fun rv w2 he => ?_, fun _ _ h => h.elim⟩
  obtain ⟨α2, ν2, β2, μ2, f2, rfl, hr2, t, b, rfl, ht, e7, rfl, ef⟩ := he
  (conv => whnf)
  rw [zble (show cu + 1 + 0 + 0 ≤ 601024 by omega)]
  (conv => whnf)
  rw [zble (show su + 6 + 0 + 0 ≤ 7293034 by omega)]
  (conv => whnf)
  refine ⟨α2, ν2, β2, μ2, _, rfl, rfl, ?_⟩
  (conv => whnf)
  refine And.intro (fun _ => ?_) (fun c => absurd (show _ from e7) c)
  (conv => whnf)
  refine And.intro (fun h0 => ?_) (fun h0 => ?_)
  · have t0 : t = 0 := nI_inj (by omega) (by decide) h0
    (conv => whnf)
    refine ⟨vp_in_nI (show 0 < 1 by decide) (by decide), ?_⟩
    (conv => whnf)
    refine And.intro (fun _ => ?_) (fun c => absurd (show f2 (nI 0).toNatClampNeg = b.toInt64 by rw [nI_clamp (by decide)]; exact ef t0) c)
    (conv => whnf)
    refine And.intro (fun _ => ?_) (fun c => absurd (show _ from rfl) c)
    (conv => whnf)
    exact hK _ _ _ _ ⟨⟨rfl, rfl, rfl, rfl, rfl, trivial⟩, rfl, ⟨_, _, _, _, _, rfl, hr2⟩, by omega, by omega⟩
  · (conv => whnf)
    exact hK _ _ _ _ ⟨⟨rfl, rfl, rfl, rfl, rfl, trivial⟩, rfl, ⟨_, _, _, _, _, rfl, hr2⟩, by omega, by omega⟩
def pg_LC27 : List zE := [(1662, .aload_n 1, 1, []), (1663, .invokevirtual 188, 3, []), (1666, .aload_n 2, 1, []), (1667, .invokevirtual 191, 3, []), (1670, .if_icmp .eq 5, 3, [1675]), (1673, .iconst 0, 1, [0]), (1674, .ireturn, 1, [])]
theorem hp_LC27 : ∀ q ∈ pg_LC27, decode code q.1 = .ok (q.2.1, q.2.2.1) ∧ ztg q.2.1 q.1 q.2.2.1 q.2.2.2 = true := zpg_of (by decide +kernel)
set_option maxHeartbeats 8000000 in
set_option maxRecDepth 40000 in
theorem wc_27 {L : Nat} {xs : Nat → Int32} {n : Nat} {α : Nat → Nat → Int32} {ν : Nat → Int32} {β : Nat → Nat → Int32} {μ : Nat → Int32} {f : Nat → Int64} {cu su : Nat} {K : zK} (hL : 5 * n + 5 ≤ L) (hL2 : L ≤ 2560) (hr : zRel n α ν β μ) (hcu : cu ≤ 40 + 10 * n) (hsu : su ≤ 2000 + 60 * n)
    (hK : ∀ Lc w cu2 su2, zSt (n + 1) n Lc [] w cu2 su2 → K Lc [] w cu2 su2) : zwp (zLT L xs) 7 pg_LC27 [(1675, K)] 100 pg_LC27 (zI5 n) [] (zW3 α ν β μ f) cu su := by
  (conv => whnf)
  rw [zble (show cu + 0 ≤ 601024 by omega)]
  (conv => whnf)
  rw [zble (show su + 0 ≤ 7293034 by omega)]
  (conv => whnf)
  refine ⟨α, ν, _, rfl, rfl, ?_⟩
  (conv => whnf)
  rw [zble (show cu + 0 + 0 ≤ 601024 by omega)]
  (conv => whnf)
  rw [zble (show su + 0 + 0 ≤ 7293034 by omega)]
  (conv => whnf)
  refine ⟨α, ν, β, μ, _, rfl, rfl, ?_⟩
  (conv => whnf)
  refine And.intro (fun _ => ?_) (fun c => absurd (show _ from hr.2.2.2.2.2.2.2.2.2.2.1) c)
  (conv => whnf)
  exact hK _ _ _ _ ⟨⟨rfl, rfl, rfl, rfl, rfl, trivial⟩, rfl, ⟨_, _, _, _, _, rfl, zRel_th hr⟩, by omega, by omega⟩
