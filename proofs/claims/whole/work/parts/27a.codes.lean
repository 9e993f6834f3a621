def tb_cw (M : am_M) : Option Cond := some (Cond.code M.1 M.2.1 M.2.2.1 M.2.2.2.1)
theorem tb_cw_ok {l : List am_M} {ps : List Nat} (h : l.map tb_cw = ps.map (fun p => lw_tbl[p]?)) {M : am_M} (hM : M ∈ l) : Cond.code M.1 M.2.1 M.2.2.1 M.2.2.2.1 ∈ tb_Ts := by
  have h1 : tb_cw M ∈ ps.map (fun p => lw_tbl[p]?) := by rw [← h]; exact List.mem_map_of_mem hM
  obtain ⟨p, -, hp⟩ := List.mem_map.mp h1
  exact List.mem_filter.mpr ⟨List.mem_of_getElem? hp, rfl⟩
set_option maxRecDepth 100000 in
set_option maxHeartbeats 4000000 in
theorem tb_cw_0 : ([tbM1, tbM2, tbM3, tbM4, tbM5, tbM6, tbM7, tbM8, tbM9, tbM10, tbM11, tbM12, tbM13, tbM14, tbM15, tbM16, tbM17, tbM18, tbM19, tbM20] : List am_M).map tb_cw = ([188, 196, 240, 269, 305, 311, 391, 428, 503, 507, 511, 515, 519, 523, 527, 531, 535, 538, 542, 545] : List Nat).map (fun p => lw_tbl[p]?) := rfl
set_option maxRecDepth 100000 in
set_option maxHeartbeats 4000000 in
theorem tb_cw_1 : ([tbM21, tbM22, tbM23, tbM24, tbM25, tbM26, tbM27, tbM28, tbM29, tbM30, tbM31, tbM32, tbM33, tbM34, tbM35, tbM36, tbM37, tbM38, tbM39, tbM40] : List am_M).map tb_cw = ([549, 552, 558, 563, 654, 658, 663, 667, 671, 675, 679, 683, 687, 691, 695, 699, 703, 707, 711, 715] : List Nat).map (fun p => lw_tbl[p]?) := rfl
set_option maxRecDepth 100000 in
set_option maxHeartbeats 4000000 in
theorem tb_cw_2 : ([tbM41, tbM42, tbM43, tbM44, tbM45, tbM46, tbM47, tbM48, tbM49, tbM50, tbM51, tbM52, tbM53, tbM54, tbM55, tbM56, tbM57, tbM58, tbM59, tbM60] : List am_M).map tb_cw = ([719, 780, 784, 788, 806, 811, 904, 908, 912, 916, 920, 924, 928, 932, 936, 941, 946, 1007, 1011, 1015] : List Nat).map (fun p => lw_tbl[p]?) := rfl
set_option maxRecDepth 100000 in
set_option maxHeartbeats 4000000 in
theorem tb_cw_3 : ([tbM61, tbM62, tbM63, tbM64, tbM65, tbM66, tbM67, tbM68, tbM69, tbM70, tbM71, tbM72, tbM73, tbM74, tbM75, tbM76, tbM77, tbM78, tbM79, tbM80] : List am_M).map tb_cw = ([1019, 1024, 1028, 1032, 1036, 1040, 1046, 1049, 1054, 1058, 1062, 1066, 1071, 1076, 1080, 1084, 1088, 1092, 1096, 1100] : List Nat).map (fun p => lw_tbl[p]?) := rfl
set_option maxRecDepth 100000 in
set_option maxHeartbeats 4000000 in
theorem tb_cw_4 : ([tbM81, tbM82, tbM83, tbM84, tbM85, tbM86, tbM87, tbM88, tbM89, tbM90, tbM91, tbM92, tbM93, tbM94, tbM95, tbM96, tbM97, tbM98, tbM99, tbM100] : List am_M).map tb_cw = ([1104, 1108, 1112, 1116, 1120, 1124, 1128, 1132, 1136, 1140, 1169, 1174, 1178, 1183, 1187, 1192, 1197, 1201, 1209, 1213] : List Nat).map (fun p => lw_tbl[p]?) := rfl
set_option maxRecDepth 100000 in
set_option maxHeartbeats 4000000 in
theorem tb_cw_5 : ([tbM101, tbM102, tbM103, tbM104, tbM105, tbM106, tbM107, tbM108, tbM109, tbM110, tbM111, tbM112, tbM113, tbM114, tbM115, tbM116, tbM117, tbM118, tbM119, tbM120] : List am_M).map tb_cw = ([1217, 1222, 1226, 1230, 1234, 1245, 1249, 1253, 1257, 1261, 1265, 1269, 1273, 1277, 1281, 1285, 1289, 1293, 1299, 1304] : List Nat).map (fun p => lw_tbl[p]?) := rfl
set_option maxRecDepth 100000 in
set_option maxHeartbeats 4000000 in
theorem tb_cw_6 : ([tbM121, tbM122, tbM123, tbM124, tbM125, tbM126, tbM127, tbM128, tbM129, tbM130, tbM131, tbM132, tbM133, tbM134, tbM135, tbM136, tbM137, tbM138, tbM139, tbM140] : List am_M).map tb_cw = ([1308, 1312, 1316, 1320, 1323, 1327, 1331, 1335, 1339, 1343, 1347, 1351, 1355, 1360, 1365, 1370, 1374, 1378, 1383, 1388] : List Nat).map (fun p => lw_tbl[p]?) := rfl
set_option maxRecDepth 100000 in
set_option maxHeartbeats 4000000 in
theorem tb_cw_7 : ([tbM141, tbM142, tbM143, tbM144, tbM145, tbM146, tbM147, tbM148, tbM149, tbM150, tbM151, tbM152, tbM153, tbM154, tbM155, tbM156, tbM157, tbM158, tbM159, tbM160] : List am_M).map tb_cw = ([1393, 1397, 1401, 1405, 1409, 1414, 1418, 1422, 1426, 1430, 1434, 1439, 1443, 1447, 1451, 1454, 1459, 1464, 1469, 1473] : List Nat).map (fun p => lw_tbl[p]?) := rfl
set_option maxRecDepth 100000 in
set_option maxHeartbeats 4000000 in
theorem tb_cw_8 : ([tbM161, tbM162, tbM163, tbM164, tbM165, tbM166, tbM167, tbM168, tbM169, tbM170, tbM171, tbM172, tbM173, tbM174, tbM175, tbM176, tbM177, tbM178, tbM179, tbM180] : List am_M).map tb_cw = ([1479, 1483, 1488, 1492, 1497, 1501, 1511, 1515, 1519, 1523, 1529, 1536, 1542, 1546, 1555, 1558, 1563, 1567, 1571, 1576] : List Nat).map (fun p => lw_tbl[p]?) := rfl
set_option maxRecDepth 100000 in
set_option maxHeartbeats 4000000 in
theorem tb_cw_9 : ([tbM181, tbM182, tbM183, tbM184, tbM185, tbM186, tbM187, tbM188, tbM189, tbM190, tbM191, tbM192, tbM193, tbM194, tbM195, tbM196, tbM197, tbM198, tbM199, tbM200] : List am_M).map tb_cw = ([1580, 1584, 1588, 1592, 1596, 1600, 1604, 1608, 1613, 1618, 1622, 1628, 1632, 1636, 1640, 1644, 1648, 1653, 2050, 2054] : List Nat).map (fun p => lw_tbl[p]?) := rfl
set_option maxRecDepth 100000 in
set_option maxHeartbeats 4000000 in
theorem tb_cw_10 : ([tbM201, tbM202, tbM203, tbM204, tbM205, tbM206, tbM207, tbM208, tbM209, tbM210, tbM211, tbM212, tbM213, tbM214, tbM215, tbM216, tbM217, tbM218, tbM219, tbM220] : List am_M).map tb_cw = ([2059, 2063, 2067, 2071, 2074, 2082, 2085, 2090, 2107, 2111, 2115, 2119, 2123, 2127, 2131, 2135, 2139, 2143, 2149, 2153] : List Nat).map (fun p => lw_tbl[p]?) := rfl
set_option maxRecDepth 100000 in
set_option maxHeartbeats 4000000 in
theorem tb_cw_11 : ([tbM221, tbM222, tbM223, tbM224, tbM225, tbM226, tbM227, tbM228, tbM229, tbM230, tbM231, tbM232, tbM233, tbM234, tbM235, tbM236, tbM237, tbM238, tbM239, tbM240] : List am_M).map tb_cw = ([2157, 2161, 2165, 2169, 2173, 2177, 2181, 2185, 2189, 2193, 2197, 2201, 2205, 2209, 2213, 2217, 2221, 2225, 2229, 2233] : List Nat).map (fun p => lw_tbl[p]?) := rfl
set_option maxRecDepth 100000 in
set_option maxHeartbeats 4000000 in
theorem tb_cw_12 : ([tbM241, tbM242, tbM243, tbM244, tbM245, tbM246, tbM247, tbM248, tbM249, tbM250, tbM251, tbM252, tbM253, tbM254, tbM255, tbM256, tbM257, tbM258, tbM259, tbM260] : List am_M).map tb_cw = ([2237, 2241, 2245, 2249, 2253, 2257, 2261, 2265, 2269, 2273, 2277, 2281, 2285, 2289, 2293, 2297, 2301, 2305, 2309, 2314] : List Nat).map (fun p => lw_tbl[p]?) := rfl
set_option maxRecDepth 100000 in
set_option maxHeartbeats 4000000 in
theorem tb_cw_13 : ([tbM261, tbM262, tbM263, tbM264, tbM265, tbM266, tbM267, tbM268, tbM269, tbM270, tbM271, tbM272, tbM273, tbM274, tbM275, tbM276, tbM277, tbM278, tbM279, tbM280] : List am_M).map tb_cw = ([2318, 2323, 2327, 2331, 2335, 2339, 2343, 2347, 2351, 2355, 2359, 2363, 2367, 2372, 2376, 2380, 2384, 2388, 2392, 2396] : List Nat).map (fun p => lw_tbl[p]?) := rfl
set_option maxRecDepth 100000 in
set_option maxHeartbeats 4000000 in
theorem tb_cw_14 : ([tbM281, tbM282, tbM283, tbM284, tbM285, tbM286, tbM287, tbM288, tbM289, tbM290, tbM291, tbM292, tbM293, tbM294, tbM295, tbM296, tbM297, tbM298, tbM299, tbM300] : List am_M).map tb_cw = ([2400, 2404, 2408, 2412, 2416, 2421, 2425, 2429, 2433, 2437, 2441, 2445, 2449, 2453, 2457, 2461, 2465, 2469, 2473, 2477] : List Nat).map (fun p => lw_tbl[p]?) := rfl
set_option maxRecDepth 100000 in
set_option maxHeartbeats 4000000 in
theorem tb_cw_15 : ([tbM301, tbM302, tbM303, tbM304, tbM305, tbM306, tbM307, tbM308, tbM309, tbM310, tbM311, tbM312] : List am_M).map tb_cw = ([2481, 2485, 2489, 595, 598, 791, 1205, 1237, 1240, 1504, 1507, 1532] : List Nat).map (fun p => lw_tbl[p]?) := rfl
