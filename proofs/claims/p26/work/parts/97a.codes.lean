def tb_cw (M : am_M) : Option Cond := some (Cond.code M.1 M.2.1 M.2.2.1 M.2.2.2.1)
theorem tb_cw_ok {l : List am_M} {ps : List Nat} (h : l.map tb_cw = ps.map (fun p => lw_tbl[p]?)) {M : am_M} (hM : M ∈ l) : Cond.code M.1 M.2.1 M.2.2.1 M.2.2.2.1 ∈ tb_Ts := by
  have h1 : tb_cw M ∈ ps.map (fun p => lw_tbl[p]?) := by rw [← h]; exact List.mem_map_of_mem hM
  obtain ⟨p, -, hp⟩ := List.mem_map.mp h1
  exact List.mem_filter.mpr ⟨List.mem_of_getElem? hp, rfl⟩
set_option maxRecDepth 100000 in
set_option maxHeartbeats 4000000 in
theorem tb_cw_0 : ([tbM1, tbM2, tbM3, tbM4, tbM5, tbM6, tbM7, tbM8, tbM9, tbM10, tbM11, tbM12, tbM13, tbM14, tbM15, tbM16, tbM17, tbM18, tbM19, tbM20] : List am_M).map tb_cw = ([187, 195, 239, 268, 304, 310, 390, 427, 502, 506, 510, 514, 518, 522, 526, 530, 534, 537, 541, 544] : List Nat).map (fun p => lw_tbl[p]?) := rfl
set_option maxRecDepth 100000 in
set_option maxHeartbeats 4000000 in
theorem tb_cw_1 : ([tbM21, tbM22, tbM23, tbM24, tbM25, tbM26, tbM27, tbM28, tbM29, tbM30, tbM31, tbM32, tbM33, tbM34, tbM35, tbM36, tbM37, tbM38, tbM39, tbM40] : List am_M).map tb_cw = ([548, 551, 557, 562, 653, 657, 662, 666, 670, 674, 678, 682, 686, 690, 694, 698, 702, 706, 710, 714] : List Nat).map (fun p => lw_tbl[p]?) := rfl
set_option maxRecDepth 100000 in
set_option maxHeartbeats 4000000 in
theorem tb_cw_2 : ([tbM41, tbM42, tbM43, tbM44, tbM45, tbM46, tbM47, tbM48, tbM49, tbM50, tbM51, tbM52, tbM53, tbM54, tbM55, tbM56, tbM57, tbM58, tbM59, tbM60] : List am_M).map tb_cw = ([718, 779, 783, 787, 805, 810, 899, 903, 907, 911, 915, 919, 923, 928, 932, 936, 940, 945, 950, 1011] : List Nat).map (fun p => lw_tbl[p]?) := rfl
set_option maxRecDepth 100000 in
set_option maxHeartbeats 4000000 in
theorem tb_cw_3 : ([tbM61, tbM62, tbM63, tbM64, tbM65, tbM66, tbM67, tbM68, tbM69, tbM70, tbM71, tbM72, tbM73, tbM74, tbM75, tbM76, tbM77, tbM78, tbM79, tbM80] : List am_M).map tb_cw = ([1015, 1019, 1023, 1028, 1032, 1036, 1040, 1044, 1050, 1053, 1058, 1063, 1068, 1072, 1076, 1080, 1086, 1090, 1094, 1098] : List Nat).map (fun p => lw_tbl[p]?) := rfl
set_option maxRecDepth 100000 in
set_option maxHeartbeats 4000000 in
theorem tb_cw_4 : ([tbM81, tbM82, tbM83, tbM84, tbM85, tbM86, tbM87, tbM88, tbM89, tbM90, tbM91, tbM92, tbM93, tbM94, tbM95, tbM96, tbM97, tbM98, tbM99, tbM100] : List am_M).map tb_cw = ([1102, 1106, 1110, 1114, 1118, 1122, 1126, 1130, 1159, 1164, 1168, 1173, 1177, 1182, 1187, 1191, 1199, 1203, 1207, 1212] : List Nat).map (fun p => lw_tbl[p]?) := rfl
set_option maxRecDepth 100000 in
set_option maxHeartbeats 4000000 in
theorem tb_cw_5 : ([tbM101, tbM102, tbM103, tbM104, tbM105, tbM106, tbM107, tbM108, tbM109, tbM110, tbM111, tbM112, tbM113, tbM114, tbM115, tbM116, tbM117, tbM118, tbM119, tbM120] : List am_M).map tb_cw = ([1216, 1220, 1224, 1235, 1239, 1243, 1247, 1251, 1255, 1259, 1263, 1267, 1271, 1275, 1279, 1283, 1289, 1294, 1298, 1302] : List Nat).map (fun p => lw_tbl[p]?) := rfl
set_option maxRecDepth 100000 in
set_option maxHeartbeats 4000000 in
theorem tb_cw_6 : ([tbM121, tbM122, tbM123, tbM124, tbM125, tbM126, tbM127, tbM128, tbM129, tbM130, tbM131, tbM132, tbM133, tbM134, tbM135, tbM136, tbM137, tbM138, tbM139, tbM140] : List am_M).map tb_cw = ([1306, 1310, 1313, 1317, 1321, 1325, 1329, 1333, 1337, 1341, 1345, 1350, 1355, 1360, 1364, 1368, 1373, 1378, 1383, 1387] : List Nat).map (fun p => lw_tbl[p]?) := rfl
set_option maxRecDepth 100000 in
set_option maxHeartbeats 4000000 in
theorem tb_cw_7 : ([tbM141, tbM142, tbM143, tbM144, tbM145, tbM146, tbM147, tbM148, tbM149, tbM150, tbM151, tbM152, tbM153, tbM154, tbM155, tbM156, tbM157, tbM158, tbM159, tbM160] : List am_M).map tb_cw = ([1391, 1395, 1399, 1404, 1408, 1412, 1416, 1420, 1424, 1429, 1433, 1437, 1441, 1444, 1449, 1454, 1459, 1463, 1469, 1473] : List Nat).map (fun p => lw_tbl[p]?) := rfl
set_option maxRecDepth 100000 in
set_option maxHeartbeats 4000000 in
theorem tb_cw_8 : ([tbM161, tbM162, tbM163, tbM164, tbM165, tbM166, tbM167, tbM168, tbM169, tbM170, tbM171, tbM172, tbM173, tbM174, tbM175, tbM176, tbM177, tbM178, tbM179, tbM180] : List am_M).map tb_cw = ([1478, 1482, 1487, 1491, 1501, 1505, 1509, 1513, 1519, 1526, 1532, 1536, 1545, 1548, 1553, 1557, 1561, 1566, 1570, 1574] : List Nat).map (fun p => lw_tbl[p]?) := rfl
set_option maxRecDepth 100000 in
set_option maxHeartbeats 4000000 in
theorem tb_cw_9 : ([tbM181, tbM182, tbM183, tbM184, tbM185, tbM186, tbM187, tbM188, tbM189, tbM190, tbM191, tbM192, tbM193, tbM194, tbM195, tbM196, tbM197, tbM198, tbM199, tbM200] : List am_M).map tb_cw = ([1578, 1582, 1586, 1590, 1594, 1598, 1603, 1608, 1612, 1618, 1622, 1626, 1630, 1634, 1638, 1643, 2040, 2044, 2049, 2053] : List Nat).map (fun p => lw_tbl[p]?) := rfl
set_option maxRecDepth 100000 in
set_option maxHeartbeats 4000000 in
theorem tb_cw_10 : ([tbM201, tbM202, tbM203, tbM204, tbM205, tbM206, tbM207, tbM208, tbM209, tbM210, tbM211, tbM212, tbM213, tbM214, tbM215, tbM216, tbM217, tbM218, tbM219, tbM220] : List am_M).map tb_cw = ([2057, 2061, 2064, 2072, 2075, 2080, 2097, 2101, 2105, 2109, 2113, 2117, 2121, 2125, 2129, 2133, 2139, 2143, 2147, 2151] : List Nat).map (fun p => lw_tbl[p]?) := rfl
set_option maxRecDepth 100000 in
set_option maxHeartbeats 4000000 in
theorem tb_cw_11 : ([tbM221, tbM222, tbM223, tbM224, tbM225, tbM226, tbM227, tbM228, tbM229, tbM230, tbM231, tbM232, tbM233, tbM234, tbM235, tbM236, tbM237, tbM238, tbM239, tbM240] : List am_M).map tb_cw = ([2155, 2159, 2163, 2167, 2171, 2175, 2179, 2183, 2187, 2191, 2195, 2199, 2203, 2207, 2211, 2215, 2219, 2223, 2227, 2231] : List Nat).map (fun p => lw_tbl[p]?) := rfl
set_option maxRecDepth 100000 in
set_option maxHeartbeats 4000000 in
theorem tb_cw_12 : ([tbM241, tbM242, tbM243, tbM244, tbM245, tbM246, tbM247, tbM248, tbM249, tbM250, tbM251, tbM252, tbM253, tbM254, tbM255, tbM256, tbM257, tbM258, tbM259, tbM260] : List am_M).map tb_cw = ([2235, 2239, 2243, 2247, 2251, 2255, 2259, 2263, 2267, 2271, 2275, 2279, 2283, 2287, 2291, 2295, 2299, 2304, 2308, 2313] : List Nat).map (fun p => lw_tbl[p]?) := rfl
set_option maxRecDepth 100000 in
set_option maxHeartbeats 4000000 in
theorem tb_cw_13 : ([tbM261, tbM262, tbM263, tbM264, tbM265, tbM266, tbM267, tbM268, tbM269, tbM270, tbM271, tbM272, tbM273, tbM274, tbM275, tbM276, tbM277, tbM278, tbM279, tbM280] : List am_M).map tb_cw = ([2317, 2321, 2325, 2329, 2333, 2337, 2341, 2345, 2349, 2353, 2357, 2362, 2366, 2370, 2374, 2378, 2382, 2386, 2390, 2394] : List Nat).map (fun p => lw_tbl[p]?) := rfl
set_option maxRecDepth 100000 in
set_option maxHeartbeats 4000000 in
theorem tb_cw_14 : ([tbM281, tbM282, tbM283, tbM284, tbM285, tbM286, tbM287, tbM288, tbM289, tbM290, tbM291, tbM292, tbM293, tbM294, tbM295, tbM296, tbM297, tbM298, tbM299, tbM300] : List am_M).map tb_cw = ([2398, 2402, 2406, 2411, 2415, 2419, 2423, 2427, 2431, 2435, 2439, 2443, 2447, 2451, 2455, 2459, 2463, 2467, 2471, 2475] : List Nat).map (fun p => lw_tbl[p]?) := rfl
set_option maxRecDepth 100000 in
set_option maxHeartbeats 4000000 in
theorem tb_cw_15 : ([tbM301, tbM302, tbM303, tbM304, tbM305, tbM306, tbM307, tbM308, tbM309, tbM310] : List am_M).map tb_cw = ([2479, 594, 597, 790, 1195, 1227, 1230, 1494, 1497, 1522] : List Nat).map (fun p => lw_tbl[p]?) := rfl
