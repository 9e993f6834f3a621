set_option maxRecDepth 100000 in
set_option maxHeartbeats 4000000 in
theorem tb_ms_cut : tb_ms = tbM0 :: ([tbM1, tbM2, tbM3, tbM4, tbM5, tbM6, tbM7, tbM8, tbM9, tbM10, tbM11, tbM12, tbM13, tbM14, tbM15, tbM16, tbM17, tbM18, tbM19, tbM20] ++ [tbM21, tbM22, tbM23, tbM24, tbM25, tbM26, tbM27, tbM28, tbM29, tbM30, tbM31, tbM32, tbM33, tbM34, tbM35, tbM36, tbM37, tbM38, tbM39, tbM40] ++ [tbM41, tbM42, tbM43, tbM44, tbM45, tbM46, tbM47, tbM48, tbM49, tbM50, tbM51, tbM52, tbM53, tbM54, tbM55, tbM56, tbM57, tbM58, tbM59, tbM60] ++ [tbM61, tbM62, tbM63, tbM64, tbM65, tbM66, tbM67, tbM68, tbM69, tbM70, tbM71, tbM72, tbM73, tbM74, tbM75, tbM76, tbM77, tbM78, tbM79, tbM80] ++ [tbM81, tbM82, tbM83, tbM84, tbM85, tbM86, tbM87, tbM88, tbM89, tbM90, tbM91, tbM92, tbM93, tbM94, tbM95, tbM96, tbM97, tbM98, tbM99, tbM100] ++ [tbM101, tbM102, tbM103, tbM104, tbM105, tbM106, tbM107, tbM108, tbM109, tbM110, tbM111, tbM112, tbM113, tbM114, tbM115, tbM116, tbM117, tbM118, tbM119, tbM120] ++ [tbM121, tbM122, tbM123, tbM124, tbM125, tbM126, tbM127, tbM128, tbM129, tbM130, tbM131, tbM132, tbM133, tbM134, tbM135, tbM136, tbM137, tbM138, tbM139, tbM140] ++ [tbM141, tbM142, tbM143, tbM144, tbM145, tbM146, tbM147, tbM148, tbM149, tbM150, tbM151, tbM152, tbM153, tbM154, tbM155, tbM156, tbM157, tbM158, tbM159, tbM160] ++ [tbM161, tbM162, tbM163, tbM164, tbM165, tbM166, tbM167, tbM168, tbM169, tbM170, tbM171, tbM172, tbM173, tbM174, tbM175, tbM176, tbM177, tbM178, tbM179, tbM180] ++ [tbM181, tbM182, tbM183, tbM184, tbM185, tbM186, tbM187, tbM188, tbM189, tbM190, tbM191, tbM192, tbM193, tbM194, tbM195, tbM196, tbM197, tbM198, tbM199, tbM200] ++ [tbM201, tbM202, tbM203, tbM204, tbM205, tbM206, tbM207, tbM208, tbM209, tbM210, tbM211, tbM212, tbM213, tbM214, tbM215, tbM216, tbM217, tbM218, tbM219, tbM220] ++ [tbM221, tbM222, tbM223, tbM224, tbM225, tbM226, tbM227, tbM228, tbM229, tbM230, tbM231, tbM232, tbM233, tbM234, tbM235, tbM236, tbM237, tbM238, tbM239, tbM240] ++ [tbM241, tbM242, tbM243, tbM244, tbM245, tbM246, tbM247, tbM248, tbM249, tbM250, tbM251, tbM252, tbM253, tbM254, tbM255, tbM256, tbM257, tbM258, tbM259, tbM260] ++ [tbM261, tbM262, tbM263, tbM264, tbM265, tbM266, tbM267, tbM268, tbM269, tbM270, tbM271, tbM272, tbM273, tbM274, tbM275, tbM276, tbM277, tbM278, tbM279, tbM280] ++ [tbM281, tbM282, tbM283, tbM284, tbM285, tbM286, tbM287, tbM288, tbM289, tbM290, tbM291, tbM292, tbM293, tbM294, tbM295, tbM296, tbM297, tbM298, tbM299, tbM300] ++ [tbM301, tbM302, tbM303, tbM304, tbM305, tbM306, tbM307, tbM308, tbM309, tbM310]) := rfl
set_option maxRecDepth 100000 in
theorem tb_code_mem {m : Nat} {M : am_M} (hM : tb_ms[m]? = some M) (h0 : 0 < m) : Cond.code M.1 M.2.1 M.2.2.1 M.2.2.2.1 ∈ tb_Ts := by
  rw [tb_ms_cut] at hM
  obtain ⟨k, rfl⟩ : ∃ k, m = k + 1 := ⟨m - 1, by omega⟩
  rw [List.getElem?_cons_succ] at hM
  have h := List.mem_of_getElem? hM
  simp only [List.mem_append] at h
  rcases h with (((((((((((((((h | h) | h) | h) | h) | h) | h) | h) | h) | h) | h) | h) | h) | h) | h) | h)
  · exact tb_cw_ok tb_cw_0 h
  · exact tb_cw_ok tb_cw_1 h
  · exact tb_cw_ok tb_cw_2 h
  · exact tb_cw_ok tb_cw_3 h
  · exact tb_cw_ok tb_cw_4 h
  · exact tb_cw_ok tb_cw_5 h
  · exact tb_cw_ok tb_cw_6 h
  · exact tb_cw_ok tb_cw_7 h
  · exact tb_cw_ok tb_cw_8 h
  · exact tb_cw_ok tb_cw_9 h
  · exact tb_cw_ok tb_cw_10 h
  · exact tb_cw_ok tb_cw_11 h
  · exact tb_cw_ok tb_cw_12 h
  · exact tb_cw_ok tb_cw_13 h
  · exact tb_cw_ok tb_cw_14 h
  · exact tb_cw_ok tb_cw_15 h
set_option maxRecDepth 100000 in
theorem tb_dc_0 : ∀ q ∈ ([(tbM0, tbI0), (tbM1, tbI1), (tbM2, tbI2), (tbM3, tbI3), (tbM4, tbI4), (tbM5, tbI5), (tbM6, tbI6), (tbM7, tbI7), (tbM8, tbI8), (tbM9, tbI9), (tbM10, tbI10), (tbM11, tbI11), (tbM12, tbI12), (tbM13, tbI13), (tbM14, tbI14), (tbM15, tbI15), (tbM16, tbI16), (tbM17, tbI17), (tbM18, tbI18), (tbM19, tbI19)] : List (am_M × List (Option (Instr × Nat)))), tb_ckI q.1.2.1 q.2 := List.forall_mem_cons.mpr ⟨tb_ckI_0, List.forall_mem_cons.mpr ⟨tb_ckI_1, List.forall_mem_cons.mpr ⟨tb_ckI_2, List.forall_mem_cons.mpr ⟨tb_ckI_3, List.forall_mem_cons.mpr ⟨tb_ckI_4, List.forall_mem_cons.mpr ⟨tb_ckI_5, List.forall_mem_cons.mpr ⟨tb_ckI_6, List.forall_mem_cons.mpr ⟨tb_ckI_7, List.forall_mem_cons.mpr ⟨tb_ckI_8, List.forall_mem_cons.mpr ⟨tb_ckI_9, List.forall_mem_cons.mpr ⟨tb_ckI_10, List.forall_mem_cons.mpr ⟨tb_ckI_11, List.forall_mem_cons.mpr ⟨tb_ckI_12, List.forall_mem_cons.mpr ⟨tb_ckI_13, List.forall_mem_cons.mpr ⟨tb_ckI_14, List.forall_mem_cons.mpr ⟨tb_ckI_15, List.forall_mem_cons.mpr ⟨tb_ckI_16, List.forall_mem_cons.mpr ⟨tb_ckI_17, List.forall_mem_cons.mpr ⟨tb_ckI_18, List.forall_mem_cons.mpr ⟨tb_ckI_19, fun _ h => absurd h List.not_mem_nil⟩⟩⟩⟩⟩⟩⟩⟩⟩⟩⟩⟩⟩⟩⟩⟩⟩⟩⟩⟩
set_option maxRecDepth 100000 in
theorem tb_dc_1 : ∀ q ∈ ([(tbM20, tbI20), (tbM21, tbI21), (tbM22, tbI22), (tbM23, tbI23), (tbM24, tbI24), (tbM25, tbI25), (tbM26, tbI26), (tbM27, tbI27), (tbM28, tbI28), (tbM29, tbI29), (tbM30, tbI30), (tbM31, tbI31), (tbM32, tbI32), (tbM33, tbI33), (tbM34, tbI34), (tbM35, tbI35), (tbM36, tbI36), (tbM37, tbI37), (tbM38, tbI38), (tbM39, tbI39)] : List (am_M × List (Option (Instr × Nat)))), tb_ckI q.1.2.1 q.2 := List.forall_mem_cons.mpr ⟨tb_ckI_20, List.forall_mem_cons.mpr ⟨tb_ckI_21, List.forall_mem_cons.mpr ⟨tb_ckI_22, List.forall_mem_cons.mpr ⟨tb_ckI_23, List.forall_mem_cons.mpr ⟨tb_ckI_24, List.forall_mem_cons.mpr ⟨tb_ckI_25, List.forall_mem_cons.mpr ⟨tb_ckI_26, List.forall_mem_cons.mpr ⟨tb_ckI_27, List.forall_mem_cons.mpr ⟨tb_ckI_28, List.forall_mem_cons.mpr ⟨tb_ckI_29, List.forall_mem_cons.mpr ⟨tb_ckI_30, List.forall_mem_cons.mpr ⟨tb_ckI_31, List.forall_mem_cons.mpr ⟨tb_ckI_32, List.forall_mem_cons.mpr ⟨tb_ckI_33, List.forall_mem_cons.mpr ⟨tb_ckI_34, List.forall_mem_cons.mpr ⟨tb_ckI_35, List.forall_mem_cons.mpr ⟨tb_ckI_36, List.forall_mem_cons.mpr ⟨tb_ckI_37, List.forall_mem_cons.mpr ⟨tb_ckI_38, List.forall_mem_cons.mpr ⟨tb_ckI_39, fun _ h => absurd h List.not_mem_nil⟩⟩⟩⟩⟩⟩⟩⟩⟩⟩⟩⟩⟩⟩⟩⟩⟩⟩⟩⟩
set_option maxRecDepth 100000 in
theorem tb_dc_2 : ∀ q ∈ ([(tbM40, tbI40), (tbM41, tbI41), (tbM42, tbI42), (tbM43, tbI43), (tbM44, tbI44), (tbM45, tbI45), (tbM46, tbI46), (tbM47, tbI47), (tbM48, tbI48), (tbM49, tbI49), (tbM50, tbI50), (tbM51, tbI51), (tbM52, tbI52), (tbM53, tbI53), (tbM54, tbI54), (tbM55, tbI55), (tbM56, tbI56), (tbM57, tbI57), (tbM58, tbI58), (tbM59, tbI59)] : List (am_M × List (Option (Instr × Nat)))), tb_ckI q.1.2.1 q.2 := List.forall_mem_cons.mpr ⟨tb_ckI_40, List.forall_mem_cons.mpr ⟨tb_ckI_41, List.forall_mem_cons.mpr ⟨tb_ckI_42, List.forall_mem_cons.mpr ⟨tb_ckI_43, List.forall_mem_cons.mpr ⟨tb_ckI_44, List.forall_mem_cons.mpr ⟨tb_ckI_45, List.forall_mem_cons.mpr ⟨tb_ckI_46, List.forall_mem_cons.mpr ⟨tb_ckI_47, List.forall_mem_cons.mpr ⟨tb_ckI_48, List.forall_mem_cons.mpr ⟨tb_ckI_49, List.forall_mem_cons.mpr ⟨tb_ckI_50, List.forall_mem_cons.mpr ⟨tb_ckI_51, List.forall_mem_cons.mpr ⟨tb_ckI_52, List.forall_mem_cons.mpr ⟨tb_ckI_53, List.forall_mem_cons.mpr ⟨tb_ckI_54, List.forall_mem_cons.mpr ⟨tb_ckI_55, List.forall_mem_cons.mpr ⟨tb_ckI_56, List.forall_mem_cons.mpr ⟨tb_ckI_57, List.forall_mem_cons.mpr ⟨tb_ckI_58, List.forall_mem_cons.mpr ⟨tb_ckI_59, fun _ h => absurd h List.not_mem_nil⟩⟩⟩⟩⟩⟩⟩⟩⟩⟩⟩⟩⟩⟩⟩⟩⟩⟩⟩⟩
set_option maxRecDepth 100000 in
theorem tb_dc_3 : ∀ q ∈ ([(tbM60, tbI60), (tbM61, tbI61), (tbM62, tbI62), (tbM63, tbI63), (tbM64, tbI64), (tbM65, tbI65), (tbM66, tbI66), (tbM67, tbI67), (tbM68, tbI68), (tbM69, tbI69), (tbM70, tbI70), (tbM71, tbI71), (tbM72, tbI72), (tbM73, tbI73), (tbM74, tbI74), (tbM75, tbI75), (tbM76, tbI76), (tbM77, tbI77), (tbM78, tbI78), (tbM79, tbI79)] : List (am_M × List (Option (Instr × Nat)))), tb_ckI q.1.2.1 q.2 := List.forall_mem_cons.mpr ⟨tb_ckI_60, List.forall_mem_cons.mpr ⟨tb_ckI_61, List.forall_mem_cons.mpr ⟨tb_ckI_62, List.forall_mem_cons.mpr ⟨tb_ckI_63, List.forall_mem_cons.mpr ⟨tb_ckI_64, List.forall_mem_cons.mpr ⟨tb_ckI_65, List.forall_mem_cons.mpr ⟨tb_ckI_66, List.forall_mem_cons.mpr ⟨tb_ckI_67, List.forall_mem_cons.mpr ⟨tb_ckI_68, List.forall_mem_cons.mpr ⟨tb_ckI_69, List.forall_mem_cons.mpr ⟨tb_ckI_70, List.forall_mem_cons.mpr ⟨tb_ckI_71, List.forall_mem_cons.mpr ⟨tb_ckI_72, List.forall_mem_cons.mpr ⟨tb_ckI_73, List.forall_mem_cons.mpr ⟨tb_ckI_74, List.forall_mem_cons.mpr ⟨tb_ckI_75, List.forall_mem_cons.mpr ⟨tb_ckI_76, List.forall_mem_cons.mpr ⟨tb_ckI_77, List.forall_mem_cons.mpr ⟨tb_ckI_78, List.forall_mem_cons.mpr ⟨tb_ckI_79, fun _ h => absurd h List.not_mem_nil⟩⟩⟩⟩⟩⟩⟩⟩⟩⟩⟩⟩⟩⟩⟩⟩⟩⟩⟩⟩
set_option maxRecDepth 100000 in
theorem tb_dc_4 : ∀ q ∈ ([(tbM80, tbI80), (tbM81, tbI81), (tbM82, tbI82), (tbM83, tbI83), (tbM84, tbI84), (tbM85, tbI85), (tbM86, tbI86), (tbM87, tbI87), (tbM88, tbI88), (tbM89, tbI89), (tbM90, tbI90), (tbM91, tbI91), (tbM92, tbI92), (tbM93, tbI93), (tbM94, tbI94), (tbM95, tbI95), (tbM96, tbI96), (tbM97, tbI97), (tbM98, tbI98), (tbM99, tbI99)] : List (am_M × List (Option (Instr × Nat)))), tb_ckI q.1.2.1 q.2 := List.forall_mem_cons.mpr ⟨tb_ckI_80, List.forall_mem_cons.mpr ⟨tb_ckI_81, List.forall_mem_cons.mpr ⟨tb_ckI_82, List.forall_mem_cons.mpr ⟨tb_ckI_83, List.forall_mem_cons.mpr ⟨tb_ckI_84, List.forall_mem_cons.mpr ⟨tb_ckI_85, List.forall_mem_cons.mpr ⟨tb_ckI_86, List.forall_mem_cons.mpr ⟨tb_ckI_87, List.forall_mem_cons.mpr ⟨tb_ckI_88, List.forall_mem_cons.mpr ⟨tb_ckI_89, List.forall_mem_cons.mpr ⟨tb_ckI_90, List.forall_mem_cons.mpr ⟨tb_ckI_91, List.forall_mem_cons.mpr ⟨tb_ckI_92, List.forall_mem_cons.mpr ⟨tb_ckI_93, List.forall_mem_cons.mpr ⟨tb_ckI_94, List.forall_mem_cons.mpr ⟨tb_ckI_95, List.forall_mem_cons.mpr ⟨tb_ckI_96, List.forall_mem_cons.mpr ⟨tb_ckI_97, List.forall_mem_cons.mpr ⟨tb_ckI_98, List.forall_mem_cons.mpr ⟨tb_ckI_99, fun _ h => absurd h List.not_mem_nil⟩⟩⟩⟩⟩⟩⟩⟩⟩⟩⟩⟩⟩⟩⟩⟩⟩⟩⟩⟩
set_option maxRecDepth 100000 in
theorem tb_dc_5 : ∀ q ∈ ([(tbM100, tbI100), (tbM101, tbI101), (tbM102, tbI102), (tbM103, tbI103), (tbM104, tbI104), (tbM105, tbI105), (tbM106, tbI106), (tbM107, tbI107), (tbM108, tbI108), (tbM109, tbI109), (tbM110, tbI110), (tbM111, tbI111), (tbM112, tbI112), (tbM113, tbI113), (tbM114, tbI114), (tbM115, tbI115), (tbM116, tbI116), (tbM117, tbI117), (tbM118, tbI118), (tbM119, tbI119)] : List (am_M × List (Option (Instr × Nat)))), tb_ckI q.1.2.1 q.2 := List.forall_mem_cons.mpr ⟨tb_ckI_100, List.forall_mem_cons.mpr ⟨tb_ckI_101, List.forall_mem_cons.mpr ⟨tb_ckI_102, List.forall_mem_cons.mpr ⟨tb_ckI_103, List.forall_mem_cons.mpr ⟨tb_ckI_104, List.forall_mem_cons.mpr ⟨tb_ckI_105, List.forall_mem_cons.mpr ⟨tb_ckI_106, List.forall_mem_cons.mpr ⟨tb_ckI_107, List.forall_mem_cons.mpr ⟨tb_ckI_108, List.forall_mem_cons.mpr ⟨tb_ckI_109, List.forall_mem_cons.mpr ⟨tb_ckI_110, List.forall_mem_cons.mpr ⟨tb_ckI_111, List.forall_mem_cons.mpr ⟨tb_ckI_112, List.forall_mem_cons.mpr ⟨tb_ckI_113, List.forall_mem_cons.mpr ⟨tb_ckI_114, List.forall_mem_cons.mpr ⟨tb_ckI_115, List.forall_mem_cons.mpr ⟨tb_ckI_116, List.forall_mem_cons.mpr ⟨tb_ckI_117, List.forall_mem_cons.mpr ⟨tb_ckI_118, List.forall_mem_cons.mpr ⟨tb_ckI_119, fun _ h => absurd h List.not_mem_nil⟩⟩⟩⟩⟩⟩⟩⟩⟩⟩⟩⟩⟩⟩⟩⟩⟩⟩⟩⟩
set_option maxRecDepth 100000 in
theorem tb_dc_6 : ∀ q ∈ ([(tbM120, tbI120), (tbM121, tbI121), (tbM122, tbI122), (tbM123, tbI123), (tbM124, tbI124), (tbM125, tbI125), (tbM126, tbI126), (tbM127, tbI127), (tbM128, tbI128), (tbM129, tbI129), (tbM130, tbI130), (tbM131, tbI131), (tbM132, tbI132), (tbM133, tbI133), (tbM134, tbI134), (tbM135, tbI135), (tbM136, tbI136), (tbM137, tbI137), (tbM138, tbI138), (tbM139, tbI139)] : List (am_M × List (Option (Instr × Nat)))), tb_ckI q.1.2.1 q.2 := List.forall_mem_cons.mpr ⟨tb_ckI_120, List.forall_mem_cons.mpr ⟨tb_ckI_121, List.forall_mem_cons.mpr ⟨tb_ckI_122, List.forall_mem_cons.mpr ⟨tb_ckI_123, List.forall_mem_cons.mpr ⟨tb_ckI_124, List.forall_mem_cons.mpr ⟨tb_ckI_125, List.forall_mem_cons.mpr ⟨tb_ckI_126, List.forall_mem_cons.mpr ⟨tb_ckI_127, List.forall_mem_cons.mpr ⟨tb_ckI_128, List.forall_mem_cons.mpr ⟨tb_ckI_129, List.forall_mem_cons.mpr ⟨tb_ckI_130, List.forall_mem_cons.mpr ⟨tb_ckI_131, List.forall_mem_cons.mpr ⟨tb_ckI_132, List.forall_mem_cons.mpr ⟨tb_ckI_133, List.forall_mem_cons.mpr ⟨tb_ckI_134, List.forall_mem_cons.mpr ⟨tb_ckI_135, List.forall_mem_cons.mpr ⟨tb_ckI_136, List.forall_mem_cons.mpr ⟨tb_ckI_137, List.forall_mem_cons.mpr ⟨tb_ckI_138, List.forall_mem_cons.mpr ⟨tb_ckI_139, fun _ h => absurd h List.not_mem_nil⟩⟩⟩⟩⟩⟩⟩⟩⟩⟩⟩⟩⟩⟩⟩⟩⟩⟩⟩⟩
set_option maxRecDepth 100000 in
theorem tb_dc_7 : ∀ q ∈ ([(tbM140, tbI140), (tbM141, tbI141), (tbM142, tbI142), (tbM143, tbI143), (tbM144, tbI144), (tbM145, tbI145), (tbM146, tbI146), (tbM147, tbI147), (tbM148, tbI148), (tbM149, tbI149), (tbM150, tbI150), (tbM151, tbI151), (tbM152, tbI152), (tbM153, tbI153), (tbM154, tbI154), (tbM155, tbI155), (tbM156, tbI156), (tbM157, tbI157), (tbM158, tbI158), (tbM159, tbI159)] : List (am_M × List (Option (Instr × Nat)))), tb_ckI q.1.2.1 q.2 := List.forall_mem_cons.mpr ⟨tb_ckI_140, List.forall_mem_cons.mpr ⟨tb_ckI_141, List.forall_mem_cons.mpr ⟨tb_ckI_142, List.forall_mem_cons.mpr ⟨tb_ckI_143, List.forall_mem_cons.mpr ⟨tb_ckI_144, List.forall_mem_cons.mpr ⟨tb_ckI_145, List.forall_mem_cons.mpr ⟨tb_ckI_146, List.forall_mem_cons.mpr ⟨tb_ckI_147, List.forall_mem_cons.mpr ⟨tb_ckI_148, List.forall_mem_cons.mpr ⟨tb_ckI_149, List.forall_mem_cons.mpr ⟨tb_ckI_150, List.forall_mem_cons.mpr ⟨tb_ckI_151, List.forall_mem_cons.mpr ⟨tb_ckI_152, List.forall_mem_cons.mpr ⟨tb_ckI_153, List.forall_mem_cons.mpr ⟨tb_ckI_154, List.forall_mem_cons.mpr ⟨tb_ckI_155, List.forall_mem_cons.mpr ⟨tb_ckI_156, List.forall_mem_cons.mpr ⟨tb_ckI_157, List.forall_mem_cons.mpr ⟨tb_ckI_158, List.forall_mem_cons.mpr ⟨tb_ckI_159, fun _ h => absurd h List.not_mem_nil⟩⟩⟩⟩⟩⟩⟩⟩⟩⟩⟩⟩⟩⟩⟩⟩⟩⟩⟩⟩
set_option maxRecDepth 100000 in
theorem tb_dc_8 : ∀ q ∈ ([(tbM160, tbI160), (tbM161, tbI161), (tbM162, tbI162), (tbM163, tbI163), (tbM164, tbI164), (tbM165, tbI165), (tbM166, tbI166), (tbM167, tbI167), (tbM168, tbI168), (tbM169, tbI169), (tbM170, tbI170), (tbM171, tbI171), (tbM172, tbI172), (tbM173, tbI173), (tbM174, tbI174), (tbM175, tbI175), (tbM176, tbI176), (tbM177, tbI177), (tbM178, tbI178), (tbM179, tbI179)] : List (am_M × List (Option (Instr × Nat)))), tb_ckI q.1.2.1 q.2 := List.forall_mem_cons.mpr ⟨tb_ckI_160, List.forall_mem_cons.mpr ⟨tb_ckI_161, List.forall_mem_cons.mpr ⟨tb_ckI_162, List.forall_mem_cons.mpr ⟨tb_ckI_163, List.forall_mem_cons.mpr ⟨tb_ckI_164, List.forall_mem_cons.mpr ⟨tb_ckI_165, List.forall_mem_cons.mpr ⟨tb_ckI_166, List.forall_mem_cons.mpr ⟨tb_ckI_167, List.forall_mem_cons.mpr ⟨tb_ckI_168, List.forall_mem_cons.mpr ⟨tb_ckI_169, List.forall_mem_cons.mpr ⟨tb_ckI_170, List.forall_mem_cons.mpr ⟨tb_ckI_171, List.forall_mem_cons.mpr ⟨tb_ckI_172, List.forall_mem_cons.mpr ⟨tb_ckI_173, List.forall_mem_cons.mpr ⟨tb_ckI_174, List.forall_mem_cons.mpr ⟨tb_ckI_175, List.forall_mem_cons.mpr ⟨tb_ckI_176, List.forall_mem_cons.mpr ⟨tb_ckI_177, List.forall_mem_cons.mpr ⟨tb_ckI_178, List.forall_mem_cons.mpr ⟨tb_ckI_179, fun _ h => absurd h List.not_mem_nil⟩⟩⟩⟩⟩⟩⟩⟩⟩⟩⟩⟩⟩⟩⟩⟩⟩⟩⟩⟩
set_option maxRecDepth 100000 in
theorem tb_dc_9 : ∀ q ∈ ([(tbM180, tbI180), (tbM181, tbI181), (tbM182, tbI182), (tbM183, tbI183), (tbM184, tbI184), (tbM185, tbI185), (tbM186, tbI186), (tbM187, tbI187), (tbM188, tbI188), (tbM189, tbI189), (tbM190, tbI190), (tbM191, tbI191), (tbM192, tbI192), (tbM193, tbI193), (tbM194, tbI194), (tbM195, tbI195), (tbM196, tbI196), (tbM197, tbI197), (tbM198, tbI198), (tbM199, tbI199)] : List (am_M × List (Option (Instr × Nat)))), tb_ckI q.1.2.1 q.2 := List.forall_mem_cons.mpr ⟨tb_ckI_180, List.forall_mem_cons.mpr ⟨tb_ckI_181, List.forall_mem_cons.mpr ⟨tb_ckI_182, List.forall_mem_cons.mpr ⟨tb_ckI_183, List.forall_mem_cons.mpr ⟨tb_ckI_184, List.forall_mem_cons.mpr ⟨tb_ckI_185, List.forall_mem_cons.mpr ⟨tb_ckI_186, List.forall_mem_cons.mpr ⟨tb_ckI_187, List.forall_mem_cons.mpr ⟨tb_ckI_188, List.forall_mem_cons.mpr ⟨tb_ckI_189, List.forall_mem_cons.mpr ⟨tb_ckI_190, List.forall_mem_cons.mpr ⟨tb_ckI_191, List.forall_mem_cons.mpr ⟨tb_ckI_192, List.forall_mem_cons.mpr ⟨tb_ckI_193, List.forall_mem_cons.mpr ⟨tb_ckI_194, List.forall_mem_cons.mpr ⟨tb_ckI_195, List.forall_mem_cons.mpr ⟨tb_ckI_196, List.forall_mem_cons.mpr ⟨tb_ckI_197, List.forall_mem_cons.mpr ⟨tb_ckI_198, List.forall_mem_cons.mpr ⟨tb_ckI_199, fun _ h => absurd h List.not_mem_nil⟩⟩⟩⟩⟩⟩⟩⟩⟩⟩⟩⟩⟩⟩⟩⟩⟩⟩⟩⟩
set_option maxRecDepth 100000 in
theorem tb_dc_10 : ∀ q ∈ ([(tbM200, tbI200), (tbM201, tbI201), (tbM202, tbI202), (tbM203, tbI203), (tbM204, tbI204), (tbM205, tbI205), (tbM206, tbI206), (tbM207, tbI207), (tbM208, tbI208), (tbM209, tbI209), (tbM210, tbI210), (tbM211, tbI211), (tbM212, tbI212), (tbM213, tbI213), (tbM214, tbI214), (tbM215, tbI215), (tbM216, tbI216), (tbM217, tbI217), (tbM218, tbI218), (tbM219, tbI219)] : List (am_M × List (Option (Instr × Nat)))), tb_ckI q.1.2.1 q.2 := List.forall_mem_cons.mpr ⟨tb_ckI_200, List.forall_mem_cons.mpr ⟨tb_ckI_201, List.forall_mem_cons.mpr ⟨tb_ckI_202, List.forall_mem_cons.mpr ⟨tb_ckI_203, List.forall_mem_cons.mpr ⟨tb_ckI_204, List.forall_mem_cons.mpr ⟨tb_ckI_205, List.forall_mem_cons.mpr ⟨tb_ckI_206, List.forall_mem_cons.mpr ⟨tb_ckI_207, List.forall_mem_cons.mpr ⟨tb_ckI_208, List.forall_mem_cons.mpr ⟨tb_ckI_209, List.forall_mem_cons.mpr ⟨tb_ckI_210, List.forall_mem_cons.mpr ⟨tb_ckI_211, List.forall_mem_cons.mpr ⟨tb_ckI_212, List.forall_mem_cons.mpr ⟨tb_ckI_213, List.forall_mem_cons.mpr ⟨tb_ckI_214, List.forall_mem_cons.mpr ⟨tb_ckI_215, List.forall_mem_cons.mpr ⟨tb_ckI_216, List.forall_mem_cons.mpr ⟨tb_ckI_217, List.forall_mem_cons.mpr ⟨tb_ckI_218, List.forall_mem_cons.mpr ⟨tb_ckI_219, fun _ h => absurd h List.not_mem_nil⟩⟩⟩⟩⟩⟩⟩⟩⟩⟩⟩⟩⟩⟩⟩⟩⟩⟩⟩⟩
set_option maxRecDepth 100000 in
theorem tb_dc_11 : ∀ q ∈ ([(tbM220, tbI220), (tbM221, tbI221), (tbM222, tbI222), (tbM223, tbI223), (tbM224, tbI224), (tbM225, tbI225), (tbM226, tbI226), (tbM227, tbI227), (tbM228, tbI228), (tbM229, tbI229), (tbM230, tbI230), (tbM231, tbI231), (tbM232, tbI232), (tbM233, tbI233), (tbM234, tbI234), (tbM235, tbI235), (tbM236, tbI236), (tbM237, tbI237), (tbM238, tbI238), (tbM239, tbI239)] : List (am_M × List (Option (Instr × Nat)))), tb_ckI q.1.2.1 q.2 := List.forall_mem_cons.mpr ⟨tb_ckI_220, List.forall_mem_cons.mpr ⟨tb_ckI_221, List.forall_mem_cons.mpr ⟨tb_ckI_222, List.forall_mem_cons.mpr ⟨tb_ckI_223, List.forall_mem_cons.mpr ⟨tb_ckI_224, List.forall_mem_cons.mpr ⟨tb_ckI_225, List.forall_mem_cons.mpr ⟨tb_ckI_226, List.forall_mem_cons.mpr ⟨tb_ckI_227, List.forall_mem_cons.mpr ⟨tb_ckI_228, List.forall_mem_cons.mpr ⟨tb_ckI_229, List.forall_mem_cons.mpr ⟨tb_ckI_230, List.forall_mem_cons.mpr ⟨tb_ckI_231, List.forall_mem_cons.mpr ⟨tb_ckI_232, List.forall_mem_cons.mpr ⟨tb_ckI_233, List.forall_mem_cons.mpr ⟨tb_ckI_234, List.forall_mem_cons.mpr ⟨tb_ckI_235, List.forall_mem_cons.mpr ⟨tb_ckI_236, List.forall_mem_cons.mpr ⟨tb_ckI_237, List.forall_mem_cons.mpr ⟨tb_ckI_238, List.forall_mem_cons.mpr ⟨tb_ckI_239, fun _ h => absurd h List.not_mem_nil⟩⟩⟩⟩⟩⟩⟩⟩⟩⟩⟩⟩⟩⟩⟩⟩⟩⟩⟩⟩
set_option maxRecDepth 100000 in
theorem tb_dc_12 : ∀ q ∈ ([(tbM240, tbI240), (tbM241, tbI241), (tbM242, tbI242), (tbM243, tbI243), (tbM244, tbI244), (tbM245, tbI245), (tbM246, tbI246), (tbM247, tbI247), (tbM248, tbI248), (tbM249, tbI249), (tbM250, tbI250), (tbM251, tbI251), (tbM252, tbI252), (tbM253, tbI253), (tbM254, tbI254), (tbM255, tbI255), (tbM256, tbI256), (tbM257, tbI257), (tbM258, tbI258), (tbM259, tbI259)] : List (am_M × List (Option (Instr × Nat)))), tb_ckI q.1.2.1 q.2 := List.forall_mem_cons.mpr ⟨tb_ckI_240, List.forall_mem_cons.mpr ⟨tb_ckI_241, List.forall_mem_cons.mpr ⟨tb_ckI_242, List.forall_mem_cons.mpr ⟨tb_ckI_243, List.forall_mem_cons.mpr ⟨tb_ckI_244, List.forall_mem_cons.mpr ⟨tb_ckI_245, List.forall_mem_cons.mpr ⟨tb_ckI_246, List.forall_mem_cons.mpr ⟨tb_ckI_247, List.forall_mem_cons.mpr ⟨tb_ckI_248, List.forall_mem_cons.mpr ⟨tb_ckI_249, List.forall_mem_cons.mpr ⟨tb_ckI_250, List.forall_mem_cons.mpr ⟨tb_ckI_251, List.forall_mem_cons.mpr ⟨tb_ckI_252, List.forall_mem_cons.mpr ⟨tb_ckI_253, List.forall_mem_cons.mpr ⟨tb_ckI_254, List.forall_mem_cons.mpr ⟨tb_ckI_255, List.forall_mem_cons.mpr ⟨tb_ckI_256, List.forall_mem_cons.mpr ⟨tb_ckI_257, List.forall_mem_cons.mpr ⟨tb_ckI_258, List.forall_mem_cons.mpr ⟨tb_ckI_259, fun _ h => absurd h List.not_mem_nil⟩⟩⟩⟩⟩⟩⟩⟩⟩⟩⟩⟩⟩⟩⟩⟩⟩⟩⟩⟩
set_option maxRecDepth 100000 in
theorem tb_dc_13 : ∀ q ∈ ([(tbM260, tbI260), (tbM261, tbI261), (tbM262, tbI262), (tbM263, tbI263), (tbM264, tbI264), (tbM265, tbI265), (tbM266, tbI266), (tbM267, tbI267), (tbM268, tbI268), (tbM269, tbI269), (tbM270, tbI270), (tbM271, tbI271), (tbM272, tbI272), (tbM273, tbI273), (tbM274, tbI274), (tbM275, tbI275), (tbM276, tbI276), (tbM277, tbI277), (tbM278, tbI278), (tbM279, tbI279)] : List (am_M × List (Option (Instr × Nat)))), tb_ckI q.1.2.1 q.2 := List.forall_mem_cons.mpr ⟨tb_ckI_260, List.forall_mem_cons.mpr ⟨tb_ckI_261, List.forall_mem_cons.mpr ⟨tb_ckI_262, List.forall_mem_cons.mpr ⟨tb_ckI_263, List.forall_mem_cons.mpr ⟨tb_ckI_264, List.forall_mem_cons.mpr ⟨tb_ckI_265, List.forall_mem_cons.mpr ⟨tb_ckI_266, List.forall_mem_cons.mpr ⟨tb_ckI_267, List.forall_mem_cons.mpr ⟨tb_ckI_268, List.forall_mem_cons.mpr ⟨tb_ckI_269, List.forall_mem_cons.mpr ⟨tb_ckI_270, List.forall_mem_cons.mpr ⟨tb_ckI_271, List.forall_mem_cons.mpr ⟨tb_ckI_272, List.forall_mem_cons.mpr ⟨tb_ckI_273, List.forall_mem_cons.mpr ⟨tb_ckI_274, List.forall_mem_cons.mpr ⟨tb_ckI_275, List.forall_mem_cons.mpr ⟨tb_ckI_276, List.forall_mem_cons.mpr ⟨tb_ckI_277, List.forall_mem_cons.mpr ⟨tb_ckI_278, List.forall_mem_cons.mpr ⟨tb_ckI_279, fun _ h => absurd h List.not_mem_nil⟩⟩⟩⟩⟩⟩⟩⟩⟩⟩⟩⟩⟩⟩⟩⟩⟩⟩⟩⟩
set_option maxRecDepth 100000 in
theorem tb_dc_14 : ∀ q ∈ ([(tbM280, tbI280), (tbM281, tbI281), (tbM282, tbI282), (tbM283, tbI283), (tbM284, tbI284), (tbM285, tbI285), (tbM286, tbI286), (tbM287, tbI287), (tbM288, tbI288), (tbM289, tbI289), (tbM290, tbI290), (tbM291, tbI291), (tbM292, tbI292), (tbM293, tbI293), (tbM294, tbI294), (tbM295, tbI295), (tbM296, tbI296), (tbM297, tbI297), (tbM298, tbI298), (tbM299, tbI299)] : List (am_M × List (Option (Instr × Nat)))), tb_ckI q.1.2.1 q.2 := List.forall_mem_cons.mpr ⟨tb_ckI_280, List.forall_mem_cons.mpr ⟨tb_ckI_281, List.forall_mem_cons.mpr ⟨tb_ckI_282, List.forall_mem_cons.mpr ⟨tb_ckI_283, List.forall_mem_cons.mpr ⟨tb_ckI_284, List.forall_mem_cons.mpr ⟨tb_ckI_285, List.forall_mem_cons.mpr ⟨tb_ckI_286, List.forall_mem_cons.mpr ⟨tb_ckI_287, List.forall_mem_cons.mpr ⟨tb_ckI_288, List.forall_mem_cons.mpr ⟨tb_ckI_289, List.forall_mem_cons.mpr ⟨tb_ckI_290, List.forall_mem_cons.mpr ⟨tb_ckI_291, List.forall_mem_cons.mpr ⟨tb_ckI_292, List.forall_mem_cons.mpr ⟨tb_ckI_293, List.forall_mem_cons.mpr ⟨tb_ckI_294, List.forall_mem_cons.mpr ⟨tb_ckI_295, List.forall_mem_cons.mpr ⟨tb_ckI_296, List.forall_mem_cons.mpr ⟨tb_ckI_297, List.forall_mem_cons.mpr ⟨tb_ckI_298, List.forall_mem_cons.mpr ⟨tb_ckI_299, fun _ h => absurd h List.not_mem_nil⟩⟩⟩⟩⟩⟩⟩⟩⟩⟩⟩⟩⟩⟩⟩⟩⟩⟩⟩⟩
set_option maxRecDepth 100000 in
theorem tb_dc_15 : ∀ q ∈ ([(tbM300, tbI300), (tbM301, tbI301), (tbM302, tbI302), (tbM303, tbI303), (tbM304, tbI304), (tbM305, tbI305), (tbM306, tbI306), (tbM307, tbI307), (tbM308, tbI308), (tbM309, tbI309), (tbM310, tbI310)] : List (am_M × List (Option (Instr × Nat)))), tb_ckI q.1.2.1 q.2 := List.forall_mem_cons.mpr ⟨tb_ckI_300, List.forall_mem_cons.mpr ⟨tb_ckI_301, List.forall_mem_cons.mpr ⟨tb_ckI_302, List.forall_mem_cons.mpr ⟨tb_ckI_303, List.forall_mem_cons.mpr ⟨tb_ckI_304, List.forall_mem_cons.mpr ⟨tb_ckI_305, List.forall_mem_cons.mpr ⟨tb_ckI_306, List.forall_mem_cons.mpr ⟨tb_ckI_307, List.forall_mem_cons.mpr ⟨tb_ckI_308, List.forall_mem_cons.mpr ⟨tb_ckI_309, List.forall_mem_cons.mpr ⟨tb_ckI_310, fun _ h => absurd h List.not_mem_nil⟩⟩⟩⟩⟩⟩⟩⟩⟩⟩⟩
set_option maxRecDepth 100000 in
set_option maxHeartbeats 4000000 in
theorem tb_zip_cut : tb_ms.zip tb_is = [(tbM0, tbI0), (tbM1, tbI1), (tbM2, tbI2), (tbM3, tbI3), (tbM4, tbI4), (tbM5, tbI5), (tbM6, tbI6), (tbM7, tbI7), (tbM8, tbI8), (tbM9, tbI9), (tbM10, tbI10), (tbM11, tbI11), (tbM12, tbI12), (tbM13, tbI13), (tbM14, tbI14), (tbM15, tbI15), (tbM16, tbI16), (tbM17, tbI17), (tbM18, tbI18), (tbM19, tbI19)] ++ [(tbM20, tbI20), (tbM21, tbI21), (tbM22, tbI22), (tbM23, tbI23), (tbM24, tbI24), (tbM25, tbI25), (tbM26, tbI26), (tbM27, tbI27), (tbM28, tbI28), (tbM29, tbI29), (tbM30, tbI30), (tbM31, tbI31), (tbM32, tbI32), (tbM33, tbI33), (tbM34, tbI34), (tbM35, tbI35), (tbM36, tbI36), (tbM37, tbI37), (tbM38, tbI38), (tbM39, tbI39)] ++ [(tbM40, tbI40), (tbM41, tbI41), (tbM42, tbI42), (tbM43, tbI43), (tbM44, tbI44), (tbM45, tbI45), (tbM46, tbI46), (tbM47, tbI47), (tbM48, tbI48), (tbM49, tbI49), (tbM50, tbI50), (tbM51, tbI51), (tbM52, tbI52), (tbM53, tbI53), (tbM54, tbI54), (tbM55, tbI55), (tbM56, tbI56), (tbM57, tbI57), (tbM58, tbI58), (tbM59, tbI59)] ++ [(tbM60, tbI60), (tbM61, tbI61), (tbM62, tbI62), (tbM63, tbI63), (tbM64, tbI64), (tbM65, tbI65), (tbM66, tbI66), (tbM67, tbI67), (tbM68, tbI68), (tbM69, tbI69), (tbM70, tbI70), (tbM71, tbI71), (tbM72, tbI72), (tbM73, tbI73), (tbM74, tbI74), (tbM75, tbI75), (tbM76, tbI76), (tbM77, tbI77), (tbM78, tbI78), (tbM79, tbI79)] ++ [(tbM80, tbI80), (tbM81, tbI81), (tbM82, tbI82), (tbM83, tbI83), (tbM84, tbI84), (tbM85, tbI85), (tbM86, tbI86), (tbM87, tbI87), (tbM88, tbI88), (tbM89, tbI89), (tbM90, tbI90), (tbM91, tbI91), (tbM92, tbI92), (tbM93, tbI93), (tbM94, tbI94), (tbM95, tbI95), (tbM96, tbI96), (tbM97, tbI97), (tbM98, tbI98), (tbM99, tbI99)] ++ [(tbM100, tbI100), (tbM101, tbI101), (tbM102, tbI102), (tbM103, tbI103), (tbM104, tbI104), (tbM105, tbI105), (tbM106, tbI106), (tbM107, tbI107), (tbM108, tbI108), (tbM109, tbI109), (tbM110, tbI110), (tbM111, tbI111), (tbM112, tbI112), (tbM113, tbI113), (tbM114, tbI114), (tbM115, tbI115), (tbM116, tbI116), (tbM117, tbI117), (tbM118, tbI118), (tbM119, tbI119)] ++ [(tbM120, tbI120), (tbM121, tbI121), (tbM122, tbI122), (tbM123, tbI123), (tbM124, tbI124), (tbM125, tbI125), (tbM126, tbI126), (tbM127, tbI127), (tbM128, tbI128), (tbM129, tbI129), (tbM130, tbI130), (tbM131, tbI131), (tbM132, tbI132), (tbM133, tbI133), (tbM134, tbI134), (tbM135, tbI135), (tbM136, tbI136), (tbM137, tbI137), (tbM138, tbI138), (tbM139, tbI139)] ++ [(tbM140, tbI140), (tbM141, tbI141), (tbM142, tbI142), (tbM143, tbI143), (tbM144, tbI144), (tbM145, tbI145), (tbM146, tbI146), (tbM147, tbI147), (tbM148, tbI148), (tbM149, tbI149), (tbM150, tbI150), (tbM151, tbI151), (tbM152, tbI152), (tbM153, tbI153), (tbM154, tbI154), (tbM155, tbI155), (tbM156, tbI156), (tbM157, tbI157), (tbM158, tbI158), (tbM159, tbI159)] ++ [(tbM160, tbI160), (tbM161, tbI161), (tbM162, tbI162), (tbM163, tbI163), (tbM164, tbI164), (tbM165, tbI165), (tbM166, tbI166), (tbM167, tbI167), (tbM168, tbI168), (tbM169, tbI169), (tbM170, tbI170), (tbM171, tbI171), (tbM172, tbI172), (tbM173, tbI173), (tbM174, tbI174), (tbM175, tbI175), (tbM176, tbI176), (tbM177, tbI177), (tbM178, tbI178), (tbM179, tbI179)] ++ [(tbM180, tbI180), (tbM181, tbI181), (tbM182, tbI182), (tbM183, tbI183), (tbM184, tbI184), (tbM185, tbI185), (tbM186, tbI186), (tbM187, tbI187), (tbM188, tbI188), (tbM189, tbI189), (tbM190, tbI190), (tbM191, tbI191), (tbM192, tbI192), (tbM193, tbI193), (tbM194, tbI194), (tbM195, tbI195), (tbM196, tbI196), (tbM197, tbI197), (tbM198, tbI198), (tbM199, tbI199)] ++ [(tbM200, tbI200), (tbM201, tbI201), (tbM202, tbI202), (tbM203, tbI203), (tbM204, tbI204), (tbM205, tbI205), (tbM206, tbI206), (tbM207, tbI207), (tbM208, tbI208), (tbM209, tbI209), (tbM210, tbI210), (tbM211, tbI211), (tbM212, tbI212), (tbM213, tbI213), (tbM214, tbI214), (tbM215, tbI215), (tbM216, tbI216), (tbM217, tbI217), (tbM218, tbI218), (tbM219, tbI219)] ++ [(tbM220, tbI220), (tbM221, tbI221), (tbM222, tbI222), (tbM223, tbI223), (tbM224, tbI224), (tbM225, tbI225), (tbM226, tbI226), (tbM227, tbI227), (tbM228, tbI228), (tbM229, tbI229), (tbM230, tbI230), (tbM231, tbI231), (tbM232, tbI232), (tbM233, tbI233), (tbM234, tbI234), (tbM235, tbI235), (tbM236, tbI236), (tbM237, tbI237), (tbM238, tbI238), (tbM239, tbI239)] ++ [(tbM240, tbI240), (tbM241, tbI241), (tbM242, tbI242), (tbM243, tbI243), (tbM244, tbI244), (tbM245, tbI245), (tbM246, tbI246), (tbM247, tbI247), (tbM248, tbI248), (tbM249, tbI249), (tbM250, tbI250), (tbM251, tbI251), (tbM252, tbI252), (tbM253, tbI253), (tbM254, tbI254), (tbM255, tbI255), (tbM256, tbI256), (tbM257, tbI257), (tbM258, tbI258), (tbM259, tbI259)] ++ [(tbM260, tbI260), (tbM261, tbI261), (tbM262, tbI262), (tbM263, tbI263), (tbM264, tbI264), (tbM265, tbI265), (tbM266, tbI266), (tbM267, tbI267), (tbM268, tbI268), (tbM269, tbI269), (tbM270, tbI270), (tbM271, tbI271), (tbM272, tbI272), (tbM273, tbI273), (tbM274, tbI274), (tbM275, tbI275), (tbM276, tbI276), (tbM277, tbI277), (tbM278, tbI278), (tbM279, tbI279)] ++ [(tbM280, tbI280), (tbM281, tbI281), (tbM282, tbI282), (tbM283, tbI283), (tbM284, tbI284), (tbM285, tbI285), (tbM286, tbI286), (tbM287, tbI287), (tbM288, tbI288), (tbM289, tbI289), (tbM290, tbI290), (tbM291, tbI291), (tbM292, tbI292), (tbM293, tbI293), (tbM294, tbI294), (tbM295, tbI295), (tbM296, tbI296), (tbM297, tbI297), (tbM298, tbI298), (tbM299, tbI299)] ++ [(tbM300, tbI300), (tbM301, tbI301), (tbM302, tbI302), (tbM303, tbI303), (tbM304, tbI304), (tbM305, tbI305), (tbM306, tbI306), (tbM307, tbI307), (tbM308, tbI308), (tbM309, tbI309), (tbM310, tbI310)] := rfl
set_option maxRecDepth 100000 in
theorem tb_okI : am_okI tbT := by
  intro m pc i len M hin hM
  obtain ⟨l, hl, hp⟩ := tb_lk_ok (show tb_lk tb_is m pc = some (i, len) from hin)
  have hz : (tb_ms.zip tb_is)[m]? = some (M, l) := by
    rw [List.getElem?_zip_eq_some]
    exact ⟨hM, hl⟩
  rw [tb_zip_cut] at hz
  have h := List.mem_of_getElem? hz
  simp only [List.mem_append] at h
  have hk : tb_ckI M.2.1 l := by
    rcases h with (((((((((((((((h | h) | h) | h) | h) | h) | h) | h) | h) | h) | h) | h) | h) | h) | h) | h)
    · exact tb_dc_0 _ h
    · exact tb_dc_1 _ h
    · exact tb_dc_2 _ h
    · exact tb_dc_3 _ h
    · exact tb_dc_4 _ h
    · exact tb_dc_5 _ h
    · exact tb_dc_6 _ h
    · exact tb_dc_7 _ h
    · exact tb_dc_8 _ h
    · exact tb_dc_9 _ h
    · exact tb_dc_10 _ h
    · exact tb_dc_11 _ h
    · exact tb_dc_12 _ h
    · exact tb_dc_13 _ h
    · exact tb_dc_14 _ h
    · exact tb_dc_15 _ h
  exact tb_ckI_ok hk hp
theorem tb_ckF_all : ∀ c, tb_ckF c = true
  | 0 => tb_ckF_0
  | 1 => tb_ckF_1
  | 2 => tb_ckF_2
  | 3 => tb_ckF_3
  | 4 => tb_ckF_4
  | 5 => tb_ckF_5
  | 6 => tb_ckF_6
  | 7 => tb_ckF_7
  | 8 => tb_ckF_8
  | 9 => tb_ckF_9
  | 10 => tb_ckF_10
  | 11 => tb_ckF_11
  | 12 => tb_ckF_12
  | 13 => tb_ckF_13
  | 14 => tb_ckF_14
  | 15 => tb_ckF_15
  | 16 => tb_ckF_16
  | 17 => tb_ckF_17
  | _ + 18 => rfl
theorem tb_ckK_all : ∀ c, tb_ckK c = true
  | 0 => tb_ckK_0
  | 1 => tb_ckK_1
  | 2 => tb_ckK_2
  | 3 => tb_ckK_3
  | 4 => tb_ckK_4
  | 5 => tb_ckK_5
  | 6 => tb_ckK_6
  | 7 => tb_ckK_7
  | 8 => tb_ckK_8
  | 9 => tb_ckK_9
  | 10 => tb_ckK_10
  | 11 => tb_ckK_11
  | 12 => tb_ckK_12
  | 13 => tb_ckK_13
  | 14 => tb_ckK_14
  | 15 => tb_ckK_15
  | 16 => tb_ckK_16
  | 17 => tb_ckK_17
  | _ + 18 => rfl
theorem tb_ckS_all : ∀ c, tb_ckS c = true
  | 0 => tb_ckS_0
  | 1 => tb_ckS_1
  | 2 => tb_ckS_2
  | 3 => tb_ckS_3
  | 4 => tb_ckS_4
  | 5 => tb_ckS_5
  | 6 => tb_ckS_6
  | 7 => tb_ckS_7
  | 8 => tb_ckS_8
  | 9 => tb_ckS_9
  | 10 => tb_ckS_10
  | 11 => tb_ckS_11
  | 12 => tb_ckS_12
  | 13 => tb_ckS_13
  | 14 => tb_ckS_14
  | 15 => tb_ckS_15
  | 16 => tb_ckS_16
  | 17 => tb_ckS_17
  | _ + 18 => rfl
theorem tb_ckG_all : ∀ c, tb_ckG c = true
  | 0 => tb_ckG_0
  | 1 => tb_ckG_1
  | 2 => tb_ckG_2
  | 3 => tb_ckG_3
  | 4 => tb_ckG_4
  | 5 => tb_ckG_5
  | 6 => tb_ckG_6
  | 7 => tb_ckG_7
  | 8 => tb_ckG_8
  | 9 => tb_ckG_9
  | 10 => tb_ckG_10
  | 11 => tb_ckG_11
  | 12 => tb_ckG_12
  | 13 => tb_ckG_13
  | 14 => tb_ckG_14
  | 15 => tb_ckG_15
  | 16 => tb_ckG_16
  | 17 => tb_ckG_17
  | _ + 18 => rfl
theorem tb_okF : am_okF tbT tb_Ts := by
  intro m idx ci kf ty md M hfl hM
  have hfl : tb_fl m idx = some (ci, kf, ty, md) := hfl
  obtain ⟨hB, hB2⟩ := tb_B_ok (show tb_ms[m]? = some M from hM)
  unfold tb_fl at hfl
  split at hfl
  · rename_i ci' kf' ty' md' hlk
    obtain ⟨C, TT, N, a1, a2, a3, a4, a5, a6, a7⟩ := tb_ckF_ok (tb_ckF_all _) hlk hB
    have e := Option.some.inj hfl
    simp only [Prod.mk.injEq] at e
    obtain ⟨rfl, rfl, rfl, e4⟩ := e
    refine ⟨C, TT, N, a1, a2, a3, a4, fun hm => ?_, fun hm => ?_⟩
    · rw [hm] at e4
      split at e4
      · split at e4 <;> cases e4
      · exact a5 e4
    · rw [hm] at e4
      split at e4
      · rename_i h3
        split at e4
        · rename_i hini
          exact ⟨(a6 h3).1, (a6 h3).2, hB2 hini⟩
        · cases e4
      · exact absurd e4 a7
  · cases hfl
theorem tb_okK : am_okK tbT tb_Ts := by
  intro m idx ci t M hkl hM
  have hkl : tb_lk tb_K (tb_c m).1 idx = some (ci, t) := hkl
  obtain ⟨hB, -⟩ := tb_B_ok (show tb_ms[m]? = some M from hM)
  obtain ⟨l, hl, hi⟩ := tb_lk_ok hkl
  have hc := tb_ckK_all (tb_c m).1
  unfold tb_ckK at hc
  rw [hl] at hc
  have h1 := tb_bl_ok hc hi
  unfold tb_pK at h1
  split at h1
  · rename_i o p ho hp
    have e : o = M.1.cls := Option.some.inj (ho.symm.trans hB)
    subst e
    rw [Bool.and_eq_true] at h1
    refine ⟨fun C TT N hC => ?_, fun C hC => ?_⟩
    · have h2 := h1.1
      have hC : tb_cl[ci]? = some (C, TT, N) := hC
      simp only [hC] at h2
      exact am_has_ok h2
    · have h2 := h1.2
      have hC : tb_ty[t]? = some (.object C) := hC
      simp only [hC] at h2
      exact am_has_ok h2
  · cases h1
theorem tb_okS : am_okS tbT tb_Ts := by
  intro m idx v M hcs hM
  have hcs : tb_lk tb_S (tb_c m).1 idx = some v := hcs
  obtain ⟨hB, -⟩ := tb_B_ok (show tb_ms[m]? = some M from hM)
  obtain ⟨l, hl, hi⟩ := tb_lk_ok hcs
  have hc := tb_ckS_all (tb_c m).1
  unfold tb_ckS at hc
  rw [hl] at hc
  have h1 := tb_bl_ok hc hi
  unfold tb_pS at h1
  split at h1
  · rename_i o p ho hp
    have e : o = M.1.cls := Option.some.inj (ho.symm.trans hB)
    subst e
    refine ⟨fun x hx => ?_, fun x hx => ?_, fun a hx => ?_⟩
    · subst hx
      exact am_has_ok h1
    · subst hx
      exact am_has_ok h1
    · subst hx
      obtain ⟨q, hq, hw⟩ := List.any_eq_true.mp h1
      rw [Bool.and_eq_true, decide_eq_true_eq] at hw
      exact ⟨q, hq, hw.1, am_has_ok hw.2⟩
  · cases h1
theorem tb_okT : am_okT tbT tb_Ts := ⟨⟨rfl, List.mem_filter.mpr ⟨List.mem_of_getElem? (i := 233) (by decide +kernel), rfl⟩⟩, ⟨rfl, List.mem_filter.mpr ⟨List.mem_of_getElem? (i := 234) (by decide +kernel), rfl⟩⟩, ⟨rfl, List.mem_filter.mpr ⟨List.mem_of_getElem? (i := 232) (by decide +kernel), rfl⟩⟩, ⟨rfl, List.mem_filter.mpr ⟨List.mem_of_getElem? (i := 263) (by decide +kernel), rfl⟩⟩⟩
theorem tb_pC_ok {C : String} {TT : u_T} {N : Nat} {df : List Value} {ty : List FieldType} {lp : List Nat} {ip np : Nat} (h : tb_pC C TT N df ty lp ip np = true) : (∀ w ∈ u_ws C TT N, w ∈ tb_Ts) ∧ (∃ ty0 : Nat → FieldType, (∀ k, k < N → parseFieldDescriptor (TT k).2.2.1 = some (ty0 k)) ∧ ∀ j, j < N → defaultValue (ty0 j) = vp_V df j ∧ ∃ z, df[j]? = some z ∧ ∀ g, am_v g z = z) ∧ df.length = N ∧ (∀ a, a < N → ∀ b, b < N → a ≠ b → (TT a).2.1 ≠ (TT b).2.1) ∧ Cond.instantiable C N ∈ tb_Ts ∧ Cond.initialized C ∈ tb_Ts := by
  unfold tb_pC at h
  simp only [Bool.and_eq_true, decide_eq_true_eq] at h
  obtain ⟨⟨⟨⟨h1, h2⟩, h3⟩, h4⟩, h5⟩ := h
  have key : ∀ k, k < N → am_has lw_tbl (lp.getD k 0) (u_lay C TT k) = true ∧ ∃ t, ty[k]? = some t ∧ parseFieldDescriptor (TT k).2.2.1 = some t ∧ df[k]? = some (defaultValue t) := by
    intro k hk
    have := List.all_eq_true.mp h1 k (List.mem_range.mpr hk)
    rw [Bool.and_eq_true] at this
    refine ⟨this.1, ?_⟩
    have h6 := this.2
    split at h6
    · rename_i t ht
      simp only [Bool.and_eq_true, decide_eq_true_eq] at h6
      exact ⟨t, ht, h6.1, h6.2⟩
    · cases h6
  refine ⟨fun w hw => ?_, ⟨fun k => ty.getD k .int, fun k hk => ?_, fun j hj => ?_⟩, h2, fun a ha b hb hab hn => ?_, am_has_ok h4, am_has_ok h5⟩
  · obtain ⟨k, hk, rfl⟩ := List.mem_map.mp hw
    exact am_has_ok (key k (List.mem_range.mp hk)).1
  · obtain ⟨-, t, ht, hp, -⟩ := key k hk
    show _ = some (ty.getD k .int)
    rw [hp, List.getD_eq_getElem?_getD, ht]
    rfl
  · obtain ⟨-, t, ht, -, hd⟩ := key j hj
    have e1 : ty.getD j .int = t := by rw [List.getD_eq_getElem?_getD, ht]; rfl
    refine ⟨?_, defaultValue t, hd, fun g => by cases t <;> rfl⟩
    show defaultValue (ty.getD j .int) = _
    rw [e1]
    unfold vp_V
    rw [List.getD_eq_getElem?_getD, hd]
    rfl
  · apply hab
    have hq : ∀ k, k < N → ((List.range N).map (fun k => (TT k).2.1))[k]? = some (TT k).2.1 := by
      intro k hk
      rw [List.getElem?_map, List.getElem?_range hk]
      rfl
    exact (List.getElem?_inj (by simpa using ha) h3).mp (by rw [hq a ha, hq b hb, hn])
theorem tb_okC : am_okC tbT tb_Ts := by
  intro ci C TT N h
  have h : tb_cl[ci]? = some (C, TT, N) := h
  match ci, h with
  | 0, h => cases h; exact tb_pC_ok tb_ckC_0
  | 1, h => cases h; exact tb_pC_ok tb_ckC_1
  | 2, h => cases h; exact tb_pC_ok tb_ckC_2
  | 3, h => cases h; exact tb_pC_ok tb_ckC_3
  | 4, h => cases h; exact tb_pC_ok tb_ckC_4
  | 5, h => cases h; exact tb_pC_ok tb_ckC_5
  | 6, h => cases h; exact tb_pC_ok tb_ckC_6
  | 7, h => cases h; exact tb_pC_ok tb_ckC_7
  | 8, h => cases h; exact tb_pC_ok tb_ckC_8
  | 9, h => cases h; exact tb_pC_ok tb_ckC_9
  | 10, h => cases h; exact tb_pC_ok tb_ckC_10
  | 11, h => cases h; exact tb_pC_ok tb_ckC_11
  | 12, h => cases h; exact tb_pC_ok tb_ckC_12
  | _ + 13, h => cases h
theorem tb_ok : am_ok tbT tb_Ts := ⟨tb_okF, tb_okC, tb_okK, tb_okS, tb_okT⟩
theorem tb_okM : am_okM tbT tb_Ts tb_nest := by
  intro m idx k kd ci M hml hM
  have hml : tb_lk tb_G (tb_c m).1 idx = some (k, kd, ci) := hml
  obtain ⟨hB, -⟩ := tb_B_ok (show tb_ms[m]? = some M from hM)
  obtain ⟨l, hl, hi⟩ := tb_lk_ok hml
  have hc := tb_ckG_all (tb_c m).1
  unfold tb_ckG at hc
  rw [hl] at hc
  have h1 := tb_bl_ok hc hi
  unfold tb_pG at h1
  split at h1
  · rename_i o ps ho hp
    have e : o = M.1.cls := Option.some.inj (ho.symm.trans hB)
    subst e
    refine ⟨fun h4 => ?_, fun h5 => ?_, fun M2 hM2 hlt => ?_⟩
    · rw [if_pos h4] at h1
      simp only [Bool.and_eq_true] at h1
      exact ⟨am_has_ok h1.1, am_has_ok h1.2, List.mem_filter.mpr ⟨List.mem_of_getElem? (i := 190) rfl, rfl⟩⟩
    · rw [if_neg (by show ¬ kd = 4; omega), if_neg (by show ¬ kd = 6; omega), if_pos h5] at h1
      simp only [Bool.and_eq_true] at h1
      exact ⟨am_has_ok h1.1.1.1, am_has_ok h1.1.1.2, am_has_ok h1.1.2, am_has_ok h1.2⟩
    · have hM2 : tb_ms[k]? = some M2 := hM2
      rw [if_neg (by show ¬ kd = 4; omega), if_neg (by show ¬ kd = 6; omega), if_neg (by show ¬ kd = 5; omega)] at h1
      simp only [hM2, Bool.and_eq_true, decide_eq_true_eq] at h1
      obtain ⟨⟨⟨⟨⟨⟨⟨⟨⟨⟨a0, a1⟩, a2⟩, a3⟩, a4⟩, a5⟩, a6⟩, a7⟩, a8⟩, a9⟩, a10⟩ := h1
      refine ⟨a1, ⟨a2, a3, a4⟩, tb_code_mem hM2 (Nat.blt_eq.mp a0), am_has_ok a5, fun h3 => ?_, fun h0 => ?_, fun h1 => ?_, fun h2 => ?_, fun h3 => ?_⟩
      · rw [if_neg h3] at a6
        exact am_has_ok a6
      · rw [if_pos h0] at a7
        exact am_has_ok a7
      · rw [if_neg (by omega)] at a7
        rw [if_pos h1, Bool.and_eq_true] at a8
        refine ⟨am_has_ok a7, am_has_ok a8.1, ?_⟩
        have a8' := a8.2
        split at a8'
        · rename_i C TT NN hC
          have e : C = M2.1.cls := of_decide_eq_true a8'
          subst e
          exact ⟨TT, NN, hC⟩
        · cases a8'
      · rw [if_neg (by omega)] at a7
        rw [if_pos h2, Bool.and_eq_true, decide_eq_true_eq, decide_eq_true_eq] at a9
        exact ⟨a9.1, am_has_ok a7, a9.2⟩
      · rw [if_pos h3] at a10
        obtain ⟨w, hw, he⟩ := List.any_eq_true.mp a10
        have e : w = _ := of_decide_eq_true he
        subst e
        exact ⟨_, hw⟩
  · cases h1
