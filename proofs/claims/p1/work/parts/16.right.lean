/-! ===== the program as data: it is right ===== -/
set_option maxRecDepth 100000 in
theorem ri_k_X0_init : ri_chk ri_NW0 ri_AO0 ri_cl0 ri_Ms0 ri_tyL0 ri_XT0 ri_m_X0_init ri_m_X0_init.2.2.2.2.2 [[], [172, 159, 160], [], [], [173], [519], [], [], [524], [], [], [529], [], [], [531], [], [175], [], [], [179, 127, 177, 178], [534], [], [175], [], [], [179, 127, 177, 178], [537], [], [], [254], [539], [], [], [255], [541], [], [], [], [], [], [], [519], [], [173], [], [198, 128, 197], [], [], [], []] = true := by decide +kernel
set_option maxRecDepth 100000 in
theorem ri_k_X10_knownLoop : ri_chk ri_NW0 ri_AO0 ri_cl0 ri_Ms0 ri_tyL0 ri_XT0 ri_m_X10_knownLoop ri_m_X10_knownLoop.2.2.2.2.2 [[], [], [], [], [647], [528], [], [], [], [], [], [], [647], [523], [], [], []] = true := by decide +kernel
set_option maxRecDepth 100000 in
theorem ri_k_X10_count : ri_chk ri_NW0 ri_AO0 ri_cl0 ri_Ms0 ri_tyL0 ri_XT0 ri_m_X10_count ri_m_X10_count.2.2.2.2.2 [[], [], [], [647], [528], [], [], [647], [530], [], [], [647], [533], [], [], [647], [536], [186], [], [], [647], [538], [186], [], [], []] = true := by decide +kernel
set_option maxRecDepth 100000 in
theorem ri_k_X7_init : ri_chk ri_NW0 ri_AO0 ri_cl0 ri_Ms0 ri_tyL0 ri_XT0 ri_m_X7_init ri_m_X7_init.2.2.2.2.2 [[], [180, 159, 160], [], [], [183], [], [], [182], [], [], [], [], [194], [181], []] = true := by decide +kernel
set_option maxRecDepth 100000 in
theorem ri_k_X2_init : ri_chk ri_NW0 ri_AO0 ri_cl0 ri_Ms0 ri_tyL0 ri_XT0 ri_m_X2_init ri_m_X2_init.2.2.2.2.2 [[], [199, 159, 160], [], [200], [], [204, 129, 203], [411], [], [256], [], [260, 130, 259], [417], [], [301], [], [305, 131, 304], [422], [], [369], [], [373, 132, 372], [427], [], [], [194], [469], []] = true := by decide +kernel
set_option maxRecDepth 100000 in
theorem ri_k_X3_init : ri_chk ri_NW0 ri_AO0 ri_cl0 ri_Ms0 ri_tyL0 ri_XT0 ri_m_X3_init ri_m_X3_init.2.2.2.2.2 [[], [205, 159, 160], [], [], [194], [234], []] = true := by decide +kernel
set_option maxRecDepth 100000 in
theorem ri_k_X9_init : ri_chk ri_NW0 ri_AO0 ri_cl0 ri_Ms0 ri_tyL0 ri_XT0 ri_m_X9_init ri_m_X9_init.2.2.2.2.2 [[], [261, 159, 160], [], [], [194], [285], []] = true := by decide +kernel
set_option maxRecDepth 100000 in
theorem ri_k_X1_init : ri_chk ri_NW0 ri_AO0 ri_cl0 ri_Ms0 ri_tyL0 ri_XT0 ri_m_X1_init ri_m_X1_init.2.2.2.2.2 [[], [306, 159, 160], [], [], [194], [333], [], [], [194], [336], [], [], [194], [340], [], [], [194], [344], []] = true := by decide +kernel
set_option maxRecDepth 100000 in
theorem ri_k_X5_init : ri_chk ri_NW0 ri_AO0 ri_cl0 ri_Ms0 ri_tyL0 ri_XT0 ri_m_X5_init ri_m_X5_init.2.2.2.2.2 [[], [374, 159, 160], []] = true := by decide +kernel
