/-! ===== the program as data: it is right ===== -/
set_option maxRecDepth 100000 in
theorem ri_k_L_ahead : ri_chk ri_hh0 ri_NW0 ri_CW0 ri_NC0 ri_CN0 ri_AO0 ri_cl0 ri_Ms0 ri_tyL0 ri_exn0 ri_XT0 ri_m_L_ahead ri_m_L_ahead.2.2.2.2.2 [[], [], [], [], [], [], [1542, 124, 1539, 1540, 1541], [], [], [], [], [], [], [], [], [], [], []] = true := by decide +kernel
set_option maxRecDepth 100000 in
theorem ri_k_X11_ahead : ri_chk ri_hh0 ri_NW0 ri_CW0 ri_NC0 ri_CN0 ri_AO0 ri_cl0 ri_Ms0 ri_tyL0 ri_exn0 ri_XT0 ri_m_X11_ahead ri_m_X11_ahead.2.2.2.2.2 [[], [], [1602], [], [], [], [2037, 135, 2034, 2036, 102], [], [1887, 135, 1884, 1886, 72], [], [], [], [], [], [1789, 135, 1787, 1788], [], [], [], [], [], [1887, 135, 1884, 1886, 72], [], [], [], [], [2115, 135, 2112, 2114, 105], [], [], [2119, 135, 2116, 2118, 106], [], [], [], [], [], [], [], [], [], [], [], [], [], [2123, 135, 2120, 2122, 107], [], []] = true := by decide +kernel
set_option maxRecDepth 100000 in
theorem ri_k_L_peak : ri_chk ri_hh0 ri_NW0 ri_CW0 ri_NC0 ri_CN0 ri_AO0 ri_cl0 ri_Ms0 ri_tyL0 ri_exn0 ri_XT0 ri_m_L_peak ri_m_L_peak.2.2.2.2.2 [[], [], [], [], [], [1553, 124, 1550, 1551, 1552], [], [], [], [], [], [], [], [], [], []] = true := by decide +kernel
set_option maxRecDepth 100000 in
theorem ri_k_X11_peak : ri_chk ri_hh0 ri_NW0 ri_CW0 ri_NC0 ri_CN0 ri_AO0 ri_cl0 ri_Ms0 ri_tyL0 ri_exn0 ri_XT0 ri_m_X11_peak ri_m_X11_peak.2.2.2.2.2 [[], [], [], [2135, 135, 2132, 2134, 108], [], [], [], [], [], [], [], [], [], [1616], [], [], [], [], [], [], [2115, 135, 2112, 2114, 105], [], [], [2119, 135, 2116, 2118, 106], [], [2123, 135, 2120, 2122, 107], [], [1616], [], [], []] = true := by decide +kernel
set_option maxRecDepth 100000 in
theorem ri_k_L_hunts : ri_chk ri_hh0 ri_NW0 ri_CW0 ri_NC0 ri_CN0 ri_AO0 ri_cl0 ri_Ms0 ri_tyL0 ri_exn0 ri_XT0 ri_m_L_hunts ri_m_L_hunts.2.2.2.2.2 [[], [], [], [], [], [1561, 124, 1558, 1559, 1560], [], [], [], [], [], [], [], [], [], [], []] = true := by decide +kernel
set_option maxRecDepth 100000 in
theorem ri_k_X11_hunts : ri_chk ri_hh0 ri_NW0 ri_CW0 ri_NC0 ri_CN0 ri_AO0 ri_cl0 ri_Ms0 ri_tyL0 ri_exn0 ri_XT0 ri_m_X11_hunts ri_m_X11_hunts.2.2.2.2.2 [[], [], [], [2135, 135, 2132, 2134, 108], [], [], [], [], [2115, 135, 2112, 2114, 105], [], [], [], [], [], [], [], [], [], [], [], [], [], [1896, 135, 1893, 1895, 73], [], [], [], [], [], [], [], [], [], [], [], [], [], [], [], [], [], [], [], [2123, 135, 2120, 2122, 107], [], []] = true := by decide +kernel
set_option maxRecDepth 100000 in
theorem ri_k_L_worst : ri_chk ri_hh0 ri_NW0 ri_CW0 ri_NC0 ri_CN0 ri_AO0 ri_cl0 ri_Ms0 ri_tyL0 ri_exn0 ri_XT0 ri_m_L_worst ri_m_L_worst.2.2.2.2.2 [[], [], [], [], [1568, 124, 1565, 1566, 1567], [], [], [], [], [], [], [], []] = true := by decide +kernel
set_option maxRecDepth 100000 in
theorem ri_k_X11_worst : ri_chk ri_hh0 ri_NW0 ri_CW0 ri_NC0 ri_CN0 ri_AO0 ri_cl0 ri_Ms0 ri_tyL0 ri_exn0 ri_XT0 ri_m_X11_worst ri_m_X11_worst.2.2.2.2.2 [[], [], [1602], [], [], [], [], [1789, 135, 1787, 1788], [], [], [], [], [], [1887, 135, 1884, 1886, 72], [], [], [], [], [2115, 135, 2112, 2114, 105], [], [], [2119, 135, 2116, 2118, 106], [], [], [], [], [], [], [1755, 135, 1752, 1754, 51], [], [], [], [], [], [], [], [], [], [], [], [], [], [], [], [], [], [2123, 135, 2120, 2122, 107], [], []] = true := by decide +kernel
set_option maxRecDepth 100000 in
theorem ri_k_L_which : ri_chk ri_hh0 ri_NW0 ri_CW0 ri_NC0 ri_CN0 ri_AO0 ri_cl0 ri_Ms0 ri_tyL0 ri_exn0 ri_XT0 ri_m_L_which ri_m_L_which.2.2.2.2.2 [[], [], [], [], [1575, 124, 1572, 1573, 1574], [], [], [], [], [], [], [], []] = true := by decide +kernel
set_option maxRecDepth 100000 in
theorem ri_k_X11_which : ri_chk ri_hh0 ri_NW0 ri_CW0 ri_NC0 ri_CN0 ri_AO0 ri_cl0 ri_Ms0 ri_tyL0 ri_exn0 ri_XT0 ri_m_X11_which ri_m_X11_which.2.2.2.2.2 [[], [], [1602], [], [], [], [], [1789, 135, 1787, 1788], [], [], [], [], [], [1887, 135, 1884, 1886, 72], [], [], [], [], [], [], [], [], [], [1755, 135, 1752, 1754, 51], [], [], [], [], [], [], [], [], [], [], [], [], [], [], [], [], [], [], [], [], [], [], [], [], [], [], [], [], [], [], [], [], [], [], [], [], [], [], [], [], [], [], [], [], [1810], [], [], [], [], [], [], [], [], [], [], [], [], [], [], [], [], [], [], [], [], [], [], [], [], [], [], [], [], [], [], [], [], [], [], [], [], [], []] = true := by decide +kernel
set_option maxRecDepth 100000 in
theorem ri_k_L_event : ri_chk ri_hh0 ri_NW0 ri_CW0 ri_NC0 ri_CN0 ri_AO0 ri_cl0 ri_Ms0 ri_tyL0 ri_exn0 ri_XT0 ri_m_L_event ri_m_L_event.2.2.2.2.2 [[], [], [], [], [], [1586, 124, 1583, 1584, 1585], [], [], [], [], [], [], [], [], [], [], []] = true := by decide +kernel
set_option maxRecDepth 100000 in
theorem ri_k_X11_event : ri_chk ri_hh0 ri_NW0 ri_CW0 ri_NC0 ri_CN0 ri_AO0 ri_cl0 ri_Ms0 ri_tyL0 ri_exn0 ri_XT0 ri_m_X11_event ri_m_X11_event.2.2.2.2.2 [[], [], [1602], [], [], [], [], [1603], [], [1603], [], [], [], [], [], [], [], [], [1887, 135, 1884, 1886, 72], [], [], [], [], [], [1789, 135, 1787, 1788], [], [], [], [], [], [1887, 135, 1884, 1886, 72], [], [], [], [], [1603], [], [], [], [], [], [], [], [], [], []] = true := by decide +kernel
set_option maxRecDepth 100000 in
theorem ri_k_L_log : ri_chk ri_hh0 ri_NW0 ri_CW0 ri_NC0 ri_CN0 ri_AO0 ri_cl0 ri_Ms0 ri_tyL0 ri_exn0 ri_XT0 ri_m_L_log ri_m_L_log.2.2.2.2.2 [[], [], [], [], [], [1594, 124, 1591, 1592, 1593], [], [], [], [], [], [], [], []] = true := by decide +kernel
set_option maxRecDepth 100000 in
theorem ri_k_X11_log : ri_chk ri_hh0 ri_NW0 ri_CW0 ri_NC0 ri_CN0 ri_AO0 ri_cl0 ri_Ms0 ri_tyL0 ri_exn0 ri_XT0 ri_m_X11_log ri_m_X11_log.2.2.2.2.2 [[], [], [1602], [], [], [], [], [1789, 135, 1787, 1788], [], [], [], [], [], [1887, 135, 1884, 1886, 72], [], [], [], [], [], [], [1603], [], [], [], [], [], [1789, 135, 1787, 1788], [], [], [1603], [], [], [], [], [], [], [], [], [], [], [], []] = true := by decide +kernel
set_option maxRecDepth 100000 in
theorem ri_k_X10_image : ri_chk ri_hh0 ri_NW0 ri_CW0 ri_NC0 ri_CN0 ri_AO0 ri_cl0 ri_Ms0 ri_tyL0 ri_exn0 ri_XT0 ri_m_X10_image ri_m_X10_image.2.2.2.2.2 [[], [648], [], [647], [697, 126, 694, 695, 696], [], [], [649], []] = true := by decide +kernel
set_option maxRecDepth 100000 in
theorem ri_k_X11_image : ri_chk ri_hh0 ri_NW0 ri_CW0 ri_NC0 ri_CN0 ri_AO0 ri_cl0 ri_Ms0 ri_tyL0 ri_exn0 ri_XT0 ri_m_X11_image ri_m_X11_image.2.2.2.2.2 [[], [], [1602], [], [], [], [], [], [], [1604], [], [], [1603], [], [], [], [], [], [], [], [1607], []] = true := by decide +kernel
set_option maxRecDepth 100000 in
theorem ri_k_X10_back : ri_chk ri_hh0 ri_NW0 ri_CW0 ri_NC0 ri_CN0 ri_AO0 ri_cl0 ri_Ms0 ri_tyL0 ri_exn0 ri_XT0 ri_m_X10_back ri_m_X10_back.2.2.2.2.2 [[], [649], [], [], [647], [], [648], [697, 126, 694, 695, 696], [], [649], []] = true := by decide +kernel
set_option maxRecDepth 100000 in
theorem ri_k_X11_back : ri_chk ri_hh0 ri_NW0 ri_CW0 ri_NC0 ri_CN0 ri_AO0 ri_cl0 ri_Ms0 ri_tyL0 ri_exn0 ri_XT0 ri_m_X11_back ri_m_X11_back.2.2.2.2.2 [[], [], [1602], [], [1607], [], [], [], [], [], [], [], [], [], [1603], [], [], [1604], [], [], [], [], [], [], []] = true := by decide +kernel
set_option maxRecDepth 100000 in
theorem ri_k_X10_count : ri_chk ri_hh0 ri_NW0 ri_CW0 ri_NC0 ri_CN0 ri_AO0 ri_cl0 ri_Ms0 ri_tyL0 ri_exn0 ri_XT0 ri_m_X10_count ri_m_X10_count.2.2.2.2.2 [[], [], [], [647], [528], [], [], [647], [530], [], [], [647], [533], [], [], [647], [536], [186], [], [], [647], [538], [186], [], [], []] = true := by decide +kernel
set_option maxRecDepth 100000 in
theorem ri_k_X11_count : ri_chk ri_hh0 ri_NW0 ri_CW0 ri_NC0 ri_CN0 ri_AO0 ri_cl0 ri_Ms0 ri_tyL0 ri_exn0 ri_XT0 ri_m_X11_count ri_m_X11_count.2.2.2.2.2 [[], [], [1602], [], [], [], [1789, 135, 1787, 1788], [], [], [1603], [], [], [], [], [], []] = true := by decide +kernel
set_option maxRecDepth 100000 in
theorem ri_k_X4_init : ri_chk ri_hh0 ri_NW0 ri_CW0 ri_NC0 ri_CN0 ri_AO0 ri_cl0 ri_Ms0 ri_tyL0 ri_exn0 ri_XT0 ri_m_X4_init ri_m_X4_init.2.2.2.2.2 [[], [166, 159, 160], [], [167], [], [171, 126, 169, 170], [559], [], [], [561], [], [], [583], [563], [], [], [564], [], [], [565], [], [], [566], [], [], [567], []] = true := by decide +kernel
set_option maxRecDepth 100000 in
theorem ri_k_X0_init : ri_chk ri_hh0 ri_NW0 ri_CW0 ri_NC0 ri_CN0 ri_AO0 ri_cl0 ri_Ms0 ri_tyL0 ri_exn0 ri_XT0 ri_m_X0_init ri_m_X0_init.2.2.2.2.2 [[], [172, 159, 160], [], [], [173], [519], [], [], [524], [], [], [529], [], [], [531], [], [175], [], [], [179, 127, 177, 178], [534], [], [175], [], [], [179, 127, 177, 178], [537], [], [], [254], [539], [], [], [255], [541], [], [], [], [], [], [], [519], [], [173], [], [198, 128, 197], [], [], [], []] = true := by decide +kernel
set_option maxRecDepth 100000 in
theorem ri_k_X8_init : ri_chk ri_hh0 ri_NW0 ri_CW0 ri_NC0 ri_CN0 ri_AO0 ri_cl0 ri_Ms0 ri_tyL0 ri_exn0 ri_XT0 ri_m_X8_init ri_m_X8_init.2.2.2.2.2 [[], [591, 159, 160], [], [], [622], [594], [], [], [622], [595], [], [], [622], [596], [], [], [622], [597], [], [], [622], [598], [], [], [622], [599], [], [], [622], [600], [], [], [622], [601], [], [], [], [592, 622], [602], []] = true := by decide +kernel
set_option maxRecDepth 100000 in
theorem ri_k_X6_init : ri_chk ri_hh0 ri_NW0 ri_CW0 ri_NC0 ri_CN0 ri_AO0 ri_cl0 ri_Ms0 ri_tyL0 ri_exn0 ri_XT0 ri_m_X6_init ri_m_X6_init.2.2.2.2.2 [[], [628, 159, 160], [], [], [629], [], [], [631], [], [], [194], [633], [], [], [254], [635], []] = true := by decide +kernel
set_option maxRecDepth 100000 in
theorem ri_k_X4_append : ri_chk ri_hh0 ri_NW0 ri_CW0 ri_NC0 ri_CN0 ri_AO0 ri_cl0 ri_Ms0 ri_tyL0 ri_exn0 ri_XT0 ri_m_X4_append ri_m_X4_append.2.2.2.2.2 [[], [], [], [], [], [561], [], [], [], [563], [], [561], [], [], [], [], [], [], [], [561], [], [], [561], [], [], []] = true := by decide +kernel
set_option maxRecDepth 100000 in
theorem ri_k_X10_bench : ri_chk ri_hh0 ri_NW0 ri_CW0 ri_NC0 ri_CN0 ri_AO0 ri_cl0 ri_Ms0 ri_tyL0 ri_exn0 ri_XT0 ri_m_X10_bench ri_m_X10_bench.2.2.2.2.2 [[], [645], [560], [], [647], [697, 126, 694, 695, 696], [], [], [645], [936, 125, 933, 934, 935], [646], [], [646], [], [], [], [], [], [], [], [647], [530], [], [], [], [], [], [], [], [647], [], [645], [560], [697, 126, 694, 695, 696], [], [647], [], [530], [], [], [530], [], [647], [530], []] = true := by decide +kernel
set_option maxRecDepth 100000 in
theorem ri_k_X11_readBench : ri_chk ri_hh0 ri_NW0 ri_CW0 ri_NC0 ri_CN0 ri_AO0 ri_cl0 ri_Ms0 ri_tyL0 ri_exn0 ri_XT0 ri_m_X11_readBench ri_m_X11_readBench.2.2.2.2.2 [[], [1728, 135, 1725, 1727, 45], [], [1610], [], [1611], [], [], [], [], [], [], [], [], [], [], [], [], [], [], [], [], [1728, 135, 1725, 1727, 45], [], [1610], [], [1611], [], [], [], [], [], [], [1732, 135, 1729, 1731, 46], [], [], [], [], [], [1610], [], [], [1610], [], []] = true := by decide +kernel
set_option maxRecDepth 100000 in
theorem ri_k_X11_throwsIf : ri_chk ri_hh0 ri_NW0 ri_CW0 ri_NC0 ri_CN0 ri_AO0 ri_cl0 ri_Ms0 ri_tyL0 ri_exn0 ri_XT0 ri_m_X11_throwsIf ri_m_X11_throwsIf.2.2.2.2.2 [[], [], [], [], [1602], [], []] = true := by decide +kernel
set_option maxRecDepth 100000 in
theorem ri_k_X10_loop : ri_chk ri_hh0 ri_NW0 ri_CW0 ri_NC0 ri_CN0 ri_AO0 ri_cl0 ri_Ms0 ri_tyL0 ri_exn0 ri_XT0 ri_m_X10_loop ri_m_X10_loop.2.2.2.2.2 [[], [], [1220, 124, 1217, 1219, 36], [], [], [], [], [414], [209], [], [], [414], [213], [], [], [414], [217], [], [], [414], [221], [], [], [414], [224], [], [], [419], [265], [], [], [419], [270], [], [], [433], [], [], [437], [], [], [440], [], [], [414], [], [], [], [444], [], [], [419], [279], [], [], [458], [], [], [424], [331], [], [], [462], [], [], [464], [], [], [467], [], [], [], [], [], [], [476], [], [], [479], [], [], [419], [283], [], [], [], [], []] = true := by decide +kernel
set_option maxRecDepth 100000 in
theorem ri_k_X11_noLoop : ri_chk ri_hh0 ri_NW0 ri_CW0 ri_NC0 ri_CN0 ri_AO0 ri_cl0 ri_Ms0 ri_tyL0 ri_exn0 ri_XT0 ri_m_X11_noLoop ri_m_X11_noLoop.2.2.2.2.2 [[], [], [], [1755, 135, 1752, 1754, 51], [], [], [1789, 135, 1787, 1788], [], [], [], [], []] = true := by decide +kernel
set_option maxRecDepth 100000 in
theorem ri_k_X11_in : ri_chk ri_hh0 ri_NW0 ri_CW0 ri_NC0 ri_CN0 ri_AO0 ri_cl0 ri_Ms0 ri_tyL0 ri_exn0 ri_XT0 ri_m_X11_in ri_m_X11_in.2.2.2.2.2 [[], [], [], [], [], [], [], [], [], []] = true := by decide +kernel
set_option maxRecDepth 100000 in
theorem ri_k_X10_inner : ri_chk ri_hh0 ri_NW0 ri_CW0 ri_NC0 ri_CN0 ri_AO0 ri_cl0 ri_Ms0 ri_tyL0 ri_exn0 ri_XT0 ri_m_X10_inner ri_m_X10_inner.2.2.2.2.2 [[], [], [1220, 124, 1217, 1219, 36], [], [], [], [], [414], [228], [], [], [], [414], [232], [], [], [], [448], [], [], [452], [], [], [455], [], [], [424], [], [], [], [], [], []] = true := by decide +kernel
set_option maxRecDepth 100000 in
theorem ri_k_X10_gain : ri_chk ri_hh0 ri_NW0 ri_CW0 ri_NC0 ri_CN0 ri_AO0 ri_cl0 ri_Ms0 ri_tyL0 ri_exn0 ri_XT0 ri_m_X10_gain ri_m_X10_gain.2.2.2.2.2 [[], [], [1220, 124, 1217, 1219, 36], [424], [], [], [], [], [], [331], [], [], [], [], [], [], [], [], [335], [], [], [], [], [339], [], [], [], [], [342], [], [], [], [], [347], [], [], [], [], [], [], []] = true := by decide +kernel
set_option maxRecDepth 100000 in
theorem ri_k_X10_weight : ri_chk ri_hh0 ri_NW0 ri_CW0 ri_NC0 ri_CN0 ri_AO0 ri_cl0 ri_Ms0 ri_tyL0 ri_exn0 ri_XT0 ri_m_X10_weight ri_m_X10_weight.2.2.2.2.2 [[], [], [1220, 124, 1217, 1219, 36], [], [], [], [], [424], [311], [], [], [424], [316], [], [], [424], [321], [], [], [424], [325], [], [], [419], [275], [], [], [424], [329], [], [], [], [], []] = true := by decide +kernel
set_option maxRecDepth 100000 in
theorem ri_k_X10_trip : ri_chk ri_hh0 ri_NW0 ri_CW0 ri_NC0 ri_CN0 ri_AO0 ri_cl0 ri_Ms0 ri_tyL0 ri_exn0 ri_XT0 ri_m_X10_trip ri_m_X10_trip.2.2.2.2.2 [[], [], [1220, 124, 1217, 1219, 36], [], [], [], [], [], [474], [], [], [], [], [470], [], [], []] = true := by decide +kernel
set_option maxRecDepth 100000 in
theorem ri_k_X10_whose : ri_chk ri_hh0 ri_NW0 ri_CW0 ri_NC0 ri_CN0 ri_AO0 ri_cl0 ri_Ms0 ri_tyL0 ri_exn0 ri_XT0 ri_m_X10_whose ri_m_X10_whose.2.2.2.2.2 [[], [], [1220, 124, 1217, 1219, 36], [], [], [], [], [], [474], [], [], [], [], [], [], [], [], [], [], [], [], [], [], [647], [523], [], [], [433], [], [], [], [], []] = true := by decide +kernel
set_option maxRecDepth 100000 in
theorem ri_k_X10_flow : ri_chk ri_hh0 ri_NW0 ri_CW0 ri_NC0 ri_CN0 ri_AO0 ri_cl0 ri_Ms0 ri_tyL0 ri_exn0 ri_XT0 ri_m_X10_flow ri_m_X10_flow.2.2.2.2.2 [[], [], [1220, 124, 1217, 1219, 36], [419], [], [], [], [265], [], [270], [1306, 124, 1304, 1305], [], [], [], []] = true := by decide +kernel
set_option maxRecDepth 100000 in
theorem ri_k_X10_ticks : ri_chk ri_hh0 ri_NW0 ri_CW0 ri_NC0 ri_CN0 ri_AO0 ri_cl0 ri_Ms0 ri_tyL0 ri_exn0 ri_XT0 ri_m_X10_ticks ri_m_X10_ticks.2.2.2.2.2 [[], [], [], [1306, 124, 1304, 1305], [], [], [], [], [], [], [], [], [647], [1318, 126, 1315, 1316, 1317], [], [], [647], [757, 126, 1332, 755, 756], [], [], [], [], [], [1335, 150, 1333, 1334], []] = true := by decide +kernel
set_option maxRecDepth 100000 in
theorem ri_k_X11_oneTick : ri_chk ri_hh0 ri_NW0 ri_CW0 ri_NC0 ri_CN0 ri_AO0 ri_cl0 ri_Ms0 ri_tyL0 ri_exn0 ri_XT0 ri_m_X11_oneTick ri_m_X11_oneTick.2.2.2.2.2 [[], [], [], [1900, 135, 1897, 1899, 74], [], [], [], [], [1755, 135, 1752, 1754, 51], [], [], [], [], [], [], [], [], [], [], [], [], [], [], [1755, 135, 1752, 1754, 51], [], [], [], [], [], [], [], [], [], [], [], [], [], [], [], [], [], [1755, 135, 1752, 1754, 51], [], [], [], [], [], [], [], [1603], [], [], [], [], [], [], [], []] = true := by decide +kernel
