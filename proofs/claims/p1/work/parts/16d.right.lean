/-! ===== the program as data: it is right ===== -/
set_option maxRecDepth 100000 in
theorem ri_k_L_law_33 : ri_chk ri_hh0 ri_NW0 ri_CW0 ri_NC0 ri_CN0 ri_AO0 ri_cl0 ri_Ms0 ri_tyL0 ri_exn0 ri_XT0 ri_m_L_law ((ri_m_L_law.2.2.2.2.2.drop 1320).take 40) [[], [], [], [], [], [1571, 123, 1569, 1570], [], [], [], [], [], [], [], [2155, 135, 2152, 2153, 2154], [], [], [1696, 135, 1693, 1694, 1695], [], [], [], [], [], [], [], [], [], [], [], [], [], [], [], [], [], [], [], [], [], [], []] = true := by decide +kernel
set_option maxRecDepth 100000 in
theorem ri_k_L_law_34 : ri_chk ri_hh0 ri_NW0 ri_CW0 ri_NC0 ri_CN0 ri_AO0 ri_cl0 ri_Ms0 ri_tyL0 ri_exn0 ri_XT0 ri_m_L_law ((ri_m_L_law.2.2.2.2.2.drop 1360).take 40) [[], [], [], [], [], [1582, 123, 1580, 1581], [], [], [], [], [], [], [], [], [], [], [], [], [2159, 135, 2156, 2157, 2158], [], [], [1696, 135, 1693, 1694, 1695], [], [], [], [], [], [], [], [], [], [], [], [], [], [], [], [], [], []] = true := by decide +kernel
set_option maxRecDepth 100000 in
theorem ri_k_L_law_35 : ri_chk ri_hh0 ri_NW0 ri_CW0 ri_NC0 ri_CN0 ri_AO0 ri_cl0 ri_Ms0 ri_tyL0 ri_exn0 ri_XT0 ri_m_L_law ((ri_m_L_law.2.2.2.2.2.drop 1400).take 40) [[], [], [], [], [], [], [], [], [], [], [1590, 123, 1588, 1589], [], [], [], [], [], [], [], [], [], [], [], [], [2163, 135, 2160, 2161, 2162], [], [], [1696, 135, 1693, 1694, 1695], [], [], [], [], [], [], [], [], [], [], [], [], []] = true := by decide +kernel
set_option maxRecDepth 100000 in
theorem ri_k_L_law_36 : ri_chk ri_hh0 ri_NW0 ri_CW0 ri_NC0 ri_CN0 ri_AO0 ri_cl0 ri_Ms0 ri_tyL0 ri_exn0 ri_XT0 ri_m_L_law ((ri_m_L_law.2.2.2.2.2.drop 1440).take 40) [[], [], [], [], [915, 124, 912, 913, 914], [], [1700, 135, 1697, 1698, 1699], [], [], [919, 124, 916, 917, 918], [], [1704, 135, 1701, 1702, 1703], [], [], [], [], [], [], [], [], [], [923, 124, 920, 921, 922], [], [], [], [], [], [], [2167, 135, 2164, 2165, 2166], [], [], [], [], [], [], []] = true := by decide +kernel
set_option maxRecDepth 100000 in
theorem ri_k_X10_init : ri_chk ri_hh0 ri_NW0 ri_CW0 ri_NC0 ri_CN0 ri_AO0 ri_cl0 ri_Ms0 ri_tyL0 ri_exn0 ri_XT0 ri_m_X10_init ri_m_X10_init.2.2.2.2.2 [[], [158, 159, 160], [], [161], [], [165, 125, 164], [645], [], [], [646], [], [584], [], [171, 126, 585, 170], [647], [], [584], [], [171, 126, 585, 170], [648], [], [], [649], [], [584], [], [171, 126, 585, 170], [650], [], [586], [], [590, 133, 589], [651], [], [623], [], [627, 134, 626], [652], []] = true := by decide +kernel
set_option maxRecDepth 100000 in
theorem ri_k_X11_init : ri_chk ri_hh0 ri_NW0 ri_CW0 ri_NC0 ri_CN0 ri_AO0 ri_cl0 ri_Ms0 ri_tyL0 ri_exn0 ri_XT0 ri_m_X11_init ri_m_X11_init.2.2.2.2.2 [[], [1600, 159, 160], [], [], [254], [1603], [], [], [254], [1604], [], [], [254], [1605], [], [], [254], [1606], [], [], [583], [1608], [], [], [1613], [], [], [194], [1614], [], [], [254], [1616], [], [1601], [254], [1617], [], [], [254], [1620], [], [], [622], [1621], [], [], [622], [1622], [], [], [622], [1623], [], [], [622], [1624], [], [], [622], [1625], [], [], [622], [1626], [], [], [622], [1627], [], [], [622], [1628], [], [], [622], [1629], [], [], [622], [1630], [], [], [255], [1631], []] = true := by decide +kernel
set_option maxRecDepth 100000 in
theorem ri_k_X10_feed : ri_chk ri_hh0 ri_NW0 ri_CW0 ri_NC0 ri_CN0 ri_AO0 ri_cl0 ri_Ms0 ri_tyL0 ri_exn0 ri_XT0 ri_m_X10_feed ri_m_X10_feed.2.2.2.2.2 [[], [645], [562], [], [], [], [], [], [], [], [645], [], [677, 125, 674, 675, 676], [], [645], [], [677, 125, 674, 675, 676], [], [645], [], [677, 125, 674, 675, 676], [], [645], [], [677, 125, 674, 675, 676], [], [645], [], [677, 125, 674, 675, 676], [], [645], [562], []] = true := by decide +kernel
set_option maxRecDepth 100000 in
theorem ri_k_X11_feed : ri_chk ri_hh0 ri_NW0 ri_CW0 ri_NC0 ri_CN0 ri_AO0 ri_cl0 ri_Ms0 ri_tyL0 ri_exn0 ri_XT0 ri_m_X11_feed ri_m_X11_feed.2.2.2.2.2 [[], [], [1602], [], [1609], [], [], [], [], [], [], [], [1614], [], [], [], [], [1614], [], [], [], [], [1614], [], [], [], [], [1614], [], [], [], [], [1614], [], [], [], [], [], [], [], [], [], [1608], [], [1609], [], [], [], [1614], [], [], [], [], [], [], [], [], [], [], [], [], [], [], [], [], [], [], [1609], [], [], [1609], [], [1609], []] = true := by decide +kernel
set_option maxRecDepth 100000 in
theorem ri_k_X10_end : ri_chk ri_hh0 ri_NW0 ri_CW0 ri_NC0 ri_CN0 ri_AO0 ri_cl0 ri_Ms0 ri_tyL0 ri_exn0 ri_XT0 ri_m_X10_end ri_m_X10_end.2.2.2.2.2 [[], [], [], [], [645], [562], [], [], [], [], [645], [], [562], [], []] = true := by decide +kernel
set_option maxRecDepth 100000 in
theorem ri_k_X11_end : ri_chk ri_hh0 ri_NW0 ri_CW0 ri_NC0 ri_CN0 ri_AO0 ri_cl0 ri_Ms0 ri_tyL0 ri_exn0 ri_XT0 ri_m_X11_end ri_m_X11_end.2.2.2.2.2 [[], [], [1602], [], [], [], [], [1609], [], [], [], [], [], [1609], [], []] = true := by decide +kernel
set_option maxRecDepth 100000 in
theorem ri_k_L_bench : ri_chk ri_hh0 ri_NW0 ri_CW0 ri_NC0 ri_CN0 ri_AO0 ri_cl0 ri_Ms0 ri_tyL0 ri_exn0 ri_XT0 ri_m_L_bench ri_m_L_bench.2.2.2.2.2 [[], [], [], [932, 124, 929, 930, 931], [], [], [], [], [], [], [], [], [], [], []] = true := by decide +kernel
set_option maxRecDepth 100000 in
theorem ri_k_X11_bench : ri_chk ri_hh0 ri_NW0 ri_CW0 ri_NC0 ri_CN0 ri_AO0 ri_cl0 ri_Ms0 ri_tyL0 ri_exn0 ri_XT0 ri_m_X11_bench ri_m_X11_bench.2.2.2.2.2 [[], [], [1602], [], [], [1609], [1611], [], [], [1609], [], [], [1610], [], [], [], [], [], [], [1605], [], [], [1603], [], [], [], [], [], [], [1724, 135, 1721, 1723, 44], [], [], [], [], [], [], [], [1612], [1613], [], [], [], [], [], [], [], [1887, 135, 1884, 1886, 72], [], [], [], [1603], [], [], [1888], [], [], [], [], [], [], [1887, 135, 1884, 1886, 72], [], [], [], [], [], [], [], [1603], [], [], [1605], [], [], [], [], [], [], [], [], [1603], [], [], [], [], [], [], [], [1603], [], [], [], []] = true := by decide +kernel
set_option maxRecDepth 100000 in
theorem ri_k_X11_thrown : ri_chk ri_hh0 ri_NW0 ri_CW0 ri_NC0 ri_CN0 ri_AO0 ri_cl0 ri_Ms0 ri_tyL0 ri_exn0 ri_XT0 ri_m_X11_thrown ri_m_X11_thrown.2.2.2.2.2 [[], [1602], []] = true := by decide +kernel
set_option maxRecDepth 100000 in
theorem ri_k_X10_fault : ri_chk ri_hh0 ri_NW0 ri_CW0 ri_NC0 ri_CN0 ri_AO0 ri_cl0 ri_Ms0 ri_tyL0 ri_exn0 ri_XT0 ri_m_X10_fault ri_m_X10_fault.2.2.2.2.2 [[], [646], []] = true := by decide +kernel
set_option maxRecDepth 100000 in
theorem ri_k_X11_fault : ri_chk ri_hh0 ri_NW0 ri_CW0 ri_NC0 ri_CN0 ri_AO0 ri_cl0 ri_Ms0 ri_tyL0 ri_exn0 ri_XT0 ri_m_X11_fault ri_m_X11_fault.2.2.2.2.2 [[], [], [1602], [], [1613], []] = true := by decide +kernel
set_option maxRecDepth 100000 in
theorem ri_k_L_loop : ri_chk ri_hh0 ri_NW0 ri_CW0 ri_NC0 ri_CN0 ri_AO0 ri_cl0 ri_Ms0 ri_tyL0 ri_exn0 ri_XT0 ri_m_L_loop ri_m_L_loop.2.2.2.2.2 [[], [], [], [], [], [1216, 124, 1213, 1214, 1215], [], [], [], [], [], [], [], [], [], [], []] = true := by decide +kernel
set_option maxRecDepth 100000 in
theorem ri_k_X11_loop : ri_chk ri_hh0 ri_NW0 ri_CW0 ri_NC0 ri_CN0 ri_AO0 ri_cl0 ri_Ms0 ri_tyL0 ri_exn0 ri_XT0 ri_m_X11_loop ri_m_X11_loop.2.2.2.2.2 [[], [], [1602], [], [], [], [2037, 135, 2034, 2036, 102], [], [1887, 135, 1884, 1886, 72], [], [], [], [], [], [1789, 135, 1787, 1788], [], [], [], [], [], [1887, 135, 1884, 1886, 72], [], [], [], [], [], [], [], [], [], [], [], [], [], [], [], []] = true := by decide +kernel
set_option maxRecDepth 100000 in
theorem ri_k_L_inner : ri_chk ri_hh0 ri_NW0 ri_CW0 ri_NC0 ri_CN0 ri_AO0 ri_cl0 ri_Ms0 ri_tyL0 ri_exn0 ri_XT0 ri_m_L_inner ri_m_L_inner.2.2.2.2.2 [[], [], [], [], [], [1258, 124, 1255, 1256, 1257], [], [], [], [], [], [], [], [], [], []] = true := by decide +kernel
set_option maxRecDepth 100000 in
theorem ri_k_X11_inner : ri_chk ri_hh0 ri_NW0 ri_CW0 ri_NC0 ri_CN0 ri_AO0 ri_cl0 ri_Ms0 ri_tyL0 ri_exn0 ri_XT0 ri_m_X11_inner ri_m_X11_inner.2.2.2.2.2 [[], [], [1602], [], [], [], [2037, 135, 2034, 2036, 102], [], [1887, 135, 1884, 1886, 72], [], [], [], [], [], [1789, 135, 1787, 1788], [], [], [], [], [], [1887, 135, 1884, 1886, 72], [], [], [], [], [], [], [], [], [], [], [], [], [], [], [], [], []] = true := by decide +kernel
set_option maxRecDepth 100000 in
theorem ri_k_L_gain : ri_chk ri_hh0 ri_NW0 ri_CW0 ri_NC0 ri_CN0 ri_AO0 ri_cl0 ri_Ms0 ri_tyL0 ri_exn0 ri_XT0 ri_m_L_gain ri_m_L_gain.2.2.2.2.2 [[], [], [], [], [], [], [1275, 124, 1272, 1273, 1274], [], [], [], [], [], [], [], [], [], [], []] = true := by decide +kernel
set_option maxRecDepth 100000 in
theorem ri_k_X11_gain : ri_chk ri_hh0 ri_NW0 ri_CW0 ri_NC0 ri_CN0 ri_AO0 ri_cl0 ri_Ms0 ri_tyL0 ri_exn0 ri_XT0 ri_m_X11_gain ri_m_X11_gain.2.2.2.2.2 [[], [], [1602], [], [], [], [2037, 135, 2034, 2036, 102], [], [], [], [], [], [], [], [], [], [1789, 135, 1787, 1788], [], [], [], [], [], [1887, 135, 1884, 1886, 72], [], [], [], [], [], [1789, 135, 1787, 1788], [], [], [], [], [], [1887, 135, 1884, 1886, 72], [], [], [], [], [1603], [], [], [], [], [], [], [], []] = true := by decide +kernel
set_option maxRecDepth 100000 in
theorem ri_k_L_weight : ri_chk ri_hh0 ri_NW0 ri_CW0 ri_NC0 ri_CN0 ri_AO0 ri_cl0 ri_Ms0 ri_tyL0 ri_exn0 ri_XT0 ri_m_L_weight ri_m_L_weight.2.2.2.2.2 [[], [], [], [], [], [1282, 124, 1279, 1280, 1281], [], [], [], [], [], [], [], [], [], [], []] = true := by decide +kernel
set_option maxRecDepth 100000 in
theorem ri_k_X11_weight : ri_chk ri_hh0 ri_NW0 ri_CW0 ri_NC0 ri_CN0 ri_AO0 ri_cl0 ri_Ms0 ri_tyL0 ri_exn0 ri_XT0 ri_m_X11_weight ri_m_X11_weight.2.2.2.2.2 [[], [], [1602], [], [], [], [2037, 135, 2034, 2036, 102], [], [1887, 135, 1884, 1886, 72], [], [], [], [], [], [1789, 135, 1787, 1788], [], [], [], [], [], [1887, 135, 1884, 1886, 72], [], [], [], [], [], [], [], [], [], []] = true := by decide +kernel
set_option maxRecDepth 100000 in
theorem ri_k_L_trip : ri_chk ri_hh0 ri_NW0 ri_CW0 ri_NC0 ri_CN0 ri_AO0 ri_cl0 ri_Ms0 ri_tyL0 ri_exn0 ri_XT0 ri_m_L_trip ri_m_L_trip.2.2.2.2.2 [[], [], [], [], [], [1289, 124, 1286, 1287, 1288], [], [], [], [], [], [], [], []] = true := by decide +kernel
set_option maxRecDepth 100000 in
theorem ri_k_X11_trip : ri_chk ri_hh0 ri_NW0 ri_CW0 ri_NC0 ri_CN0 ri_AO0 ri_cl0 ri_Ms0 ri_tyL0 ri_exn0 ri_XT0 ri_m_X11_trip ri_m_X11_trip.2.2.2.2.2 [[], [], [1602], [], [], [], [2037, 135, 2034, 2036, 102], [], [1887, 135, 1884, 1886, 72], [], [], [], [], [], [], [], [], [], [], [], [1789, 135, 1787, 1788], [], [], [], [], [], [], [], [], [], []] = true := by decide +kernel
set_option maxRecDepth 100000 in
theorem ri_k_L_whose : ri_chk ri_hh0 ri_NW0 ri_CW0 ri_NC0 ri_CN0 ri_AO0 ri_cl0 ri_Ms0 ri_tyL0 ri_exn0 ri_XT0 ri_m_L_whose ri_m_L_whose.2.2.2.2.2 [[], [], [], [], [], [1296, 124, 1293, 1294, 1295], [], [], [], [], [], [], [], []] = true := by decide +kernel
set_option maxRecDepth 100000 in
theorem ri_k_X11_whose : ri_chk ri_hh0 ri_NW0 ri_CW0 ri_NC0 ri_CN0 ri_AO0 ri_cl0 ri_Ms0 ri_tyL0 ri_exn0 ri_XT0 ri_m_X11_whose ri_m_X11_whose.2.2.2.2.2 [[], [], [1602], [], [], [], [2037, 135, 2034, 2036, 102], [], [1887, 135, 1884, 1886, 72], [], [], [], [], [], [], [], [], [], [], [], [1789, 135, 1787, 1788], [], [], [], [], [], [], [], [], [], [], [], [], [], [], [], [], [], [], []] = true := by decide +kernel
set_option maxRecDepth 100000 in
theorem ri_k_L_flow : ri_chk ri_hh0 ri_NW0 ri_CW0 ri_NC0 ri_CN0 ri_AO0 ri_cl0 ri_Ms0 ri_tyL0 ri_exn0 ri_XT0 ri_m_L_flow ri_m_L_flow.2.2.2.2.2 [[], [], [], [], [], [1303, 124, 1300, 1301, 1302], [], [], [], [], [], [], [], [], [], [], []] = true := by decide +kernel
set_option maxRecDepth 100000 in
theorem ri_k_X11_flow : ri_chk ri_hh0 ri_NW0 ri_CW0 ri_NC0 ri_CN0 ri_AO0 ri_cl0 ri_Ms0 ri_tyL0 ri_exn0 ri_XT0 ri_m_X11_flow ri_m_X11_flow.2.2.2.2.2 [[], [], [1602], [], [], [], [2037, 135, 2034, 2036, 102], [], [1887, 135, 1884, 1886, 72], [], [], [], [], [], [], [], [], [], [], [], [1789, 135, 1787, 1788], [], [], [], [], [], [1887, 135, 1884, 1886, 72], [], [], [], [], [], [], [], [], [], []] = true := by decide +kernel
