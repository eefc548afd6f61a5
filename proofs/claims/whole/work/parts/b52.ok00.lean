theorem mo_0 : m_ok (u_mt 0) := m_okb_ok (p0 := 847) (p1 := 267) (p2 := 846) (p3 := 0) rfl (by decide +kernel)
theorem ko_0 : u_okl (u_mt 0) kl_0 = true := by decide +kernel
theorem mo_1 : m_ok (u_mt 1) := m_okb_ok (p0 := 1833) (p1 := 267) (p2 := 1832) (p3 := 47) rfl (by decide +kernel)
theorem ko_1 : u_okl (u_mt 1) kl_1 = true := by decide +kernel
theorem mo_2 : m_ok (u_mt 2) := m_okb_ok (p0 := 1829) (p1 := 267) (p2 := 1827) (p3 := 1828) rfl (by decide +kernel)
theorem ko_2 : u_okl (u_mt 2) kl_2 = true := by decide +kernel
theorem mo_3 : m_ok (u_mt 3) := m_okb_ok (p0 := 1888) (p1 := 267) (p2 := 1886) (p3 := 1887) rfl (by decide +kernel)
theorem ko_3 : u_okl (u_mt 3) kl_3 = true := by decide +kernel
theorem mo_4 : m_ok (u_mt 4) := m_okb_ok (p0 := 1897) (p1 := 267) (p2 := 1895) (p3 := 1896) rfl (by decide +kernel)
theorem ko_4 : u_okl (u_mt 4) kl_4 = true := by decide +kernel
theorem mo_5 : m_ok (u_mt 5) := m_okb_ok (p0 := 1859) (p1 := 267) (p2 := 1858) (p3 := 64) rfl (by decide +kernel)
theorem ko_5 : u_okl (u_mt 5) kl_5 = true := by decide +kernel
theorem mo_6 : m_ok (u_mt 6) := m_okb_ok (p0 := 1863) (p1 := 267) (p2 := 1862) (p3 := 65) rfl (by decide +kernel)
theorem ko_6 : u_okl (u_mt 6) kl_6 = true := by decide +kernel
theorem mo_7 : m_ok (u_mt 7) := m_okb_ok (p0 := 1867) (p1 := 267) (p2 := 1866) (p3 := 66) rfl (by decide +kernel)
theorem ko_7 : u_okl (u_mt 7) kl_7 = true := by decide +kernel
theorem mo_8 : m_ok (u_mt 8) := m_okb_ok (p0 := 1871) (p1 := 267) (p2 := 1870) (p3 := 67) rfl (by decide +kernel)
theorem ko_8 : u_okl (u_mt 8) kl_8 = true := by decide +kernel
theorem mo_9 : m_ok (u_mt 9) := m_okb_ok (p0 := 400) (p1 := 262) (p2 := 399) (p3 := 0) rfl (by decide +kernel)
theorem ko_9 : u_okl (u_mt 9) kl_9 = true := by decide +kernel
theorem mo_10 : m_ok (u_mt 10) := m_okb_ok (p0 := 1216) (p1 := 262) (p2 := 1198) (p3 := 1199) rfl (by decide +kernel)
theorem ko_10 : u_okl (u_mt 10) kl_10 = true := by decide +kernel
theorem mo_11 : m_ok (u_mt 11) := m_okb_ok (p0 := 1220) (p1 := 262) (p2 := 1218) (p3 := 1219) rfl (by decide +kernel)
theorem ko_11 : u_okl (u_mt 11) kl_11 = true := by decide +kernel
theorem mo_12 : m_ok (u_mt 12) := m_okb_ok (p0 := 1224) (p1 := 262) (p2 := 1222) (p3 := 1223) rfl (by decide +kernel)
theorem ko_12 : u_okl (u_mt 12) kl_12 = true := by decide +kernel
theorem mo_13 : m_ok (u_mt 13) := m_okb_ok (p0 := 1183) (p1 := 262) (p2 := 1181) (p3 := 1182) rfl (by decide +kernel)
theorem ko_13 : u_okl (u_mt 13) kl_13 = true := by decide +kernel
theorem mo_14 : m_ok (u_mt 14) := m_okb_ok (p0 := 342) (p1 := 259) (p2 := 341) (p3 := 0) rfl (by decide +kernel)
theorem ko_14 : u_okl (u_mt 14) kl_14 = true := by decide +kernel
theorem mo_15 : m_ok (u_mt 15) := m_okb_ok (p0 := 1035) (p1 := 259) (p2 := 1033) (p3 := 1034) rfl (by decide +kernel)
theorem ko_15 : u_okl (u_mt 15) kl_15 = true := by decide +kernel
theorem mo_16 : m_ok (u_mt 16) := m_okb_ok (p0 := 1133) (p1 := 259) (p2 := 1132) (p3 := 6) rfl (by decide +kernel)
theorem ko_16 : u_okl (u_mt 16) kl_16 = true := by decide +kernel
theorem mo_17 : m_ok (u_mt 17) := m_okb_ok (p0 := 1161) (p1 := 259) (p2 := 1160) (p3 := 7) rfl (by decide +kernel)
theorem ko_17 : u_okl (u_mt 17) kl_17 = true := by decide +kernel
theorem mo_18 : m_ok (u_mt 18) := m_okb_ok (p0 := 1169) (p1 := 259) (p2 := 1168) (p3 := 8) rfl (by decide +kernel)
theorem ko_18 : u_okl (u_mt 18) kl_18 = true := by decide +kernel
theorem mo_19 : m_ok (u_mt 19) := m_okb_ok (p0 := 1187) (p1 := 259) (p2 := 1186) (p3 := 9) rfl (by decide +kernel)
theorem ko_19 : u_okl (u_mt 19) kl_19 = true := by decide +kernel
theorem mo_20 : m_ok (u_mt 20) := m_okb_ok (p0 := 1191) (p1 := 259) (p2 := 1190) (p3 := 10) rfl (by decide +kernel)
theorem ko_20 : u_okl (u_mt 20) kl_20 = true := by decide +kernel
theorem mo_21 : m_ok (u_mt 21) := m_okb_ok (p0 := 290) (p1 := 258) (p2 := 289) (p3 := 0) rfl (by decide +kernel)
theorem ko_21 : u_okl (u_mt 21) kl_21 = true := by decide +kernel
theorem mo_22 : m_ok (u_mt 22) := m_okb_ok (p0 := 1041) (p1 := 258) (p2 := 1039) (p3 := 1040) rfl (by decide +kernel)
theorem ko_22 : u_okl (u_mt 22) kl_22 = true := by decide +kernel
theorem mo_23 : m_ok (u_mt 23) := m_okb_ok (p0 := 1048) (p1 := 258) (p2 := 1047) (p3 := 1) rfl (by decide +kernel)
theorem ko_23 : u_okl (u_mt 23) kl_23 = true := by decide +kernel
theorem mo_24 : m_ok (u_mt 24) := m_okb_ok (p0 := 1052) (p1 := 258) (p2 := 1051) (p3 := 2) rfl (by decide +kernel)
theorem ko_24 : u_okl (u_mt 24) kl_24 = true := by decide +kernel
theorem mo_25 : m_ok (u_mt 25) := m_okb_ok (p0 := 1060) (p1 := 258) (p2 := 1059) (p3 := 4) rfl (by decide +kernel)
theorem ko_25 : u_okl (u_mt 25) kl_25 = true := by decide +kernel
theorem ko_26 : u_okl (u_mt 26) kl_26 = true := by decide +kernel
theorem mo_27 : m_ok (u_mt 27) := m_okb_ok (p0 := 1056) (p1 := 258) (p2 := 1055) (p3 := 3) rfl (by decide +kernel)
theorem ko_27 : u_okl (u_mt 27) kl_27 = true := by decide +kernel
theorem mo_28 : m_ok (u_mt 28) := m_okb_ok (p0 := 1157) (p1 := 258) (p2 := 1155) (p3 := 1156) rfl (by decide +kernel)
theorem ko_28 : u_okl (u_mt 28) kl_28 = true := by decide +kernel
theorem mo_29 : m_ok (u_mt 29) := m_okb_ok (p0 := 1153) (p1 := 258) (p2 := 1135) (p3 := 1152) rfl (by decide +kernel)
theorem ko_29 : u_okl (u_mt 29) kl_29 = true := by decide +kernel
theorem mo_30 : m_ok (u_mt 30) := m_okb_ok (p0 := 1196) (p1 := 258) (p2 := 1194) (p3 := 1195) rfl (by decide +kernel)
theorem ko_30 : u_okl (u_mt 30) kl_30 = true := by decide +kernel
theorem mo_31 : m_ok (u_mt 31) := m_okb_ok (p0 := 1165) (p1 := 258) (p2 := 1163) (p3 := 1164) rfl (by decide +kernel)
theorem ko_31 : u_okl (u_mt 31) kl_31 = true := by decide +kernel
theorem mo_32 : m_ok (u_mt 32) := m_okb_ok (p0 := 1232) (p1 := 258) (p2 := 1230) (p3 := 1231) rfl (by decide +kernel)
theorem ko_32 : u_okl (u_mt 32) kl_32 = true := by decide +kernel
theorem mo_33 : m_ok (u_mt 33) := m_okb_ok (p0 := 1228) (p1 := 258) (p2 := 1226) (p3 := 1227) rfl (by decide +kernel)
theorem ko_33 : u_okl (u_mt 33) kl_33 = true := by decide +kernel
theorem mo_34 : m_ok (u_mt 34) := m_okb_ok (p0 := 1177) (p1 := 258) (p2 := 1175) (p3 := 1176) rfl (by decide +kernel)
theorem ko_34 : u_okl (u_mt 34) kl_34 = true := by decide +kernel
theorem mo_35 : m_ok (u_mt 35) := m_okb_ok (p0 := 1173) (p1 := 258) (p2 := 1171) (p3 := 1172) rfl (by decide +kernel)
theorem ko_35 : u_okl (u_mt 35) kl_35 = true := by decide +kernel
theorem mo_36 : m_ok (u_mt 36) := m_okb_ok (p0 := 1360) (p1 := 276) (p2 := 1359) (p3 := 0) rfl (by decide +kernel)
theorem ko_36 : u_okl (u_mt 36) kl_36 = true := by decide +kernel
theorem mo_37 : m_ok (u_mt 37) := m_okb_ok (p0 := 1563) (p1 := 276) (p2 := 1561) (p3 := 1562) rfl (by decide +kernel)
theorem ko_37 : u_okl (u_mt 37) kl_37 = true := by decide +kernel
theorem mo_38 : m_ok (u_mt 38) := m_okb_ok (p0 := 1567) (p1 := 276) (p2 := 1566) (p3 := 31) rfl (by decide +kernel)
theorem ko_38 : u_okl (u_mt 38) kl_38 = true := by decide +kernel
