theorem lw_inst : ∀ (ci : Nat) (q : vw_C), vwCl[ci]? = some q → Cond.instantiable q.1 q.2.2 ∈ lw_tbl := by
  intro ci q hq
  match ci, hq with
  | 0, hq => cases hq; exact List.mem_of_getElem? (i := 259) (by decide +kernel)
  | 1, hq => cases hq; exact List.mem_of_getElem? (i := 358) (by decide +kernel)
  | 2, hq => cases hq; exact List.mem_of_getElem? (i := 305) (by decide +kernel)
  | 3, hq => cases hq; exact List.mem_of_getElem? (i := 178) (by decide +kernel)
  | 4, hq => cases hq; exact List.mem_of_getElem? (i := 536) (by decide +kernel)
  | 5, hq => cases hq; exact List.mem_of_getElem? (i := 483) (by decide +kernel)
  | 6, hq => cases hq; exact List.mem_of_getElem? (i := 505) (by decide +kernel)
  | 7, hq => cases hq; exact List.mem_of_getElem? (i := 364) (by decide +kernel)
  | 8, hq => cases hq; exact List.mem_of_getElem? (i := 568) (by decide +kernel)
  | 9, hq => cases hq; exact List.mem_of_getElem? (i := 468) (by decide +kernel)
  | 10, hq => cases hq; exact List.mem_of_getElem? (i := 426) (by decide +kernel)
  | 11, hq => cases hq; exact List.mem_of_getElem? (i := 170) (by decide +kernel)
  | 12, hq => cases hq; exact List.mem_of_getElem? (i := 1299) (by decide +kernel)
theorem lw_cst : Cond.constantLong R_law 116 4294967295 ∈ pv_T := pv_mT 1946 (by decide +kernel)
theorem lw_nC : Cond.classLink R_law 7 RX11 ∈ pv_T ∧ Cond.instantiable RX11 12 ∈ pv_T ∧ Cond.initialized RX11 ∈ pv_T := ⟨pv_mT 169 (by decide +kernel), pv_mT 170 (by decide +kernel), pv_mT 146 (by decide +kernel)⟩
theorem lw_iC : ∃ M, pv_prog[94]? = some M ∧ Cond.methodLink R_law 9 M.1 ∈ pv_T ∧ Cond.instanceMethod M.1 ∈ pv_T ∧ pv_my M.1 0 = true ∧ M.1.name = "<init>" ∧ M.2.2.2.1 = none := ⟨_, rfl, pv_mT 171 (by decide +kernel), pv_mT 172 (by decide +kernel), by decide +kernel, rfl, rfl⟩
theorem lw_nM : Cond.classLink R_law 10 RX12 ∈ pv_T ∧ Cond.instantiable RX12 78 ∈ pv_T ∧ Cond.initialized RX12 ∈ pv_T := ⟨pv_mT 1298 (by decide +kernel), pv_mT 1299 (by decide +kernel), pv_mT 159 (by decide +kernel)⟩
theorem lw_iM : ∃ M, pv_prog[144]? = some M ∧ Cond.methodLink R_law 12 M.1 ∈ pv_T ∧ Cond.instanceMethod M.1 ∈ pv_T ∧ pv_my M.1 0 = true ∧ M.1.name = "<init>" ∧ M.2.2.2.1 = none := ⟨_, rfl, pv_mT 1300 (by decide +kernel), pv_mT 1301 (by decide +kernel), by decide +kernel, rfl, rfl⟩
theorem lw_d33 : decode code 33 = .ok (.tableswitch 1411 0 31 #[143, 218, 261, 314, 367, 400, 443, 486, 509, 572, 595, 638, 681, 694, 727, 740, 753, 786, 819, 852, 885, 908, 941, 984, 1067, 1130, 1163, 1226, 1269, 1332, 1355, 1388], 143) := by decide +kernel
theorem lw_dH : decode code 27 = .ok (.aload_n 0, 1) ∧ decode code 28 = .ok (.iload_n 3, 1) ∧ decode code 29 = .ok (.iaload, 1) ∧ decode code 30 = .ok (.bipush 31, 2) ∧ decode code 32 = .ok (.iand, 1) := by decide +kernel
theorem lw_and31 (y : Int32) : 0 ≤ (y &&& 31).toInt ∧ (y &&& 31).toInt ≤ 31 := by
  have h := ia_bd (a := y.toInt) (b := 31) ⟨by decide, by decide⟩ (by decide)
  have e : ia y.toInt 31 = (y &&& 31).toInt := by
    unfold ia
    rw [Int32.ofInt_toInt]
    rfl
  rw [e] at h
  exact h
set_option maxRecDepth 100000 in
theorem lw_ck0 : (lw_two 116 176 [(1, false), (2, false), (3, false), (4, false), (5, false), (6, false)] 13 17 0 && (lw_wdb 95 13 (List.length ([(1, false), (2, false), (3, false), (4, false), (5, false), (6, false)] : List (Nat × Bool))) 11 627 628 629 && lw_wdb 151 17 (List.length ([(1, false), (2, false), (3, false), (4, false), (5, false), (6, false)] : List (Nat × Bool))) 12 1540 1541 1542)) = true := by decide +kernel
set_option maxRecDepth 100000 in
theorem lw_ck1 : (lw_two 116 251 [(1, false), (2, false), (3, false)] 18 22 0 && (lw_wdb 96 18 (List.length ([(1, false), (2, false), (3, false)] : List (Nat × Bool))) 11 652 653 654 && lw_wdb 153 22 (List.length ([(1, false), (2, false), (3, false)] : List (Nat × Bool))) 12 1557 1558 1559)) = true := by decide +kernel
set_option maxRecDepth 100000 in
theorem lw_ck2 : (lw_two 116 294 [(1, false), (2, false), (3, false), (4, false)] 23 27 0 && (lw_wdb 97 23 (List.length ([(1, false), (2, false), (3, false), (4, false)] : List (Nat × Bool))) 11 660 661 662 && lw_wdb 154 27 (List.length ([(1, false), (2, false), (3, false), (4, false)] : List (Nat × Bool))) 12 1565 1566 1567)) = true := by decide +kernel
set_option maxRecDepth 100000 in
theorem lw_ck3 : (lw_two 116 347 [(1, false), (2, false), (3, false), (4, false)] 28 31 0 && (lw_wdb 98 28 (List.length ([(1, false), (2, false), (3, false), (4, false)] : List (Nat × Bool))) 11 664 665 666 && lw_wdb 155 31 (List.length ([(1, false), (2, false), (3, false), (4, false)] : List (Nat × Bool))) 12 1569 1570 1571)) = true := by decide +kernel
set_option maxRecDepth 100000 in
theorem lw_ck4 : (lw_two 116 400 [(1, false), (2, false)] 32 36 0 && (lw_wdb 99 32 (List.length ([(1, false), (2, false)] : List (Nat × Bool))) 11 675 676 677 && lw_wdb 156 36 (List.length ([(1, false), (2, false)] : List (Nat × Bool))) 12 1573 1574 1575)) = true := by decide +kernel
set_option maxRecDepth 100000 in
theorem lw_ck5 : (lw_two 116 433 [(1, false), (2, false), (3, false)] 37 40 0 && (lw_wdb 100 37 (List.length ([(1, false), (2, false), (3, false)] : List (Nat × Bool))) 11 679 680 681 && lw_wdb 157 40 (List.length ([(1, false), (2, false), (3, false)] : List (Nat × Bool))) 12 1577 1578 1579)) = true := by decide +kernel
set_option maxRecDepth 100000 in
theorem lw_ck6 : (lw_two 116 476 [(1, false), (2, false), (3, false)] 41 44 0 && (lw_wdb 101 41 (List.length ([(1, false), (2, false), (3, false)] : List (Nat × Bool))) 11 686 687 688 && lw_wdb 158 44 (List.length ([(1, false), (2, false), (3, false)] : List (Nat × Bool))) 12 1581 1582 1583)) = true := by decide +kernel
set_option maxRecDepth 100000 in
theorem lw_ck7 : (lw_two 116 519 [(1, false)] 45 49 0 && (lw_wdb 102 45 (List.length ([(1, false)] : List (Nat × Bool))) 11 690 691 692 && lw_wdb 159 49 (List.length ([(1, false)] : List (Nat × Bool))) 12 1585 1586 1587)) = true := by decide +kernel
set_option maxRecDepth 100000 in
theorem lw_ck8 : (lw_two 116 542 [(1, false), (2, false), (3, false), (4, false), (5, false)] 50 54 0 && (lw_wdb 103 50 (List.length ([(1, false), (2, false), (3, false), (4, false), (5, false)] : List (Nat × Bool))) 11 695 696 697 && lw_wdb 161 54 (List.length ([(1, false), (2, false), (3, false), (4, false), (5, false)] : List (Nat × Bool))) 12 1590 1591 1592)) = true := by decide +kernel
set_option maxRecDepth 100000 in
theorem lw_ck9 : (lw_two 116 605 [(1, false)] 55 59 0 && (lw_wdb 104 55 (List.length ([(1, false)] : List (Nat × Bool))) 11 703 704 705 && lw_wdb 183 59 (List.length ([(1, false)] : List (Nat × Bool))) 12 1598 1599 1600)) = true := by decide +kernel
set_option maxRecDepth 100000 in
theorem lw_ck10 : (lw_two 116 628 [(1, false), (2, false), (3, false)] 60 64 0 && (lw_wdb 105 60 (List.length ([(1, false), (2, false), (3, false)] : List (Nat × Bool))) 11 870 871 872 && lw_wdb 199 64 (List.length ([(1, false), (2, false), (3, false)] : List (Nat × Bool))) 12 1738 1739 1740)) = true := by decide +kernel
set_option maxRecDepth 100000 in
theorem lw_ck11 : (lw_two 116 671 [(1, false), (2, false), (3, false)] 65 68 0 && (lw_wdb 106 65 (List.length ([(1, false), (2, false), (3, false)] : List (Nat × Bool))) 11 885 886 887 && lw_wdb 192 68 (List.length ([(1, false), (2, false), (3, false)] : List (Nat × Bool))) 12 1684 1685 1686)) = true := by decide +kernel
set_option maxRecDepth 100000 in
theorem lw_ck12 : (lw_two 116 714 [] 69 73 0 && (lw_wdb 107 69 (List.length ([] : List (Nat × Bool))) 11 929 930 931 && lw_wdb 196 73 (List.length ([] : List (Nat × Bool))) 12 1719 1720 1721)) = true := by decide +kernel
set_option maxRecDepth 100000 in
theorem lw_ck13 : (lw_two 116 727 [(1, false), (2, false)] 74 78 0 && (lw_wdb 108 74 (List.length ([(1, false), (2, false)] : List (Nat × Bool))) 11 955 956 957 && lw_wdb 203 78 (List.length ([(1, false), (2, false)] : List (Nat × Bool))) 12 1750 1751 1752)) = true := by decide +kernel
set_option maxRecDepth 100000 in
theorem lw_ck14 : (lw_two 116 760 [] 79 82 0 && (lw_wdb 109 79 (List.length ([] : List (Nat × Bool))) 11 994 995 996 && lw_wdb 207 82 (List.length ([] : List (Nat × Bool))) 12 1766 1767 1768)) = true := by decide +kernel
set_option maxRecDepth 100000 in
theorem lw_ck15 : (lw_two 116 773 [] 83 86 0 && (lw_wdb 110 83 (List.length ([] : List (Nat × Bool))) 11 1022 1023 1024 && lw_wdb 209 86 (List.length ([] : List (Nat × Bool))) 12 1790 1791 1792)) = true := by decide +kernel
set_option maxRecDepth 100000 in
theorem lw_ck16 : (lw_two 116 786 [(1, false), (2, false)] 87 91 1 && (lw_wdb 111 87 (List.length ([(1, false), (2, false)] : List (Nat × Bool))) 11 1040 1041 1042 && lw_wdb 208 91 (List.length ([(1, false), (2, false)] : List (Nat × Bool))) 12 1785 1786 1787)) = true := by decide +kernel
set_option maxRecDepth 100000 in
theorem lw_ck17 : (lw_two 116 819 [(1, false), (2, false)] 92 95 0 && (lw_wdb 112 92 (List.length ([(1, false), (2, false)] : List (Nat × Bool))) 11 1052 1053 1054 && lw_wdb 211 95 (List.length ([(1, false), (2, false)] : List (Nat × Bool))) 12 1797 1798 1799)) = true := by decide +kernel
set_option maxRecDepth 100000 in
theorem lw_ck18 : (lw_two 116 852 [(1, false), (2, false)] 96 99 0 && (lw_wdb 113 96 (List.length ([(1, false), (2, false)] : List (Nat × Bool))) 11 1064 1065 1066 && lw_wdb 213 99 (List.length ([(1, false), (2, false)] : List (Nat × Bool))) 12 1805 1806 1807)) = true := by decide +kernel
set_option maxRecDepth 100000 in
theorem lw_ck19 : (lw_two 116 885 [(1, false), (2, false)] 100 103 0 && (lw_wdb 114 100 (List.length ([(1, false), (2, false)] : List (Nat × Bool))) 11 1076 1077 1078 && lw_wdb 214 103 (List.length ([(1, false), (2, false)] : List (Nat × Bool))) 12 1813 1814 1815)) = true := by decide +kernel
set_option maxRecDepth 100000 in
theorem lw_ck20 : (lw_two 116 918 [(1, false)] 104 107 0 && (lw_wdb 115 104 (List.length ([(1, false)] : List (Nat × Bool))) 11 1080 1081 1082 && lw_wdb 215 107 (List.length ([(1, false)] : List (Nat × Bool))) 12 1817 1818 1819)) = true := by decide +kernel
set_option maxRecDepth 100000 in
theorem lw_ck21 : (lw_two 116 941 [(1, false), (2, false)] 108 111 0 && (lw_wdb 116 108 (List.length ([(1, false), (2, false)] : List (Nat × Bool))) 11 1084 1085 1086 && lw_wdb 216 111 (List.length ([(1, false), (2, false)] : List (Nat × Bool))) 12 1821 1822 1823)) = true := by decide +kernel
set_option maxRecDepth 100000 in
theorem lw_ck22 : (lw_two 116 974 [(1, false), (2, false), (3, false)] 112 115 0 && (lw_wdb 117 112 (List.length ([(1, false), (2, false), (3, false)] : List (Nat × Bool))) 11 1092 1093 1094 && lw_wdb 219 115 (List.length ([(1, false), (2, false), (3, false)] : List (Nat × Bool))) 12 1825 1826 1827)) = true := by decide +kernel
set_option maxRecDepth 100000 in
theorem lw_ck23 : (lw_two 116 1017 [(1, false), (2, false), (3, true), (5, false)] 118 122 0 && (lw_wdb 118 118 (List.length ([(1, false), (2, false), (3, true), (5, false)] : List (Nat × Bool))) 11 1100 1101 1102 && lw_wdb 223 122 (List.length ([(1, false), (2, false), (3, true), (5, false)] : List (Nat × Bool))) 12 1833 1834 1835)) = true := by decide +kernel
set_option maxRecDepth 100000 in
theorem lw_ck24 : (lw_two 116 1100 [(1, false), (2, false), (3, false), (4, false), (5, false)] 123 127 1 && (lw_wdb 119 123 (List.length ([(1, false), (2, false), (3, false), (4, false), (5, false)] : List (Nat × Bool))) 11 1162 1163 1164 && lw_wdb 229 127 (List.length ([(1, false), (2, false), (3, false), (4, false), (5, false)] : List (Nat × Bool))) 12 1853 1854 1855)) = true := by decide +kernel
set_option maxRecDepth 100000 in
theorem lw_ck25 : (lw_two 116 1163 [(1, false), (2, false)] 128 131 0 && (lw_wdb 120 128 (List.length ([(1, false), (2, false)] : List (Nat × Bool))) 11 1186 1187 1188 && lw_wdb 230 131 (List.length ([(1, false), (2, false)] : List (Nat × Bool))) 12 1876 1877 1878)) = true := by decide +kernel
set_option maxRecDepth 100000 in
theorem lw_ck26 : (lw_two 116 1196 [(1, true), (3, false)] 132 136 0 && (lw_wdb 121 132 (List.length ([(1, true), (3, false)] : List (Nat × Bool))) 11 1190 1191 1192 && lw_wdb 233 136 (List.length ([(1, true), (3, false)] : List (Nat × Bool))) 12 1880 1881 1882)) = true := by decide +kernel
set_option maxRecDepth 100000 in
theorem lw_ck27 : (lw_two 116 1259 [(1, false), (2, false), (3, false)] 137 140 0 && (lw_wdb 122 137 (List.length ([(1, false), (2, false), (3, false)] : List (Nat × Bool))) 11 1227 1228 1229 && lw_wdb 235 140 (List.length ([(1, false), (2, false), (3, false)] : List (Nat × Bool))) 12 1892 1893 1894)) = true := by decide +kernel
set_option maxRecDepth 100000 in
theorem lw_ck28 : (lw_two 116 1302 [(1, true), (3, false)] 141 144 2 && (lw_wdb 123 141 (List.length ([(1, true), (3, false)] : List (Nat × Bool))) 11 1261 1262 1263 && lw_wdb 241 144 (List.length ([(1, true), (3, false)] : List (Nat × Bool))) 12 1903 1904 1905)) = true := by decide +kernel
set_option maxRecDepth 100000 in
theorem lw_ck29 : (lw_two 116 1365 [(1, false)] 145 148 0 && (lw_wdb 124 145 (List.length ([(1, false)] : List (Nat × Bool))) 11 1270 1271 1272 && lw_wdb 243 148 (List.length ([(1, false)] : List (Nat × Bool))) 12 1922 1923 1924)) = true := by decide +kernel
set_option maxRecDepth 100000 in
theorem lw_ck30 : (lw_two 116 1388 [(1, false), (2, false)] 149 152 0 && (lw_wdb 125 149 (List.length ([(1, false), (2, false)] : List (Nat × Bool))) 11 1278 1279 1280 && lw_wdb 245 152 (List.length ([(1, false), (2, false)] : List (Nat × Bool))) 12 1930 1931 1932)) = true := by decide +kernel
set_option maxRecDepth 100000 in
theorem lw_ck31 : (lw_two 116 1421 [(1, false)] 153 156 0 && (lw_wdb 126 153 (List.length ([(1, false)] : List (Nat × Bool))) 11 1286 1287 1288 && lw_wdb 247 156 (List.length ([(1, false)] : List (Nat × Bool))) 12 1938 1939 1940)) = true := by decide +kernel
