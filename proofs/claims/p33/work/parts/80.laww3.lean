/-! on: the law's callees' words -/
theorem goodIn_cons {w : Cond} {a : List Cond} (hw : GoodIn wsLw [w]) (ha : GoodIn wsLw a) : GoodIn wsLw (w :: a) := fun z hz => (List.mem_cons.mp hz).elim (fun h => hw z (List.mem_cons.mpr (Or.inl h))) (ha z)
set_option maxRecDepth 100000 in
theorem hw_wsX00 : GoodIn wsLw wsX00 := goodIn_sub (fun w h => List.mem_append_left _ (List.mem_append_left _ (List.mem_append_left _ (List.mem_flatten.mpr ⟨wsX00, List.mem_of_getElem? (i := 34) rfl, h⟩)))) (by decide +kernel)
set_option maxRecDepth 100000 in
theorem hw_wsX10 : GoodIn wsLw wsX10 := goodIn_sub (fun w h => List.mem_append_left _ (List.mem_append_left _ (List.mem_append_left _ (List.mem_flatten.mpr ⟨wsX10, List.mem_of_getElem? (i := 32) rfl, h⟩)))) (by decide +kernel)
set_option maxRecDepth 100000 in
theorem hw_wsX20 : GoodIn wsLw wsX20 := goodIn_sub (fun w h => List.mem_append_left _ (List.mem_append_left _ (List.mem_append_left _ (List.mem_flatten.mpr ⟨wsX20, List.mem_of_getElem? (i := 37) rfl, h⟩)))) (by decide +kernel)
set_option maxRecDepth 100000 in
theorem hw_wsX30 : GoodIn wsLw wsX30 := goodIn_sub (fun w h => List.mem_append_left _ (List.mem_append_left _ (List.mem_append_left _ (List.mem_flatten.mpr ⟨wsX30, List.mem_of_getElem? (i := 31) rfl, h⟩)))) (by decide +kernel)
set_option maxRecDepth 100000 in
theorem hw_wsX40 : GoodIn wsLw wsX40 := goodIn_sub (fun w h => List.mem_append_left _ (List.mem_append_left _ (List.mem_append_left _ (List.mem_flatten.mpr ⟨wsX40, List.mem_of_getElem? (i := 36) rfl, h⟩)))) (by decide +kernel)
set_option maxRecDepth 100000 in
theorem hw_wsX50 : GoodIn wsLw wsX50 := goodIn_sub (fun w h => List.mem_append_left _ (List.mem_append_left _ (List.mem_append_left _ (List.mem_flatten.mpr ⟨wsX50, List.mem_of_getElem? (i := 33) rfl, h⟩)))) (by decide +kernel)
set_option maxRecDepth 100000 in
theorem hw_wsX60 : GoodIn wsLw wsX60 := goodIn_sub (fun w h => List.mem_append_left _ (List.mem_append_left _ (List.mem_append_left _ (List.mem_flatten.mpr ⟨wsX60, List.mem_of_getElem? (i := 35) rfl, h⟩)))) (by decide +kernel)
set_option maxRecDepth 100000 in
theorem hw_wsX70 : GoodIn wsLw wsX70 := goodIn_sub (fun w h => List.mem_append_left _ (List.mem_append_left _ (List.mem_append_left _ (List.mem_flatten.mpr ⟨wsX70, List.mem_of_getElem? (i := 30) rfl, h⟩)))) (by decide +kernel)
set_option maxRecDepth 100000 in
theorem hhL_X7_clearBuffer : GoodIn wsLw wsX7_clearBuffer := goodIn_t _ [258, 22, 259, 260, 261, 262, 21, 263, 264, 1920, 1921, 1922, 1923, 1924, 1925, 1926, 1927, 1928, 2112, 2113] (by decide +kernel) (by decide +kernel)
set_option maxRecDepth 100000 in
theorem hL_X7_clearBuffer : GoodIn wsLw (wsV RL 90 RX7 yX7_clearBuffer wsX7_clearBuffer) := goodIn_app (goodIn_t _ [215, 256, 257, 2] (by decide +kernel) (by decide +kernel)) hhL_X7_clearBuffer
set_option maxRecDepth 100000 in
theorem hhL_L_undo : GoodIn wsLw wsL_undo := goodIn_ca (goodIn_t _ [1549, 272, 1550, 1551, 1552, 2, 1553, 279, 320, 18, 398, 13, 1554, 1555, 1556, 17, 1557, 1171, 140, 1172, 1173, 1174, 1175, 12, 1216, 1217, 1218, 1219, 1220, 83, 1221, 1222, 1223, 1224, 84, 85, 86, 87, 128, 129, 130, 131, 132, 133, 134, 1920, 1921, 1922, 1923, 1924, 1925, 1926, 1927, 1928, 2048, 2049, 2050, 1984, 1985, 1986, 1987, 1988, 1989, 1990, 1991, 1992, 1993, 1994, 1995, 1996, 1997, 1998, 1999] (by decide +kernel) (by decide +kernel)) (goodIn_sub (fun _ h => List.mem_append_left _ (List.mem_append_right _ h)) (by decide +kernel))
set_option maxRecDepth 100000 in
theorem hL_L_undo : GoodIn wsLw (va_wsS RL 230 yL_undo wsL_undo) := goodIn_app (goodIn_t _ [1547, 1548, 204] (by decide +kernel) (by decide +kernel)) hhL_L_undo
set_option maxRecDepth 100000 in
theorem hhL_L_due : GoodIn wsLw wsL_due := goodIn_t _ [1600, 330, 331, 204, 332, 1601, 1602, 1603, 1604, 1605, 1606, 1607, 1608, 1609, 1610, 1611, 1612, 1613, 1614, 1615, 1616, 1617, 1618, 1619, 1620, 1621, 1622, 1623, 1664] (by decide +kernel) (by decide +kernel)
set_option maxRecDepth 100000 in
theorem hL_L_due : GoodIn wsLw (va_wsS RL 232 yL_due wsL_due) := goodIn_app (goodIn_t _ [1558, 1559, 204] (by decide +kernel) (by decide +kernel)) hhL_L_due
