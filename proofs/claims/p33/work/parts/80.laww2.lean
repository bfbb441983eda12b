/-! the law's words together, and those of its callees among them (printed by wip/p33/mklaw.py) -/
def lwQ : List (List Cond) := [wsL_law0_r1, wsL_law0_r2, wsL_law0_r3, wsL_law0_r4, wsL_law0_r5, wsL_law0_r6, wsL_law0_r7, wsL_law0_r8, wsL_law0_r9, wsL_law0_r10, wsL_law0_r11, wsL_law0_r12, wsL_law0_r13, wsL_law0_r14, wsL_law0_r15, wsL_law0_r16, wsL_law0_r17, wsL_law0_r18, wsL_law0_r19, wsL_law0_r20, wsL_law0_r21, wsL_law0_r22, wsL_law0_r23, wsL_law0_r24, wsL_law0_r25, wsL_law0_r26, wsL_law0_r27, wsL_law0_r28, wsL_law0_r29, wsL_law0_r30, wsX70, wsX30, wsX10, wsX50, wsX00, wsX60, wsX40, wsX20]
def wsLw : List Cond := lwQ.flatten ++ (vx_atS RX7 84 "java/lang/IllegalArgumentException" ["java/lang/RuntimeException", "java/lang/Exception"]).filter goodWord ++ (vx_atS RX7 93 "java/lang/IllegalStateException" ["java/lang/RuntimeException", "java/lang/Exception"]).filter goodWord ++ (vx_atS RX7 73 "java/lang/IndexOutOfBoundsException" ["java/lang/RuntimeException", "java/lang/Exception"]).filter goodWord
def lwG (i : Nat) : Option Cond := (lwQ[i / 64]?).bind fun q => q[i % 64]?
theorem lwG_in {i : Nat} {w : Cond} (h : lwG i = some w) : w ∈ lwQ.flatten := by
  unfold lwG at h
  obtain ⟨q, hq, hw⟩ := Option.bind_eq_some_iff.mp h
  exact List.mem_flatten.mpr ⟨q, List.mem_of_getElem? hq, List.mem_of_getElem? hw⟩
theorem goodIn_t (ws : List Cond) (ps : List Nat) (hp : ws = ps.filterMap lwG) (h : ws.all goodWord = true) : GoodIn wsLw ws := by
  intro w hw
  have h1 := List.all_eq_true.mp h w hw
  rw [hp] at hw
  obtain ⟨i, -, hi⟩ := List.mem_filterMap.mp hw
  exact ⟨List.mem_append_left _ (List.mem_append_left _ (List.mem_append_left _ (lwG_in hi))), good_of_word h1⟩
theorem lwQ_in : ∀ q ∈ lwQ, ∀ w ∈ q, w ∈ lw_tbl := (List.forall_mem_cons.mpr ⟨lw_in1, (List.forall_mem_cons.mpr ⟨lw_in2, (List.forall_mem_cons.mpr ⟨lw_in3, (List.forall_mem_cons.mpr ⟨lw_in4, (List.forall_mem_cons.mpr ⟨lw_in5, (List.forall_mem_cons.mpr ⟨lw_in6, (List.forall_mem_cons.mpr ⟨lw_in7, (List.forall_mem_cons.mpr ⟨lw_in8, (List.forall_mem_cons.mpr ⟨lw_in9, (List.forall_mem_cons.mpr ⟨lw_in10, (List.forall_mem_cons.mpr ⟨lw_in11, (List.forall_mem_cons.mpr ⟨lw_in12, (List.forall_mem_cons.mpr ⟨lw_in13, (List.forall_mem_cons.mpr ⟨lw_in14, (List.forall_mem_cons.mpr ⟨lw_in15, (List.forall_mem_cons.mpr ⟨lw_in16, (List.forall_mem_cons.mpr ⟨lw_in17, (List.forall_mem_cons.mpr ⟨lw_in18, (List.forall_mem_cons.mpr ⟨lw_in19, (List.forall_mem_cons.mpr ⟨lw_in20, (List.forall_mem_cons.mpr ⟨lw_in21, (List.forall_mem_cons.mpr ⟨lw_in22, (List.forall_mem_cons.mpr ⟨lw_in23, (List.forall_mem_cons.mpr ⟨lw_in24, (List.forall_mem_cons.mpr ⟨lw_in25, (List.forall_mem_cons.mpr ⟨lw_in26, (List.forall_mem_cons.mpr ⟨lw_in27, (List.forall_mem_cons.mpr ⟨lw_in28, (List.forall_mem_cons.mpr ⟨lw_in29, (List.forall_mem_cons.mpr ⟨lw_in30, (List.forall_mem_cons.mpr ⟨lw_inwsX70, (List.forall_mem_cons.mpr ⟨lw_inwsX30, (List.forall_mem_cons.mpr ⟨lw_inwsX10, (List.forall_mem_cons.mpr ⟨lw_inwsX50, (List.forall_mem_cons.mpr ⟨lw_inwsX00, (List.forall_mem_cons.mpr ⟨lw_inwsX60, (List.forall_mem_cons.mpr ⟨lw_inwsX40, (List.forall_mem_cons.mpr ⟨lw_inwsX20, (fun _ h => by cases h)⟩)⟩)⟩)⟩)⟩)⟩)⟩)⟩)⟩)⟩)⟩)⟩)⟩)⟩)⟩)⟩)⟩)⟩)⟩)⟩)⟩)⟩)⟩)⟩)⟩)⟩)⟩)⟩)⟩)⟩)⟩)⟩)⟩)⟩)⟩)⟩)⟩)⟩)
set_option maxRecDepth 100000 in
theorem lw_inx0 : ∀ w ∈ (vx_atS RX7 84 "java/lang/IllegalArgumentException" ["java/lang/RuntimeException", "java/lang/Exception"]).filter goodWord, w ∈ lw_tbl := by decide +kernel
set_option maxRecDepth 100000 in
theorem lw_inx1 : ∀ w ∈ (vx_atS RX7 93 "java/lang/IllegalStateException" ["java/lang/RuntimeException", "java/lang/Exception"]).filter goodWord, w ∈ lw_tbl := by decide +kernel
set_option maxRecDepth 100000 in
theorem lw_inx2 : ∀ w ∈ (vx_atS RX7 73 "java/lang/IndexOutOfBoundsException" ["java/lang/RuntimeException", "java/lang/Exception"]).filter goodWord, w ∈ lw_tbl := by decide +kernel
theorem wsLw_in : ∀ w ∈ wsLw, w ∈ lw_tbl := fun w h => (List.mem_append.mp h).elim (fun h => (List.mem_append.mp h).elim (fun h => (List.mem_append.mp h).elim (fun h => (List.mem_flatten.mp h).elim (fun q hq => lwQ_in q hq.1 w hq.2)) (fun h => lw_inx0 w h)) (fun h => lw_inx1 w h)) (fun h => lw_inx2 w h)
set_option maxRecDepth 100000 in
theorem hhL_X7_init : GoodIn wsLw wsX7_init := goodIn_t _ [6, 7, 8, 9, 10, 11, 12, 13, 14, 15, 16, 17, 18, 19, 20, 21, 22, 23, 64, 65, 66, 67, 68, 69, 70, 71, 72, 73, 74, 75, 76, 77, 78, 79, 80, 81, 82, 3, 83, 84, 85, 86, 87, 128, 129, 130, 131, 132, 133, 134, 135, 136, 137, 138, 139, 140, 141, 142, 143, 144, 145, 146, 147, 148, 149, 150, 151, 192, 193, 194, 195, 196, 197, 198, 199, 200, 201, 1984, 1985, 1986, 1987, 1988, 1989, 1990, 1991, 1992, 1993, 1994, 1995, 1996, 1997, 1998, 1999, 1920, 1921, 1922, 1923, 1924, 1925, 1926, 1927, 1928, 2048, 2049, 2050, 2112, 2113, 2176, 2177, 2178, 2240, 2241, 2242, 2304, 2305, 2306, 2368, 2369, 2370, 2371, 2372] (by decide +kernel) (by decide +kernel)
set_option maxRecDepth 100000 in
theorem hL_X7_init : GoodIn wsLw (wsX7_init) := hhL_X7_init
set_option maxRecDepth 100000 in
theorem hhL_L_cell : GoodIn wsLw wsL_cell := goodIn_t _ [205, 206, 207] (by decide +kernel) (by decide +kernel)
set_option maxRecDepth 100000 in
theorem hL_L_cell : GoodIn wsLw (va_wsS RL 219 yL_cell wsL_cell) := goodIn_app (goodIn_t _ [202, 203, 204] (by decide +kernel) (by decide +kernel)) hhL_L_cell
set_option maxRecDepth 100000 in
theorem hhL_L_low : GoodIn wsLw wsL_low := goodIn_t _ [210, 211] (by decide +kernel) (by decide +kernel)
set_option maxRecDepth 100000 in
theorem hL_L_low : GoodIn wsLw (va_wsS RL 93 yL_low wsL_low) := goodIn_app (goodIn_t _ [208, 209, 204] (by decide +kernel) (by decide +kernel)) hhL_L_low
set_option maxRecDepth 100000 in
theorem hhL_L_types : GoodIn wsLw wsL_types := goodIn_ca (goodIn_ca (goodIn_t _ [214, 215, 256, 257, 2, 258, 22, 259, 260, 261, 262, 21, 263, 264, 208, 209, 204, 210, 211, 265, 266, 267, 268, 269, 270, 271, 272, 273, 274, 275, 276, 277, 278, 279, 320, 321, 322, 323, 324, 145, 325, 326, 327, 328, 329, 330, 331, 332, 1920, 1921, 1922, 1923, 1924, 1925, 1926, 1927, 1928, 2112, 2113] (by decide +kernel) (by decide +kernel)) (goodIn_sub (fun _ h => List.mem_append_left _ (List.mem_append_left _ (List.mem_append_right _ h))) (by decide +kernel))) (goodIn_sub (fun _ h => List.mem_append_left _ (List.mem_append_right _ h)) (by decide +kernel))
set_option maxRecDepth 100000 in
theorem hL_L_types : GoodIn wsLw (va_wsS RL 169 yL_types wsL_types) := goodIn_app (goodIn_t _ [212, 213, 204] (by decide +kernel) (by decide +kernel)) hhL_L_types
set_option maxRecDepth 100000 in
theorem hhL_L_told : GoodIn wsLw wsL_told := goodIn_ca (goodIn_ca (goodIn_t _ [335, 336, 337, 338, 339, 340, 341, 342, 343, 384, 204, 385, 271, 386, 387, 388, 2, 389, 277, 278, 13, 390, 391, 74, 392, 393, 394, 395, 396, 397, 18, 398, 399, 400, 401, 12, 402, 84, 403, 404, 405, 73, 406, 197, 198, 407, 448, 449, 450, 451, 452, 453, 454, 455, 456, 457, 458, 459, 460, 85, 461, 462, 463, 464, 465, 466, 467, 468, 469, 470, 471, 512, 513, 514, 515, 516, 517, 518, 519, 520, 521, 522, 523, 524, 525, 526, 527, 528, 529, 530, 531, 130, 83, 532, 533, 534, 535, 576, 577, 578, 129, 579, 580, 581, 582, 583, 584, 585, 586, 587, 588, 589, 590, 591, 592, 593, 594, 595, 596, 597, 598, 599, 640, 641, 642, 643, 644, 645, 646, 647, 648, 649, 650, 651, 652, 653, 654, 655, 656, 657, 658, 659, 660, 661, 662, 663, 704, 705, 706, 707, 1920, 1921, 1922, 1923, 1924, 1925, 1926, 1927, 1928, 1984, 1985, 1986, 1987, 1988, 1989, 1990, 1991, 1992, 1993, 1994, 1995, 1996, 1997, 1998, 1999, 2304, 2305, 2306, 2048, 2049, 2050] (by decide +kernel) (by decide +kernel)) (goodIn_sub (fun _ h => List.mem_append_left _ (List.mem_append_left _ (List.mem_append_right _ h))) (by decide +kernel))) (goodIn_sub (fun _ h => List.mem_append_right _ h) (by decide +kernel))
set_option maxRecDepth 100000 in
theorem hL_L_told : GoodIn wsLw (va_wsS RL 223 yL_told wsL_told) := goodIn_app (goodIn_t _ [333, 334, 204] (by decide +kernel) (by decide +kernel)) hhL_L_told
