theorem mem_r {big : List Cond} (ws : List Cond) (ps : List Nat) (hp : ws = ps.filterMap (fun i => big[i]?)) : ∀ w ∈ ws, w ∈ big := by
  intro w hw
  rw [hp] at hw
  obtain ⟨i, -, hi⟩ := List.mem_filterMap.mp hw
  exact List.mem_of_getElem? hi
set_option maxRecDepth 1000000 in
set_option maxHeartbeats 4000000 in
theorem wsL_law_m1 : ∀ w ∈ wsL_law0_r1, w ∈ lw_tbl := mem_r _ [44, 45, 22, 87, 46, 47, 48, 49, 50, 51, 52, 54, 23, 141, 142, 137, 90, 27, 143, 139, 60, 24, 144, 145] rfl
set_option maxRecDepth 1000000 in
set_option maxHeartbeats 4000000 in
theorem wsL_law_m2 : ∀ w ∈ wsL_law0_r2, w ∈ lw_tbl := mem_r _ [146, 56, 57, 58, 59, 115, 89, 117, 119, 136, 121, 123, 62, 63, 64, 65, 66, 67, 68, 88, 69, 70, 71, 91] rfl
set_option maxRecDepth 1000000 in
set_option maxHeartbeats 4000000 in
theorem wsL_law_m3 : ∀ w ∈ wsL_law0_r3, w ∈ lw_tbl := mem_r _ [92, 93, 101, 103, 94, 95, 26, 96, 105, 97, 98, 25, 99, 100, 138, 614, 615, 21, 616, 617, 160, 161, 162, 163] rfl
set_option maxRecDepth 1000000 in
set_option maxHeartbeats 4000000 in
theorem wsL_law_m4 : ∀ w ∈ wsL_law0_r4, w ∈ lw_tbl := mem_r _ [235, 32, 164, 165, 166, 167, 31, 542, 543, 544, 545, 267, 35, 118, 116, 533, 534, 535, 536, 537, 482, 483, 484, 104] rfl
set_option maxRecDepth 1000000 in
set_option maxHeartbeats 4000000 in
theorem wsL_law_m5 : ∀ w ∈ wsL_law0_r5, w ∈ lw_tbl := mem_r _ [481, 546, 547, 548, 549, 492, 550, 551, 33, 552, 553, 554, 555, 556, 557, 558, 559, 560, 561, 562, 563, 564, 565, 566] rfl
set_option maxRecDepth 1000000 in
set_option maxHeartbeats 4000000 in
theorem wsL_law_m6 : ∀ w ∈ wsL_law0_r6, w ∈ lw_tbl := mem_r _ [567, 568, 34, 569, 570, 571, 572, 573, 574, 575, 576, 578, 579, 580, 581, 255, 257, 1, 258, 259, 261, 2, 262, 582] rfl
set_option maxRecDepth 1000000 in
set_option maxHeartbeats 4000000 in
theorem wsL_law_m7 : ∀ w ∈ wsL_law0_r7, w ∈ lw_tbl := mem_r _ [423, 424, 425, 292, 293, 583, 410, 411, 412, 287, 288, 289, 290, 627, 628, 629, 630, 631, 632, 633, 634, 295, 296, 36] rfl
set_option maxRecDepth 1000000 in
set_option maxHeartbeats 4000000 in
theorem wsL_law_m8 : ∀ w ∈ wsL_law0_r8, w ∈ lw_tbl := mem_r _ [264, 265, 266, 283, 285, 3, 286, 635, 414, 415, 416, 297, 298, 299, 300, 301, 303, 306, 309, 312, 325, 327, 4, 328] rfl
set_option maxRecDepth 1000000 in
set_option maxHeartbeats 4000000 in
theorem wsL_law_m9 : ∀ w ∈ wsL_law0_r9, w ∈ lw_tbl := mem_r _ [329, 330, 331, 332, 334, 5, 335, 308, 336, 338, 6, 339, 120, 340, 341, 342, 343, 344, 106, 107, 345, 347, 7, 348] rfl
set_option maxRecDepth 1000000 in
set_option maxHeartbeats 4000000 in
theorem wsL_law_m10 : ∀ w ∈ wsL_law0_r10, w ∈ lw_tbl := mem_r _ [349, 351, 8, 352, 353, 355, 9, 356, 395, 361, 38, 362, 396, 357, 358, 37, 359, 360, 363, 364, 365, 366, 367, 368] rfl
set_option maxRecDepth 1000000 in
set_option maxHeartbeats 4000000 in
theorem wsL_law_m11 : ∀ w ∈ wsL_law0_r11, w ∈ lw_tbl := mem_r _ [39, 369, 370, 700, 371, 382, 383, 384, 385, 386, 388, 389, 390, 391, 392, 394, 393, 40, 397, 399, 10, 400, 122, 302] rfl
set_option maxRecDepth 1000000 in
set_option maxHeartbeats 4000000 in
theorem wsL_law_m12 : ∀ w ∈ wsL_law0_r12, w ∈ lw_tbl := mem_r _ [401, 402, 403, 404, 304, 307, 310, 313, 405, 407, 11, 408, 409, 413, 418, 420, 12, 421, 422, 426, 428, 13, 429, 430] rfl
set_option maxRecDepth 1000000 in
set_option maxHeartbeats 4000000 in
theorem wsL_law_m13 : ∀ w ∈ wsL_law0_r13, w ∈ lw_tbl := mem_r _ [432, 14, 433, 434, 436, 15, 437, 438, 440, 16, 441, 305, 311, 456, 506, 511, 515, 442, 443, 444, 445, 446, 447, 41] rfl
set_option maxRecDepth 1000000 in
set_option maxHeartbeats 4000000 in
theorem wsL_law_m14 : ∀ w ∈ wsL_law0_r14, w ∈ lw_tbl := mem_r _ [448, 449, 450, 42, 451, 452, 453, 454, 455, 457, 459, 17, 460, 503, 513, 461, 462, 463, 464, 465, 467, 18, 468, 637] rfl
set_option maxRecDepth 1000000 in
set_option maxHeartbeats 4000000 in
theorem wsL_law_m15 : ∀ w ∈ wsL_law0_r15, w ∈ lw_tbl := mem_r _ [638, 639, 640, 641, 642, 643, 645, 646, 647, 648, 649, 650, 651, 251, 252, 253, 254, 469, 470, 471, 472, 653, 654, 655] rfl
set_option maxRecDepth 1000000 in
set_option maxHeartbeats 4000000 in
theorem wsL_law_m16 : ∀ w ∈ wsL_law0_r16, w ∈ lw_tbl := mem_r _ [656, 657, 658, 659, 660, 661, 662, 663, 665, 584, 585, 586, 587, 477, 479, 19, 480, 488, 489, 490, 491, 504, 509, 507] rfl
set_option maxRecDepth 1000000 in
set_option maxHeartbeats 4000000 in
theorem wsL_law_m17 : ∀ w ∈ wsL_law0_r17, w ∈ lw_tbl := mem_r _ [494, 495, 473, 474, 475, 476, 456, 497, 43, 498, 499, 500, 501, 514, 502, 505, 508, 510, 512, 596, 597, 598, 599, 601] rfl
set_option maxRecDepth 1000000 in
set_option maxHeartbeats 4000000 in
theorem wsL_law_m18 : ∀ w ∈ wsL_law0_r18, w ∈ lw_tbl := mem_r _ [602, 603, 604, 605, 606, 608, 20, 609, 610, 611, 612, 613, 675, 676, 677, 678, 679, 680, 681, 682, 683, 684, 685, 666] rfl
set_option maxRecDepth 1000000 in
set_option maxHeartbeats 4000000 in
theorem wsL_law_m19 : ∀ w ∈ wsL_law0_r19, w ∈ lw_tbl := mem_r _ [667, 668, 669, 670, 671, 672, 673, 529, 530, 531, 532, 124, 295, 621, 622, 623, 624, 625, 626, 538, 539, 540, 541, 618] rfl
set_option maxRecDepth 1000000 in
set_option maxHeartbeats 4000000 in
theorem wsL_law_m20 : ∀ w ∈ wsL_law0_r20, w ∈ lw_tbl := mem_r _ [619, 620, 588, 589, 590, 591, 592, 593, 594, 595] rfl
theorem wsL_law_nwsX40 : ∀ w ∈ wsX40, w ∈ lw_tbl := by decide +kernel
theorem wsL_law_nwsX30 : ∀ w ∈ wsX30, w ∈ lw_tbl := by decide +kernel
theorem wsL_law_nwsJx4a65c0 : ∀ w ∈ wsJx4a65c0, w ∈ lw_tbl := by decide +kernel
theorem wsL_law_nwsX10 : ∀ w ∈ wsX10, w ∈ lw_tbl := by decide +kernel
theorem wsL_law_nwsX00 : ∀ w ∈ wsX00, w ∈ lw_tbl := by decide +kernel
theorem wsL_law_nwsX20 : ∀ w ∈ wsX20, w ∈ lw_tbl := by decide +kernel
theorem wsL_law_in0 : ∀ w ∈ wsL_law0, w ∈ lw_tbl := fun w => (fun g0 => (List.mem_append.mp g0).elim (fun gwsX20 => (List.mem_append.mp gwsX20).elim (fun gwsX00 => (List.mem_append.mp gwsX00).elim (fun gwsX10 => (List.mem_append.mp gwsX10).elim (fun gwsJx4a65c0 => (List.mem_append.mp gwsJx4a65c0).elim (fun gwsX30 => (List.mem_append.mp gwsX30).elim (fun gwsX40 => (List.mem_append.mp gwsX40).elim (fun h1 => (List.mem_append.mp h1).elim (wsL_law_m1 w) (fun h2 => (List.mem_append.mp h2).elim (wsL_law_m2 w) (fun h3 => (List.mem_append.mp h3).elim (wsL_law_m3 w) (fun h4 => (List.mem_append.mp h4).elim (wsL_law_m4 w) (fun h5 => (List.mem_append.mp h5).elim (wsL_law_m5 w) (fun h6 => (List.mem_append.mp h6).elim (wsL_law_m6 w) (fun h7 => (List.mem_append.mp h7).elim (wsL_law_m7 w) (fun h8 => (List.mem_append.mp h8).elim (wsL_law_m8 w) (fun h9 => (List.mem_append.mp h9).elim (wsL_law_m9 w) (fun h10 => (List.mem_append.mp h10).elim (wsL_law_m10 w) (fun h11 => (List.mem_append.mp h11).elim (wsL_law_m11 w) (fun h12 => (List.mem_append.mp h12).elim (wsL_law_m12 w) (fun h13 => (List.mem_append.mp h13).elim (wsL_law_m13 w) (fun h14 => (List.mem_append.mp h14).elim (wsL_law_m14 w) (fun h15 => (List.mem_append.mp h15).elim (wsL_law_m15 w) (fun h16 => (List.mem_append.mp h16).elim (wsL_law_m16 w) (fun h17 => (List.mem_append.mp h17).elim (wsL_law_m17 w) (fun h18 => (List.mem_append.mp h18).elim (wsL_law_m18 w) (fun h19 => (List.mem_append.mp h19).elim (wsL_law_m19 w) (wsL_law_m20 w)))))))))))))))))))) (wsL_law_nwsX40 w)) (wsL_law_nwsX30 w)) (wsL_law_nwsJx4a65c0 w)) (wsL_law_nwsX10 w)) (wsL_law_nwsX00 w)) (wsL_law_nwsX20 w)) (fun h => nomatch h))
theorem wsL_law_x0 : ∀ w ∈ (vx_atS RX4 49 "java/lang/IllegalStateException" ["java/lang/RuntimeException", "java/lang/Exception"]).filter goodWord, w ∈ lw_tbl := by decide +kernel
theorem wsL_law_x1 : ∀ w ∈ (vx_atS RX4 212 "java/lang/IndexOutOfBoundsException" ["java/lang/RuntimeException", "java/lang/Exception"]).filter goodWord, w ∈ lw_tbl := by decide +kernel
theorem wsL_law_x2 : ∀ w ∈ (vx_atS RX4 123 "java/lang/IllegalArgumentException" ["java/lang/RuntimeException", "java/lang/Exception"]).filter goodWord, w ∈ lw_tbl := by decide +kernel
theorem wsL_law_in : ∀ w ∈ wsL_law, w ∈ lw_tbl := fun w h => (List.mem_append.mp h).elim (fun h => (List.mem_append.mp h).elim (fun h => (List.mem_append.mp h).elim (fun h => wsL_law_in0 w h) (fun h => wsL_law_x0 w h)) (fun h => wsL_law_x1 w h)) (fun h => wsL_law_x2 w h)
theorem inlX0 : ∀ w ∈ wsX00, w ∈ wsL_law := fun _ h => List.mem_append_left _ (List.mem_append_left _ (List.mem_append_left _ (List.mem_append_left _ (List.mem_append_left _ (List.mem_append_right _ h)))))
theorem inX0 : ∀ w ∈ wsX00, w ∈ lw_tbl := fun w h => wsL_law_in w (inlX0 w h)
theorem inlX1 : ∀ w ∈ wsX10, w ∈ wsL_law := fun _ h => List.mem_append_left _ (List.mem_append_left _ (List.mem_append_left _ (List.mem_append_left _ (List.mem_append_left _ (List.mem_append_left _ (List.mem_append_right _ h))))))
theorem inX1 : ∀ w ∈ wsX10, w ∈ lw_tbl := fun w h => wsL_law_in w (inlX1 w h)
theorem inlX2 : ∀ w ∈ wsX20, w ∈ wsL_law := fun _ h => List.mem_append_left _ (List.mem_append_left _ (List.mem_append_left _ (List.mem_append_left _ (List.mem_append_right _ h))))
theorem inX2 : ∀ w ∈ wsX20, w ∈ lw_tbl := fun w h => wsL_law_in w (inlX2 w h)
theorem inlX3 : ∀ w ∈ wsX30, w ∈ wsL_law := fun _ h => List.mem_append_left _ (List.mem_append_left _ (List.mem_append_left _ (List.mem_append_left _ (List.mem_append_left _ (List.mem_append_left _ (List.mem_append_left _ (List.mem_append_left _ (List.mem_append_right _ h))))))))
theorem inX3 : ∀ w ∈ wsX30, w ∈ lw_tbl := fun w h => wsL_law_in w (inlX3 w h)
theorem inlX4 : ∀ w ∈ wsX40, w ∈ wsL_law := fun _ h => List.mem_append_left _ (List.mem_append_left _ (List.mem_append_left _ (List.mem_append_left _ (List.mem_append_left _ (List.mem_append_left _ (List.mem_append_left _ (List.mem_append_left _ (List.mem_append_left _ (List.mem_append_right _ h)))))))))
theorem inX4 : ∀ w ∈ wsX40, w ∈ lw_tbl := fun w h => wsL_law_in w (inlX4 w h)
theorem inX5 : ∀ w ∈ wsX50, w ∈ lw_tbl := by decide +kernel
theorem inJx145de : ∀ w ∈ wsJx145de0, w ∈ lw_tbl := by decide +kernel
theorem inJx8e188 : ∀ w ∈ wsJx8e1880, w ∈ lw_tbl := by decide +kernel
theorem inJ6 : ∀ w ∈ wsJ60, w ∈ lw_tbl := by decide +kernel
theorem inJxab1ab : ∀ w ∈ wsJxab1ab0, w ∈ lw_tbl := by decide +kernel
theorem inJ13 : ∀ w ∈ wsJ130, w ∈ lw_tbl := by decide +kernel
theorem inJ9 : ∀ w ∈ wsJ90, w ∈ lw_tbl := by decide +kernel
theorem inJ0 : ∀ w ∈ wsJ00, w ∈ lw_tbl := by decide +kernel
theorem inJ10 : ∀ w ∈ wsJ100, w ∈ lw_tbl := by decide +kernel
theorem inJxa1e45 : ∀ w ∈ wsJxa1e450, w ∈ lw_tbl := by decide +kernel
theorem inJxc12de : ∀ w ∈ wsJxc12de0, w ∈ lw_tbl := by decide +kernel
theorem inlJx4a65c : ∀ w ∈ wsJx4a65c0, w ∈ wsL_law := fun _ h => List.mem_append_left _ (List.mem_append_left _ (List.mem_append_left _ (List.mem_append_left _ (List.mem_append_left _ (List.mem_append_left _ (List.mem_append_left _ (List.mem_append_right _ h)))))))
theorem inJx4a65c : ∀ w ∈ wsJx4a65c0, w ∈ lw_tbl := fun w h => wsL_law_in w (inlJx4a65c w h)
theorem inJ7 : ∀ w ∈ wsJ70, w ∈ lw_tbl := by decide +kernel
theorem inJx5ef63 : ∀ w ∈ wsJx5ef630, w ∈ lw_tbl := by decide +kernel
theorem inJxbd725 : ∀ w ∈ wsJxbd7250, w ∈ lw_tbl := by decide +kernel
theorem inJ15 : ∀ w ∈ wsJ150, w ∈ lw_tbl := by decide +kernel
theorem inJxf0a74 : ∀ w ∈ wsJxf0a740, w ∈ lw_tbl := by decide +kernel
theorem inJxa66e6 : ∀ w ∈ wsJxa66e60, w ∈ lw_tbl := by decide +kernel
theorem inJ8 : ∀ w ∈ wsJ80, w ∈ lw_tbl := by decide +kernel
theorem inJ3 : ∀ w ∈ wsJ30, w ∈ lw_tbl := by decide +kernel
theorem dL_drawn_0 : decode cL_drawn 0 = .ok (.iload_n 1, 1) := by decide +kernel
theorem dL_drawn_1 : decode cL_drawn 1 = .ok (.aload_n 0, 1) := by decide +kernel
theorem dL_drawn_2 : decode cL_drawn 2 = .ok (.arraylength, 1) := by decide +kernel
theorem dL_drawn_3 : decode cL_drawn 3 = .ok (.if_icmp .ge 9, 3) := by decide +kernel
theorem dL_drawn_6 : decode cL_drawn 6 = .ok (.aload_n 0, 1) := by decide +kernel
theorem dL_drawn_7 : decode cL_drawn 7 = .ok (.iload_n 1, 1) := by decide +kernel
theorem dL_drawn_8 : decode cL_drawn 8 = .ok (.iaload, 1) := by decide +kernel
theorem dL_drawn_9 : decode cL_drawn 9 = .ok (.goto 11, 3) := by decide +kernel
theorem dL_drawn_12 : decode cL_drawn 12 = .ok (.ldc 7, 2) := by decide +kernel
theorem dL_drawn_14 : decode cL_drawn 14 = .ok (.iload_n 1, 1) := by decide +kernel
theorem dL_drawn_15 : decode cL_drawn 15 = .ok (.imul, 1) := by decide +kernel
theorem dL_drawn_16 : decode cL_drawn 16 = .ok (.sipush 17041, 3) := by decide +kernel
theorem dL_drawn_19 : decode cL_drawn 19 = .ok (.iadd, 1) := by decide +kernel
theorem dL_drawn_20 : decode cL_drawn 20 = .ok (.istore_n 3, 1) := by decide +kernel
theorem dL_drawn_21 : decode cL_drawn 21 = .ok (.iload_n 3, 1) := by decide +kernel
theorem dL_drawn_22 : decode cL_drawn 22 = .ok (.iconst 1, 1) := by decide +kernel
theorem dL_drawn_23 : decode cL_drawn 23 = .ok (.iushr, 1) := by decide +kernel
theorem dL_drawn_24 : decode cL_drawn 24 = .ok (.iload_n 2, 1) := by decide +kernel
theorem dL_drawn_25 : decode cL_drawn 25 = .ok (.irem, 1) := by decide +kernel
theorem dL_drawn_26 : decode cL_drawn 26 = .ok (.ireturn, 1) := by decide +kernel
set_option maxRecDepth 1000000 in
set_option maxHeartbeats 4000000 in
theorem ggL_isWell_X4_between : GoodIn wsL_isWell wsX4_between := goodIn_ca (goodIn_r _ [5, 6, 7, 8, 9, 4, 10, 11, 12, 13, 14, 15, 16, 17, 18, 19, 20, 21, 22, 23, 24, 25, 26, 27, 28, 29, 30, 31, 32, 33, 34, 35, 36, 37, 38, 39, 97, 98, 99, 100, 101, 102, 103, 104, 105, 106, 107, 108, 109, 110, 111, 112, 113, 114] rfl (by decide +kernel)) (goodIn_sub (fun _ h => List.mem_cons_of_mem _ (List.mem_append_left _ (List.mem_append_right _ h))) (by decide +kernel))
set_option maxRecDepth 20000 in
theorem gL_isWell_X4_between : GoodIn wsL_isWell (wsV RL 8 RX4 yX4_between wsX4_between) := goodIn_app (goodIn_of _ (by decide +kernel)) ggL_isWell_X4_between
set_option maxRecDepth 1000000 in
set_option maxHeartbeats 4000000 in
theorem ggL_isWell_X4_ofServer : GoodIn wsL_isWell wsX4_ofServer := goodIn_ca (goodIn_ca (goodIn_r _ [43, 44, 45, 6, 46, 7, 8, 9, 4, 10, 11, 12, 47, 48, 49, 50, 51, 52, 53, 54, 55, 56, 57, 58, 59, 60, 61, 62, 63, 25, 64, 65, 66, 67, 68, 69, 70, 71, 72, 73, 74, 75, 76, 77, 78, 79, 80, 81, 82, 34, 83, 84, 85, 86, 87, 88, 89, 90, 91, 92, 93, 94, 95, 96, 27, 97, 98, 99, 100, 101, 102, 103, 104, 105, 106, 107, 115, 116, 117, 108, 109, 110, 111, 112, 113, 114] rfl (by decide +kernel)) (goodIn_sub (fun _ h => List.mem_cons_of_mem _ (List.mem_append_right _ h)) (by decide +kernel))) (goodIn_sub (fun _ h => List.mem_cons_of_mem _ (List.mem_append_left _ (List.mem_append_right _ h))) (by decide +kernel))
set_option maxRecDepth 20000 in
theorem gL_isWell_X4_ofServer : GoodIn wsL_isWell (wsV RL 14 RX4 yX4_ofServer wsX4_ofServer) := goodIn_app (goodIn_of _ (by decide +kernel)) ggL_isWell_X4_ofServer
theorem dL_isWell_0 : decode cL_isWell 0 = .ok (.iconst 0, 1) := by decide +kernel
theorem dL_isWell_1 : decode cL_isWell 1 = .ok (.istore_n 3, 1) := by decide +kernel
theorem dL_isWell_2 : decode cL_isWell 2 = .ok (.iconst 0, 1) := by decide +kernel
theorem dL_isWell_3 : decode cL_isWell 3 = .ok (.istore 4, 2) := by decide +kernel
theorem dL_isWell_5 : decode cL_isWell 5 = .ok (.iconst 1, 1) := by decide +kernel
theorem dL_isWell_6 : decode cL_isWell 6 = .ok (.istore 5, 2) := by decide +kernel
theorem dL_isWell_8 : decode cL_isWell 8 = .ok (.iconst 0, 1) := by decide +kernel
theorem dL_isWell_9 : decode cL_isWell 9 = .ok (.istore 6, 2) := by decide +kernel
theorem dL_isWell_11 : decode cL_isWell 11 = .ok (.iload 6, 2) := by decide +kernel
theorem dL_isWell_13 : decode cL_isWell 13 = .ok (.iload_n 2, 1) := by decide +kernel
theorem dL_isWell_14 : decode cL_isWell 14 = .ok (.if_icmp .ge 147, 3) := by decide +kernel
theorem dL_isWell_17 : decode cL_isWell 17 = .ok (.iconst 0, 1) := by decide +kernel
theorem dL_isWell_18 : decode cL_isWell 18 = .ok (.istore 7, 2) := by decide +kernel
theorem dL_isWell_20 : decode cL_isWell 20 = .ok (.iload 7, 2) := by decide +kernel
theorem dL_isWell_22 : decode cL_isWell 22 = .ok (.iload_n 2, 1) := by decide +kernel
theorem dL_isWell_23 : decode cL_isWell 23 = .ok (.if_icmp .ge 132, 3) := by decide +kernel
theorem dL_isWell_26 : decode cL_isWell 26 = .ok (.aload_n 0, 1) := by decide +kernel
theorem dL_isWell_27 : decode cL_isWell 27 = .ok (.iload_n 1, 1) := by decide +kernel
theorem dL_isWell_28 : decode cL_isWell 28 = .ok (.iload 6, 2) := by decide +kernel
theorem dL_isWell_30 : decode cL_isWell 30 = .ok (.iload 7, 2) := by decide +kernel
theorem dL_isWell_32 : decode cL_isWell 32 = .ok (.invokevirtual 8, 3) := by decide +kernel
theorem dL_isWell_35 : decode cL_isWell 35 = .ok (.istore 8, 2) := by decide +kernel
theorem dL_isWell_37 : decode cL_isWell 37 = .ok (.aload_n 0, 1) := by decide +kernel
theorem dL_isWell_38 : decode cL_isWell 38 = .ok (.iload_n 1, 1) := by decide +kernel
theorem dL_isWell_39 : decode cL_isWell 39 = .ok (.iload 7, 2) := by decide +kernel
theorem dL_isWell_41 : decode cL_isWell 41 = .ok (.iload 6, 2) := by decide +kernel
theorem dL_isWell_43 : decode cL_isWell 43 = .ok (.invokevirtual 8, 3) := by decide +kernel
theorem dL_isWell_46 : decode cL_isWell 46 = .ok (.istore 9, 2) := by decide +kernel
theorem dL_isWell_48 : decode cL_isWell 48 = .ok (.iload 5, 2) := by decide +kernel
theorem dL_isWell_50 : decode cL_isWell 50 = .ok (.ifCond .eq 62, 3) := by decide +kernel
theorem dL_isWell_53 : decode cL_isWell 53 = .ok (.iload 8, 2) := by decide +kernel
theorem dL_isWell_55 : decode cL_isWell 55 = .ok (.ifCond .lt 57, 3) := by decide +kernel
theorem dL_isWell_58 : decode cL_isWell 58 = .ok (.iload 8, 2) := by decide +kernel
theorem dL_isWell_60 : decode cL_isWell 60 = .ok (.bipush 7, 2) := by decide +kernel
theorem dL_isWell_62 : decode cL_isWell 62 = .ok (.if_icmp .ge 50, 3) := by decide +kernel
theorem dL_isWell_65 : decode cL_isWell 65 = .ok (.iload 8, 2) := by decide +kernel
theorem dL_isWell_67 : decode cL_isWell 67 = .ok (.iconst 4, 1) := by decide +kernel
theorem dL_isWell_68 : decode cL_isWell 68 = .ok (.irem, 1) := by decide +kernel
theorem dL_isWell_69 : decode cL_isWell 69 = .ok (.iconst 3, 1) := by decide +kernel
theorem dL_isWell_70 : decode cL_isWell 70 = .ok (.if_icmp .eq 42, 3) := by decide +kernel
theorem dL_isWell_73 : decode cL_isWell 73 = .ok (.iload 8, 2) := by decide +kernel
theorem dL_isWell_75 : decode cL_isWell 75 = .ok (.iconst 4, 1) := by decide +kernel
theorem dL_isWell_76 : decode cL_isWell 76 = .ok (.if_icmp .lt 20, 3) := by decide +kernel
theorem dL_isWell_79 : decode cL_isWell 79 = .ok (.iload 8, 2) := by decide +kernel
theorem dL_isWell_81 : decode cL_isWell 81 = .ok (.iconst 4, 1) := by decide +kernel
theorem dL_isWell_82 : decode cL_isWell 82 = .ok (.if_icmp .ne 30, 3) := by decide +kernel
theorem dL_isWell_85 : decode cL_isWell 85 = .ok (.iload 9, 2) := by decide +kernel
theorem dL_isWell_87 : decode cL_isWell 87 = .ok (.ifCond .eq 9, 3) := by decide +kernel
theorem dL_isWell_90 : decode cL_isWell 90 = .ok (.iload 9, 2) := by decide +kernel
theorem dL_isWell_92 : decode cL_isWell 92 = .ok (.iconst 4, 1) := by decide +kernel
theorem dL_isWell_93 : decode cL_isWell 93 = .ok (.if_icmp .ne 19, 3) := by decide +kernel
theorem dL_isWell_96 : decode cL_isWell 96 = .ok (.iload 6, 2) := by decide +kernel
theorem dL_isWell_98 : decode cL_isWell 98 = .ok (.iload 7, 2) := by decide +kernel
theorem dL_isWell_100 : decode cL_isWell 100 = .ok (.if_icmp .ne 8, 3) := by decide +kernel
theorem dL_isWell_103 : decode cL_isWell 103 = .ok (.iload 8, 2) := by decide +kernel
theorem dL_isWell_105 : decode cL_isWell 105 = .ok (.ifCond .ne 7, 3) := by decide +kernel
theorem dL_isWell_108 : decode cL_isWell 108 = .ok (.iconst 1, 1) := by decide +kernel
theorem dL_isWell_109 : decode cL_isWell 109 = .ok (.goto 4, 3) := by decide +kernel
theorem dL_isWell_112 : decode cL_isWell 112 = .ok (.iconst 0, 1) := by decide +kernel
theorem dL_isWell_113 : decode cL_isWell 113 = .ok (.istore 5, 2) := by decide +kernel
theorem dL_isWell_115 : decode cL_isWell 115 = .ok (.iload_n 3, 1) := by decide +kernel
theorem dL_isWell_116 : decode cL_isWell 116 = .ok (.iload 8, 2) := by decide +kernel
theorem dL_isWell_118 : decode cL_isWell 118 = .ok (.iconst 4, 1) := by decide +kernel
theorem dL_isWell_119 : decode cL_isWell 119 = .ok (.irem, 1) := by decide +kernel
theorem dL_isWell_120 : decode cL_isWell 120 = .ok (.iconst 1, 1) := by decide +kernel
theorem dL_isWell_121 : decode cL_isWell 121 = .ok (.if_icmp .ne 7, 3) := by decide +kernel
theorem dL_isWell_124 : decode cL_isWell 124 = .ok (.iconst 1, 1) := by decide +kernel
theorem dL_isWell_125 : decode cL_isWell 125 = .ok (.goto 4, 3) := by decide +kernel
theorem dL_isWell_128 : decode cL_isWell 128 = .ok (.iconst 0, 1) := by decide +kernel
theorem dL_isWell_129 : decode cL_isWell 129 = .ok (.iadd, 1) := by decide +kernel
theorem dL_isWell_130 : decode cL_isWell 130 = .ok (.istore_n 3, 1) := by decide +kernel
theorem dL_isWell_131 : decode cL_isWell 131 = .ok (.iload 4, 2) := by decide +kernel
theorem dL_isWell_133 : decode cL_isWell 133 = .ok (.iload 8, 2) := by decide +kernel
theorem dL_isWell_135 : decode cL_isWell 135 = .ok (.iconst 4, 1) := by decide +kernel
theorem dL_isWell_136 : decode cL_isWell 136 = .ok (.irem, 1) := by decide +kernel
theorem dL_isWell_137 : decode cL_isWell 137 = .ok (.iconst 2, 1) := by decide +kernel
theorem dL_isWell_138 : decode cL_isWell 138 = .ok (.if_icmp .ne 7, 3) := by decide +kernel
theorem dL_isWell_141 : decode cL_isWell 141 = .ok (.iconst 1, 1) := by decide +kernel
theorem dL_isWell_142 : decode cL_isWell 142 = .ok (.goto 4, 3) := by decide +kernel
theorem dL_isWell_145 : decode cL_isWell 145 = .ok (.iconst 0, 1) := by decide +kernel
theorem dL_isWell_146 : decode cL_isWell 146 = .ok (.iadd, 1) := by decide +kernel
theorem dL_isWell_147 : decode cL_isWell 147 = .ok (.istore 4, 2) := by decide +kernel
theorem dL_isWell_149 : decode cL_isWell 149 = .ok (.iinc 7 1, 3) := by decide +kernel
theorem dL_isWell_152 : decode cL_isWell 152 = .ok (.goto (-132), 3) := by decide +kernel
theorem dL_isWell_155 : decode cL_isWell 155 = .ok (.iinc 6 1, 3) := by decide +kernel
theorem dL_isWell_158 : decode cL_isWell 158 = .ok (.goto (-147), 3) := by decide +kernel
theorem dL_isWell_161 : decode cL_isWell 161 = .ok (.iload 5, 2) := by decide +kernel
theorem dL_isWell_163 : decode cL_isWell 163 = .ok (.ifCond .eq 28, 3) := by decide +kernel
theorem dL_isWell_166 : decode cL_isWell 166 = .ok (.aload_n 0, 1) := by decide +kernel
theorem dL_isWell_167 : decode cL_isWell 167 = .ok (.iload_n 1, 1) := by decide +kernel
theorem dL_isWell_168 : decode cL_isWell 168 = .ok (.iconst 4, 1) := by decide +kernel
theorem dL_isWell_169 : decode cL_isWell 169 = .ok (.invokevirtual 14, 3) := by decide +kernel
theorem dL_isWell_172 : decode cL_isWell 172 = .ok (.iload 4, 2) := by decide +kernel
theorem dL_isWell_174 : decode cL_isWell 174 = .ok (.if_icmp .ne 17, 3) := by decide +kernel
theorem dL_isWell_177 : decode cL_isWell 177 = .ok (.aload_n 0, 1) := by decide +kernel
theorem dL_isWell_178 : decode cL_isWell 178 = .ok (.iload_n 1, 1) := by decide +kernel
theorem dL_isWell_179 : decode cL_isWell 179 = .ok (.iconst 5, 1) := by decide +kernel
theorem dL_isWell_180 : decode cL_isWell 180 = .ok (.invokevirtual 14, 3) := by decide +kernel
theorem dL_isWell_183 : decode cL_isWell 183 = .ok (.iload_n 3, 1) := by decide +kernel
theorem dL_isWell_184 : decode cL_isWell 184 = .ok (.if_icmp .ne 7, 3) := by decide +kernel
theorem dL_isWell_187 : decode cL_isWell 187 = .ok (.iconst 1, 1) := by decide +kernel
theorem dL_isWell_188 : decode cL_isWell 188 = .ok (.goto 4, 3) := by decide +kernel
theorem dL_isWell_191 : decode cL_isWell 191 = .ok (.iconst 0, 1) := by decide +kernel
theorem dL_isWell_192 : decode cL_isWell 192 = .ok (.ireturn, 1) := by decide +kernel
set_option maxRecDepth 1000000 in
set_option maxHeartbeats 4000000 in
theorem ggL_sum_X4_ofServer : GoodIn wsL_sum wsX4_ofServer := goodIn_ca (goodIn_ca (goodIn_r _ [8, 9, 10, 11, 12, 13, 14, 15, 7, 16, 17, 18, 19, 20, 21, 22, 23, 24, 25, 26, 27, 28, 29, 30, 31, 32, 33, 34, 35, 36, 37, 38, 39, 40, 41, 42, 43, 44, 45, 46, 47, 48, 49, 50, 51, 52, 53, 54, 55, 56, 57, 58, 59, 60, 61, 62, 63, 64, 65, 66, 67, 68, 69, 70, 71, 72, 73, 74, 75, 76, 77, 78, 79, 80, 81, 82, 83, 84, 85, 86, 87, 88, 89, 90, 91, 92] rfl (by decide +kernel)) (goodIn_sub (fun _ h => List.mem_cons_of_mem _ (List.mem_append_left _ (List.mem_append_right _ h))) (by decide +kernel))) (goodIn_sub (fun _ h => List.mem_cons_of_mem _ (List.mem_append_right _ h)) (by decide +kernel))
set_option maxRecDepth 20000 in
theorem gL_sum_X4_ofServer : GoodIn wsL_sum (wsV RL 14 RX4 yX4_ofServer wsX4_ofServer) := goodIn_app (goodIn_of _ (by decide +kernel)) ggL_sum_X4_ofServer
theorem dL_sum_0 : decode cL_sum 0 = .ok (.aload_n 0, 1) := by decide +kernel
theorem dL_sum_1 : decode cL_sum 1 = .ok (.iload_n 1, 1) := by decide +kernel
theorem dL_sum_2 : decode cL_sum 2 = .ok (.iconst 1, 1) := by decide +kernel
theorem dL_sum_3 : decode cL_sum 3 = .ok (.invokevirtual 14, 3) := by decide +kernel
theorem dL_sum_6 : decode cL_sum 6 = .ok (.sipush 1000, 3) := by decide +kernel
theorem dL_sum_9 : decode cL_sum 9 = .ok (.aload_n 0, 1) := by decide +kernel
theorem dL_sum_10 : decode cL_sum 10 = .ok (.iload_n 1, 1) := by decide +kernel
theorem dL_sum_11 : decode cL_sum 11 = .ok (.iconst 2, 1) := by decide +kernel
theorem dL_sum_12 : decode cL_sum 12 = .ok (.invokevirtual 14, 3) := by decide +kernel
theorem dL_sum_15 : decode cL_sum 15 = .ok (.imul, 1) := by decide +kernel
theorem dL_sum_16 : decode cL_sum 16 = .ok (.iadd, 1) := by decide +kernel
theorem dL_sum_17 : decode cL_sum 17 = .ok (.ldc 18, 2) := by decide +kernel
theorem dL_sum_19 : decode cL_sum 19 = .ok (.aload_n 0, 1) := by decide +kernel
theorem dL_sum_20 : decode cL_sum 20 = .ok (.iload_n 1, 1) := by decide +kernel
theorem dL_sum_21 : decode cL_sum 21 = .ok (.iconst 3, 1) := by decide +kernel
theorem dL_sum_22 : decode cL_sum 22 = .ok (.invokevirtual 14, 3) := by decide +kernel
theorem dL_sum_25 : decode cL_sum 25 = .ok (.imul, 1) := by decide +kernel
theorem dL_sum_26 : decode cL_sum 26 = .ok (.iadd, 1) := by decide +kernel
theorem dL_sum_27 : decode cL_sum 27 = .ok (.ldc 19, 2) := by decide +kernel
theorem dL_sum_29 : decode cL_sum 29 = .ok (.aload_n 0, 1) := by decide +kernel
theorem dL_sum_30 : decode cL_sum 30 = .ok (.iload_n 1, 1) := by decide +kernel
theorem dL_sum_31 : decode cL_sum 31 = .ok (.iconst 4, 1) := by decide +kernel
theorem dL_sum_32 : decode cL_sum 32 = .ok (.invokevirtual 14, 3) := by decide +kernel
theorem dL_sum_35 : decode cL_sum 35 = .ok (.imul, 1) := by decide +kernel
theorem dL_sum_36 : decode cL_sum 36 = .ok (.iadd, 1) := by decide +kernel
theorem dL_sum_37 : decode cL_sum 37 = .ok (.ldc 20, 2) := by decide +kernel
theorem dL_sum_39 : decode cL_sum 39 = .ok (.aload_n 0, 1) := by decide +kernel
theorem dL_sum_40 : decode cL_sum 40 = .ok (.iload_n 1, 1) := by decide +kernel
theorem dL_sum_41 : decode cL_sum 41 = .ok (.iconst 5, 1) := by decide +kernel
theorem dL_sum_42 : decode cL_sum 42 = .ok (.invokevirtual 14, 3) := by decide +kernel
theorem dL_sum_45 : decode cL_sum 45 = .ok (.bipush 10, 2) := by decide +kernel
theorem dL_sum_47 : decode cL_sum 47 = .ok (.irem, 1) := by decide +kernel
theorem dL_sum_48 : decode cL_sum 48 = .ok (.imul, 1) := by decide +kernel
theorem dL_sum_49 : decode cL_sum 49 = .ok (.iadd, 1) := by decide +kernel
theorem dL_sum_50 : decode cL_sum 50 = .ok (.ireturn, 1) := by decide +kernel
set_option maxRecDepth 1000000 in
set_option maxHeartbeats 4000000 in
theorem ggL_isFollow_X4_follow : GoodIn wsL_isFollow wsX4_follow := goodIn_ca (goodIn_ca (goodIn_ca (goodIn_r _ [6, 7, 8, 9, 10, 11, 12, 13, 14, 15, 5, 16, 17, 18, 19, 20, 21, 22, 23, 24, 25, 26, 27, 28, 29, 30, 31, 32, 33, 34, 35, 36, 37, 38, 39, 40, 41, 42, 43, 44, 45, 46, 47, 48, 49, 50, 51, 52, 53, 54, 55, 56, 57, 58, 59, 60, 61, 62, 63, 64, 65, 66, 67, 68, 69, 70, 71, 72, 73, 74, 75, 76, 77, 78, 79, 80, 81, 82, 83, 84, 85, 86, 87, 88, 89, 90, 91, 92, 93, 94, 95, 96, 97, 98, 99, 100, 101, 102, 103, 104, 105, 106, 107, 108, 109, 110, 111, 112, 113, 114, 115, 116, 117, 118, 119, 120, 121, 122, 123, 124, 125, 126, 127, 128, 129, 130, 131, 132, 133, 134, 135, 136, 137, 138, 139, 140, 141, 142, 143, 144, 145, 146, 147, 148, 149, 150, 151, 152, 153, 154, 155, 156, 157, 158, 159, 160, 161, 162, 163, 164, 165, 166, 167, 168, 169, 170, 171, 172, 173, 174, 175, 176, 177, 178, 179, 180, 181, 182, 183, 184, 185, 186, 187, 188, 189, 190, 191, 192, 193, 194, 195, 196, 197, 198, 199, 200, 201, 202, 203, 204, 205, 206, 207, 208, 209, 210, 211, 212, 213, 214, 215, 216, 217, 218, 219, 220, 221, 222, 223, 224, 225, 226, 227, 228, 229, 230, 231, 232, 233, 234, 235, 236, 237, 238, 239, 240, 241, 242, 243, 244, 245, 246, 247, 248, 249, 250, 251, 252, 253] rfl (by decide +kernel)) (goodIn_sub (fun _ h => List.mem_cons_of_mem _ (List.mem_append_left _ (List.mem_append_left _ (List.mem_append_right _ h)))) (by decide +kernel))) (goodIn_sub (fun _ h => List.mem_cons_of_mem _ (List.mem_append_left _ (List.mem_append_right _ h))) (by decide +kernel))) (goodIn_sub (fun _ h => List.mem_cons_of_mem _ (List.mem_append_right _ h)) (by decide +kernel))
set_option maxRecDepth 20000 in
theorem gL_isFollow_X4_follow : GoodIn wsL_isFollow (wsV RL 21 RX4 yX4_follow wsX4_follow) := goodIn_app (goodIn_of _ (by decide +kernel)) ggL_isFollow_X4_follow
theorem dL_isFollow_0 : decode cL_isFollow 0 = .ok (.aload_n 0, 1) := by decide +kernel
theorem dL_isFollow_1 : decode cL_isFollow 1 = .ok (.iload_n 1, 1) := by decide +kernel
theorem dL_isFollow_2 : decode cL_isFollow 2 = .ok (.iload_n 2, 1) := by decide +kernel
theorem dL_isFollow_3 : decode cL_isFollow 3 = .ok (.invokevirtual 21, 3) := by decide +kernel
theorem dL_isFollow_6 : decode cL_isFollow 6 = .ok (.goto 6, 3) := by decide +kernel
theorem dL_isFollow_9 : decode cL_isFollow 9 = .ok (.astore_n 3, 1) := by decide +kernel
theorem dL_isFollow_10 : decode cL_isFollow 10 = .ok (.iconst 0, 1) := by decide +kernel
theorem dL_isFollow_11 : decode cL_isFollow 11 = .ok (.ireturn, 1) := by decide +kernel
theorem dL_isFollow_12 : decode cL_isFollow 12 = .ok (.iconst 1, 1) := by decide +kernel
theorem dL_isFollow_13 : decode cL_isFollow 13 = .ok (.ireturn, 1) := by decide +kernel
set_option maxRecDepth 1000000 in
set_option maxHeartbeats 4000000 in
theorem ggL_isAnswer_X4_answer : GoodIn wsL_isAnswer wsX4_answer := goodIn_ca (goodIn_ca (goodIn_r _ [6, 7, 8, 9, 10, 11, 12, 13, 14, 15, 5, 16, 17, 18, 19, 20, 21, 22, 23, 24, 25, 26, 27, 28, 29, 30, 31, 32, 33, 34, 35, 36, 37, 38, 39, 40, 41, 42, 43, 44, 45, 46, 47, 48, 49, 50, 51, 52, 53, 54, 55, 56, 57, 58, 59, 60, 61, 62, 63, 64, 65, 66, 67, 68, 69, 70, 71, 72, 73, 74, 75, 76, 77, 78, 79, 80, 81, 82, 83, 84, 85, 86, 87, 88, 89, 90, 91, 92, 93, 94, 95, 96, 97, 98, 99, 100, 101, 102, 103, 104, 105, 106, 107, 108, 109, 110, 111, 112, 113, 114, 115, 116, 117, 118, 119, 120, 121, 122, 123, 124, 125, 126, 127, 128, 129, 130, 131, 132, 133, 134, 135, 136, 137, 138, 139, 140, 141, 142, 143, 144, 145, 146, 147, 148, 149, 150, 151, 152, 153, 154, 155, 156, 157, 158, 159, 160, 161, 162, 163, 164, 165, 166, 167, 168, 169, 170, 171, 172, 173, 174, 175, 176, 177, 178, 179, 180, 181, 182, 183, 184, 185, 186, 187, 188, 189, 190, 191, 192, 193, 194, 195, 196, 197, 198, 199, 200, 201, 202, 203, 204, 205, 206, 207, 208, 209, 210, 211, 212, 213, 214, 215, 216, 217, 218, 219, 220, 221, 222, 223, 224, 225, 226, 227, 228, 229, 230, 231, 232, 233, 234, 235, 236, 237, 238, 239, 240, 241, 242, 243, 244, 245, 246] rfl (by decide +kernel)) (goodIn_sub (fun _ h => List.mem_cons_of_mem _ (List.mem_append_left _ (List.mem_append_right _ h))) (by decide +kernel))) (goodIn_sub (fun _ h => List.mem_cons_of_mem _ (List.mem_append_right _ h)) (by decide +kernel))
set_option maxRecDepth 20000 in
theorem gL_isAnswer_X4_answer : GoodIn wsL_isAnswer (wsV RL 27 RX4 yX4_answer wsX4_answer) := goodIn_app (goodIn_of _ (by decide +kernel)) ggL_isAnswer_X4_answer
theorem dL_isAnswer_0 : decode cL_isAnswer 0 = .ok (.aload_n 0, 1) := by decide +kernel
theorem dL_isAnswer_1 : decode cL_isAnswer 1 = .ok (.iload_n 1, 1) := by decide +kernel
theorem dL_isAnswer_2 : decode cL_isAnswer 2 = .ok (.iload_n 2, 1) := by decide +kernel
theorem dL_isAnswer_3 : decode cL_isAnswer 3 = .ok (.iload_n 3, 1) := by decide +kernel
theorem dL_isAnswer_4 : decode cL_isAnswer 4 = .ok (.invokevirtual 27, 3) := by decide +kernel
theorem dL_isAnswer_7 : decode cL_isAnswer 7 = .ok (.goto 7, 3) := by decide +kernel
theorem dL_isAnswer_10 : decode cL_isAnswer 10 = .ok (.astore 4, 2) := by decide +kernel
theorem dL_isAnswer_12 : decode cL_isAnswer 12 = .ok (.iconst 0, 1) := by decide +kernel
theorem dL_isAnswer_13 : decode cL_isAnswer 13 = .ok (.ireturn, 1) := by decide +kernel
theorem dL_isAnswer_14 : decode cL_isAnswer 14 = .ok (.iconst 1, 1) := by decide +kernel
theorem dL_isAnswer_15 : decode cL_isAnswer 15 = .ok (.ireturn, 1) := by decide +kernel
set_option maxRecDepth 1000000 in
set_option maxHeartbeats 4000000 in
theorem ggL_isLeave_X4_leave : GoodIn wsL_isLeave wsX4_leave := goodIn_ca (goodIn_ca (goodIn_r _ [6, 7, 8, 9, 10, 11, 12, 13, 14, 15, 5, 16, 17, 18, 19, 20, 21, 22, 23, 24, 25, 26, 27, 28, 29, 30, 31, 32, 33, 34, 35, 36, 37, 38, 39, 40, 41, 42, 43, 44, 45, 46, 47, 48, 49, 50, 51, 52, 53, 54, 55, 56, 57, 58, 59, 60, 61, 62, 63, 64, 65, 66, 67, 68, 69, 70, 71, 72, 73, 74, 75, 76, 77, 78, 79, 80, 81, 82, 83, 84, 85, 86, 87, 88, 89, 90, 91, 92, 93, 94, 95, 96, 97, 98, 99, 100, 101, 102, 103, 104, 105, 106, 107, 108, 109, 110, 111, 112, 113, 114, 115, 116, 117, 118, 119, 120, 121, 122, 123, 124, 125, 126, 127, 128, 129, 130, 131, 132, 133, 134, 135, 136, 137, 138, 139, 140, 141, 142, 143, 144, 145, 146, 147, 148, 149, 150, 151, 152, 153, 154, 155, 156, 157, 158, 159, 160, 161, 162, 163, 164, 165, 166, 167, 168, 169, 170, 171, 172, 173, 174, 175, 176, 177, 178, 179, 180, 181, 182, 183, 184, 185, 186, 187, 188, 189, 190, 191, 192, 193, 194, 195, 196, 197, 198, 199, 200, 201, 202, 203, 204, 205, 206, 207, 208, 209, 210, 211, 212, 213, 214, 215, 216, 217, 218, 219, 220, 221, 222, 223, 224, 225, 226, 227, 228, 229, 230, 231, 232, 233, 234, 235, 236, 237, 238, 239, 240, 241, 242, 243, 244, 245, 246, 247] rfl (by decide +kernel)) (goodIn_sub (fun _ h => List.mem_cons_of_mem _ (List.mem_append_left _ (List.mem_append_right _ h))) (by decide +kernel))) (goodIn_sub (fun _ h => List.mem_cons_of_mem _ (List.mem_append_right _ h)) (by decide +kernel))
set_option maxRecDepth 20000 in
theorem gL_isLeave_X4_leave : GoodIn wsL_isLeave (wsV RL 31 RX4 yX4_leave wsX4_leave) := goodIn_app (goodIn_of _ (by decide +kernel)) ggL_isLeave_X4_leave
theorem dL_isLeave_0 : decode cL_isLeave 0 = .ok (.aload_n 0, 1) := by decide +kernel
theorem dL_isLeave_1 : decode cL_isLeave 1 = .ok (.iload_n 1, 1) := by decide +kernel
theorem dL_isLeave_2 : decode cL_isLeave 2 = .ok (.iload_n 2, 1) := by decide +kernel
theorem dL_isLeave_3 : decode cL_isLeave 3 = .ok (.invokevirtual 31, 3) := by decide +kernel
theorem dL_isLeave_6 : decode cL_isLeave 6 = .ok (.goto 6, 3) := by decide +kernel
theorem dL_isLeave_9 : decode cL_isLeave 9 = .ok (.astore_n 3, 1) := by decide +kernel
theorem dL_isLeave_10 : decode cL_isLeave 10 = .ok (.iconst 0, 1) := by decide +kernel
theorem dL_isLeave_11 : decode cL_isLeave 11 = .ok (.ireturn, 1) := by decide +kernel
theorem dL_isLeave_12 : decode cL_isLeave 12 = .ok (.iconst 1, 1) := by decide +kernel
theorem dL_isLeave_13 : decode cL_isLeave 13 = .ok (.ireturn, 1) := by decide +kernel
set_option maxRecDepth 1000000 in
set_option maxHeartbeats 4000000 in
theorem ggL_isMove_X4_move : GoodIn wsL_isMove wsX4_move := goodIn_ca (goodIn_ca (goodIn_r _ [6, 7, 8, 9, 10, 11, 12, 13, 14, 15, 5, 16, 17, 18, 19, 20, 21, 22, 23, 24, 25, 26, 27, 28, 29, 30, 31, 32, 33, 34, 35, 36, 37, 38, 39, 40, 41, 42, 43, 44, 45, 46, 47, 48, 49, 50, 51, 52, 53, 54, 55, 56, 57, 58, 59, 60, 61, 62, 63, 64, 65, 66, 67, 68, 69, 70, 71, 72, 73, 74, 75, 76, 77, 78, 79, 80, 81, 82, 83, 84, 85, 86, 87, 88, 89, 90, 91, 92, 93, 94, 95, 96, 97, 98, 99, 100, 101, 102, 103, 104, 105, 106, 107, 108, 109, 110, 111, 112, 113, 114, 115, 116, 117, 118, 119, 120, 121, 122, 123, 124, 125, 126, 127, 128, 129, 130, 131, 132, 133, 134, 135, 136, 137, 138, 139, 140, 141, 142, 143, 144, 145, 146, 147, 148, 149, 150, 151, 152, 153, 154, 155, 156, 157, 158, 159, 160, 161, 162, 163, 164, 165, 166, 167, 168, 169, 170, 171, 172, 173, 174, 175, 176, 177, 178, 179, 180, 181, 182, 183, 184, 185, 186, 187, 188, 189, 190, 191, 192, 193, 194, 195, 196, 197, 198, 199, 200, 201, 202, 203, 204, 205, 206, 207, 208, 209, 210, 211, 212, 213, 214, 215, 216, 217, 218, 219, 220, 221, 222, 223, 224, 225, 226, 227, 228, 229, 230, 231, 232, 233, 234, 235, 236, 237, 238, 239, 240, 241, 242, 243, 244, 245, 246, 247, 248, 249, 250, 251, 252, 253, 254, 255, 256] rfl (by decide +kernel)) (goodIn_sub (fun _ h => List.mem_cons_of_mem _ (List.mem_append_left _ (List.mem_append_right _ h))) (by decide +kernel))) (goodIn_sub (fun _ h => List.mem_cons_of_mem _ (List.mem_append_right _ h)) (by decide +kernel))
set_option maxRecDepth 20000 in
theorem gL_isMove_X4_move : GoodIn wsL_isMove (wsV RL 34 RX4 yX4_move wsX4_move) := goodIn_app (goodIn_of _ (by decide +kernel)) ggL_isMove_X4_move
theorem dL_isMove_0 : decode cL_isMove 0 = .ok (.aload_n 0, 1) := by decide +kernel
theorem dL_isMove_1 : decode cL_isMove 1 = .ok (.iload_n 1, 1) := by decide +kernel
theorem dL_isMove_2 : decode cL_isMove 2 = .ok (.iload_n 2, 1) := by decide +kernel
theorem dL_isMove_3 : decode cL_isMove 3 = .ok (.invokevirtual 34, 3) := by decide +kernel
theorem dL_isMove_6 : decode cL_isMove 6 = .ok (.ifCond .lt 7, 3) := by decide +kernel
theorem dL_isMove_9 : decode cL_isMove 9 = .ok (.iconst 1, 1) := by decide +kernel
theorem dL_isMove_10 : decode cL_isMove 10 = .ok (.goto 4, 3) := by decide +kernel
theorem dL_isMove_13 : decode cL_isMove 13 = .ok (.iconst 0, 1) := by decide +kernel
theorem dL_isMove_14 : decode cL_isMove 14 = .ok (.ireturn, 1) := by decide +kernel
theorem dL_isMove_15 : decode cL_isMove 15 = .ok (.astore_n 3, 1) := by decide +kernel
theorem dL_isMove_16 : decode cL_isMove 16 = .ok (.iconst 0, 1) := by decide +kernel
theorem dL_isMove_17 : decode cL_isMove 17 = .ok (.ireturn, 1) := by decide +kernel
set_option maxRecDepth 1000000 in
set_option maxHeartbeats 4000000 in
theorem ggL_isBoost_X4_boost : GoodIn wsL_isBoost wsX4_boost := goodIn_ca (goodIn_ca (goodIn_r _ [6, 7, 8, 9, 10, 11, 12, 13, 14, 15, 16, 17, 18, 19, 5, 20, 21, 22, 23, 24, 25, 26, 27, 28, 29, 30, 31, 32, 33, 34, 35, 36, 37, 38, 39, 40, 41, 42, 43, 44, 45, 46, 47, 48, 49, 50, 51, 52, 53, 54, 55, 56, 57, 58, 59, 60, 61, 62, 63, 64, 65, 66, 67, 68, 69, 70, 71, 72, 73, 74, 75, 76, 77, 78, 79, 80, 81, 82, 83, 84, 85, 86, 87, 88, 89, 90, 91, 92, 93, 94, 95, 96, 97, 98, 99, 100, 101, 102, 103, 104, 105, 106, 107, 108, 109, 110, 111, 112, 113, 114, 115, 116, 117, 118, 119, 120, 121, 122, 123, 124, 125, 126, 127, 128, 129, 130, 131, 132, 133, 134, 135, 136, 137, 138, 139, 140, 141, 142, 143, 144, 145, 146, 147, 148, 149, 150, 151, 152, 153, 154, 155, 156, 157, 158, 159, 160, 161, 162, 163, 164, 165, 166, 167, 168, 169, 170, 171, 172, 173, 174, 175, 176, 177, 178, 179, 180, 181, 182, 183, 184, 185, 186, 187, 188, 189, 190, 191, 192, 193, 194, 195, 196, 197, 198, 199, 200, 201, 202, 203, 204, 205, 206, 207, 208, 209, 210, 211, 212, 213, 214, 215, 216, 217, 218, 219, 220, 221, 222, 223, 224, 225, 226, 227, 228, 229, 230, 231, 232, 233, 234, 235, 236, 237, 238, 239, 240, 241, 242, 243, 244, 245, 246, 247, 248, 249, 250, 251, 252, 253, 254, 255, 256, 257, 258, 259, 260, 261, 262, 263] rfl (by decide +kernel)) (goodIn_sub (fun _ h => List.mem_cons_of_mem _ (List.mem_append_left _ (List.mem_append_right _ h))) (by decide +kernel))) (goodIn_sub (fun _ h => List.mem_cons_of_mem _ (List.mem_append_right _ h)) (by decide +kernel))
set_option maxRecDepth 20000 in
theorem gL_isBoost_X4_boost : GoodIn wsL_isBoost (wsV RL 37 RX4 yX4_boost wsX4_boost) := goodIn_app (goodIn_of _ (by decide +kernel)) ggL_isBoost_X4_boost
theorem dL_isBoost_0 : decode cL_isBoost 0 = .ok (.aload_n 0, 1) := by decide +kernel
theorem dL_isBoost_1 : decode cL_isBoost 1 = .ok (.iload_n 1, 1) := by decide +kernel
theorem dL_isBoost_2 : decode cL_isBoost 2 = .ok (.iload_n 2, 1) := by decide +kernel
theorem dL_isBoost_3 : decode cL_isBoost 3 = .ok (.invokevirtual 37, 3) := by decide +kernel
theorem dL_isBoost_6 : decode cL_isBoost 6 = .ok (.goto 6, 3) := by decide +kernel
theorem dL_isBoost_9 : decode cL_isBoost 9 = .ok (.astore_n 3, 1) := by decide +kernel
theorem dL_isBoost_10 : decode cL_isBoost 10 = .ok (.iconst 0, 1) := by decide +kernel
theorem dL_isBoost_11 : decode cL_isBoost 11 = .ok (.ireturn, 1) := by decide +kernel
theorem dL_isBoost_12 : decode cL_isBoost 12 = .ok (.iconst 1, 1) := by decide +kernel
theorem dL_isBoost_13 : decode cL_isBoost 13 = .ok (.ireturn, 1) := by decide +kernel
set_option maxRecDepth 1000000 in
set_option maxHeartbeats 4000000 in
theorem ggL_deletes_X4_delete : GoodIn wsL_deletes wsX4_delete := goodIn_ca (goodIn_ca (goodIn_r _ [6, 7, 8, 9, 10, 11, 12, 13, 14, 15, 16, 17, 18, 19, 5, 20, 21, 22, 23, 24, 25, 26, 27, 28, 29, 30, 31, 32, 33, 34, 35, 36, 37, 38, 39, 40, 41, 42, 43, 44, 45, 46, 47, 48, 49, 50, 51, 52, 53, 54, 55, 56, 57, 58, 59, 60, 61, 62, 63, 64, 65, 66, 67, 68, 69, 70, 71, 72, 73, 74, 75, 76, 77, 78, 79, 80, 81, 82, 83, 84, 85, 86, 87, 88, 89, 90, 91, 92, 93, 94, 95, 96, 97, 98, 99, 100, 101, 102, 103, 104, 105, 106, 107, 108, 109, 110, 111, 112, 113, 114, 115, 116, 117, 118, 119, 120, 121, 122, 123, 124, 125, 126, 127, 128, 129, 130, 131, 132, 133, 134, 135, 136, 137, 138, 139, 140, 141, 142, 143, 144, 145, 146, 147, 148, 149, 150, 151, 152, 153, 154, 155, 156, 157, 158, 159, 160, 161, 162, 163, 164, 165, 166, 167, 168, 169, 170, 171, 172, 173, 174, 175, 176, 177, 178, 179, 180, 181, 182, 183, 184, 185, 186, 187, 188, 189, 190, 191, 192, 193, 194, 195, 196, 197, 198, 199, 200, 201, 202, 203, 204, 205, 206, 207, 208, 209, 210, 211, 212, 213, 214, 215, 216, 217, 218, 219, 220, 221, 222, 223, 224, 225, 226, 227, 228, 229, 230, 231, 232, 233, 234, 235, 236, 237, 238, 239, 240, 241, 242, 243, 244, 245, 246, 247, 248, 249, 250, 251, 252, 253, 254, 255, 256, 257, 258] rfl (by decide +kernel)) (goodIn_sub (fun _ h => List.mem_cons_of_mem _ (List.mem_append_left _ (List.mem_append_right _ h))) (by decide +kernel))) (goodIn_sub (fun _ h => List.mem_cons_of_mem _ (List.mem_append_right _ h)) (by decide +kernel))
set_option maxRecDepth 20000 in
theorem gL_deletes_X4_delete : GoodIn wsL_deletes (wsV RL 40 RX4 yX4_delete wsX4_delete) := goodIn_app (goodIn_of _ (by decide +kernel)) ggL_deletes_X4_delete
theorem dL_deletes_0 : decode cL_deletes 0 = .ok (.aload_n 0, 1) := by decide +kernel
theorem dL_deletes_1 : decode cL_deletes 1 = .ok (.iload_n 1, 1) := by decide +kernel
theorem dL_deletes_2 : decode cL_deletes 2 = .ok (.invokevirtual 40, 3) := by decide +kernel
theorem dL_deletes_5 : decode cL_deletes 5 = .ok (.ireturn, 1) := by decide +kernel
theorem dL_deletes_6 : decode cL_deletes 6 = .ok (.astore_n 2, 1) := by decide +kernel
theorem dL_deletes_7 : decode cL_deletes 7 = .ok (.iconst (-1), 1) := by decide +kernel
theorem dL_deletes_8 : decode cL_deletes 8 = .ok (.ireturn, 1) := by decide +kernel
set_option maxRecDepth 1000000 in
set_option maxHeartbeats 4000000 in
theorem ggL_law_X4_init : GoodIn wsL_law wsX4_init := goodIn_r _ [6, 7, 8, 9, 10, 11, 12, 13, 3, 14, 15, 16, 17, 18, 19, 20, 21, 22, 23, 24, 25, 26, 27, 28, 29, 30, 31, 32, 33, 34, 35, 36, 37, 38, 39, 40, 41, 42, 43, 44, 45, 46, 47, 48, 49, 50, 51, 52, 53, 54, 55, 56, 57, 58, 59, 60, 61, 62, 472, 473, 474, 475, 476, 466, 467, 468, 469, 470, 471, 477, 478, 479, 480, 481, 482, 483, 484, 485, 486] rfl (by decide +kernel)
set_option maxRecDepth 20000 in
theorem gL_law_X4_init : GoodIn wsL_law (wsX4_init) := ggL_law_X4_init
set_option maxRecDepth 1000000 in
set_option maxHeartbeats 4000000 in
theorem ggL_law_L_drawn : GoodIn wsL_law wsL_drawn := goodIn_r _ [66, 67] rfl (by decide +kernel)
set_option maxRecDepth 20000 in
theorem gL_law_L_drawn : GoodIn wsL_law (va_wsS RL 45 yL_drawn wsL_drawn) := goodIn_app (goodIn_of _ (by decide +kernel)) ggL_law_L_drawn
set_option maxRecDepth 1000000 in
set_option maxHeartbeats 4000000 in
theorem ggL_law_X4_person : GoodIn wsL_law wsX4_person := goodIn_ca (goodIn_ca (goodIn_r _ [71, 72, 73, 23, 14, 74, 75, 2, 76, 77, 78, 466, 467, 468, 469, 470, 471] rfl (by decide +kernel)) (goodIn_sub (fun _ h => List.mem_append_left _ (List.mem_append_left _ (List.mem_append_right _ h))) (by decide +kernel))) (goodIn_sub (fun _ h => List.mem_append_left _ (List.mem_append_right _ h)) (by decide +kernel))
set_option maxRecDepth 20000 in
theorem gL_law_X4_person : GoodIn wsL_law (wsV RL 51 RX4 yX4_person wsX4_person) := goodIn_app (goodIn_of _ (by decide +kernel)) ggL_law_X4_person
set_option maxRecDepth 1000000 in
set_option maxHeartbeats 4000000 in
theorem ggL_law_X4_ofServer : GoodIn wsL_law wsX4_ofServer := goodIn_ca (goodIn_ca (goodIn_r _ [82, 83, 84, 13, 85, 86, 74, 75, 2, 76, 77, 78, 87, 88, 89, 12, 90, 32, 35, 91, 92, 93, 17, 94, 95, 96, 97, 98, 99, 21, 100, 45, 46, 101, 102, 103, 104, 105, 106, 107, 108, 109, 110, 111, 112, 113, 114, 115, 116, 40, 117, 118, 119, 120, 121, 122, 123, 124, 125, 126, 127, 128, 129, 130, 39, 466, 467, 468, 469, 470, 471, 472, 473, 474, 475, 476, 477, 478, 479, 480, 481, 482, 483, 484, 485, 486] rfl (by decide +kernel)) (goodIn_sub (fun _ h => List.mem_append_right _ h) (by decide +kernel))) (goodIn_sub (fun _ h => List.mem_append_left _ (List.mem_append_right _ h)) (by decide +kernel))
set_option maxRecDepth 20000 in
theorem gL_law_X4_ofServer : GoodIn wsL_law (wsV RL 14 RX4 yX4_ofServer wsX4_ofServer) := goodIn_app (goodIn_of _ (by decide +kernel)) ggL_law_X4_ofServer
set_option maxRecDepth 1000000 in
set_option maxHeartbeats 4000000 in
theorem ggL_law_X4_between : GoodIn wsL_law wsX4_between := goodIn_ca (goodIn_r _ [134, 13, 86, 74, 75, 2, 76, 77, 78, 135, 136, 137, 138, 139, 140, 141, 142, 23, 143, 144, 145, 21, 146, 39, 147, 148, 149, 150, 151, 152, 40, 153, 154, 155, 156, 41, 466, 467, 468, 469, 470, 471, 472, 473, 474, 475, 476, 480, 481, 482, 483, 484, 485, 486] rfl (by decide +kernel)) (goodIn_sub (fun _ h => List.mem_append_left _ (List.mem_append_right _ h)) (by decide +kernel))
set_option maxRecDepth 20000 in
theorem gL_law_X4_between : GoodIn wsL_law (wsV RL 8 RX4 yX4_between wsX4_between) := goodIn_app (goodIn_of _ (by decide +kernel)) ggL_law_X4_between
set_option maxRecDepth 1000000 in
set_option maxHeartbeats 4000000 in
theorem ggL_law_L_isFollow : GoodIn wsL_law wsL_isFollow := goodIn_ca (goodIn_ca (goodIn_ca (goodIn_r _ [159, 160, 161, 162, 163, 2, 164, 72, 73, 165, 166, 167, 24, 135, 136, 137, 138, 139, 140, 141, 142, 77, 78, 23, 168, 169, 170, 83, 84, 171, 172, 173, 174, 13, 14, 86, 143, 144, 145, 21, 146, 39, 147, 148, 149, 150, 151, 152, 40, 175, 176, 177, 178, 41, 179, 180, 181, 182, 8, 9, 183, 184, 185, 186, 187, 188, 189, 190, 191, 192, 193, 194, 195, 196, 197, 198, 199, 200, 201, 202, 203, 204, 205, 206, 207, 208, 17, 209, 210, 211, 51, 95, 212, 213, 214, 215, 216, 217, 218, 219, 220, 221, 222, 223, 50, 224, 225, 226, 227, 228, 229, 230, 231, 232, 233, 234, 235, 236, 237, 238, 239, 240, 241, 242, 243, 244, 245, 246, 247, 248, 249, 250, 251, 252, 253, 254, 255, 256, 257, 258, 259, 260, 261, 262, 263, 85, 264, 265, 266, 267, 268, 269, 270, 42, 271, 45, 46, 44, 272, 273, 274, 275, 276, 277, 278, 279, 280, 281, 282, 283, 284, 285, 286, 287, 288, 289, 290, 291, 292, 293, 294, 295, 296, 297, 298, 299, 18, 300, 301, 302, 303, 304, 305, 306, 307, 308, 309, 310, 311, 312, 313, 314, 315, 316, 317, 318, 319, 320, 321, 322, 323, 324, 325, 326, 327, 328, 329, 330, 331, 332, 333, 334, 487, 488, 489, 490, 491, 466, 467, 468, 469, 470, 471, 472, 473, 474, 475, 476, 480, 481, 482, 483, 484, 485, 486, 477, 478, 479, 492, 493, 494, 495, 496, 497] rfl (by decide +kernel)) (goodIn_sub (fun _ h => List.mem_append_left _ (List.mem_append_left _ (List.mem_append_right _ h))) (by decide +kernel))) (goodIn_sub (fun _ h => List.mem_append_left _ (List.mem_append_right _ h)) (by decide +kernel))) (goodIn_sub (fun _ h => List.mem_append_right _ h) (by decide +kernel))
set_option maxRecDepth 20000 in
theorem gL_law_L_isFollow : GoodIn wsL_law (va_wsS RL 54 yL_isFollow wsL_isFollow) := goodIn_app (goodIn_of _ (by decide +kernel)) ggL_law_L_isFollow
set_option maxRecDepth 1000000 in
set_option maxHeartbeats 4000000 in
theorem ggL_law_L_isAnswer : GoodIn wsL_law wsL_isAnswer := goodIn_ca (goodIn_ca (goodIn_r _ [337, 160, 338, 339, 340, 2, 341, 72, 73, 165, 166, 167, 24, 135, 136, 137, 138, 139, 140, 141, 142, 77, 78, 23, 171, 172, 173, 174, 13, 14, 86, 143, 144, 145, 21, 146, 39, 147, 148, 179, 180, 181, 182, 8, 9, 183, 184, 185, 186, 187, 188, 189, 190, 191, 192, 193, 194, 195, 196, 197, 198, 199, 200, 201, 202, 203, 204, 205, 206, 207, 208, 17, 209, 210, 211, 51, 95, 212, 213, 214, 215, 216, 217, 218, 219, 220, 221, 222, 223, 50, 224, 225, 226, 227, 228, 229, 230, 231, 232, 233, 234, 235, 236, 237, 238, 239, 240, 241, 242, 243, 244, 245, 246, 247, 248, 249, 250, 251, 252, 253, 254, 255, 256, 257, 258, 259, 260, 261, 262, 263, 85, 264, 265, 266, 267, 268, 269, 270, 41, 42, 271, 45, 46, 44, 272, 273, 274, 275, 276, 150, 151, 152, 40, 277, 176, 177, 178, 278, 279, 280, 281, 282, 283, 284, 285, 286, 287, 288, 289, 290, 291, 292, 293, 294, 295, 296, 297, 298, 299, 18, 300, 301, 302, 303, 304, 305, 306, 307, 308, 309, 310, 311, 312, 313, 314, 315, 316, 317, 318, 319, 320, 321, 322, 323, 324, 325, 326, 327, 328, 329, 330, 331, 332, 333, 334, 487, 488, 489, 490, 491, 466, 467, 468, 469, 470, 471, 472, 473, 474, 475, 476, 480, 481, 482, 483, 484, 485, 486, 477, 478, 479, 492, 493, 494, 495, 496, 497] rfl (by decide +kernel)) (goodIn_sub (fun _ h => List.mem_append_left _ (List.mem_append_left _ (List.mem_append_right _ h))) (by decide +kernel))) (goodIn_sub (fun _ h => List.mem_append_left _ (List.mem_append_right _ h)) (by decide +kernel))
set_option maxRecDepth 20000 in
theorem gL_law_L_isAnswer : GoodIn wsL_law (va_wsS RL 58 yL_isAnswer wsL_isAnswer) := goodIn_app (goodIn_of _ (by decide +kernel)) ggL_law_L_isAnswer
set_option maxRecDepth 1000000 in
set_option maxHeartbeats 4000000 in
theorem ggL_law_L_isLeave : GoodIn wsL_law wsL_isLeave := goodIn_ca (goodIn_ca (goodIn_r _ [344, 160, 345, 346, 347, 2, 348, 72, 73, 165, 166, 167, 24, 135, 136, 137, 138, 139, 140, 141, 142, 77, 78, 23, 171, 172, 173, 174, 13, 14, 86, 143, 144, 145, 21, 146, 39, 147, 148, 149, 150, 151, 152, 40, 179, 180, 181, 182, 8, 9, 183, 184, 185, 186, 187, 188, 189, 190, 191, 192, 193, 194, 195, 196, 197, 198, 199, 200, 201, 202, 203, 204, 205, 206, 207, 208, 17, 209, 210, 211, 51, 95, 212, 213, 214, 215, 216, 217, 218, 219, 220, 221, 222, 223, 50, 224, 225, 226, 227, 228, 229, 230, 231, 232, 233, 234, 235, 236, 237, 238, 239, 240, 241, 242, 243, 244, 245, 246, 247, 248, 249, 250, 251, 252, 253, 254, 255, 256, 257, 258, 259, 260, 261, 262, 263, 85, 264, 265, 266, 267, 268, 269, 270, 41, 42, 271, 45, 46, 44, 272, 273, 274, 275, 276, 277, 176, 177, 178, 278, 279, 280, 281, 282, 283, 284, 285, 286, 287, 288, 289, 290, 291, 292, 293, 294, 295, 296, 297, 298, 299, 18, 300, 301, 302, 303, 304, 305, 306, 307, 308, 309, 310, 311, 312, 313, 314, 315, 316, 317, 318, 319, 320, 321, 322, 323, 324, 325, 326, 327, 328, 329, 330, 331, 332, 333, 334, 487, 488, 489, 490, 491, 466, 467, 468, 469, 470, 471, 472, 473, 474, 475, 476, 480, 481, 482, 483, 484, 485, 486, 477, 478, 479, 492, 493, 494, 495, 496, 497] rfl (by decide +kernel)) (goodIn_sub (fun _ h => List.mem_append_left _ (List.mem_append_left _ (List.mem_append_right _ h))) (by decide +kernel))) (goodIn_sub (fun _ h => List.mem_append_left _ (List.mem_append_right _ h)) (by decide +kernel))
set_option maxRecDepth 20000 in
theorem gL_law_L_isLeave : GoodIn wsL_law (va_wsS RL 62 yL_isLeave wsL_isLeave) := goodIn_app (goodIn_of _ (by decide +kernel)) ggL_law_L_isLeave
set_option maxRecDepth 1000000 in
set_option maxHeartbeats 4000000 in
theorem ggL_law_X4_block : GoodIn wsL_law wsX4_block := goodIn_ca (goodIn_ca (goodIn_ca (goodIn_r _ [352, 72, 73, 165, 166, 167, 24, 135, 136, 137, 2, 138, 139, 140, 141, 142, 77, 78, 23, 168, 169, 170, 83, 84, 171, 172, 173, 174, 13, 14, 86, 153, 154, 155, 21, 156, 41, 147, 148, 179, 180, 181, 182, 8, 9, 183, 184, 185, 186, 187, 188, 189, 190, 191, 192, 193, 194, 195, 196, 197, 198, 199, 200, 201, 202, 203, 204, 205, 206, 207, 208, 17, 209, 210, 211, 51, 95, 212, 213, 214, 215, 216, 217, 218, 219, 220, 221, 222, 223, 50, 224, 225, 226, 227, 228, 229, 230, 231, 232, 233, 234, 235, 236, 237, 238, 239, 240, 241, 242, 243, 244, 245, 246, 247, 248, 249, 250, 251, 252, 253, 254, 255, 256, 257, 258, 259, 260, 261, 262, 263, 85, 264, 265, 266, 267, 268, 269, 270, 39, 42, 271, 45, 46, 44, 272, 273, 274, 275, 276, 150, 151, 152, 40, 277, 176, 177, 178, 278, 279, 280, 281, 282, 144, 145, 146, 283, 284, 285, 286, 287, 288, 289, 290, 291, 292, 293, 294, 295, 296, 297, 298, 299, 18, 300, 301, 302, 303, 304, 305, 306, 307, 308, 309, 310, 311, 312, 313, 314, 315, 316, 317, 318, 319, 320, 321, 322, 323, 324, 325, 326, 327, 328, 329, 330, 331, 332, 333, 334, 487, 488, 489, 490, 491, 466, 467, 468, 469, 470, 471, 472, 473, 474, 475, 476, 480, 481, 482, 483, 484, 485, 486, 477, 478, 479, 492, 493, 494, 495, 496, 497] rfl (by decide +kernel)) (goodIn_sub (fun _ h => List.mem_append_left _ (List.mem_append_left _ (List.mem_append_right _ h))) (by decide +kernel))) (goodIn_sub (fun _ h => List.mem_append_left _ (List.mem_append_right _ h)) (by decide +kernel))) (goodIn_sub (fun _ h => List.mem_append_right _ h) (by decide +kernel))
set_option maxRecDepth 20000 in
theorem gL_law_X4_block : GoodIn wsL_law (wsV RL 65 RX4 yX4_block wsX4_block) := goodIn_app (goodIn_of _ (by decide +kernel)) ggL_law_X4_block
set_option maxRecDepth 1000000 in
set_option maxHeartbeats 4000000 in
theorem ggL_law_X4_alias : GoodIn wsL_law wsX4_alias := goodIn_ca (goodIn_ca (goodIn_r _ [356, 165, 166, 167, 24, 135, 136, 137, 2, 138, 139, 140, 141, 142, 77, 78, 23, 168, 169, 170, 83, 84, 179, 180, 181, 182, 8, 9, 183, 184, 185, 186, 187, 188, 189, 190, 191, 14, 192, 193, 194, 195, 196, 197, 198, 199, 200, 201, 202, 203, 13, 204, 205, 147, 148, 206, 207, 208, 17, 209, 210, 211, 51, 95, 212, 213, 214, 215, 216, 217, 218, 219, 220, 221, 222, 223, 50, 224, 225, 226, 227, 228, 229, 230, 231, 232, 233, 234, 235, 236, 237, 238, 239, 240, 241, 242, 243, 244, 245, 246, 247, 248, 249, 250, 251, 252, 253, 254, 255, 256, 257, 258, 259, 260, 261, 262, 263, 85, 86, 264, 265, 266, 21, 267, 268, 269, 270, 39, 41, 42, 271, 45, 46, 44, 272, 273, 274, 275, 276, 150, 151, 152, 40, 277, 176, 177, 178, 278, 279, 280, 281, 282, 144, 145, 146, 283, 284, 285, 286, 287, 288, 289, 290, 291, 292, 293, 294, 295, 296, 297, 298, 299, 18, 300, 301, 302, 303, 304, 305, 306, 307, 308, 309, 310, 311, 312, 313, 314, 315, 316, 317, 318, 319, 320, 321, 322, 323, 324, 325, 326, 327, 328, 329, 330, 331, 332, 333, 334, 487, 488, 489, 490, 491, 466, 467, 468, 469, 470, 471, 472, 473, 474, 475, 476, 477, 478, 479, 480, 481, 482, 483, 484, 485, 486, 492, 493, 494, 495, 496, 497] rfl (by decide +kernel)) (goodIn_sub (fun _ h => List.mem_append_left _ (List.mem_append_right _ h)) (by decide +kernel))) (goodIn_sub (fun _ h => List.mem_append_right _ h) (by decide +kernel))
set_option maxRecDepth 20000 in
theorem gL_law_X4_alias : GoodIn wsL_law (wsV RL 68 RX4 yX4_alias wsX4_alias) := goodIn_app (goodIn_of _ (by decide +kernel)) ggL_law_X4_alias
set_option maxRecDepth 1000000 in
set_option maxHeartbeats 4000000 in
theorem ggL_law_L_isMove : GoodIn wsL_law wsL_isMove := goodIn_ca (goodIn_ca (goodIn_r _ [359, 160, 360, 361, 362, 2, 363, 72, 73, 165, 166, 167, 24, 135, 136, 137, 138, 139, 140, 141, 142, 77, 78, 23, 171, 172, 173, 174, 13, 14, 86, 364, 365, 366, 21, 367, 42, 147, 148, 327, 328, 329, 330, 276, 150, 151, 152, 40, 193, 194, 179, 180, 181, 182, 8, 9, 183, 184, 185, 186, 187, 331, 332, 333, 334, 205, 188, 189, 190, 191, 192, 195, 196, 197, 198, 199, 200, 201, 202, 203, 204, 206, 207, 208, 17, 209, 210, 211, 51, 95, 212, 213, 214, 215, 216, 217, 218, 219, 220, 221, 222, 223, 50, 224, 225, 226, 227, 228, 229, 230, 231, 232, 233, 234, 235, 236, 237, 238, 239, 240, 241, 242, 243, 244, 245, 246, 247, 248, 249, 250, 251, 252, 253, 254, 255, 256, 257, 258, 259, 260, 261, 262, 263, 85, 264, 265, 266, 267, 268, 269, 270, 39, 41, 271, 45, 46, 44, 272, 273, 274, 275, 277, 176, 177, 178, 278, 279, 280, 281, 282, 144, 145, 146, 283, 284, 285, 286, 287, 288, 289, 290, 291, 292, 293, 294, 295, 296, 297, 298, 299, 18, 300, 301, 302, 303, 304, 305, 306, 307, 308, 309, 310, 311, 312, 313, 314, 315, 316, 317, 318, 319, 320, 321, 322, 323, 324, 325, 326, 368, 121, 122, 123, 124, 125, 126, 487, 488, 489, 490, 491, 466, 467, 468, 469, 470, 471, 472, 473, 474, 475, 476, 480, 481, 482, 483, 484, 485, 486, 477, 478, 479, 492, 493, 494, 495, 496, 497] rfl (by decide +kernel)) (goodIn_sub (fun _ h => List.mem_append_left _ (List.mem_append_left _ (List.mem_append_right _ h))) (by decide +kernel))) (goodIn_sub (fun _ h => List.mem_append_left _ (List.mem_append_right _ h)) (by decide +kernel))
set_option maxRecDepth 20000 in
theorem gL_law_L_isMove : GoodIn wsL_law (va_wsS RL 71 yL_isMove wsL_isMove) := goodIn_app (goodIn_of _ (by decide +kernel)) ggL_law_L_isMove
set_option maxRecDepth 1000000 in
set_option maxHeartbeats 4000000 in
theorem ggL_law_X4_sees : GoodIn wsL_law wsX4_sees := goodIn_ca (goodIn_r _ [372, 18, 301, 139, 140, 141, 2, 142, 77, 78, 23, 373, 374, 375, 376, 96, 92, 93, 17, 94, 95, 171, 172, 173, 174, 13, 14, 86, 305, 306, 307, 308, 309, 310, 311, 312, 313, 314, 315, 316, 317, 318, 319, 320, 51, 377, 378, 379, 21, 380, 45, 46, 101, 381, 382, 383, 384, 385, 277, 176, 177, 178, 41, 147, 148, 276, 150, 151, 152, 40, 466, 467, 468, 469, 470, 471, 477, 478, 479, 472, 473, 474, 475, 476, 480, 481, 482, 483, 484, 485, 486, 492, 493, 494, 495, 496, 497] rfl (by decide +kernel)) (goodIn_sub (fun _ h => List.mem_append_left _ (List.mem_append_right _ h)) (by decide +kernel))
set_option maxRecDepth 20000 in
theorem gL_law_X4_sees : GoodIn wsL_law (wsV RL 74 RX4 yX4_sees wsX4_sees) := goodIn_app (goodIn_of _ (by decide +kernel)) ggL_law_X4_sees
set_option maxRecDepth 1000000 in
set_option maxHeartbeats 4000000 in
theorem ggL_law_X4_post : GoodIn wsL_law wsX4_post := goodIn_ca (goodIn_ca (goodIn_ca (goodIn_r _ [389, 83, 84, 72, 73, 23, 18, 301, 325, 390, 391, 392, 165, 166, 167, 24, 326, 139, 140, 141, 2, 142, 77, 78, 373, 374, 375, 376, 96, 92, 93, 17, 94, 95, 171, 172, 173, 174, 13, 14, 86, 305, 306, 307, 308, 309, 310, 311, 312, 313, 314, 315, 316, 317, 318, 319, 320, 51, 377, 378, 379, 21, 380, 45, 46, 101, 381, 382, 383, 384, 385, 277, 176, 177, 178, 41, 147, 148, 276, 150, 151, 152, 40, 331, 332, 333, 334, 205, 188, 189, 190, 191, 192, 193, 194, 327, 328, 329, 330, 393, 394, 395, 396, 8, 9, 397, 398, 399, 400, 401, 402, 206, 207, 208, 209, 210, 211, 212, 213, 214, 215, 216, 217, 218, 219, 220, 221, 222, 223, 50, 224, 225, 226, 227, 228, 229, 230, 231, 232, 233, 234, 235, 236, 237, 238, 239, 240, 241, 242, 243, 244, 245, 246, 247, 248, 249, 250, 251, 252, 253, 254, 255, 256, 257, 179, 180, 181, 182, 183, 184, 185, 186, 187, 195, 196, 197, 198, 199, 200, 201, 202, 203, 204, 258, 259, 260, 261, 262, 263, 85, 264, 265, 266, 267, 268, 269, 270, 39, 42, 271, 44, 272, 273, 274, 275, 278, 279, 280, 281, 282, 144, 145, 146, 283, 284, 285, 286, 287, 288, 289, 290, 291, 292, 293, 294, 295, 296, 297, 298, 299, 300, 302, 303, 304, 321, 322, 323, 324, 466, 467, 468, 469, 470, 471, 492, 493, 494, 495, 496, 497, 487, 488, 489, 490, 491, 477, 478, 479, 472, 473, 474, 475, 476, 480, 481, 482, 483, 484, 485, 486] rfl (by decide +kernel)) (goodIn_sub (fun _ h => List.mem_append_right _ h) (by decide +kernel))) (goodIn_sub (fun _ h => List.mem_append_left _ (List.mem_append_left _ (List.mem_append_right _ h))) (by decide +kernel))) (goodIn_sub (fun _ h => List.mem_append_left _ (List.mem_append_right _ h)) (by decide +kernel))
set_option maxRecDepth 20000 in
theorem gL_law_X4_post : GoodIn wsL_law (wsV RL 78 RX4 yX4_post wsX4_post) := goodIn_app (goodIn_of _ (by decide +kernel)) ggL_law_X4_post
set_option maxRecDepth 1000000 in
set_option maxHeartbeats 4000000 in
theorem ggL_law_X4_home : GoodIn wsL_law wsX4_home := goodIn_ca (goodIn_r _ [406, 77, 78, 18, 301, 139, 140, 141, 2, 142, 23, 171, 172, 173, 174, 13, 14, 86, 96, 92, 93, 17, 94, 95, 305, 306, 307, 308, 309, 310, 311, 312, 313, 314, 315, 316, 317, 318, 319, 320, 51, 407, 408, 409, 21, 410, 381, 382, 411, 378, 379, 380, 45, 46, 101, 383, 384, 385, 277, 176, 177, 178, 41, 147, 148, 276, 150, 151, 152, 40, 412, 413, 414, 415, 416, 417, 418, 419, 44, 466, 467, 468, 469, 470, 471, 472, 473, 474, 475, 476, 477, 478, 479, 492, 493, 494, 495, 496, 497, 480, 481, 482, 483, 484, 485, 486] rfl (by decide +kernel)) (goodIn_sub (fun _ h => List.mem_append_left _ (List.mem_append_right _ h)) (by decide +kernel))
set_option maxRecDepth 20000 in
theorem gL_law_X4_home : GoodIn wsL_law (wsV RL 82 RX4 yX4_home wsX4_home) := goodIn_app (goodIn_of _ (by decide +kernel)) ggL_law_X4_home
set_option maxRecDepth 1000000 in
set_option maxHeartbeats 4000000 in
theorem ggL_law_L_deletes : GoodIn wsL_law wsL_deletes := goodIn_ca (goodIn_ca (goodIn_r _ [422, 160, 423, 424, 425, 2, 426, 72, 73, 18, 301, 325, 165, 166, 167, 24, 326, 373, 374, 375, 376, 77, 78, 96, 92, 93, 17, 94, 95, 305, 306, 307, 308, 309, 310, 311, 312, 313, 314, 315, 316, 317, 318, 319, 320, 51, 171, 172, 173, 174, 13, 14, 86, 427, 428, 429, 21, 430, 46, 384, 385, 179, 180, 181, 182, 8, 9, 183, 184, 185, 186, 187, 195, 196, 197, 198, 199, 188, 189, 190, 191, 192, 193, 194, 200, 201, 202, 203, 204, 205, 147, 148, 206, 207, 208, 209, 210, 211, 212, 213, 214, 215, 216, 217, 218, 219, 220, 221, 222, 223, 50, 224, 225, 226, 227, 228, 229, 230, 231, 232, 233, 234, 235, 236, 237, 238, 239, 240, 241, 242, 243, 244, 245, 246, 247, 248, 249, 250, 251, 252, 253, 254, 255, 256, 257, 258, 259, 260, 261, 262, 263, 85, 264, 265, 266, 267, 268, 269, 270, 39, 41, 42, 271, 45, 44, 272, 273, 274, 275, 276, 150, 151, 152, 40, 277, 176, 177, 178, 278, 279, 280, 281, 282, 144, 145, 146, 283, 284, 285, 286, 287, 288, 289, 290, 291, 292, 293, 294, 295, 296, 297, 298, 299, 300, 302, 303, 304, 321, 322, 323, 324, 327, 328, 329, 330, 331, 332, 333, 334, 23, 368, 121, 122, 123, 124, 125, 126, 466, 467, 468, 469, 470, 471, 492, 493, 494, 495, 496, 497, 487, 488, 489, 490, 491, 477, 478, 479, 472, 473, 474, 475, 476, 480, 481, 482, 483, 484, 485, 486] rfl (by decide +kernel)) (goodIn_sub (fun _ h => List.mem_append_left _ (List.mem_append_left _ (List.mem_append_right _ h))) (by decide +kernel))) (goodIn_sub (fun _ h => List.mem_append_left _ (List.mem_append_right _ h)) (by decide +kernel))
set_option maxRecDepth 20000 in
theorem gL_law_L_deletes : GoodIn wsL_law (va_wsS RL 85 yL_deletes wsL_deletes) := goodIn_app (goodIn_of _ (by decide +kernel)) ggL_law_L_deletes
set_option maxRecDepth 1000000 in
set_option maxHeartbeats 4000000 in
theorem ggL_law_L_isBoost : GoodIn wsL_law wsL_isBoost := goodIn_ca (goodIn_ca (goodIn_r _ [433, 160, 434, 435, 436, 2, 437, 72, 73, 18, 301, 302, 325, 165, 166, 167, 24, 139, 140, 141, 142, 77, 78, 23, 373, 374, 375, 376, 96, 92, 93, 17, 94, 95, 305, 306, 307, 308, 309, 310, 311, 312, 313, 314, 315, 316, 317, 318, 319, 320, 51, 171, 172, 173, 174, 13, 14, 86, 377, 378, 379, 21, 380, 45, 46, 101, 381, 382, 383, 384, 385, 277, 176, 177, 178, 41, 147, 148, 276, 150, 151, 152, 40, 438, 417, 418, 419, 44, 327, 328, 329, 330, 193, 194, 331, 332, 333, 334, 205, 188, 189, 190, 191, 192, 179, 180, 181, 182, 8, 9, 183, 184, 185, 186, 187, 195, 196, 197, 198, 199, 200, 201, 202, 203, 204, 206, 207, 208, 209, 210, 211, 212, 213, 214, 215, 216, 217, 218, 219, 220, 221, 222, 223, 50, 224, 225, 226, 227, 228, 229, 230, 231, 232, 233, 234, 235, 236, 237, 238, 239, 240, 241, 242, 243, 244, 245, 246, 247, 248, 249, 250, 251, 252, 253, 254, 255, 256, 257, 258, 259, 260, 261, 262, 263, 85, 264, 265, 266, 267, 268, 269, 270, 39, 42, 271, 272, 273, 274, 275, 278, 279, 280, 281, 282, 144, 145, 146, 283, 284, 285, 286, 287, 288, 289, 290, 291, 292, 293, 294, 295, 296, 297, 298, 299, 300, 303, 304, 321, 322, 323, 324, 326, 466, 467, 468, 469, 470, 471, 492, 493, 494, 495, 496, 497, 487, 488, 489, 490, 491, 477, 478, 479, 472, 473, 474, 475, 476, 480, 481, 482, 483, 484, 485, 486] rfl (by decide +kernel)) (goodIn_sub (fun _ h => List.mem_append_left _ (List.mem_append_left _ (List.mem_append_right _ h))) (by decide +kernel))) (goodIn_sub (fun _ h => List.mem_append_left _ (List.mem_append_right _ h)) (by decide +kernel))
set_option maxRecDepth 20000 in
theorem gL_law_L_isBoost : GoodIn wsL_law (va_wsS RL 89 yL_isBoost wsL_isBoost) := goodIn_app (goodIn_of _ (by decide +kernel)) ggL_law_L_isBoost
set_option maxRecDepth 1000000 in
set_option maxHeartbeats 4000000 in
theorem ggL_law_X4_deliver : GoodIn wsL_law wsX4_deliver := goodIn_ca (goodIn_r _ [442, 13, 204, 443, 444, 299, 74, 75, 2, 76, 77, 78, 87, 88, 89, 12, 90, 32, 35, 91, 92, 93, 17, 94, 95, 305, 306, 307, 308, 309, 310, 311, 312, 313, 314, 315, 316, 317, 318, 319, 320, 51, 258, 259, 260, 261, 262, 263, 85, 86, 206, 207, 208, 209, 210, 211, 212, 213, 214, 215, 216, 217, 218, 219, 220, 221, 222, 223, 50, 224, 225, 226, 227, 228, 229, 230, 231, 232, 233, 234, 235, 236, 237, 238, 239, 240, 241, 242, 243, 244, 245, 246, 247, 248, 249, 250, 251, 252, 253, 254, 255, 256, 257, 264, 265, 266, 21, 267, 268, 269, 270, 39, 41, 42, 271, 45, 46, 44, 272, 273, 274, 275, 276, 150, 151, 152, 40, 147, 148, 277, 176, 177, 178, 193, 194, 278, 279, 280, 281, 282, 144, 145, 146, 283, 284, 285, 286, 287, 288, 289, 290, 291, 292, 293, 294, 295, 296, 297, 298, 18, 300, 301, 302, 303, 14, 304, 321, 322, 323, 324, 325, 326, 327, 328, 329, 330, 331, 332, 333, 334, 23, 205, 188, 189, 190, 191, 192, 200, 201, 202, 203, 466, 467, 468, 469, 470, 471, 472, 473, 474, 475, 476, 487, 488, 489, 490, 491, 477, 478, 479, 480, 481, 482, 483, 484, 485, 486, 492, 493, 494, 495, 496, 497] rfl (by decide +kernel)) (goodIn_sub (fun _ h => List.mem_append_left _ (List.mem_append_right _ h)) (by decide +kernel))
set_option maxRecDepth 20000 in
theorem gL_law_X4_deliver : GoodIn wsL_law (wsV RL 92 RX4 yX4_deliver wsX4_deliver) := goodIn_app (goodIn_of _ (by decide +kernel)) ggL_law_X4_deliver
set_option maxRecDepth 1000000 in
set_option maxHeartbeats 4000000 in
theorem ggL_law_L_sum : GoodIn wsL_law wsL_sum := goodIn_ca (goodIn_ca (goodIn_r _ [447, 448, 449, 450, 79, 80, 81, 2, 82, 83, 84, 13, 85, 86, 74, 75, 76, 77, 78, 87, 88, 89, 12, 90, 32, 35, 91, 92, 93, 17, 94, 95, 96, 97, 98, 99, 21, 100, 45, 46, 101, 102, 103, 104, 105, 106, 107, 108, 109, 110, 111, 112, 113, 114, 115, 116, 40, 117, 118, 119, 120, 121, 122, 123, 124, 125, 126, 127, 128, 129, 130, 39, 466, 467, 468, 469, 470, 471, 472, 473, 474, 475, 476, 477, 478, 479, 480, 481, 482, 483, 484, 485, 486] rfl (by decide +kernel)) (goodIn_sub (fun _ h => List.mem_append_right _ h) (by decide +kernel))) (goodIn_sub (fun _ h => List.mem_append_left _ (List.mem_append_right _ h)) (by decide +kernel))
set_option maxRecDepth 20000 in
theorem gL_law_L_sum : GoodIn wsL_law (va_wsS RL 95 yL_sum wsL_sum) := goodIn_app (goodIn_of _ (by decide +kernel)) ggL_law_L_sum
set_option maxRecDepth 1000000 in
set_option maxHeartbeats 4000000 in
theorem ggL_law_X4_repeat : GoodIn wsL_law wsX4_repeat := goodIn_ca (goodIn_r _ [454, 13, 443, 204, 444, 299, 74, 75, 2, 76, 77, 78, 305, 306, 307, 17, 308, 95, 309, 310, 311, 312, 313, 314, 315, 316, 317, 318, 319, 320, 51, 258, 259, 260, 261, 262, 263, 85, 86, 206, 207, 208, 209, 210, 211, 212, 213, 214, 215, 216, 217, 218, 219, 220, 221, 222, 223, 50, 224, 225, 226, 227, 228, 229, 230, 231, 232, 233, 234, 235, 236, 237, 238, 239, 240, 241, 242, 243, 244, 245, 246, 247, 248, 249, 250, 251, 252, 253, 254, 255, 256, 257, 264, 265, 266, 21, 267, 268, 269, 270, 39, 41, 42, 271, 45, 46, 44, 272, 273, 274, 275, 276, 150, 151, 152, 40, 147, 148, 277, 176, 177, 178, 193, 194, 278, 279, 280, 281, 282, 144, 145, 146, 283, 284, 285, 286, 287, 288, 289, 290, 291, 292, 293, 294, 295, 296, 297, 298, 18, 300, 301, 302, 303, 14, 304, 321, 322, 323, 324, 325, 326, 327, 328, 329, 330, 331, 332, 333, 334, 23, 205, 188, 189, 190, 191, 192, 200, 201, 202, 203, 466, 467, 468, 469, 470, 471, 472, 473, 474, 475, 476, 487, 488, 489, 490, 491, 477, 478, 479, 480, 481, 482, 483, 484, 485, 486, 492, 493, 494, 495, 496, 497] rfl (by decide +kernel)) (goodIn_sub (fun _ h => List.mem_append_left _ (List.mem_append_right _ h)) (by decide +kernel))
set_option maxRecDepth 20000 in
theorem gL_law_X4_repeat : GoodIn wsL_law (wsV RL 98 RX4 yX4_repeat wsX4_repeat) := goodIn_app (goodIn_of _ (by decide +kernel)) ggL_law_X4_repeat
set_option maxRecDepth 1000000 in
set_option maxHeartbeats 4000000 in
theorem ggL_law_L_isWell : GoodIn wsL_law wsL_isWell := goodIn_ca (goodIn_ca (goodIn_r _ [457, 131, 132, 133, 2, 134, 13, 86, 74, 75, 76, 77, 78, 135, 136, 137, 138, 139, 140, 141, 142, 23, 143, 144, 145, 21, 146, 39, 147, 148, 149, 150, 151, 152, 40, 153, 154, 155, 156, 41, 79, 80, 81, 82, 83, 84, 85, 87, 88, 89, 12, 90, 32, 35, 91, 92, 93, 17, 94, 95, 96, 97, 98, 99, 100, 45, 46, 101, 102, 103, 104, 105, 106, 107, 108, 109, 110, 111, 112, 113, 114, 115, 116, 117, 118, 119, 120, 121, 122, 123, 124, 125, 126, 127, 128, 129, 130, 466, 467, 468, 469, 470, 471, 472, 473, 474, 475, 476, 480, 481, 482, 483, 484, 485, 486, 477, 478, 479] rfl (by decide +kernel)) (goodIn_sub (fun _ h => List.mem_append_left _ (List.mem_append_right _ h)) (by decide +kernel))) (goodIn_sub (fun _ h => List.mem_append_right _ h) (by decide +kernel))
set_option maxRecDepth 20000 in
theorem gL_law_L_isWell : GoodIn wsL_law (va_wsS RL 101 yL_isWell wsL_isWell) := goodIn_app (goodIn_of _ (by decide +kernel)) ggL_law_L_isWell
set_option maxRecDepth 1000000 in
set_option maxHeartbeats 4000000 in
theorem ggL_law_X4_seesAnew : GoodIn wsL_law wsX4_seesAnew := goodIn_ca (goodIn_r _ [461, 13, 14, 85, 22, 444, 18, 301, 139, 140, 141, 2, 142, 77, 78, 23, 373, 374, 375, 376, 96, 92, 93, 17, 94, 95, 462, 463, 464, 21, 465, 39, 40, 41, 42, 44, 45, 46, 305, 306, 307, 308, 309, 310, 311, 312, 313, 314, 315, 316, 317, 318, 319, 320, 51, 264, 265, 266, 267, 268, 269, 270, 271, 272, 273, 274, 275, 276, 150, 151, 152, 147, 148, 277, 176, 177, 178, 193, 194, 278, 279, 280, 281, 282, 144, 145, 146, 283, 284, 285, 286, 287, 288, 289, 290, 291, 292, 293, 294, 377, 378, 379, 380, 101, 381, 382, 383, 384, 385, 466, 467, 468, 469, 470, 471, 472, 473, 474, 475, 476, 477, 478, 479, 480, 481, 482, 483, 484, 485, 486, 487, 488, 489, 490, 491, 492, 493, 494, 495, 496, 497] rfl (by decide +kernel)) (goodIn_sub (fun _ h => List.mem_append_left _ (List.mem_append_right _ h)) (by decide +kernel))
set_option maxRecDepth 20000 in
theorem gL_law_X4_seesAnew : GoodIn wsL_law (wsV RL 104 RX4 yX4_seesAnew wsX4_seesAnew) := goodIn_app (goodIn_of _ (by decide +kernel)) ggL_law_X4_seesAnew
theorem dL_law_0 : decode cL_law 0 = .ok (.new 9, 3) := by decide +kernel
theorem dL_law_3 : decode cL_law 3 = .ok (.dup, 1) := by decide +kernel
theorem dL_law_4 : decode cL_law 4 = .ok (.invokespecial 44, 3) := by decide +kernel
theorem dL_law_7 : decode cL_law 7 = .ok (.astore_n 1, 1) := by decide +kernel
theorem dL_law_8 : decode cL_law 8 = .ok (.bipush 6, 2) := by decide +kernel
theorem dL_law_10 : decode cL_law 10 = .ok (.newarray .int, 2) := by decide +kernel
theorem dL_law_12 : decode cL_law 12 = .ok (.astore_n 2, 1) := by decide +kernel
theorem dL_law_13 : decode cL_law 13 = .ok (.bipush 20, 2) := by decide +kernel
theorem dL_law_15 : decode cL_law 15 = .ok (.newarray .int, 2) := by decide +kernel
theorem dL_law_17 : decode cL_law 17 = .ok (.astore_n 3, 1) := by decide +kernel
theorem dL_law_18 : decode cL_law 18 = .ok (.bipush 20, 2) := by decide +kernel
theorem dL_law_20 : decode cL_law 20 = .ok (.newarray .int, 2) := by decide +kernel
theorem dL_law_22 : decode cL_law 22 = .ok (.astore 4, 2) := by decide +kernel
theorem dL_law_24 : decode cL_law 24 = .ok (.bipush 6, 2) := by decide +kernel
theorem dL_law_26 : decode cL_law 26 = .ok (.istore 5, 2) := by decide +kernel
theorem dL_law_28 : decode cL_law 28 = .ok (.iconst 0, 1) := by decide +kernel
theorem dL_law_29 : decode cL_law 29 = .ok (.istore 6, 2) := by decide +kernel
theorem dL_law_31 : decode cL_law 31 = .ok (.iconst 1, 1) := by decide +kernel
theorem dL_law_32 : decode cL_law 32 = .ok (.istore 7, 2) := by decide +kernel
theorem dL_law_34 : decode cL_law 34 = .ok (.iconst 0, 1) := by decide +kernel
theorem dL_law_35 : decode cL_law 35 = .ok (.istore 8, 2) := by decide +kernel
theorem dL_law_37 : decode cL_law 37 = .ok (.iload 8, 2) := by decide +kernel
theorem dL_law_39 : decode cL_law 39 = .ok (.iload 5, 2) := by decide +kernel
theorem dL_law_41 : decode cL_law 41 = .ok (.if_icmp .ge 45, 3) := by decide +kernel
theorem dL_law_44 : decode cL_law 44 = .ok (.aload_n 2, 1) := by decide +kernel
theorem dL_law_45 : decode cL_law 45 = .ok (.iload 8, 2) := by decide +kernel
theorem dL_law_47 : decode cL_law 47 = .ok (.aload_n 0, 1) := by decide +kernel
theorem dL_law_48 : decode cL_law 48 = .ok (.iload 8, 2) := by decide +kernel
theorem dL_law_50 : decode cL_law 50 = .ok (.iconst 3, 1) := by decide +kernel
theorem dL_law_51 : decode cL_law 51 = .ok (.invokestatic 45, 3) := by decide +kernel
theorem dL_law_54 : decode cL_law 54 = .ok (.iastore, 1) := by decide +kernel
theorem dL_law_55 : decode cL_law 55 = .ok (.iload 7, 2) := by decide +kernel
theorem dL_law_57 : decode cL_law 57 = .ok (.ifCond .eq 20, 3) := by decide +kernel
theorem dL_law_60 : decode cL_law 60 = .ok (.aload_n 1, 1) := by decide +kernel
theorem dL_law_61 : decode cL_law 61 = .ok (.aload_n 2, 1) := by decide +kernel
theorem dL_law_62 : decode cL_law 62 = .ok (.iload 8, 2) := by decide +kernel
theorem dL_law_64 : decode cL_law 64 = .ok (.iaload, 1) := by decide +kernel
theorem dL_law_65 : decode cL_law 65 = .ok (.invokevirtual 51, 3) := by decide +kernel
theorem dL_law_68 : decode cL_law 68 = .ok (.iload 8, 2) := by decide +kernel
theorem dL_law_70 : decode cL_law 70 = .ok (.if_icmp .ne 7, 3) := by decide +kernel
theorem dL_law_73 : decode cL_law 73 = .ok (.iconst 1, 1) := by decide +kernel
theorem dL_law_74 : decode cL_law 74 = .ok (.goto 4, 3) := by decide +kernel
theorem dL_law_77 : decode cL_law 77 = .ok (.iconst 0, 1) := by decide +kernel
theorem dL_law_78 : decode cL_law 78 = .ok (.istore 7, 2) := by decide +kernel
theorem dL_law_80 : decode cL_law 80 = .ok (.iinc 8 1, 3) := by decide +kernel
theorem dL_law_83 : decode cL_law 83 = .ok (.goto (-46), 3) := by decide +kernel
theorem dL_law_86 : decode cL_law 86 = .ok (.iconst 0, 1) := by decide +kernel
theorem dL_law_87 : decode cL_law 87 = .ok (.istore 8, 2) := by decide +kernel
theorem dL_law_89 : decode cL_law 89 = .ok (.iload 8, 2) := by decide +kernel
theorem dL_law_91 : decode cL_law 91 = .ok (.bipush 60, 2) := by decide +kernel
theorem dL_law_93 : decode cL_law 93 = .ok (.if_icmp .ge 1285, 3) := by decide +kernel
theorem dL_law_96 : decode cL_law 96 = .ok (.iload 7, 2) := by decide +kernel
theorem dL_law_98 : decode cL_law 98 = .ok (.ifCond .eq 1280, 3) := by decide +kernel
theorem dL_law_101 : decode cL_law 101 = .ok (.aload_n 0, 1) := by decide +kernel
theorem dL_law_102 : decode cL_law 102 = .ok (.iconst 4, 1) := by decide +kernel
theorem dL_law_103 : decode cL_law 103 = .ok (.iload 8, 2) := by decide +kernel
theorem dL_law_105 : decode cL_law 105 = .ok (.imul, 1) := by decide +kernel
theorem dL_law_106 : decode cL_law 106 = .ok (.bipush 6, 2) := by decide +kernel
theorem dL_law_108 : decode cL_law 108 = .ok (.iadd, 1) := by decide +kernel
theorem dL_law_109 : decode cL_law 109 = .ok (.bipush 22, 2) := by decide +kernel
theorem dL_law_111 : decode cL_law 111 = .ok (.invokestatic 45, 3) := by decide +kernel
theorem dL_law_114 : decode cL_law 114 = .ok (.istore 9, 2) := by decide +kernel
theorem dL_law_116 : decode cL_law 116 = .ok (.aload_n 0, 1) := by decide +kernel
theorem dL_law_117 : decode cL_law 117 = .ok (.iconst 4, 1) := by decide +kernel
theorem dL_law_118 : decode cL_law 118 = .ok (.iload 8, 2) := by decide +kernel
theorem dL_law_120 : decode cL_law 120 = .ok (.imul, 1) := by decide +kernel
theorem dL_law_121 : decode cL_law 121 = .ok (.bipush 7, 2) := by decide +kernel
theorem dL_law_123 : decode cL_law 123 = .ok (.iadd, 1) := by decide +kernel
theorem dL_law_124 : decode cL_law 124 = .ok (.bipush 6, 2) := by decide +kernel
theorem dL_law_126 : decode cL_law 126 = .ok (.invokestatic 45, 3) := by decide +kernel
theorem dL_law_129 : decode cL_law 129 = .ok (.istore 10, 2) := by decide +kernel
theorem dL_law_131 : decode cL_law 131 = .ok (.aload_n 0, 1) := by decide +kernel
theorem dL_law_132 : decode cL_law 132 = .ok (.iconst 4, 1) := by decide +kernel
theorem dL_law_133 : decode cL_law 133 = .ok (.iload 8, 2) := by decide +kernel
theorem dL_law_135 : decode cL_law 135 = .ok (.imul, 1) := by decide +kernel
theorem dL_law_136 : decode cL_law 136 = .ok (.bipush 8, 2) := by decide +kernel
theorem dL_law_138 : decode cL_law 138 = .ok (.iadd, 1) := by decide +kernel
theorem dL_law_139 : decode cL_law 139 = .ok (.sipush 960, 3) := by decide +kernel
theorem dL_law_142 : decode cL_law 142 = .ok (.invokestatic 45, 3) := by decide +kernel
theorem dL_law_145 : decode cL_law 145 = .ok (.istore 11, 2) := by decide +kernel
theorem dL_law_147 : decode cL_law 147 = .ok (.iload 10, 2) := by decide +kernel
theorem dL_law_149 : decode cL_law 149 = .ok (.iconst 1, 1) := by decide +kernel
theorem dL_law_150 : decode cL_law 150 = .ok (.iadd, 1) := by decide +kernel
theorem dL_law_151 : decode cL_law 151 = .ok (.iload 11, 2) := by decide +kernel
theorem dL_law_153 : decode cL_law 153 = .ok (.iconst 5, 1) := by decide +kernel
theorem dL_law_154 : decode cL_law 154 = .ok (.irem, 1) := by decide +kernel
theorem dL_law_155 : decode cL_law 155 = .ok (.iadd, 1) := by decide +kernel
theorem dL_law_156 : decode cL_law 156 = .ok (.bipush 6, 2) := by decide +kernel
theorem dL_law_158 : decode cL_law 158 = .ok (.irem, 1) := by decide +kernel
theorem dL_law_159 : decode cL_law 159 = .ok (.istore 12, 2) := by decide +kernel
theorem dL_law_161 : decode cL_law 161 = .ok (.iload 6, 2) := by decide +kernel
theorem dL_law_163 : decode cL_law 163 = .ok (.ifCond .le 11, 3) := by decide +kernel
theorem dL_law_166 : decode cL_law 166 = .ok (.iload 11, 2) := by decide +kernel
theorem dL_law_168 : decode cL_law 168 = .ok (.iload 6, 2) := by decide +kernel
theorem dL_law_170 : decode cL_law 170 = .ok (.irem, 1) := by decide +kernel
theorem dL_law_171 : decode cL_law 171 = .ok (.goto 4, 3) := by decide +kernel
theorem dL_law_174 : decode cL_law 174 = .ok (.iconst 0, 1) := by decide +kernel
theorem dL_law_175 : decode cL_law 175 = .ok (.istore 13, 2) := by decide +kernel
theorem dL_law_177 : decode cL_law 177 = .ok (.iload 11, 2) := by decide +kernel
theorem dL_law_179 : decode cL_law 179 = .ok (.iconst 3, 1) := by decide +kernel
theorem dL_law_180 : decode cL_law 180 = .ok (.irem, 1) := by decide +kernel
theorem dL_law_181 : decode cL_law 181 = .ok (.istore 14, 2) := by decide +kernel
theorem dL_law_183 : decode cL_law 183 = .ok (.aload_n 1, 1) := by decide +kernel
theorem dL_law_184 : decode cL_law 184 = .ok (.aload_n 2, 1) := by decide +kernel
theorem dL_law_185 : decode cL_law 185 = .ok (.iload 10, 2) := by decide +kernel
theorem dL_law_187 : decode cL_law 187 = .ok (.iaload, 1) := by decide +kernel
theorem dL_law_188 : decode cL_law 188 = .ok (.iconst 1, 1) := by decide +kernel
theorem dL_law_189 : decode cL_law 189 = .ok (.invokevirtual 14, 3) := by decide +kernel
theorem dL_law_192 : decode cL_law 192 = .ok (.istore 15, 2) := by decide +kernel
theorem dL_law_194 : decode cL_law 194 = .ok (.aload_n 1, 1) := by decide +kernel
theorem dL_law_195 : decode cL_law 195 = .ok (.aload_n 2, 1) := by decide +kernel
theorem dL_law_196 : decode cL_law 196 = .ok (.iload 10, 2) := by decide +kernel
theorem dL_law_198 : decode cL_law 198 = .ok (.iaload, 1) := by decide +kernel
theorem dL_law_199 : decode cL_law 199 = .ok (.iload 10, 2) := by decide +kernel
theorem dL_law_201 : decode cL_law 201 = .ok (.iload 12, 2) := by decide +kernel
theorem dL_law_203 : decode cL_law 203 = .ok (.invokevirtual 8, 3) := by decide +kernel
theorem dL_law_206 : decode cL_law 206 = .ok (.istore 16, 2) := by decide +kernel
theorem dL_law_208 : decode cL_law 208 = .ok (.aload_n 1, 1) := by decide +kernel
theorem dL_law_209 : decode cL_law 209 = .ok (.aload_n 2, 1) := by decide +kernel
theorem dL_law_210 : decode cL_law 210 = .ok (.iload 10, 2) := by decide +kernel
theorem dL_law_212 : decode cL_law 212 = .ok (.iaload, 1) := by decide +kernel
theorem dL_law_213 : decode cL_law 213 = .ok (.iload 12, 2) := by decide +kernel
theorem dL_law_215 : decode cL_law 215 = .ok (.iload 10, 2) := by decide +kernel
theorem dL_law_217 : decode cL_law 217 = .ok (.invokevirtual 8, 3) := by decide +kernel
theorem dL_law_220 : decode cL_law 220 = .ok (.istore 17, 2) := by decide +kernel
theorem dL_law_222 : decode cL_law 222 = .ok (.iload 9, 2) := by decide +kernel
theorem dL_law_224 : decode cL_law 224 = .ok (.iconst 3, 1) := by decide +kernel
theorem dL_law_225 : decode cL_law 225 = .ok (.if_icmp .ge 96, 3) := by decide +kernel
theorem dL_law_228 : decode cL_law 228 = .ok (.iload 16, 2) := by decide +kernel
theorem dL_law_230 : decode cL_law 230 = .ok (.ifCond .ne 13, 3) := by decide +kernel
theorem dL_law_233 : decode cL_law 233 = .ok (.iload 17, 2) := by decide +kernel
theorem dL_law_235 : decode cL_law 235 = .ok (.iconst 4, 1) := by decide +kernel
theorem dL_law_236 : decode cL_law 236 = .ok (.if_icmp .ge 7, 3) := by decide +kernel
theorem dL_law_239 : decode cL_law 239 = .ok (.iconst 1, 1) := by decide +kernel
theorem dL_law_240 : decode cL_law 240 = .ok (.goto 4, 3) := by decide +kernel
theorem dL_law_243 : decode cL_law 243 = .ok (.iconst 0, 1) := by decide +kernel
theorem dL_law_244 : decode cL_law 244 = .ok (.istore 18, 2) := by decide +kernel
theorem dL_law_246 : decode cL_law 246 = .ok (.aload_n 1, 1) := by decide +kernel
theorem dL_law_247 : decode cL_law 247 = .ok (.iload 10, 2) := by decide +kernel
theorem dL_law_249 : decode cL_law 249 = .ok (.iload 12, 2) := by decide +kernel
theorem dL_law_251 : decode cL_law 251 = .ok (.invokestatic 54, 3) := by decide +kernel
theorem dL_law_254 : decode cL_law 254 = .ok (.iload 18, 2) := by decide +kernel
theorem dL_law_256 : decode cL_law 256 = .ok (.if_icmp .ne 59, 3) := by decide +kernel
theorem dL_law_259 : decode cL_law 259 = .ok (.aload_n 1, 1) := by decide +kernel
theorem dL_law_260 : decode cL_law 260 = .ok (.aload_n 2, 1) := by decide +kernel
theorem dL_law_261 : decode cL_law 261 = .ok (.iload 10, 2) := by decide +kernel
theorem dL_law_263 : decode cL_law 263 = .ok (.iaload, 1) := by decide +kernel
theorem dL_law_264 : decode cL_law 264 = .ok (.iconst 1, 1) := by decide +kernel
theorem dL_law_265 : decode cL_law 265 = .ok (.invokevirtual 14, 3) := by decide +kernel
theorem dL_law_268 : decode cL_law 268 = .ok (.iload 18, 2) := by decide +kernel
theorem dL_law_270 : decode cL_law 270 = .ok (.ifCond .eq 10, 3) := by decide +kernel
theorem dL_law_273 : decode cL_law 273 = .ok (.iload 15, 2) := by decide +kernel
theorem dL_law_275 : decode cL_law 275 = .ok (.iconst 1, 1) := by decide +kernel
theorem dL_law_276 : decode cL_law 276 = .ok (.iadd, 1) := by decide +kernel
theorem dL_law_277 : decode cL_law 277 = .ok (.goto 5, 3) := by decide +kernel
theorem dL_law_280 : decode cL_law 280 = .ok (.iload 15, 2) := by decide +kernel
theorem dL_law_282 : decode cL_law 282 = .ok (.if_icmp .ne 33, 3) := by decide +kernel
theorem dL_law_285 : decode cL_law 285 = .ok (.aload_n 1, 1) := by decide +kernel
theorem dL_law_286 : decode cL_law 286 = .ok (.aload_n 2, 1) := by decide +kernel
theorem dL_law_287 : decode cL_law 287 = .ok (.iload 10, 2) := by decide +kernel
theorem dL_law_289 : decode cL_law 289 = .ok (.iaload, 1) := by decide +kernel
theorem dL_law_290 : decode cL_law 290 = .ok (.iload 10, 2) := by decide +kernel
theorem dL_law_292 : decode cL_law 292 = .ok (.iload 12, 2) := by decide +kernel
theorem dL_law_294 : decode cL_law 294 = .ok (.invokevirtual 8, 3) := by decide +kernel
theorem dL_law_297 : decode cL_law 297 = .ok (.iload 18, 2) := by decide +kernel
theorem dL_law_299 : decode cL_law 299 = .ok (.ifCond .eq 7, 3) := by decide +kernel
theorem dL_law_302 : decode cL_law 302 = .ok (.iconst 1, 1) := by decide +kernel
theorem dL_law_303 : decode cL_law 303 = .ok (.goto 5, 3) := by decide +kernel
theorem dL_law_306 : decode cL_law 306 = .ok (.iload 16, 2) := by decide +kernel
theorem dL_law_308 : decode cL_law 308 = .ok (.if_icmp .ne 7, 3) := by decide +kernel
theorem dL_law_311 : decode cL_law 311 = .ok (.iconst 1, 1) := by decide +kernel
theorem dL_law_312 : decode cL_law 312 = .ok (.goto 4, 3) := by decide +kernel
theorem dL_law_315 : decode cL_law 315 = .ok (.iconst 0, 1) := by decide +kernel
theorem dL_law_316 : decode cL_law 316 = .ok (.istore 7, 2) := by decide +kernel
theorem dL_law_318 : decode cL_law 318 = .ok (.goto 811, 3) := by decide +kernel
theorem dL_law_321 : decode cL_law 321 = .ok (.iload 9, 2) := by decide +kernel
theorem dL_law_323 : decode cL_law 323 = .ok (.bipush 6, 2) := by decide +kernel
theorem dL_law_325 : decode cL_law 325 = .ok (.if_icmp .ge 92, 3) := by decide +kernel
theorem dL_law_328 : decode cL_law 328 = .ok (.iload 17, 2) := by decide +kernel
theorem dL_law_330 : decode cL_law 330 = .ok (.iconst 4, 1) := by decide +kernel
theorem dL_law_331 : decode cL_law 331 = .ok (.irem, 1) := by decide +kernel
theorem dL_law_332 : decode cL_law 332 = .ok (.iconst 1, 1) := by decide +kernel
theorem dL_law_333 : decode cL_law 333 = .ok (.if_icmp .ne 7, 3) := by decide +kernel
theorem dL_law_336 : decode cL_law 336 = .ok (.iconst 1, 1) := by decide +kernel
theorem dL_law_337 : decode cL_law 337 = .ok (.goto 4, 3) := by decide +kernel
theorem dL_law_340 : decode cL_law 340 = .ok (.iconst 0, 1) := by decide +kernel
theorem dL_law_341 : decode cL_law 341 = .ok (.istore 18, 2) := by decide +kernel
theorem dL_law_343 : decode cL_law 343 = .ok (.aload_n 1, 1) := by decide +kernel
theorem dL_law_344 : decode cL_law 344 = .ok (.iload 10, 2) := by decide +kernel
theorem dL_law_346 : decode cL_law 346 = .ok (.iload 12, 2) := by decide +kernel
theorem dL_law_348 : decode cL_law 348 = .ok (.iload 11, 2) := by decide +kernel
theorem dL_law_350 : decode cL_law 350 = .ok (.sipush 200, 3) := by decide +kernel
theorem dL_law_353 : decode cL_law 353 = .ok (.if_icmp .le 7, 3) := by decide +kernel
theorem dL_law_356 : decode cL_law 356 = .ok (.iconst 1, 1) := by decide +kernel
theorem dL_law_357 : decode cL_law 357 = .ok (.goto 4, 3) := by decide +kernel
theorem dL_law_360 : decode cL_law 360 = .ok (.iconst 0, 1) := by decide +kernel
theorem dL_law_361 : decode cL_law 361 = .ok (.invokestatic 58, 3) := by decide +kernel
theorem dL_law_364 : decode cL_law 364 = .ok (.iload 18, 2) := by decide +kernel
theorem dL_law_366 : decode cL_law 366 = .ok (.if_icmp .ne 45, 3) := by decide +kernel
theorem dL_law_369 : decode cL_law 369 = .ok (.aload_n 1, 1) := by decide +kernel
theorem dL_law_370 : decode cL_law 370 = .ok (.aload_n 2, 1) := by decide +kernel
theorem dL_law_371 : decode cL_law 371 = .ok (.iload 10, 2) := by decide +kernel
theorem dL_law_373 : decode cL_law 373 = .ok (.iaload, 1) := by decide +kernel
theorem dL_law_374 : decode cL_law 374 = .ok (.iload 12, 2) := by decide +kernel
theorem dL_law_376 : decode cL_law 376 = .ok (.iload 10, 2) := by decide +kernel
theorem dL_law_378 : decode cL_law 378 = .ok (.invokevirtual 8, 3) := by decide +kernel
theorem dL_law_381 : decode cL_law 381 = .ok (.iload 18, 2) := by decide +kernel
theorem dL_law_383 : decode cL_law 383 = .ok (.ifCond .eq 19, 3) := by decide +kernel
theorem dL_law_386 : decode cL_law 386 = .ok (.iload 11, 2) := by decide +kernel
theorem dL_law_388 : decode cL_law 388 = .ok (.sipush 200, 3) := by decide +kernel
theorem dL_law_391 : decode cL_law 391 = .ok (.if_icmp .le 7, 3) := by decide +kernel
theorem dL_law_394 : decode cL_law 394 = .ok (.iconst 2, 1) := by decide +kernel
theorem dL_law_395 : decode cL_law 395 = .ok (.goto 9, 3) := by decide +kernel
theorem dL_law_398 : decode cL_law 398 = .ok (.iconst 0, 1) := by decide +kernel
theorem dL_law_399 : decode cL_law 399 = .ok (.goto 5, 3) := by decide +kernel
theorem dL_law_402 : decode cL_law 402 = .ok (.iload 17, 2) := by decide +kernel
theorem dL_law_404 : decode cL_law 404 = .ok (.if_icmp .ne 7, 3) := by decide +kernel
theorem dL_law_407 : decode cL_law 407 = .ok (.iconst 1, 1) := by decide +kernel
theorem dL_law_408 : decode cL_law 408 = .ok (.goto 4, 3) := by decide +kernel
theorem dL_law_411 : decode cL_law 411 = .ok (.iconst 0, 1) := by decide +kernel
theorem dL_law_412 : decode cL_law 412 = .ok (.istore 7, 2) := by decide +kernel
theorem dL_law_414 : decode cL_law 414 = .ok (.goto 715, 3) := by decide +kernel
theorem dL_law_417 : decode cL_law 417 = .ok (.iload 9, 2) := by decide +kernel
theorem dL_law_419 : decode cL_law 419 = .ok (.bipush 6, 2) := by decide +kernel
theorem dL_law_421 : decode cL_law 421 = .ok (.if_icmp .ne 53, 3) := by decide +kernel
theorem dL_law_424 : decode cL_law 424 = .ok (.aload_n 1, 1) := by decide +kernel
theorem dL_law_425 : decode cL_law 425 = .ok (.iload 10, 2) := by decide +kernel
theorem dL_law_427 : decode cL_law 427 = .ok (.iload 12, 2) := by decide +kernel
theorem dL_law_429 : decode cL_law 429 = .ok (.invokestatic 62, 3) := by decide +kernel
theorem dL_law_432 : decode cL_law 432 = .ok (.iload 16, 2) := by decide +kernel
theorem dL_law_434 : decode cL_law 434 = .ok (.iconst 4, 1) := by decide +kernel
theorem dL_law_435 : decode cL_law 435 = .ok (.irem, 1) := by decide +kernel
theorem dL_law_436 : decode cL_law 436 = .ok (.ifCond .le 7, 3) := by decide +kernel
theorem dL_law_439 : decode cL_law 439 = .ok (.iconst 1, 1) := by decide +kernel
theorem dL_law_440 : decode cL_law 440 = .ok (.goto 4, 3) := by decide +kernel
theorem dL_law_443 : decode cL_law 443 = .ok (.iconst 0, 1) := by decide +kernel
theorem dL_law_444 : decode cL_law 444 = .ok (.if_icmp .ne 24, 3) := by decide +kernel
theorem dL_law_447 : decode cL_law 447 = .ok (.aload_n 1, 1) := by decide +kernel
theorem dL_law_448 : decode cL_law 448 = .ok (.aload_n 2, 1) := by decide +kernel
theorem dL_law_449 : decode cL_law 449 = .ok (.iload 10, 2) := by decide +kernel
theorem dL_law_451 : decode cL_law 451 = .ok (.iaload, 1) := by decide +kernel
theorem dL_law_452 : decode cL_law 452 = .ok (.iload 10, 2) := by decide +kernel
theorem dL_law_454 : decode cL_law 454 = .ok (.iload 12, 2) := by decide +kernel
theorem dL_law_456 : decode cL_law 456 = .ok (.invokevirtual 8, 3) := by decide +kernel
theorem dL_law_459 : decode cL_law 459 = .ok (.iconst 4, 1) := by decide +kernel
theorem dL_law_460 : decode cL_law 460 = .ok (.irem, 1) := by decide +kernel
theorem dL_law_461 : decode cL_law 461 = .ok (.ifCond .ne 7, 3) := by decide +kernel
theorem dL_law_464 : decode cL_law 464 = .ok (.iconst 1, 1) := by decide +kernel
theorem dL_law_465 : decode cL_law 465 = .ok (.goto 4, 3) := by decide +kernel
theorem dL_law_468 : decode cL_law 468 = .ok (.iconst 0, 1) := by decide +kernel
theorem dL_law_469 : decode cL_law 469 = .ok (.istore 7, 2) := by decide +kernel
theorem dL_law_471 : decode cL_law 471 = .ok (.goto 658, 3) := by decide +kernel
theorem dL_law_474 : decode cL_law 474 = .ok (.iload 9, 2) := by decide +kernel
theorem dL_law_476 : decode cL_law 476 = .ok (.bipush 7, 2) := by decide +kernel
theorem dL_law_478 : decode cL_law 478 = .ok (.if_icmp .ne 61, 3) := by decide +kernel
theorem dL_law_481 : decode cL_law 481 = .ok (.aload_n 1, 1) := by decide +kernel
theorem dL_law_482 : decode cL_law 482 = .ok (.iload 10, 2) := by decide +kernel
theorem dL_law_484 : decode cL_law 484 = .ok (.iload 12, 2) := by decide +kernel
theorem dL_law_486 : decode cL_law 486 = .ok (.iload 16, 2) := by decide +kernel
theorem dL_law_488 : decode cL_law 488 = .ok (.iconst 4, 1) := by decide +kernel
theorem dL_law_489 : decode cL_law 489 = .ok (.if_icmp .ge 7, 3) := by decide +kernel
theorem dL_law_492 : decode cL_law 492 = .ok (.iconst 1, 1) := by decide +kernel
theorem dL_law_493 : decode cL_law 493 = .ok (.goto 4, 3) := by decide +kernel
theorem dL_law_496 : decode cL_law 496 = .ok (.iconst 0, 1) := by decide +kernel
theorem dL_law_497 : decode cL_law 497 = .ok (.invokevirtual 65, 3) := by decide +kernel
theorem dL_law_500 : decode cL_law 500 = .ok (.aload_n 1, 1) := by decide +kernel
theorem dL_law_501 : decode cL_law 501 = .ok (.aload_n 2, 1) := by decide +kernel
theorem dL_law_502 : decode cL_law 502 = .ok (.iload 10, 2) := by decide +kernel
theorem dL_law_504 : decode cL_law 504 = .ok (.iaload, 1) := by decide +kernel
theorem dL_law_505 : decode cL_law 505 = .ok (.iload 10, 2) := by decide +kernel
theorem dL_law_507 : decode cL_law 507 = .ok (.iload 12, 2) := by decide +kernel
theorem dL_law_509 : decode cL_law 509 = .ok (.invokevirtual 8, 3) := by decide +kernel
theorem dL_law_512 : decode cL_law 512 = .ok (.iload 16, 2) := by decide +kernel
theorem dL_law_514 : decode cL_law 514 = .ok (.iconst 4, 1) := by decide +kernel
theorem dL_law_515 : decode cL_law 515 = .ok (.if_icmp .ge 7, 3) := by decide +kernel
theorem dL_law_518 : decode cL_law 518 = .ok (.iconst 4, 1) := by decide +kernel
theorem dL_law_519 : decode cL_law 519 = .ok (.goto 7, 3) := by decide +kernel
theorem dL_law_522 : decode cL_law 522 = .ok (.iload 16, 2) := by decide +kernel
theorem dL_law_524 : decode cL_law 524 = .ok (.iconst 4, 1) := by decide +kernel
theorem dL_law_525 : decode cL_law 525 = .ok (.isub, 1) := by decide +kernel
theorem dL_law_526 : decode cL_law 526 = .ok (.if_icmp .ne 7, 3) := by decide +kernel
theorem dL_law_529 : decode cL_law 529 = .ok (.iconst 1, 1) := by decide +kernel
theorem dL_law_530 : decode cL_law 530 = .ok (.goto 4, 3) := by decide +kernel
theorem dL_law_533 : decode cL_law 533 = .ok (.iconst 0, 1) := by decide +kernel
theorem dL_law_534 : decode cL_law 534 = .ok (.istore 7, 2) := by decide +kernel
theorem dL_law_536 : decode cL_law 536 = .ok (.goto 593, 3) := by decide +kernel
theorem dL_law_539 : decode cL_law 539 = .ok (.iload 9, 2) := by decide +kernel
theorem dL_law_541 : decode cL_law 541 = .ok (.bipush 8, 2) := by decide +kernel
theorem dL_law_543 : decode cL_law 543 = .ok (.if_icmp .ne 37, 3) := by decide +kernel
theorem dL_law_546 : decode cL_law 546 = .ok (.aload_n 1, 1) := by decide +kernel
theorem dL_law_547 : decode cL_law 547 = .ok (.iload 10, 2) := by decide +kernel
theorem dL_law_549 : decode cL_law 549 = .ok (.iload 12, 2) := by decide +kernel
theorem dL_law_551 : decode cL_law 551 = .ok (.invokevirtual 68, 3) := by decide +kernel
theorem dL_law_554 : decode cL_law 554 = .ok (.aload_n 1, 1) := by decide +kernel
theorem dL_law_555 : decode cL_law 555 = .ok (.aload_n 2, 1) := by decide +kernel
theorem dL_law_556 : decode cL_law 556 = .ok (.iload 10, 2) := by decide +kernel
theorem dL_law_558 : decode cL_law 558 = .ok (.iaload, 1) := by decide +kernel
theorem dL_law_559 : decode cL_law 559 = .ok (.iconst 1, 1) := by decide +kernel
theorem dL_law_560 : decode cL_law 560 = .ok (.invokevirtual 14, 3) := by decide +kernel
theorem dL_law_563 : decode cL_law 563 = .ok (.iload 15, 2) := by decide +kernel
theorem dL_law_565 : decode cL_law 565 = .ok (.iconst 1, 1) := by decide +kernel
theorem dL_law_566 : decode cL_law 566 = .ok (.iadd, 1) := by decide +kernel
theorem dL_law_567 : decode cL_law 567 = .ok (.if_icmp .ne 7, 3) := by decide +kernel
theorem dL_law_570 : decode cL_law 570 = .ok (.iconst 1, 1) := by decide +kernel
theorem dL_law_571 : decode cL_law 571 = .ok (.goto 4, 3) := by decide +kernel
theorem dL_law_574 : decode cL_law 574 = .ok (.iconst 0, 1) := by decide +kernel
theorem dL_law_575 : decode cL_law 575 = .ok (.istore 7, 2) := by decide +kernel
theorem dL_law_577 : decode cL_law 577 = .ok (.goto 552, 3) := by decide +kernel
theorem dL_law_580 : decode cL_law 580 = .ok (.iload 9, 2) := by decide +kernel
theorem dL_law_582 : decode cL_law 582 = .ok (.bipush 9, 2) := by decide +kernel
theorem dL_law_584 : decode cL_law 584 = .ok (.if_icmp .ne 100, 3) := by decide +kernel
theorem dL_law_587 : decode cL_law 587 = .ok (.aload_n 1, 1) := by decide +kernel
theorem dL_law_588 : decode cL_law 588 = .ok (.iload 10, 2) := by decide +kernel
theorem dL_law_590 : decode cL_law 590 = .ok (.iload 12, 2) := by decide +kernel
theorem dL_law_592 : decode cL_law 592 = .ok (.invokestatic 71, 3) := by decide +kernel
theorem dL_law_595 : decode cL_law 595 = .ok (.istore 18, 2) := by decide +kernel
theorem dL_law_597 : decode cL_law 597 = .ok (.aload_n 1, 1) := by decide +kernel
theorem dL_law_598 : decode cL_law 598 = .ok (.aload_n 2, 1) := by decide +kernel
theorem dL_law_599 : decode cL_law 599 = .ok (.iload 10, 2) := by decide +kernel
theorem dL_law_601 : decode cL_law 601 = .ok (.iaload, 1) := by decide +kernel
theorem dL_law_602 : decode cL_law 602 = .ok (.iconst 1, 1) := by decide +kernel
theorem dL_law_603 : decode cL_law 603 = .ok (.invokevirtual 14, 3) := by decide +kernel
theorem dL_law_606 : decode cL_law 606 = .ok (.iload 18, 2) := by decide +kernel
theorem dL_law_608 : decode cL_law 608 = .ok (.ifCond .eq 10, 3) := by decide +kernel
theorem dL_law_611 : decode cL_law 611 = .ok (.iload 15, 2) := by decide +kernel
theorem dL_law_613 : decode cL_law 613 = .ok (.iconst 1, 1) := by decide +kernel
theorem dL_law_614 : decode cL_law 614 = .ok (.iadd, 1) := by decide +kernel
theorem dL_law_615 : decode cL_law 615 = .ok (.goto 5, 3) := by decide +kernel
theorem dL_law_618 : decode cL_law 618 = .ok (.iload 15, 2) := by decide +kernel
theorem dL_law_620 : decode cL_law 620 = .ok (.if_icmp .ne 7, 3) := by decide +kernel
theorem dL_law_623 : decode cL_law 623 = .ok (.iconst 1, 1) := by decide +kernel
theorem dL_law_624 : decode cL_law 624 = .ok (.goto 4, 3) := by decide +kernel
theorem dL_law_627 : decode cL_law 627 = .ok (.iconst 0, 1) := by decide +kernel
theorem dL_law_628 : decode cL_law 628 = .ok (.istore 7, 2) := by decide +kernel
theorem dL_law_630 : decode cL_law 630 = .ok (.iconst 0, 1) := by decide +kernel
theorem dL_law_631 : decode cL_law 631 = .ok (.istore 19, 2) := by decide +kernel
theorem dL_law_633 : decode cL_law 633 = .ok (.iload 19, 2) := by decide +kernel
theorem dL_law_635 : decode cL_law 635 = .ok (.iload 5, 2) := by decide +kernel
theorem dL_law_637 : decode cL_law 637 = .ok (.if_icmp .ge 44, 3) := by decide +kernel
theorem dL_law_640 : decode cL_law 640 = .ok (.iload 7, 2) := by decide +kernel
theorem dL_law_642 : decode cL_law 642 = .ok (.ifCond .eq 30, 3) := by decide +kernel
theorem dL_law_645 : decode cL_law 645 = .ok (.iload 18, 2) := by decide +kernel
theorem dL_law_647 : decode cL_law 647 = .ok (.ifCond .eq 21, 3) := by decide +kernel
theorem dL_law_650 : decode cL_law 650 = .ok (.aload_n 1, 1) := by decide +kernel
theorem dL_law_651 : decode cL_law 651 = .ok (.aload_n 2, 1) := by decide +kernel
theorem dL_law_652 : decode cL_law 652 = .ok (.iload 10, 2) := by decide +kernel
theorem dL_law_654 : decode cL_law 654 = .ok (.iaload, 1) := by decide +kernel
theorem dL_law_655 : decode cL_law 655 = .ok (.iload 19, 2) := by decide +kernel
theorem dL_law_657 : decode cL_law 657 = .ok (.iload 10, 2) := by decide +kernel
theorem dL_law_659 : decode cL_law 659 = .ok (.invokevirtual 8, 3) := by decide +kernel
theorem dL_law_662 : decode cL_law 662 = .ok (.iconst 4, 1) := by decide +kernel
theorem dL_law_663 : decode cL_law 663 = .ok (.irem, 1) := by decide +kernel
theorem dL_law_664 : decode cL_law 664 = .ok (.iconst 2, 1) := by decide +kernel
theorem dL_law_665 : decode cL_law 665 = .ok (.if_icmp .eq 7, 3) := by decide +kernel
theorem dL_law_668 : decode cL_law 668 = .ok (.iconst 1, 1) := by decide +kernel
theorem dL_law_669 : decode cL_law 669 = .ok (.goto 4, 3) := by decide +kernel
theorem dL_law_672 : decode cL_law 672 = .ok (.iconst 0, 1) := by decide +kernel
theorem dL_law_673 : decode cL_law 673 = .ok (.istore 7, 2) := by decide +kernel
theorem dL_law_675 : decode cL_law 675 = .ok (.iinc 19 1, 3) := by decide +kernel
theorem dL_law_678 : decode cL_law 678 = .ok (.goto (-45), 3) := by decide +kernel
theorem dL_law_681 : decode cL_law 681 = .ok (.goto 448, 3) := by decide +kernel
theorem dL_law_684 : decode cL_law 684 = .ok (.iload 9, 2) := by decide +kernel
theorem dL_law_686 : decode cL_law 686 = .ok (.bipush 13, 2) := by decide +kernel
theorem dL_law_688 : decode cL_law 688 = .ok (.if_icmp .ge 98, 3) := by decide +kernel
theorem dL_law_691 : decode cL_law 691 = .ok (.iload 6, 2) := by decide +kernel
theorem dL_law_693 : decode cL_law 693 = .ok (.bipush 20, 2) := by decide +kernel
theorem dL_law_695 : decode cL_law 695 = .ok (.if_icmp .ge 91, 3) := by decide +kernel
theorem dL_law_698 : decode cL_law 698 = .ok (.iload 6, 2) := by decide +kernel
theorem dL_law_700 : decode cL_law 700 = .ok (.ifCond .le 19, 3) := by decide +kernel
theorem dL_law_703 : decode cL_law 703 = .ok (.aload_n 1, 1) := by decide +kernel
theorem dL_law_704 : decode cL_law 704 = .ok (.iload 10, 2) := by decide +kernel
theorem dL_law_706 : decode cL_law 706 = .ok (.iload 13, 2) := by decide +kernel
theorem dL_law_708 : decode cL_law 708 = .ok (.invokevirtual 74, 3) := by decide +kernel
theorem dL_law_711 : decode cL_law 711 = .ok (.ifCond .eq 8, 3) := by decide +kernel
theorem dL_law_714 : decode cL_law 714 = .ok (.iload 13, 2) := by decide +kernel
theorem dL_law_716 : decode cL_law 716 = .ok (.goto 4, 3) := by decide +kernel
theorem dL_law_719 : decode cL_law 719 = .ok (.iconst (-1), 1) := by decide +kernel
theorem dL_law_720 : decode cL_law 720 = .ok (.istore 18, 2) := by decide +kernel
theorem dL_law_722 : decode cL_law 722 = .ok (.aload_n 1, 1) := by decide +kernel
theorem dL_law_723 : decode cL_law 723 = .ok (.iload 10, 2) := by decide +kernel
theorem dL_law_725 : decode cL_law 725 = .ok (.iload 11, 2) := by decide +kernel
theorem dL_law_727 : decode cL_law 727 = .ok (.iconst 3, 1) := by decide +kernel
theorem dL_law_728 : decode cL_law 728 = .ok (.irem, 1) := by decide +kernel
theorem dL_law_729 : decode cL_law 729 = .ok (.iload 11, 2) := by decide +kernel
theorem dL_law_731 : decode cL_law 731 = .ok (.bipush 15, 2) := by decide +kernel
theorem dL_law_733 : decode cL_law 733 = .ok (.idiv, 1) := by decide +kernel
theorem dL_law_734 : decode cL_law 734 = .ok (.iload 18, 2) := by decide +kernel
theorem dL_law_736 : decode cL_law 736 = .ok (.invokevirtual 78, 3) := by decide +kernel
theorem dL_law_739 : decode cL_law 739 = .ok (.iload 6, 2) := by decide +kernel
theorem dL_law_741 : decode cL_law 741 = .ok (.if_icmp .ne 30, 3) := by decide +kernel
theorem dL_law_744 : decode cL_law 744 = .ok (.aload_n 1, 1) := by decide +kernel
theorem dL_law_745 : decode cL_law 745 = .ok (.iload 10, 2) := by decide +kernel
theorem dL_law_747 : decode cL_law 747 = .ok (.iload 6, 2) := by decide +kernel
theorem dL_law_749 : decode cL_law 749 = .ok (.invokevirtual 74, 3) := by decide +kernel
theorem dL_law_752 : decode cL_law 752 = .ok (.ifCond .eq 19, 3) := by decide +kernel
theorem dL_law_755 : decode cL_law 755 = .ok (.aload_n 1, 1) := by decide +kernel
theorem dL_law_756 : decode cL_law 756 = .ok (.iload 10, 2) := by decide +kernel
theorem dL_law_758 : decode cL_law 758 = .ok (.iconst 0, 1) := by decide +kernel
theorem dL_law_759 : decode cL_law 759 = .ok (.invokevirtual 82, 3) := by decide +kernel
theorem dL_law_762 : decode cL_law 762 = .ok (.iload 6, 2) := by decide +kernel
theorem dL_law_764 : decode cL_law 764 = .ok (.if_icmp .ne 7, 3) := by decide +kernel
theorem dL_law_767 : decode cL_law 767 = .ok (.iconst 1, 1) := by decide +kernel
theorem dL_law_768 : decode cL_law 768 = .ok (.goto 4, 3) := by decide +kernel
theorem dL_law_771 : decode cL_law 771 = .ok (.iconst 0, 1) := by decide +kernel
theorem dL_law_772 : decode cL_law 772 = .ok (.istore 7, 2) := by decide +kernel
theorem dL_law_774 : decode cL_law 774 = .ok (.aload_n 3, 1) := by decide +kernel
theorem dL_law_775 : decode cL_law 775 = .ok (.iload 6, 2) := by decide +kernel
theorem dL_law_777 : decode cL_law 777 = .ok (.iload 10, 2) := by decide +kernel
theorem dL_law_779 : decode cL_law 779 = .ok (.iastore, 1) := by decide +kernel
theorem dL_law_780 : decode cL_law 780 = .ok (.iinc 6 1, 3) := by decide +kernel
theorem dL_law_783 : decode cL_law 783 = .ok (.goto 346, 3) := by decide +kernel
theorem dL_law_786 : decode cL_law 786 = .ok (.iload 9, 2) := by decide +kernel
theorem dL_law_788 : decode cL_law 788 = .ok (.bipush 13, 2) := by decide +kernel
theorem dL_law_790 : decode cL_law 790 = .ok (.if_icmp .ne 77, 3) := by decide +kernel
theorem dL_law_793 : decode cL_law 793 = .ok (.iload 6, 2) := by decide +kernel
theorem dL_law_795 : decode cL_law 795 = .ok (.ifCond .le 72, 3) := by decide +kernel
theorem dL_law_798 : decode cL_law 798 = .ok (.aload_n 1, 1) := by decide +kernel
theorem dL_law_799 : decode cL_law 799 = .ok (.iload 13, 2) := by decide +kernel
theorem dL_law_801 : decode cL_law 801 = .ok (.invokestatic 85, 3) := by decide +kernel
theorem dL_law_804 : decode cL_law 804 = .ok (.istore 18, 2) := by decide +kernel
theorem dL_law_806 : decode cL_law 806 = .ok (.iload 18, 2) := by decide +kernel
theorem dL_law_808 : decode cL_law 808 = .ok (.ifCond .lt 7, 3) := by decide +kernel
theorem dL_law_811 : decode cL_law 811 = .ok (.iconst 1, 1) := by decide +kernel
theorem dL_law_812 : decode cL_law 812 = .ok (.goto 4, 3) := by decide +kernel
theorem dL_law_815 : decode cL_law 815 = .ok (.iconst 0, 1) := by decide +kernel
theorem dL_law_816 : decode cL_law 816 = .ok (.aload 4, 2) := by decide +kernel
theorem dL_law_818 : decode cL_law 818 = .ok (.iload 13, 2) := by decide +kernel
theorem dL_law_820 : decode cL_law 820 = .ok (.iaload, 1) := by decide +kernel
theorem dL_law_821 : decode cL_law 821 = .ok (.ifCond .ne 7, 3) := by decide +kernel
theorem dL_law_824 : decode cL_law 824 = .ok (.iconst 1, 1) := by decide +kernel
theorem dL_law_825 : decode cL_law 825 = .ok (.goto 4, 3) := by decide +kernel
theorem dL_law_828 : decode cL_law 828 = .ok (.iconst 0, 1) := by decide +kernel
theorem dL_law_829 : decode cL_law 829 = .ok (.if_icmp .ne 26, 3) := by decide +kernel
theorem dL_law_832 : decode cL_law 832 = .ok (.iload 18, 2) := by decide +kernel
theorem dL_law_834 : decode cL_law 834 = .ok (.iconst 3, 1) := by decide +kernel
theorem dL_law_835 : decode cL_law 835 = .ok (.if_icmp .gt 20, 3) := by decide +kernel
theorem dL_law_838 : decode cL_law 838 = .ok (.aload_n 1, 1) := by decide +kernel
theorem dL_law_839 : decode cL_law 839 = .ok (.aload_n 3, 1) := by decide +kernel
theorem dL_law_840 : decode cL_law 840 = .ok (.iload 13, 2) := by decide +kernel
theorem dL_law_842 : decode cL_law 842 = .ok (.iaload, 1) := by decide +kernel
theorem dL_law_843 : decode cL_law 843 = .ok (.iload 13, 2) := by decide +kernel
theorem dL_law_845 : decode cL_law 845 = .ok (.invokevirtual 74, 3) := by decide +kernel
theorem dL_law_848 : decode cL_law 848 = .ok (.ifCond .ne 7, 3) := by decide +kernel
theorem dL_law_851 : decode cL_law 851 = .ok (.iconst 1, 1) := by decide +kernel
theorem dL_law_852 : decode cL_law 852 = .ok (.goto 4, 3) := by decide +kernel
theorem dL_law_855 : decode cL_law 855 = .ok (.iconst 0, 1) := by decide +kernel
theorem dL_law_856 : decode cL_law 856 = .ok (.istore 7, 2) := by decide +kernel
theorem dL_law_858 : decode cL_law 858 = .ok (.aload 4, 2) := by decide +kernel
theorem dL_law_860 : decode cL_law 860 = .ok (.iload 13, 2) := by decide +kernel
theorem dL_law_862 : decode cL_law 862 = .ok (.iconst 1, 1) := by decide +kernel
theorem dL_law_863 : decode cL_law 863 = .ok (.iastore, 1) := by decide +kernel
theorem dL_law_864 : decode cL_law 864 = .ok (.goto 265, 3) := by decide +kernel
theorem dL_law_867 : decode cL_law 867 = .ok (.iload 9, 2) := by decide +kernel
theorem dL_law_869 : decode cL_law 869 = .ok (.bipush 14, 2) := by decide +kernel
theorem dL_law_871 : decode cL_law 871 = .ok (.if_icmp .ne 51, 3) := by decide +kernel
theorem dL_law_874 : decode cL_law 874 = .ok (.iload 6, 2) := by decide +kernel
theorem dL_law_876 : decode cL_law 876 = .ok (.ifCond .le 46, 3) := by decide +kernel
theorem dL_law_879 : decode cL_law 879 = .ok (.aload_n 1, 1) := by decide +kernel
theorem dL_law_880 : decode cL_law 880 = .ok (.iload 10, 2) := by decide +kernel
theorem dL_law_882 : decode cL_law 882 = .ok (.iload 13, 2) := by decide +kernel
theorem dL_law_884 : decode cL_law 884 = .ok (.invokestatic 89, 3) := by decide +kernel
theorem dL_law_887 : decode cL_law 887 = .ok (.ifCond .eq 25, 3) := by decide +kernel
theorem dL_law_890 : decode cL_law 890 = .ok (.aload_n 1, 1) := by decide +kernel
theorem dL_law_891 : decode cL_law 891 = .ok (.iload 10, 2) := by decide +kernel
theorem dL_law_893 : decode cL_law 893 = .ok (.iload 13, 2) := by decide +kernel
theorem dL_law_895 : decode cL_law 895 = .ok (.invokevirtual 74, 3) := by decide +kernel
theorem dL_law_898 : decode cL_law 898 = .ok (.ifCond .eq 18, 3) := by decide +kernel
theorem dL_law_901 : decode cL_law 901 = .ok (.aload_n 1, 1) := by decide +kernel
theorem dL_law_902 : decode cL_law 902 = .ok (.iload 10, 2) := by decide +kernel
theorem dL_law_904 : decode cL_law 904 = .ok (.iload 13, 2) := by decide +kernel
theorem dL_law_906 : decode cL_law 906 = .ok (.invokestatic 89, 3) := by decide +kernel
theorem dL_law_909 : decode cL_law 909 = .ok (.ifCond .ne 7, 3) := by decide +kernel
theorem dL_law_912 : decode cL_law 912 = .ok (.iconst 1, 1) := by decide +kernel
theorem dL_law_913 : decode cL_law 913 = .ok (.goto 4, 3) := by decide +kernel
theorem dL_law_916 : decode cL_law 916 = .ok (.iconst 0, 1) := by decide +kernel
theorem dL_law_917 : decode cL_law 917 = .ok (.istore 7, 2) := by decide +kernel
theorem dL_law_919 : decode cL_law 919 = .ok (.goto 210, 3) := by decide +kernel
theorem dL_law_922 : decode cL_law 922 = .ok (.iload 9, 2) := by decide +kernel
theorem dL_law_924 : decode cL_law 924 = .ok (.bipush 20, 2) := by decide +kernel
theorem dL_law_926 : decode cL_law 926 = .ok (.if_icmp .ge 203, 3) := by decide +kernel
theorem dL_law_929 : decode cL_law 929 = .ok (.aload_n 1, 1) := by decide +kernel
theorem dL_law_930 : decode cL_law 930 = .ok (.iload 14, 2) := by decide +kernel
theorem dL_law_932 : decode cL_law 932 = .ok (.iconst 0, 1) := by decide +kernel
theorem dL_law_933 : decode cL_law 933 = .ok (.invokevirtual 14, 3) := by decide +kernel
theorem dL_law_936 : decode cL_law 936 = .ok (.istore 18, 2) := by decide +kernel
theorem dL_law_938 : decode cL_law 938 = .ok (.aload_n 1, 1) := by decide +kernel
theorem dL_law_939 : decode cL_law 939 = .ok (.iload 14, 2) := by decide +kernel
theorem dL_law_941 : decode cL_law 941 = .ok (.iconst 1, 1) := by decide +kernel
theorem dL_law_942 : decode cL_law 942 = .ok (.invokevirtual 14, 3) := by decide +kernel
theorem dL_law_945 : decode cL_law 945 = .ok (.istore 19, 2) := by decide +kernel
theorem dL_law_947 : decode cL_law 947 = .ok (.aload_n 1, 1) := by decide +kernel
theorem dL_law_948 : decode cL_law 948 = .ok (.iload 14, 2) := by decide +kernel
theorem dL_law_950 : decode cL_law 950 = .ok (.invokevirtual 92, 3) := by decide +kernel
theorem dL_law_953 : decode cL_law 953 = .ok (.istore 20, 2) := by decide +kernel
theorem dL_law_955 : decode cL_law 955 = .ok (.iload 20, 2) := by decide +kernel
theorem dL_law_957 : decode cL_law 957 = .ok (.iconst (-1), 1) := by decide +kernel
theorem dL_law_958 : decode cL_law 958 = .ok (.if_icmp .ne 16, 3) := by decide +kernel
theorem dL_law_961 : decode cL_law 961 = .ok (.iload 18, 2) := by decide +kernel
theorem dL_law_963 : decode cL_law 963 = .ok (.ifCond .ne 7, 3) := by decide +kernel
theorem dL_law_966 : decode cL_law 966 = .ok (.iconst 1, 1) := by decide +kernel
theorem dL_law_967 : decode cL_law 967 = .ok (.goto 59, 3) := by decide +kernel
theorem dL_law_970 : decode cL_law 970 = .ok (.iconst 0, 1) := by decide +kernel
theorem dL_law_971 : decode cL_law 971 = .ok (.goto 55, 3) := by decide +kernel
theorem dL_law_974 : decode cL_law 974 = .ok (.iload 20, 2) := by decide +kernel
theorem dL_law_976 : decode cL_law 976 = .ok (.bipush 10, 2) := by decide +kernel
theorem dL_law_978 : decode cL_law 978 = .ok (.if_icmp .gt 47, 3) := by decide +kernel
theorem dL_law_981 : decode cL_law 981 = .ok (.aload_n 1, 1) := by decide +kernel
theorem dL_law_982 : decode cL_law 982 = .ok (.iload 14, 2) := by decide +kernel
theorem dL_law_984 : decode cL_law 984 = .ok (.iconst 0, 1) := by decide +kernel
theorem dL_law_985 : decode cL_law 985 = .ok (.invokevirtual 14, 3) := by decide +kernel
theorem dL_law_988 : decode cL_law 988 = .ok (.iload 18, 2) := by decide +kernel
theorem dL_law_990 : decode cL_law 990 = .ok (.iconst 1, 1) := by decide +kernel
theorem dL_law_991 : decode cL_law 991 = .ok (.isub, 1) := by decide +kernel
theorem dL_law_992 : decode cL_law 992 = .ok (.if_icmp .ne 33, 3) := by decide +kernel
theorem dL_law_995 : decode cL_law 995 = .ok (.aload_n 1, 1) := by decide +kernel
theorem dL_law_996 : decode cL_law 996 = .ok (.iload 14, 2) := by decide +kernel
theorem dL_law_998 : decode cL_law 998 = .ok (.iconst 1, 1) := by decide +kernel
theorem dL_law_999 : decode cL_law 999 = .ok (.invokevirtual 14, 3) := by decide +kernel
theorem dL_law_1002 : decode cL_law 1002 = .ok (.iload 19, 2) := by decide +kernel
theorem dL_law_1004 : decode cL_law 1004 = .ok (.if_icmp .lt 21, 3) := by decide +kernel
theorem dL_law_1007 : decode cL_law 1007 = .ok (.aload_n 1, 1) := by decide +kernel
theorem dL_law_1008 : decode cL_law 1008 = .ok (.iload 14, 2) := by decide +kernel
theorem dL_law_1010 : decode cL_law 1010 = .ok (.iconst 1, 1) := by decide +kernel
theorem dL_law_1011 : decode cL_law 1011 = .ok (.invokevirtual 14, 3) := by decide +kernel
theorem dL_law_1014 : decode cL_law 1014 = .ok (.iload 19, 2) := by decide +kernel
theorem dL_law_1016 : decode cL_law 1016 = .ok (.iconst 1, 1) := by decide +kernel
theorem dL_law_1017 : decode cL_law 1017 = .ok (.iadd, 1) := by decide +kernel
theorem dL_law_1018 : decode cL_law 1018 = .ok (.if_icmp .gt 7, 3) := by decide +kernel
theorem dL_law_1021 : decode cL_law 1021 = .ok (.iconst 1, 1) := by decide +kernel
theorem dL_law_1022 : decode cL_law 1022 = .ok (.goto 4, 3) := by decide +kernel
theorem dL_law_1025 : decode cL_law 1025 = .ok (.iconst 0, 1) := by decide +kernel
theorem dL_law_1026 : decode cL_law 1026 = .ok (.istore 7, 2) := by decide +kernel
theorem dL_law_1028 : decode cL_law 1028 = .ok (.aload_n 1, 1) := by decide +kernel
theorem dL_law_1029 : decode cL_law 1029 = .ok (.iload 14, 2) := by decide +kernel
theorem dL_law_1031 : decode cL_law 1031 = .ok (.invokestatic 95, 3) := by decide +kernel
theorem dL_law_1034 : decode cL_law 1034 = .ok (.istore 21, 2) := by decide +kernel
theorem dL_law_1036 : decode cL_law 1036 = .ok (.aload_n 1, 1) := by decide +kernel
theorem dL_law_1037 : decode cL_law 1037 = .ok (.iload 14, 2) := by decide +kernel
theorem dL_law_1039 : decode cL_law 1039 = .ok (.iconst 1, 1) := by decide +kernel
theorem dL_law_1040 : decode cL_law 1040 = .ok (.iadd, 1) := by decide +kernel
theorem dL_law_1041 : decode cL_law 1041 = .ok (.iconst 3, 1) := by decide +kernel
theorem dL_law_1042 : decode cL_law 1042 = .ok (.irem, 1) := by decide +kernel
theorem dL_law_1043 : decode cL_law 1043 = .ok (.iconst 0, 1) := by decide +kernel
theorem dL_law_1044 : decode cL_law 1044 = .ok (.invokevirtual 14, 3) := by decide +kernel
theorem dL_law_1047 : decode cL_law 1047 = .ok (.aload_n 1, 1) := by decide +kernel
theorem dL_law_1048 : decode cL_law 1048 = .ok (.iload 14, 2) := by decide +kernel
theorem dL_law_1050 : decode cL_law 1050 = .ok (.iconst 2, 1) := by decide +kernel
theorem dL_law_1051 : decode cL_law 1051 = .ok (.iadd, 1) := by decide +kernel
theorem dL_law_1052 : decode cL_law 1052 = .ok (.iconst 3, 1) := by decide +kernel
theorem dL_law_1053 : decode cL_law 1053 = .ok (.irem, 1) := by decide +kernel
theorem dL_law_1054 : decode cL_law 1054 = .ok (.iconst 0, 1) := by decide +kernel
theorem dL_law_1055 : decode cL_law 1055 = .ok (.invokevirtual 14, 3) := by decide +kernel
theorem dL_law_1058 : decode cL_law 1058 = .ok (.iadd, 1) := by decide +kernel
theorem dL_law_1059 : decode cL_law 1059 = .ok (.istore 22, 2) := by decide +kernel
theorem dL_law_1061 : decode cL_law 1061 = .ok (.iload 7, 2) := by decide +kernel
theorem dL_law_1063 : decode cL_law 1063 = .ok (.ifCond .eq 63, 3) := by decide +kernel
theorem dL_law_1066 : decode cL_law 1066 = .ok (.iload 20, 2) := by decide +kernel
theorem dL_law_1068 : decode cL_law 1068 = .ok (.iconst (-1), 1) := by decide +kernel
theorem dL_law_1069 : decode cL_law 1069 = .ok (.if_icmp .eq 14, 3) := by decide +kernel
theorem dL_law_1072 : decode cL_law 1072 = .ok (.aload_n 1, 1) := by decide +kernel
theorem dL_law_1073 : decode cL_law 1073 = .ok (.iload 14, 2) := by decide +kernel
theorem dL_law_1075 : decode cL_law 1075 = .ok (.invokevirtual 98, 3) := by decide +kernel
theorem dL_law_1078 : decode cL_law 1078 = .ok (.iload 20, 2) := by decide +kernel
theorem dL_law_1080 : decode cL_law 1080 = .ok (.if_icmp .ne 46, 3) := by decide +kernel
theorem dL_law_1083 : decode cL_law 1083 = .ok (.aload_n 1, 1) := by decide +kernel
theorem dL_law_1084 : decode cL_law 1084 = .ok (.iload 14, 2) := by decide +kernel
theorem dL_law_1086 : decode cL_law 1086 = .ok (.invokestatic 95, 3) := by decide +kernel
theorem dL_law_1089 : decode cL_law 1089 = .ok (.iload 21, 2) := by decide +kernel
theorem dL_law_1091 : decode cL_law 1091 = .ok (.if_icmp .ne 35, 3) := by decide +kernel
theorem dL_law_1094 : decode cL_law 1094 = .ok (.aload_n 1, 1) := by decide +kernel
theorem dL_law_1095 : decode cL_law 1095 = .ok (.iload 14, 2) := by decide +kernel
theorem dL_law_1097 : decode cL_law 1097 = .ok (.iconst 1, 1) := by decide +kernel
theorem dL_law_1098 : decode cL_law 1098 = .ok (.iadd, 1) := by decide +kernel
theorem dL_law_1099 : decode cL_law 1099 = .ok (.iconst 3, 1) := by decide +kernel
theorem dL_law_1100 : decode cL_law 1100 = .ok (.irem, 1) := by decide +kernel
theorem dL_law_1101 : decode cL_law 1101 = .ok (.iconst 0, 1) := by decide +kernel
theorem dL_law_1102 : decode cL_law 1102 = .ok (.invokevirtual 14, 3) := by decide +kernel
theorem dL_law_1105 : decode cL_law 1105 = .ok (.aload_n 1, 1) := by decide +kernel
theorem dL_law_1106 : decode cL_law 1106 = .ok (.iload 14, 2) := by decide +kernel
theorem dL_law_1108 : decode cL_law 1108 = .ok (.iconst 2, 1) := by decide +kernel
theorem dL_law_1109 : decode cL_law 1109 = .ok (.iadd, 1) := by decide +kernel
theorem dL_law_1110 : decode cL_law 1110 = .ok (.iconst 3, 1) := by decide +kernel
theorem dL_law_1111 : decode cL_law 1111 = .ok (.irem, 1) := by decide +kernel
theorem dL_law_1112 : decode cL_law 1112 = .ok (.iconst 0, 1) := by decide +kernel
theorem dL_law_1113 : decode cL_law 1113 = .ok (.invokevirtual 14, 3) := by decide +kernel
theorem dL_law_1116 : decode cL_law 1116 = .ok (.iadd, 1) := by decide +kernel
theorem dL_law_1117 : decode cL_law 1117 = .ok (.iload 22, 2) := by decide +kernel
theorem dL_law_1119 : decode cL_law 1119 = .ok (.if_icmp .ne 7, 3) := by decide +kernel
theorem dL_law_1122 : decode cL_law 1122 = .ok (.iconst 1, 1) := by decide +kernel
theorem dL_law_1123 : decode cL_law 1123 = .ok (.goto 4, 3) := by decide +kernel
theorem dL_law_1126 : decode cL_law 1126 = .ok (.iconst 0, 1) := by decide +kernel
theorem dL_law_1127 : decode cL_law 1127 = .ok (.istore 7, 2) := by decide +kernel
theorem dL_law_1129 : decode cL_law 1129 = .ok (.iload 7, 2) := by decide +kernel
theorem dL_law_1131 : decode cL_law 1131 = .ok (.ifCond .eq 46, 3) := by decide +kernel
theorem dL_law_1134 : decode cL_law 1134 = .ok (.aload_n 1, 1) := by decide +kernel
theorem dL_law_1135 : decode cL_law 1135 = .ok (.iconst 0, 1) := by decide +kernel
theorem dL_law_1136 : decode cL_law 1136 = .ok (.iload 5, 2) := by decide +kernel
theorem dL_law_1138 : decode cL_law 1138 = .ok (.invokestatic 101, 3) := by decide +kernel
theorem dL_law_1141 : decode cL_law 1141 = .ok (.ifCond .eq 36, 3) := by decide +kernel
theorem dL_law_1144 : decode cL_law 1144 = .ok (.aload_n 1, 1) := by decide +kernel
theorem dL_law_1145 : decode cL_law 1145 = .ok (.iconst 1, 1) := by decide +kernel
theorem dL_law_1146 : decode cL_law 1146 = .ok (.iload 5, 2) := by decide +kernel
theorem dL_law_1148 : decode cL_law 1148 = .ok (.invokestatic 101, 3) := by decide +kernel
theorem dL_law_1151 : decode cL_law 1151 = .ok (.ifCond .eq 26, 3) := by decide +kernel
theorem dL_law_1154 : decode cL_law 1154 = .ok (.aload_n 1, 1) := by decide +kernel
theorem dL_law_1155 : decode cL_law 1155 = .ok (.iconst 2, 1) := by decide +kernel
theorem dL_law_1156 : decode cL_law 1156 = .ok (.iload 5, 2) := by decide +kernel
theorem dL_law_1158 : decode cL_law 1158 = .ok (.invokestatic 101, 3) := by decide +kernel
theorem dL_law_1161 : decode cL_law 1161 = .ok (.ifCond .eq 16, 3) := by decide +kernel
theorem dL_law_1164 : decode cL_law 1164 = .ok (.aload_n 1, 1) := by decide +kernel
theorem dL_law_1165 : decode cL_law 1165 = .ok (.iconst 3, 1) := by decide +kernel
theorem dL_law_1166 : decode cL_law 1166 = .ok (.iconst 1, 1) := by decide +kernel
theorem dL_law_1167 : decode cL_law 1167 = .ok (.invokevirtual 14, 3) := by decide +kernel
theorem dL_law_1170 : decode cL_law 1170 = .ok (.ifCond .ne 7, 3) := by decide +kernel
theorem dL_law_1173 : decode cL_law 1173 = .ok (.iconst 1, 1) := by decide +kernel
theorem dL_law_1174 : decode cL_law 1174 = .ok (.goto 4, 3) := by decide +kernel
theorem dL_law_1177 : decode cL_law 1177 = .ok (.iconst 0, 1) := by decide +kernel
theorem dL_law_1178 : decode cL_law 1178 = .ok (.istore 7, 2) := by decide +kernel
theorem dL_law_1180 : decode cL_law 1180 = .ok (.iload 6, 2) := by decide +kernel
theorem dL_law_1182 : decode cL_law 1182 = .ok (.ifCond .le 113, 3) := by decide +kernel
theorem dL_law_1185 : decode cL_law 1185 = .ok (.aload_n 1, 1) := by decide +kernel
theorem dL_law_1186 : decode cL_law 1186 = .ok (.iload 12, 2) := by decide +kernel
theorem dL_law_1188 : decode cL_law 1188 = .ok (.iload 13, 2) := by decide +kernel
theorem dL_law_1190 : decode cL_law 1190 = .ok (.invokevirtual 74, 3) := by decide +kernel
theorem dL_law_1193 : decode cL_law 1193 = .ok (.istore 18, 2) := by decide +kernel
theorem dL_law_1195 : decode cL_law 1195 = .ok (.aload_n 1, 1) := by decide +kernel
theorem dL_law_1196 : decode cL_law 1196 = .ok (.aload_n 2, 1) := by decide +kernel
theorem dL_law_1197 : decode cL_law 1197 = .ok (.iload 12, 2) := by decide +kernel
theorem dL_law_1199 : decode cL_law 1199 = .ok (.iaload, 1) := by decide +kernel
theorem dL_law_1200 : decode cL_law 1200 = .ok (.iload 12, 2) := by decide +kernel
theorem dL_law_1202 : decode cL_law 1202 = .ok (.aload_n 3, 1) := by decide +kernel
theorem dL_law_1203 : decode cL_law 1203 = .ok (.iload 13, 2) := by decide +kernel
theorem dL_law_1205 : decode cL_law 1205 = .ok (.iaload, 1) := by decide +kernel
theorem dL_law_1206 : decode cL_law 1206 = .ok (.invokevirtual 8, 3) := by decide +kernel
theorem dL_law_1209 : decode cL_law 1209 = .ok (.aload_n 1, 1) := by decide +kernel
theorem dL_law_1210 : decode cL_law 1210 = .ok (.aload_n 2, 1) := by decide +kernel
theorem dL_law_1211 : decode cL_law 1211 = .ok (.iload 12, 2) := by decide +kernel
theorem dL_law_1213 : decode cL_law 1213 = .ok (.iaload, 1) := by decide +kernel
theorem dL_law_1214 : decode cL_law 1214 = .ok (.aload_n 3, 1) := by decide +kernel
theorem dL_law_1215 : decode cL_law 1215 = .ok (.iload 13, 2) := by decide +kernel
theorem dL_law_1217 : decode cL_law 1217 = .ok (.iaload, 1) := by decide +kernel
theorem dL_law_1218 : decode cL_law 1218 = .ok (.iload 12, 2) := by decide +kernel
theorem dL_law_1220 : decode cL_law 1220 = .ok (.invokevirtual 8, 3) := by decide +kernel
theorem dL_law_1223 : decode cL_law 1223 = .ok (.ior, 1) := by decide +kernel
theorem dL_law_1224 : decode cL_law 1224 = .ok (.istore 19, 2) := by decide +kernel
theorem dL_law_1226 : decode cL_law 1226 = .ok (.iload 7, 2) := by decide +kernel
theorem dL_law_1228 : decode cL_law 1228 = .ok (.ifCond .eq 64, 3) := by decide +kernel
theorem dL_law_1231 : decode cL_law 1231 = .ok (.iload 8, 2) := by decide +kernel
theorem dL_law_1233 : decode cL_law 1233 = .ok (.iconst 3, 1) := by decide +kernel
theorem dL_law_1234 : decode cL_law 1234 = .ok (.irem, 1) := by decide +kernel
theorem dL_law_1235 : decode cL_law 1235 = .ok (.ifCond .gt 16, 3) := by decide +kernel
theorem dL_law_1238 : decode cL_law 1238 = .ok (.iload 18, 2) := by decide +kernel
theorem dL_law_1240 : decode cL_law 1240 = .ok (.aload_n 1, 1) := by decide +kernel
theorem dL_law_1241 : decode cL_law 1241 = .ok (.iload 12, 2) := by decide +kernel
theorem dL_law_1243 : decode cL_law 1243 = .ok (.iload 13, 2) := by decide +kernel
theorem dL_law_1245 : decode cL_law 1245 = .ok (.invokevirtual 104, 3) := by decide +kernel
theorem dL_law_1248 : decode cL_law 1248 = .ok (.if_icmp .ne 44, 3) := by decide +kernel
theorem dL_law_1251 : decode cL_law 1251 = .ok (.iload 18, 2) := by decide +kernel
theorem dL_law_1253 : decode cL_law 1253 = .ok (.ifCond .eq 9, 3) := by decide +kernel
theorem dL_law_1256 : decode cL_law 1256 = .ok (.iload 19, 2) := by decide +kernel
theorem dL_law_1258 : decode cL_law 1258 = .ok (.iconst 4, 1) := by decide +kernel
theorem dL_law_1259 : decode cL_law 1259 = .ok (.if_icmp .ge 33, 3) := by decide +kernel
theorem dL_law_1262 : decode cL_law 1262 = .ok (.aload 4, 2) := by decide +kernel
theorem dL_law_1264 : decode cL_law 1264 = .ok (.iload 13, 2) := by decide +kernel
theorem dL_law_1266 : decode cL_law 1266 = .ok (.iaload, 1) := by decide +kernel
theorem dL_law_1267 : decode cL_law 1267 = .ok (.ifCond .eq 21, 3) := by decide +kernel
theorem dL_law_1270 : decode cL_law 1270 = .ok (.aload_n 2, 1) := by decide +kernel
theorem dL_law_1271 : decode cL_law 1271 = .ok (.iload 12, 2) := by decide +kernel
theorem dL_law_1273 : decode cL_law 1273 = .ok (.iaload, 1) := by decide +kernel
theorem dL_law_1274 : decode cL_law 1274 = .ok (.aload_n 2, 1) := by decide +kernel
theorem dL_law_1275 : decode cL_law 1275 = .ok (.aload_n 3, 1) := by decide +kernel
theorem dL_law_1276 : decode cL_law 1276 = .ok (.iload 13, 2) := by decide +kernel
theorem dL_law_1278 : decode cL_law 1278 = .ok (.iaload, 1) := by decide +kernel
theorem dL_law_1279 : decode cL_law 1279 = .ok (.iaload, 1) := by decide +kernel
theorem dL_law_1280 : decode cL_law 1280 = .ok (.if_icmp .ne 8, 3) := by decide +kernel
theorem dL_law_1283 : decode cL_law 1283 = .ok (.iload 18, 2) := by decide +kernel
theorem dL_law_1285 : decode cL_law 1285 = .ok (.ifCond .ne 7, 3) := by decide +kernel
theorem dL_law_1288 : decode cL_law 1288 = .ok (.iconst 1, 1) := by decide +kernel
theorem dL_law_1289 : decode cL_law 1289 = .ok (.goto 4, 3) := by decide +kernel
theorem dL_law_1292 : decode cL_law 1292 = .ok (.iconst 0, 1) := by decide +kernel
theorem dL_law_1293 : decode cL_law 1293 = .ok (.istore 7, 2) := by decide +kernel
theorem dL_law_1295 : decode cL_law 1295 = .ok (.aload_n 1, 1) := by decide +kernel
theorem dL_law_1296 : decode cL_law 1296 = .ok (.iload 10, 2) := by decide +kernel
theorem dL_law_1298 : decode cL_law 1298 = .ok (.iconst 0, 1) := by decide +kernel
theorem dL_law_1299 : decode cL_law 1299 = .ok (.invokevirtual 82, 3) := by decide +kernel
theorem dL_law_1302 : decode cL_law 1302 = .ok (.istore 18, 2) := by decide +kernel
theorem dL_law_1304 : decode cL_law 1304 = .ok (.aload_n 1, 1) := by decide +kernel
theorem dL_law_1305 : decode cL_law 1305 = .ok (.iload 10, 2) := by decide +kernel
theorem dL_law_1307 : decode cL_law 1307 = .ok (.iconst 1, 1) := by decide +kernel
theorem dL_law_1308 : decode cL_law 1308 = .ok (.invokevirtual 82, 3) := by decide +kernel
theorem dL_law_1311 : decode cL_law 1311 = .ok (.istore 19, 2) := by decide +kernel
theorem dL_law_1313 : decode cL_law 1313 = .ok (.iload 7, 2) := by decide +kernel
theorem dL_law_1315 : decode cL_law 1315 = .ok (.ifCond .eq 54, 3) := by decide +kernel
theorem dL_law_1318 : decode cL_law 1318 = .ok (.iload 18, 2) := by decide +kernel
theorem dL_law_1320 : decode cL_law 1320 = .ok (.ifCond .ge 11, 3) := by decide +kernel
theorem dL_law_1323 : decode cL_law 1323 = .ok (.iload 19, 2) := by decide +kernel
theorem dL_law_1325 : decode cL_law 1325 = .ok (.ifCond .ge 44, 3) := by decide +kernel
theorem dL_law_1328 : decode cL_law 1328 = .ok (.goto 21, 3) := by decide +kernel
theorem dL_law_1331 : decode cL_law 1331 = .ok (.iload 19, 2) := by decide +kernel
theorem dL_law_1333 : decode cL_law 1333 = .ok (.iload 18, 2) := by decide +kernel
theorem dL_law_1335 : decode cL_law 1335 = .ok (.if_icmp .ge 34, 3) := by decide +kernel
theorem dL_law_1338 : decode cL_law 1338 = .ok (.aload_n 1, 1) := by decide +kernel
theorem dL_law_1339 : decode cL_law 1339 = .ok (.iload 10, 2) := by decide +kernel
theorem dL_law_1341 : decode cL_law 1341 = .ok (.iload 18, 2) := by decide +kernel
theorem dL_law_1343 : decode cL_law 1343 = .ok (.invokevirtual 74, 3) := by decide +kernel
theorem dL_law_1346 : decode cL_law 1346 = .ok (.ifCond .eq 23, 3) := by decide +kernel
theorem dL_law_1349 : decode cL_law 1349 = .ok (.iload 19, 2) := by decide +kernel
theorem dL_law_1351 : decode cL_law 1351 = .ok (.ifCond .lt 14, 3) := by decide +kernel
theorem dL_law_1354 : decode cL_law 1354 = .ok (.aload_n 1, 1) := by decide +kernel
theorem dL_law_1355 : decode cL_law 1355 = .ok (.iload 10, 2) := by decide +kernel
theorem dL_law_1357 : decode cL_law 1357 = .ok (.iload 19, 2) := by decide +kernel
theorem dL_law_1359 : decode cL_law 1359 = .ok (.invokevirtual 74, 3) := by decide +kernel
theorem dL_law_1362 : decode cL_law 1362 = .ok (.ifCond .eq 7, 3) := by decide +kernel
theorem dL_law_1365 : decode cL_law 1365 = .ok (.iconst 1, 1) := by decide +kernel
theorem dL_law_1366 : decode cL_law 1366 = .ok (.goto 4, 3) := by decide +kernel
theorem dL_law_1369 : decode cL_law 1369 = .ok (.iconst 0, 1) := by decide +kernel
theorem dL_law_1370 : decode cL_law 1370 = .ok (.istore 7, 2) := by decide +kernel
theorem dL_law_1372 : decode cL_law 1372 = .ok (.iinc 8 1, 3) := by decide +kernel
theorem dL_law_1375 : decode cL_law 1375 = .ok (.goto (-1286), 3) := by decide +kernel
theorem dL_law_1378 : decode cL_law 1378 = .ok (.iconst 0, 1) := by decide +kernel
theorem dL_law_1379 : decode cL_law 1379 = .ok (.istore 8, 2) := by decide +kernel
theorem dL_law_1381 : decode cL_law 1381 = .ok (.iload 8, 2) := by decide +kernel
theorem dL_law_1383 : decode cL_law 1383 = .ok (.iconst 3, 1) := by decide +kernel
theorem dL_law_1384 : decode cL_law 1384 = .ok (.if_icmp .ge 43, 3) := by decide +kernel
theorem dL_law_1387 : decode cL_law 1387 = .ok (.iconst 0, 1) := by decide +kernel
theorem dL_law_1388 : decode cL_law 1388 = .ok (.istore 9, 2) := by decide +kernel
theorem dL_law_1390 : decode cL_law 1390 = .ok (.iconst 0, 1) := by decide +kernel
theorem dL_law_1391 : decode cL_law 1391 = .ok (.istore 10, 2) := by decide +kernel
theorem dL_law_1393 : decode cL_law 1393 = .ok (.iload 10, 2) := by decide +kernel
theorem dL_law_1395 : decode cL_law 1395 = .ok (.sipush 200, 3) := by decide +kernel
theorem dL_law_1398 : decode cL_law 1398 = .ok (.if_icmp .ge 23, 3) := by decide +kernel
theorem dL_law_1401 : decode cL_law 1401 = .ok (.iload 9, 2) := by decide +kernel
theorem dL_law_1403 : decode cL_law 1403 = .ok (.iconst (-1), 1) := by decide +kernel
theorem dL_law_1404 : decode cL_law 1404 = .ok (.if_icmp .eq 17, 3) := by decide +kernel
theorem dL_law_1407 : decode cL_law 1407 = .ok (.aload_n 1, 1) := by decide +kernel
theorem dL_law_1408 : decode cL_law 1408 = .ok (.iload 8, 2) := by decide +kernel
theorem dL_law_1410 : decode cL_law 1410 = .ok (.invokevirtual 92, 3) := by decide +kernel
theorem dL_law_1413 : decode cL_law 1413 = .ok (.istore 9, 2) := by decide +kernel
theorem dL_law_1415 : decode cL_law 1415 = .ok (.iinc 10 1, 3) := by decide +kernel
theorem dL_law_1418 : decode cL_law 1418 = .ok (.goto (-25), 3) := by decide +kernel
theorem dL_law_1421 : decode cL_law 1421 = .ok (.iinc 8 1, 3) := by decide +kernel
theorem dL_law_1424 : decode cL_law 1424 = .ok (.goto (-43), 3) := by decide +kernel
theorem dL_law_1427 : decode cL_law 1427 = .ok (.iconst 0, 1) := by decide +kernel
theorem dL_law_1428 : decode cL_law 1428 = .ok (.istore 8, 2) := by decide +kernel
theorem dL_law_1430 : decode cL_law 1430 = .ok (.iload 8, 2) := by decide +kernel
theorem dL_law_1432 : decode cL_law 1432 = .ok (.iconst 3, 1) := by decide +kernel
theorem dL_law_1433 : decode cL_law 1433 = .ok (.if_icmp .ge 43, 3) := by decide +kernel
theorem dL_law_1436 : decode cL_law 1436 = .ok (.iconst 0, 1) := by decide +kernel
theorem dL_law_1437 : decode cL_law 1437 = .ok (.istore 9, 2) := by decide +kernel
theorem dL_law_1439 : decode cL_law 1439 = .ok (.iconst 0, 1) := by decide +kernel
theorem dL_law_1440 : decode cL_law 1440 = .ok (.istore 10, 2) := by decide +kernel
theorem dL_law_1442 : decode cL_law 1442 = .ok (.iload 10, 2) := by decide +kernel
theorem dL_law_1444 : decode cL_law 1444 = .ok (.sipush 200, 3) := by decide +kernel
theorem dL_law_1447 : decode cL_law 1447 = .ok (.if_icmp .ge 23, 3) := by decide +kernel
theorem dL_law_1450 : decode cL_law 1450 = .ok (.iload 9, 2) := by decide +kernel
theorem dL_law_1452 : decode cL_law 1452 = .ok (.iconst (-1), 1) := by decide +kernel
theorem dL_law_1453 : decode cL_law 1453 = .ok (.if_icmp .eq 17, 3) := by decide +kernel
theorem dL_law_1456 : decode cL_law 1456 = .ok (.aload_n 1, 1) := by decide +kernel
theorem dL_law_1457 : decode cL_law 1457 = .ok (.iload 8, 2) := by decide +kernel
theorem dL_law_1459 : decode cL_law 1459 = .ok (.invokevirtual 92, 3) := by decide +kernel
theorem dL_law_1462 : decode cL_law 1462 = .ok (.istore 9, 2) := by decide +kernel
theorem dL_law_1464 : decode cL_law 1464 = .ok (.iinc 10 1, 3) := by decide +kernel
theorem dL_law_1467 : decode cL_law 1467 = .ok (.goto (-25), 3) := by decide +kernel
theorem dL_law_1470 : decode cL_law 1470 = .ok (.iinc 8 1, 3) := by decide +kernel
theorem dL_law_1473 : decode cL_law 1473 = .ok (.goto (-43), 3) := by decide +kernel
theorem dL_law_1476 : decode cL_law 1476 = .ok (.iconst 0, 1) := by decide +kernel
theorem dL_law_1477 : decode cL_law 1477 = .ok (.istore 8, 2) := by decide +kernel
theorem dL_law_1479 : decode cL_law 1479 = .ok (.iload 8, 2) := by decide +kernel
theorem dL_law_1481 : decode cL_law 1481 = .ok (.iload 6, 2) := by decide +kernel
theorem dL_law_1483 : decode cL_law 1483 = .ok (.if_icmp .ge 50, 3) := by decide +kernel
theorem dL_law_1486 : decode cL_law 1486 = .ok (.iload 8, 2) := by decide +kernel
theorem dL_law_1488 : decode cL_law 1488 = .ok (.aload_n 0, 1) := by decide +kernel
theorem dL_law_1489 : decode cL_law 1489 = .ok (.arraylength, 1) := by decide +kernel
theorem dL_law_1490 : decode cL_law 1490 = .ok (.iadd, 1) := by decide +kernel
theorem dL_law_1491 : decode cL_law 1491 = .ok (.iload 5, 2) := by decide +kernel
theorem dL_law_1493 : decode cL_law 1493 = .ok (.irem, 1) := by decide +kernel
theorem dL_law_1494 : decode cL_law 1494 = .ok (.istore 9, 2) := by decide +kernel
theorem dL_law_1496 : decode cL_law 1496 = .ok (.iload 7, 2) := by decide +kernel
theorem dL_law_1498 : decode cL_law 1498 = .ok (.ifCond .eq 26, 3) := by decide +kernel
theorem dL_law_1501 : decode cL_law 1501 = .ok (.aload_n 1, 1) := by decide +kernel
theorem dL_law_1502 : decode cL_law 1502 = .ok (.iload 9, 2) := by decide +kernel
theorem dL_law_1504 : decode cL_law 1504 = .ok (.iload 8, 2) := by decide +kernel
theorem dL_law_1506 : decode cL_law 1506 = .ok (.invokevirtual 74, 3) := by decide +kernel
theorem dL_law_1509 : decode cL_law 1509 = .ok (.aload_n 1, 1) := by decide +kernel
theorem dL_law_1510 : decode cL_law 1510 = .ok (.iload 9, 2) := by decide +kernel
theorem dL_law_1512 : decode cL_law 1512 = .ok (.iload 8, 2) := by decide +kernel
theorem dL_law_1514 : decode cL_law 1514 = .ok (.invokevirtual 104, 3) := by decide +kernel
theorem dL_law_1517 : decode cL_law 1517 = .ok (.if_icmp .ne 7, 3) := by decide +kernel
theorem dL_law_1520 : decode cL_law 1520 = .ok (.iconst 1, 1) := by decide +kernel
theorem dL_law_1521 : decode cL_law 1521 = .ok (.goto 4, 3) := by decide +kernel
theorem dL_law_1524 : decode cL_law 1524 = .ok (.iconst 0, 1) := by decide +kernel
theorem dL_law_1525 : decode cL_law 1525 = .ok (.istore 7, 2) := by decide +kernel
theorem dL_law_1527 : decode cL_law 1527 = .ok (.iinc 8 1, 3) := by decide +kernel
theorem dL_law_1530 : decode cL_law 1530 = .ok (.goto (-51), 3) := by decide +kernel
theorem dL_law_1533 : decode cL_law 1533 = .ok (.iload 7, 2) := by decide +kernel
theorem dL_law_1535 : decode cL_law 1535 = .ok (.ifCond .eq 60, 3) := by decide +kernel
theorem dL_law_1538 : decode cL_law 1538 = .ok (.aload_n 1, 1) := by decide +kernel
theorem dL_law_1539 : decode cL_law 1539 = .ok (.iconst 0, 1) := by decide +kernel
theorem dL_law_1540 : decode cL_law 1540 = .ok (.iconst 0, 1) := by decide +kernel
theorem dL_law_1541 : decode cL_law 1541 = .ok (.invokevirtual 14, 3) := by decide +kernel
theorem dL_law_1544 : decode cL_law 1544 = .ok (.aload_n 1, 1) := by decide +kernel
theorem dL_law_1545 : decode cL_law 1545 = .ok (.iconst 1, 1) := by decide +kernel
theorem dL_law_1546 : decode cL_law 1546 = .ok (.iconst 0, 1) := by decide +kernel
theorem dL_law_1547 : decode cL_law 1547 = .ok (.invokevirtual 14, 3) := by decide +kernel
theorem dL_law_1550 : decode cL_law 1550 = .ok (.iadd, 1) := by decide +kernel
theorem dL_law_1551 : decode cL_law 1551 = .ok (.aload_n 1, 1) := by decide +kernel
theorem dL_law_1552 : decode cL_law 1552 = .ok (.iconst 2, 1) := by decide +kernel
theorem dL_law_1553 : decode cL_law 1553 = .ok (.iconst 0, 1) := by decide +kernel
theorem dL_law_1554 : decode cL_law 1554 = .ok (.invokevirtual 14, 3) := by decide +kernel
theorem dL_law_1557 : decode cL_law 1557 = .ok (.iadd, 1) := by decide +kernel
theorem dL_law_1558 : decode cL_law 1558 = .ok (.ifCond .ne 37, 3) := by decide +kernel
theorem dL_law_1561 : decode cL_law 1561 = .ok (.aload_n 1, 1) := by decide +kernel
theorem dL_law_1562 : decode cL_law 1562 = .ok (.iconst 0, 1) := by decide +kernel
theorem dL_law_1563 : decode cL_law 1563 = .ok (.iload 5, 2) := by decide +kernel
theorem dL_law_1565 : decode cL_law 1565 = .ok (.invokestatic 101, 3) := by decide +kernel
theorem dL_law_1568 : decode cL_law 1568 = .ok (.ifCond .eq 27, 3) := by decide +kernel
theorem dL_law_1571 : decode cL_law 1571 = .ok (.aload_n 1, 1) := by decide +kernel
theorem dL_law_1572 : decode cL_law 1572 = .ok (.iconst 1, 1) := by decide +kernel
theorem dL_law_1573 : decode cL_law 1573 = .ok (.iload 5, 2) := by decide +kernel
theorem dL_law_1575 : decode cL_law 1575 = .ok (.invokestatic 101, 3) := by decide +kernel
theorem dL_law_1578 : decode cL_law 1578 = .ok (.ifCond .eq 17, 3) := by decide +kernel
theorem dL_law_1581 : decode cL_law 1581 = .ok (.aload_n 1, 1) := by decide +kernel
theorem dL_law_1582 : decode cL_law 1582 = .ok (.iconst 2, 1) := by decide +kernel
theorem dL_law_1583 : decode cL_law 1583 = .ok (.iload 5, 2) := by decide +kernel
theorem dL_law_1585 : decode cL_law 1585 = .ok (.invokestatic 101, 3) := by decide +kernel
theorem dL_law_1588 : decode cL_law 1588 = .ok (.ifCond .eq 7, 3) := by decide +kernel
theorem dL_law_1591 : decode cL_law 1591 = .ok (.iconst 1, 1) := by decide +kernel
theorem dL_law_1592 : decode cL_law 1592 = .ok (.goto 4, 3) := by decide +kernel
theorem dL_law_1595 : decode cL_law 1595 = .ok (.iconst 0, 1) := by decide +kernel
theorem dL_law_1596 : decode cL_law 1596 = .ok (.ireturn, 1) := by decide +kernel
