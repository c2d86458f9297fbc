theorem goodIn_c {big : List Cond} (cs : List (List Cond)) (hc : ∀ c ∈ cs, ∀ w ∈ c, w ∈ big) (ws : List Cond) (ps : List (Nat × Nat)) (hp : ws = ps.filterMap (fun q => (cs[q.1]?).bind (fun c => c[q.2]?))) (h : ws.all goodWord = true) : GoodIn big ws := by
  refine goodIn_sub (fun w hw => ?_) h
  rw [hp] at hw
  obtain ⟨q, -, hq⟩ := List.mem_filterMap.mp hw
  obtain ⟨c, hc1, hc2⟩ := Option.bind_eq_some_iff.mp hq
  exact hc c (List.mem_of_getElem? hc1) w (List.mem_of_getElem? hc2)
def wsL_cs : List (List Cond) := [wsL_law0_r1, wsL_law0_r2, wsL_law0_r3, wsL_law0_r4, wsL_law0_r5, wsL_law0_r6, wsL_law0_r7, wsL_law0_r8, wsL_law0_r9, wsL_law0_r10, wsL_law0_r11, wsL_law0_r12, wsL_law0_r13, wsL_law0_r14, wsL_law0_r15, wsL_law0_r16, wsL_law0_r17, wsL_law0_r18, wsL_law0_r19, wsL_law0_r20, wsL_law0_r21, wsL_law0_r22, wsL_law0_r23, wsL_law0_r24, wsL_law0_r25, wsL_law0_r26, wsL_law0_r27, wsL_law0_r28, wsX40, wsX50, wsX30, wsJx4a65c0, wsX10, wsX00, wsX20]
theorem wsL_cin : ∀ c ∈ wsL_cs, ∀ w ∈ c, w ∈ wsL_law := by
  have up : ∀ w ∈ wsL_law0, w ∈ wsL_law := fun w h => List.mem_append_left _ (List.mem_append_left _ (List.mem_append_left _ h))
  intro c hc w h
  refine up w ?_
  simp only [wsL_cs, List.mem_cons, List.not_mem_nil, or_false] at hc
  rcases hc with rfl | rfl | rfl | rfl | rfl | rfl | rfl | rfl | rfl | rfl | rfl | rfl | rfl | rfl | rfl | rfl | rfl | rfl | rfl | rfl | rfl | rfl | rfl | rfl | rfl | rfl | rfl | rfl | rfl | rfl | rfl | rfl | rfl | rfl | rfl
  · exact List.mem_append_left _ (List.mem_append_left _ (List.mem_append_left _ (List.mem_append_left _ (List.mem_append_left _ (List.mem_append_left _ (List.mem_append_left _ (List.mem_append_left _ (List.mem_append_left _ h))))))))
  · exact List.mem_append_left _ (List.mem_append_left _ (List.mem_append_left _ (List.mem_append_left _ (List.mem_append_left _ (List.mem_append_left _ (List.mem_append_left _ (List.mem_append_left _ (List.mem_append_right _ (List.mem_append_left _ h)))))))))
  · exact List.mem_append_left _ (List.mem_append_left _ (List.mem_append_left _ (List.mem_append_left _ (List.mem_append_left _ (List.mem_append_left _ (List.mem_append_left _ (List.mem_append_left _ (List.mem_append_right _ (List.mem_append_right _ (List.mem_append_left _ h))))))))))
  · exact List.mem_append_left _ (List.mem_append_left _ (List.mem_append_left _ (List.mem_append_left _ (List.mem_append_left _ (List.mem_append_left _ (List.mem_append_left _ (List.mem_append_left _ (List.mem_append_right _ (List.mem_append_right _ (List.mem_append_right _ (List.mem_append_left _ h)))))))))))
  · exact List.mem_append_left _ (List.mem_append_left _ (List.mem_append_left _ (List.mem_append_left _ (List.mem_append_left _ (List.mem_append_left _ (List.mem_append_left _ (List.mem_append_left _ (List.mem_append_right _ (List.mem_append_right _ (List.mem_append_right _ (List.mem_append_right _ (List.mem_append_left _ h))))))))))))
  · exact List.mem_append_left _ (List.mem_append_left _ (List.mem_append_left _ (List.mem_append_left _ (List.mem_append_left _ (List.mem_append_left _ (List.mem_append_left _ (List.mem_append_left _ (List.mem_append_right _ (List.mem_append_right _ (List.mem_append_right _ (List.mem_append_right _ (List.mem_append_right _ (List.mem_append_left _ h)))))))))))))
  · exact List.mem_append_left _ (List.mem_append_left _ (List.mem_append_left _ (List.mem_append_left _ (List.mem_append_left _ (List.mem_append_left _ (List.mem_append_left _ (List.mem_append_left _ (List.mem_append_right _ (List.mem_append_right _ (List.mem_append_right _ (List.mem_append_right _ (List.mem_append_right _ (List.mem_append_right _ (List.mem_append_left _ h))))))))))))))
  · exact List.mem_append_left _ (List.mem_append_left _ (List.mem_append_left _ (List.mem_append_left _ (List.mem_append_left _ (List.mem_append_left _ (List.mem_append_left _ (List.mem_append_left _ (List.mem_append_right _ (List.mem_append_right _ (List.mem_append_right _ (List.mem_append_right _ (List.mem_append_right _ (List.mem_append_right _ (List.mem_append_right _ (List.mem_append_left _ h)))))))))))))))
  · exact List.mem_append_left _ (List.mem_append_left _ (List.mem_append_left _ (List.mem_append_left _ (List.mem_append_left _ (List.mem_append_left _ (List.mem_append_left _ (List.mem_append_left _ (List.mem_append_right _ (List.mem_append_right _ (List.mem_append_right _ (List.mem_append_right _ (List.mem_append_right _ (List.mem_append_right _ (List.mem_append_right _ (List.mem_append_right _ (List.mem_append_left _ h))))))))))))))))
  · exact List.mem_append_left _ (List.mem_append_left _ (List.mem_append_left _ (List.mem_append_left _ (List.mem_append_left _ (List.mem_append_left _ (List.mem_append_left _ (List.mem_append_left _ (List.mem_append_right _ (List.mem_append_right _ (List.mem_append_right _ (List.mem_append_right _ (List.mem_append_right _ (List.mem_append_right _ (List.mem_append_right _ (List.mem_append_right _ (List.mem_append_right _ (List.mem_append_left _ h)))))))))))))))))
  · exact List.mem_append_left _ (List.mem_append_left _ (List.mem_append_left _ (List.mem_append_left _ (List.mem_append_left _ (List.mem_append_left _ (List.mem_append_left _ (List.mem_append_left _ (List.mem_append_right _ (List.mem_append_right _ (List.mem_append_right _ (List.mem_append_right _ (List.mem_append_right _ (List.mem_append_right _ (List.mem_append_right _ (List.mem_append_right _ (List.mem_append_right _ (List.mem_append_right _ (List.mem_append_left _ h))))))))))))))))))
  · exact List.mem_append_left _ (List.mem_append_left _ (List.mem_append_left _ (List.mem_append_left _ (List.mem_append_left _ (List.mem_append_left _ (List.mem_append_left _ (List.mem_append_left _ (List.mem_append_right _ (List.mem_append_right _ (List.mem_append_right _ (List.mem_append_right _ (List.mem_append_right _ (List.mem_append_right _ (List.mem_append_right _ (List.mem_append_right _ (List.mem_append_right _ (List.mem_append_right _ (List.mem_append_right _ (List.mem_append_left _ h)))))))))))))))))))
  · exact List.mem_append_left _ (List.mem_append_left _ (List.mem_append_left _ (List.mem_append_left _ (List.mem_append_left _ (List.mem_append_left _ (List.mem_append_left _ (List.mem_append_left _ (List.mem_append_right _ (List.mem_append_right _ (List.mem_append_right _ (List.mem_append_right _ (List.mem_append_right _ (List.mem_append_right _ (List.mem_append_right _ (List.mem_append_right _ (List.mem_append_right _ (List.mem_append_right _ (List.mem_append_right _ (List.mem_append_right _ (List.mem_append_left _ h))))))))))))))))))))
  · exact List.mem_append_left _ (List.mem_append_left _ (List.mem_append_left _ (List.mem_append_left _ (List.mem_append_left _ (List.mem_append_left _ (List.mem_append_left _ (List.mem_append_left _ (List.mem_append_right _ (List.mem_append_right _ (List.mem_append_right _ (List.mem_append_right _ (List.mem_append_right _ (List.mem_append_right _ (List.mem_append_right _ (List.mem_append_right _ (List.mem_append_right _ (List.mem_append_right _ (List.mem_append_right _ (List.mem_append_right _ (List.mem_append_right _ (List.mem_append_left _ h)))))))))))))))))))))
  · exact List.mem_append_left _ (List.mem_append_left _ (List.mem_append_left _ (List.mem_append_left _ (List.mem_append_left _ (List.mem_append_left _ (List.mem_append_left _ (List.mem_append_left _ (List.mem_append_right _ (List.mem_append_right _ (List.mem_append_right _ (List.mem_append_right _ (List.mem_append_right _ (List.mem_append_right _ (List.mem_append_right _ (List.mem_append_right _ (List.mem_append_right _ (List.mem_append_right _ (List.mem_append_right _ (List.mem_append_right _ (List.mem_append_right _ (List.mem_append_right _ (List.mem_append_left _ h))))))))))))))))))))))
  · exact List.mem_append_left _ (List.mem_append_left _ (List.mem_append_left _ (List.mem_append_left _ (List.mem_append_left _ (List.mem_append_left _ (List.mem_append_left _ (List.mem_append_left _ (List.mem_append_right _ (List.mem_append_right _ (List.mem_append_right _ (List.mem_append_right _ (List.mem_append_right _ (List.mem_append_right _ (List.mem_append_right _ (List.mem_append_right _ (List.mem_append_right _ (List.mem_append_right _ (List.mem_append_right _ (List.mem_append_right _ (List.mem_append_right _ (List.mem_append_right _ (List.mem_append_right _ (List.mem_append_left _ h)))))))))))))))))))))))
  · exact List.mem_append_left _ (List.mem_append_left _ (List.mem_append_left _ (List.mem_append_left _ (List.mem_append_left _ (List.mem_append_left _ (List.mem_append_left _ (List.mem_append_left _ (List.mem_append_right _ (List.mem_append_right _ (List.mem_append_right _ (List.mem_append_right _ (List.mem_append_right _ (List.mem_append_right _ (List.mem_append_right _ (List.mem_append_right _ (List.mem_append_right _ (List.mem_append_right _ (List.mem_append_right _ (List.mem_append_right _ (List.mem_append_right _ (List.mem_append_right _ (List.mem_append_right _ (List.mem_append_right _ (List.mem_append_left _ h))))))))))))))))))))))))
  · exact List.mem_append_left _ (List.mem_append_left _ (List.mem_append_left _ (List.mem_append_left _ (List.mem_append_left _ (List.mem_append_left _ (List.mem_append_left _ (List.mem_append_left _ (List.mem_append_right _ (List.mem_append_right _ (List.mem_append_right _ (List.mem_append_right _ (List.mem_append_right _ (List.mem_append_right _ (List.mem_append_right _ (List.mem_append_right _ (List.mem_append_right _ (List.mem_append_right _ (List.mem_append_right _ (List.mem_append_right _ (List.mem_append_right _ (List.mem_append_right _ (List.mem_append_right _ (List.mem_append_right _ (List.mem_append_right _ (List.mem_append_left _ h)))))))))))))))))))))))))
  · exact List.mem_append_left _ (List.mem_append_left _ (List.mem_append_left _ (List.mem_append_left _ (List.mem_append_left _ (List.mem_append_left _ (List.mem_append_left _ (List.mem_append_left _ (List.mem_append_right _ (List.mem_append_right _ (List.mem_append_right _ (List.mem_append_right _ (List.mem_append_right _ (List.mem_append_right _ (List.mem_append_right _ (List.mem_append_right _ (List.mem_append_right _ (List.mem_append_right _ (List.mem_append_right _ (List.mem_append_right _ (List.mem_append_right _ (List.mem_append_right _ (List.mem_append_right _ (List.mem_append_right _ (List.mem_append_right _ (List.mem_append_right _ (List.mem_append_left _ h))))))))))))))))))))))))))
  · exact List.mem_append_left _ (List.mem_append_left _ (List.mem_append_left _ (List.mem_append_left _ (List.mem_append_left _ (List.mem_append_left _ (List.mem_append_left _ (List.mem_append_left _ (List.mem_append_right _ (List.mem_append_right _ (List.mem_append_right _ (List.mem_append_right _ (List.mem_append_right _ (List.mem_append_right _ (List.mem_append_right _ (List.mem_append_right _ (List.mem_append_right _ (List.mem_append_right _ (List.mem_append_right _ (List.mem_append_right _ (List.mem_append_right _ (List.mem_append_right _ (List.mem_append_right _ (List.mem_append_right _ (List.mem_append_right _ (List.mem_append_right _ (List.mem_append_right _ (List.mem_append_left _ h)))))))))))))))))))))))))))
  · exact List.mem_append_left _ (List.mem_append_left _ (List.mem_append_left _ (List.mem_append_left _ (List.mem_append_left _ (List.mem_append_left _ (List.mem_append_left _ (List.mem_append_left _ (List.mem_append_right _ (List.mem_append_right _ (List.mem_append_right _ (List.mem_append_right _ (List.mem_append_right _ (List.mem_append_right _ (List.mem_append_right _ (List.mem_append_right _ (List.mem_append_right _ (List.mem_append_right _ (List.mem_append_right _ (List.mem_append_right _ (List.mem_append_right _ (List.mem_append_right _ (List.mem_append_right _ (List.mem_append_right _ (List.mem_append_right _ (List.mem_append_right _ (List.mem_append_right _ (List.mem_append_right _ (List.mem_append_left _ h))))))))))))))))))))))))))))
  · exact List.mem_append_left _ (List.mem_append_left _ (List.mem_append_left _ (List.mem_append_left _ (List.mem_append_left _ (List.mem_append_left _ (List.mem_append_left _ (List.mem_append_left _ (List.mem_append_right _ (List.mem_append_right _ (List.mem_append_right _ (List.mem_append_right _ (List.mem_append_right _ (List.mem_append_right _ (List.mem_append_right _ (List.mem_append_right _ (List.mem_append_right _ (List.mem_append_right _ (List.mem_append_right _ (List.mem_append_right _ (List.mem_append_right _ (List.mem_append_right _ (List.mem_append_right _ (List.mem_append_right _ (List.mem_append_right _ (List.mem_append_right _ (List.mem_append_right _ (List.mem_append_right _ (List.mem_append_right _ (List.mem_append_left _ h)))))))))))))))))))))))))))))
  · exact List.mem_append_left _ (List.mem_append_left _ (List.mem_append_left _ (List.mem_append_left _ (List.mem_append_left _ (List.mem_append_left _ (List.mem_append_left _ (List.mem_append_left _ (List.mem_append_right _ (List.mem_append_right _ (List.mem_append_right _ (List.mem_append_right _ (List.mem_append_right _ (List.mem_append_right _ (List.mem_append_right _ (List.mem_append_right _ (List.mem_append_right _ (List.mem_append_right _ (List.mem_append_right _ (List.mem_append_right _ (List.mem_append_right _ (List.mem_append_right _ (List.mem_append_right _ (List.mem_append_right _ (List.mem_append_right _ (List.mem_append_right _ (List.mem_append_right _ (List.mem_append_right _ (List.mem_append_right _ (List.mem_append_right _ (List.mem_append_left _ h))))))))))))))))))))))))))))))
  · exact List.mem_append_left _ (List.mem_append_left _ (List.mem_append_left _ (List.mem_append_left _ (List.mem_append_left _ (List.mem_append_left _ (List.mem_append_left _ (List.mem_append_left _ (List.mem_append_right _ (List.mem_append_right _ (List.mem_append_right _ (List.mem_append_right _ (List.mem_append_right _ (List.mem_append_right _ (List.mem_append_right _ (List.mem_append_right _ (List.mem_append_right _ (List.mem_append_right _ (List.mem_append_right _ (List.mem_append_right _ (List.mem_append_right _ (List.mem_append_right _ (List.mem_append_right _ (List.mem_append_right _ (List.mem_append_right _ (List.mem_append_right _ (List.mem_append_right _ (List.mem_append_right _ (List.mem_append_right _ (List.mem_append_right _ (List.mem_append_right _ (List.mem_append_left _ h)))))))))))))))))))))))))))))))
  · exact List.mem_append_left _ (List.mem_append_left _ (List.mem_append_left _ (List.mem_append_left _ (List.mem_append_left _ (List.mem_append_left _ (List.mem_append_left _ (List.mem_append_left _ (List.mem_append_right _ (List.mem_append_right _ (List.mem_append_right _ (List.mem_append_right _ (List.mem_append_right _ (List.mem_append_right _ (List.mem_append_right _ (List.mem_append_right _ (List.mem_append_right _ (List.mem_append_right _ (List.mem_append_right _ (List.mem_append_right _ (List.mem_append_right _ (List.mem_append_right _ (List.mem_append_right _ (List.mem_append_right _ (List.mem_append_right _ (List.mem_append_right _ (List.mem_append_right _ (List.mem_append_right _ (List.mem_append_right _ (List.mem_append_right _ (List.mem_append_right _ (List.mem_append_right _ (List.mem_append_left _ h))))))))))))))))))))))))))))))))
  · exact List.mem_append_left _ (List.mem_append_left _ (List.mem_append_left _ (List.mem_append_left _ (List.mem_append_left _ (List.mem_append_left _ (List.mem_append_left _ (List.mem_append_left _ (List.mem_append_right _ (List.mem_append_right _ (List.mem_append_right _ (List.mem_append_right _ (List.mem_append_right _ (List.mem_append_right _ (List.mem_append_right _ (List.mem_append_right _ (List.mem_append_right _ (List.mem_append_right _ (List.mem_append_right _ (List.mem_append_right _ (List.mem_append_right _ (List.mem_append_right _ (List.mem_append_right _ (List.mem_append_right _ (List.mem_append_right _ (List.mem_append_right _ (List.mem_append_right _ (List.mem_append_right _ (List.mem_append_right _ (List.mem_append_right _ (List.mem_append_right _ (List.mem_append_right _ (List.mem_append_right _ (List.mem_append_left _ h)))))))))))))))))))))))))))))))))
  · exact List.mem_append_left _ (List.mem_append_left _ (List.mem_append_left _ (List.mem_append_left _ (List.mem_append_left _ (List.mem_append_left _ (List.mem_append_left _ (List.mem_append_left _ (List.mem_append_right _ (List.mem_append_right _ (List.mem_append_right _ (List.mem_append_right _ (List.mem_append_right _ (List.mem_append_right _ (List.mem_append_right _ (List.mem_append_right _ (List.mem_append_right _ (List.mem_append_right _ (List.mem_append_right _ (List.mem_append_right _ (List.mem_append_right _ (List.mem_append_right _ (List.mem_append_right _ (List.mem_append_right _ (List.mem_append_right _ (List.mem_append_right _ (List.mem_append_right _ (List.mem_append_right _ (List.mem_append_right _ (List.mem_append_right _ (List.mem_append_right _ (List.mem_append_right _ (List.mem_append_right _ (List.mem_append_right _ (List.mem_append_left _ h))))))))))))))))))))))))))))))))))
  · exact List.mem_append_left _ (List.mem_append_left _ (List.mem_append_left _ (List.mem_append_left _ (List.mem_append_left _ (List.mem_append_left _ (List.mem_append_left _ (List.mem_append_left _ (List.mem_append_right _ (List.mem_append_right _ (List.mem_append_right _ (List.mem_append_right _ (List.mem_append_right _ (List.mem_append_right _ (List.mem_append_right _ (List.mem_append_right _ (List.mem_append_right _ (List.mem_append_right _ (List.mem_append_right _ (List.mem_append_right _ (List.mem_append_right _ (List.mem_append_right _ (List.mem_append_right _ (List.mem_append_right _ (List.mem_append_right _ (List.mem_append_right _ (List.mem_append_right _ (List.mem_append_right _ (List.mem_append_right _ (List.mem_append_right _ (List.mem_append_right _ (List.mem_append_right _ (List.mem_append_right _ (List.mem_append_right _ (List.mem_append_right _ (h)))))))))))))))))))))))))))))))))))
  · exact List.mem_append_left _ (List.mem_append_left _ (List.mem_append_left _ (List.mem_append_left _ (List.mem_append_left _ (List.mem_append_left _ (List.mem_append_left _ (List.mem_append_right _ h)))))))
  · exact List.mem_append_left _ (List.mem_append_left _ (List.mem_append_left _ (List.mem_append_left _ (List.mem_append_left _ (List.mem_append_left _ (List.mem_append_right _ h))))))
  · exact List.mem_append_left _ (List.mem_append_left _ (List.mem_append_left _ (List.mem_append_left _ (List.mem_append_left _ (List.mem_append_right _ h)))))
  · exact List.mem_append_left _ (List.mem_append_left _ (List.mem_append_left _ (List.mem_append_left _ (List.mem_append_right _ h))))
  · exact List.mem_append_left _ (List.mem_append_left _ (List.mem_append_left _ (List.mem_append_right _ h)))
  · exact List.mem_append_left _ (List.mem_append_left _ (List.mem_append_right _ h))
  · exact List.mem_append_left _ (List.mem_append_right _ h)
theorem mem_r {big : List Cond} (ws : List Cond) (ps : List Nat) (hp : ws = ps.filterMap (fun i => big[i]?)) : ∀ w ∈ ws, w ∈ big := by
  intro w hw
  rw [hp] at hw
  obtain ⟨i, -, hi⟩ := List.mem_filterMap.mp hw
  exact List.mem_of_getElem? hi
set_option maxRecDepth 1000000 in
set_option maxHeartbeats 4000000 in
theorem wsL_law_m1 : ∀ w ∈ wsL_law0_r1, w ∈ lw_tbl := mem_r _ [60, 61, 37, 726, 727, 43, 104, 62, 63, 64, 65, 66, 67, 68, 70, 38, 157, 103, 158, 153, 106, 42, 159, 155] rfl
set_option maxRecDepth 1000000 in
set_option maxHeartbeats 4000000 in
theorem wsL_law_m2 : ∀ w ∈ wsL_law0_r2, w ∈ lw_tbl := mem_r _ [76, 39, 160, 161, 162, 72, 73, 74, 75, 131, 105, 133, 135, 152, 137, 139, 78, 79, 80, 81, 82, 83, 84, 85] rfl
set_option maxRecDepth 1000000 in
set_option maxHeartbeats 4000000 in
theorem wsL_law_m3 : ∀ w ∈ wsL_law0_r3, w ∈ lw_tbl := mem_r _ [86, 87, 107, 108, 109, 117, 119, 110, 111, 41, 112, 121, 113, 114, 40, 115, 116, 154, 728, 729, 730, 731, 734, 735] rfl
set_option maxRecDepth 1000000 in
set_option maxHeartbeats 4000000 in
theorem wsL_law_m4 : ∀ w ∈ wsL_law0_r4, w ∈ lw_tbl := mem_r _ [736, 737, 738, 739, 740, 741, 742, 744, 745, 746, 747, 748, 750, 751, 752, 753, 754, 755, 756, 757, 176, 177, 36, 178] rfl
set_option maxRecDepth 1000000 in
set_option maxHeartbeats 4000000 in
theorem wsL_law_m5 : ∀ w ∈ wsL_law0_r5, w ∈ lw_tbl := mem_r _ [179, 180, 181, 182, 183, 184, 256, 48, 185, 186, 187, 188, 47, 815, 816, 817, 818, 733, 732, 819, 820, 821, 811, 812] rfl
set_option maxRecDepth 1000000 in
set_option maxHeartbeats 4000000 in
theorem wsL_law_m6 : ∀ w ∈ wsL_law0_r6, w ∈ lw_tbl := mem_r _ [813, 814, 272, 273, 274, 275, 276, 277, 278, 279, 328, 329, 50, 280, 282, 1, 283, 284, 286, 2, 287, 289, 290, 291] rfl
set_option maxRecDepth 1000000 in
set_option maxHeartbeats 4000000 in
theorem wsL_law_m7 : ∀ w ∈ wsL_law0_r7, w ∈ lw_tbl := mem_r _ [292, 49, 308, 310, 3, 311, 132, 312, 313, 314, 315, 317, 318, 319, 320, 321, 322, 323, 324, 325, 326, 330, 331, 332] rfl
set_option maxRecDepth 1000000 in
set_option maxHeartbeats 4000000 in
theorem wsL_law_m8 : ∀ w ∈ wsL_law0_r8, w ∈ lw_tbl := mem_r _ [333, 334, 336, 339, 342, 345, 358, 360, 4, 361, 362, 363, 364, 365, 367, 5, 368, 341, 369, 371, 6, 372, 136, 373] rfl
set_option maxRecDepth 1000000 in
set_option maxHeartbeats 4000000 in
theorem wsL_law_m9 : ∀ w ∈ wsL_law0_r9, w ∈ lw_tbl := mem_r _ [374, 375, 376, 377, 122, 123, 120, 378, 380, 7, 381, 382, 384, 8, 385, 386, 388, 9, 389, 429, 394, 52, 395, 430] rfl
set_option maxRecDepth 1000000 in
set_option maxHeartbeats 4000000 in
theorem wsL_law_m10 : ∀ w ∈ wsL_law0_r10, w ∈ lw_tbl := mem_r _ [390, 391, 51, 392, 393, 396, 397, 398, 399, 400, 401, 53, 402, 403, 963, 404, 416, 417, 418, 419, 420, 422, 423, 424] rfl
set_option maxRecDepth 1000000 in
set_option maxHeartbeats 4000000 in
theorem wsL_law_m11 : ∀ w ∈ wsL_law0_r11, w ∈ lw_tbl := mem_r _ [425, 426, 428, 427, 54, 431, 433, 10, 434, 138, 335, 134, 435, 436, 437, 438, 337, 340, 343, 346, 439, 441, 11, 442] rfl
set_option maxRecDepth 1000000 in
set_option maxHeartbeats 4000000 in
theorem wsL_law_m12 : ∀ w ∈ wsL_law0_r12, w ∈ lw_tbl := mem_r _ [443, 444, 446, 448, 12, 449, 450, 451, 453, 13, 454, 455, 457, 14, 458, 459, 461, 15, 462, 463, 465, 16, 466, 338] rfl
set_option maxRecDepth 1000000 in
set_option maxHeartbeats 4000000 in
theorem wsL_law_m13 : ∀ w ∈ wsL_law0_r13, w ∈ lw_tbl := mem_r _ [344, 481, 583, 588, 592, 467, 468, 469, 470, 471, 472, 55, 473, 474, 475, 56, 476, 477, 478, 479, 480, 482, 484, 17] rfl
set_option maxRecDepth 1000000 in
set_option maxHeartbeats 4000000 in
theorem wsL_law_m14 : ∀ w ∈ wsL_law0_r14, w ∈ lw_tbl := mem_r _ [485, 580, 590, 486, 487, 488, 489, 490, 492, 18, 493, 822, 823, 824, 825, 826, 828, 21, 829, 830, 831, 832, 833, 835] rfl
set_option maxRecDepth 1000000 in
set_option maxHeartbeats 4000000 in
theorem wsL_law_m15 : ∀ w ∈ wsL_law0_r15, w ∈ lw_tbl := mem_r _ [22, 836, 837, 839, 23, 840, 749, 841, 843, 24, 844, 845, 847, 25, 848, 849, 851, 26, 852, 853, 855, 27, 856, 857] rfl
set_option maxRecDepth 1000000 in
set_option maxHeartbeats 4000000 in
theorem wsL_law_m16 : ∀ w ∈ wsL_law0_r16, w ∈ lw_tbl := mem_r _ [859, 28, 860, 861, 863, 29, 864, 865, 867, 30, 868, 869, 871, 31, 872, 494, 495, 496, 497, 498, 499, 500, 873, 874] rfl
set_option maxRecDepth 1000000 in
set_option maxHeartbeats 4000000 in
theorem wsL_law_m17 : ∀ w ∈ wsL_law0_r17, w ∈ lw_tbl := mem_r _ [875, 876, 502, 503, 504, 505, 506, 507, 508, 877, 878, 879, 880, 510, 511, 512, 513, 514, 515, 516, 517, 518, 519, 520] rfl
set_option maxRecDepth 1000000 in
set_option maxHeartbeats 4000000 in
theorem wsL_law_m18 : ∀ w ∈ wsL_law0_r18, w ∈ lw_tbl := mem_r _ [881, 882, 883, 884, 522, 523, 524, 525, 526, 527, 528, 885, 886, 887, 888, 529, 530, 531, 532, 533, 534, 535, 536, 537] rfl
set_option maxRecDepth 1000000 in
set_option maxHeartbeats 4000000 in
theorem wsL_law_m19 : ∀ w ∈ wsL_law0_r19, w ∈ lw_tbl := mem_r _ [538, 539, 541, 542, 57, 543, 544, 545, 546, 889, 890, 891, 892, 547, 548, 549, 550, 551, 552, 553, 481, 574, 58, 554] rfl
set_option maxRecDepth 1000000 in
set_option maxHeartbeats 4000000 in
theorem wsL_law_m20 : ∀ w ∈ wsL_law0_r20, w ∈ lw_tbl := mem_r _ [556, 19, 557, 558, 559, 560, 561, 565, 566, 567, 568, 569, 581, 586, 584, 571, 572, 575, 576, 577, 578, 591, 579, 582] rfl
set_option maxRecDepth 1000000 in
set_option maxHeartbeats 4000000 in
theorem wsL_law_m21 : ∀ w ∈ wsL_law0_r21, w ∈ lw_tbl := mem_r _ [585, 587, 589, 893, 894, 895, 896, 743, 897, 899, 32, 900, 901, 903, 33, 904, 606, 607, 608, 609, 610, 611, 612, 613] rfl
set_option maxRecDepth 1000000 in
set_option maxHeartbeats 4000000 in
theorem wsL_law_m22 : ∀ w ∈ wsL_law0_r22, w ∈ lw_tbl := mem_r _ [614, 615, 616, 905, 906, 907, 908, 618, 619, 620, 621, 622, 623, 624, 625, 626, 627, 628, 909, 910, 911, 912, 630, 631] rfl
set_option maxRecDepth 1000000 in
set_option maxHeartbeats 4000000 in
theorem wsL_law_m23 : ∀ w ∈ wsL_law0_r23, w ∈ lw_tbl := mem_r _ [632, 633, 634, 635, 636, 140, 328, 637, 638, 639, 640, 641, 913, 914, 915, 916, 642, 643, 644, 645, 646, 647, 648, 917] rfl
set_option maxRecDepth 1000000 in
set_option maxHeartbeats 4000000 in
theorem wsL_law_m24 : ∀ w ∈ wsL_law0_r24, w ∈ lw_tbl := mem_r _ [918, 919, 920, 649, 650, 651, 652, 653, 654, 655, 656, 657, 658, 659, 660, 661, 59, 662, 663, 664, 665, 666, 667, 668] rfl
set_option maxRecDepth 1000000 in
set_option maxHeartbeats 4000000 in
theorem wsL_law_m25 : ∀ w ∈ wsL_law0_r25, w ∈ lw_tbl := mem_r _ [669, 670, 671, 672, 673, 674, 675, 676, 677, 678, 679, 680, 681, 921, 922, 923, 924, 925, 927, 34, 928, 683, 684, 685] rfl
set_option maxRecDepth 1000000 in
set_option maxHeartbeats 4000000 in
theorem wsL_law_m26 : ∀ w ∈ wsL_law0_r26, w ∈ lw_tbl := mem_r _ [686, 687, 688, 689, 929, 930, 931, 932, 690, 691, 692, 693, 694, 695, 696, 933, 934, 935, 936, 697, 698, 699, 700, 701] rfl
set_option maxRecDepth 1000000 in
set_option maxHeartbeats 4000000 in
theorem wsL_law_m27 : ∀ w ∈ wsL_law0_r27, w ∈ lw_tbl := mem_r _ [702, 703, 704, 705, 706, 707, 937, 938, 939, 940, 708, 709, 710, 711, 712, 713, 714, 716, 717, 718, 719, 720, 721, 723] rfl
set_option maxRecDepth 1000000 in
set_option maxHeartbeats 4000000 in
theorem wsL_law_m28 : ∀ w ∈ wsL_law0_r28, w ∈ lw_tbl := mem_r _ [20, 724, 725, 941, 942, 943, 944, 945, 947, 35, 948] rfl
theorem wsL_law_nX4 : ∀ w ∈ wsX40, w ∈ lw_tbl := mem_r _ [163, 165, 167, 169, 171, 173] (by decide +kernel)
theorem wsL_law_nX5 : ∀ w ∈ wsX50, w ∈ lw_tbl := mem_r _ [758, 760, 762, 764, 766, 768, 770, 772, 774, 776, 778, 780, 782, 784, 786, 788, 790, 792, 794, 796, 798, 800, 802, 804, 806, 808] (by decide +kernel)
theorem wsL_law_nX3 : ∀ w ∈ wsX30, w ∈ lw_tbl := mem_r _ [141, 143, 145, 147, 149] (by decide +kernel)
theorem wsL_law_nJx4a65c : ∀ w ∈ wsJx4a65c0, w ∈ lw_tbl := mem_r _ [128, 124, 126] (by decide +kernel)
theorem wsL_law_nX1 : ∀ w ∈ wsX10, w ∈ lw_tbl := mem_r _ [88, 90, 92, 94, 96, 98, 100] (by decide +kernel)
theorem wsL_law_nX0 : ∀ w ∈ wsX00, w ∈ lw_tbl := mem_r _ [347, 349, 351, 353, 355] (by decide +kernel)
theorem wsL_law_nX2 : ∀ w ∈ wsX20, w ∈ lw_tbl := mem_r _ [593, 595, 597, 599, 601, 603] (by decide +kernel)
theorem wsL_law_in0 : ∀ w ∈ wsL_law0, w ∈ lw_tbl := fun w => (fun g0 => (List.mem_append.mp g0).elim (fun gX2 => (List.mem_append.mp gX2).elim (fun gX0 => (List.mem_append.mp gX0).elim (fun gX1 => (List.mem_append.mp gX1).elim (fun gJx4a65c => (List.mem_append.mp gJx4a65c).elim (fun gX3 => (List.mem_append.mp gX3).elim (fun gX5 => (List.mem_append.mp gX5).elim (fun gX4 => (List.mem_append.mp gX4).elim (fun h1 => (List.mem_append.mp h1).elim (wsL_law_m1 w) (fun h2 => (List.mem_append.mp h2).elim (wsL_law_m2 w) (fun h3 => (List.mem_append.mp h3).elim (wsL_law_m3 w) (fun h4 => (List.mem_append.mp h4).elim (wsL_law_m4 w) (fun h5 => (List.mem_append.mp h5).elim (wsL_law_m5 w) (fun h6 => (List.mem_append.mp h6).elim (wsL_law_m6 w) (fun h7 => (List.mem_append.mp h7).elim (wsL_law_m7 w) (fun h8 => (List.mem_append.mp h8).elim (wsL_law_m8 w) (fun h9 => (List.mem_append.mp h9).elim (wsL_law_m9 w) (fun h10 => (List.mem_append.mp h10).elim (wsL_law_m10 w) (fun h11 => (List.mem_append.mp h11).elim (wsL_law_m11 w) (fun h12 => (List.mem_append.mp h12).elim (wsL_law_m12 w) (fun h13 => (List.mem_append.mp h13).elim (wsL_law_m13 w) (fun h14 => (List.mem_append.mp h14).elim (wsL_law_m14 w) (fun h15 => (List.mem_append.mp h15).elim (wsL_law_m15 w) (fun h16 => (List.mem_append.mp h16).elim (wsL_law_m16 w) (fun h17 => (List.mem_append.mp h17).elim (wsL_law_m17 w) (fun h18 => (List.mem_append.mp h18).elim (wsL_law_m18 w) (fun h19 => (List.mem_append.mp h19).elim (wsL_law_m19 w) (fun h20 => (List.mem_append.mp h20).elim (wsL_law_m20 w) (fun h21 => (List.mem_append.mp h21).elim (wsL_law_m21 w) (fun h22 => (List.mem_append.mp h22).elim (wsL_law_m22 w) (fun h23 => (List.mem_append.mp h23).elim (wsL_law_m23 w) (fun h24 => (List.mem_append.mp h24).elim (wsL_law_m24 w) (fun h25 => (List.mem_append.mp h25).elim (wsL_law_m25 w) (fun h26 => (List.mem_append.mp h26).elim (wsL_law_m26 w) (fun h27 => (List.mem_append.mp h27).elim (wsL_law_m27 w) (wsL_law_m28 w)))))))))))))))))))))))))))) (wsL_law_nX4 w)) (wsL_law_nX5 w)) (wsL_law_nX3 w)) (wsL_law_nJx4a65c w)) (wsL_law_nX1 w)) (wsL_law_nX0 w)) (wsL_law_nX2 w)) (fun h => nomatch h))
theorem wsL_law_x0 : ∀ w ∈ (vx_atS RX4 49 "java/lang/IllegalStateException" ["java/lang/RuntimeException", "java/lang/Exception"]).filter goodWord, w ∈ lw_tbl := by decide +kernel
theorem wsL_law_x1 : ∀ w ∈ (vx_atS RX4 212 "java/lang/IndexOutOfBoundsException" ["java/lang/RuntimeException", "java/lang/Exception"]).filter goodWord, w ∈ lw_tbl := by decide +kernel
theorem wsL_law_x2 : ∀ w ∈ (vx_atS RX4 123 "java/lang/IllegalArgumentException" ["java/lang/RuntimeException", "java/lang/Exception"]).filter goodWord, w ∈ lw_tbl := by decide +kernel
theorem wsL_law_in : ∀ w ∈ wsL_law, w ∈ lw_tbl := fun w h => (List.mem_append.mp h).elim (fun h => (List.mem_append.mp h).elim (fun h => (List.mem_append.mp h).elim (fun h => wsL_law_in0 w h) (fun h => wsL_law_x0 w h)) (fun h => wsL_law_x1 w h)) (fun h => wsL_law_x2 w h)
theorem inlX0 : ∀ w ∈ wsX00, w ∈ wsL_law := fun _ h => List.mem_append_left _ (List.mem_append_left _ (List.mem_append_left _ (List.mem_append_left _ (List.mem_append_left _ (List.mem_append_right _ h)))))
theorem inX0 : ∀ w ∈ wsX00, w ∈ lw_tbl := fun w h => wsL_law_in w (inlX0 w h)
theorem inlX1 : ∀ w ∈ wsX10, w ∈ wsL_law := fun _ h => List.mem_append_left _ (List.mem_append_left _ (List.mem_append_left _ (List.mem_append_left _ (List.mem_append_left _ (List.mem_append_left _ (List.mem_append_right _ h))))))
theorem inX1 : ∀ w ∈ wsX10, w ∈ lw_tbl := fun w h => wsL_law_in w (inlX1 w h)
theorem inlX2 : ∀ w ∈ wsX20, w ∈ wsL_law := fun _ h => List.mem_append_left _ (List.mem_append_left _ (List.mem_append_left _ (List.mem_append_left _ (List.mem_append_right _ h))))
theorem inX2 : ∀ w ∈ wsX20, w ∈ lw_tbl := fun w h => wsL_law_in w (inlX2 w h)
theorem inlX3 : ∀ w ∈ wsX30, w ∈ wsL_law := fun _ h => List.mem_append_left _ (List.mem_append_left _ (List.mem_append_left _ (List.mem_append_left _ (List.mem_append_left _ (List.mem_append_left _ (List.mem_append_left _ (List.mem_append_left _ (List.mem_append_right _ h))))))))
theorem inX3 : ∀ w ∈ wsX30, w ∈ lw_tbl := fun w h => wsL_law_in w (inlX3 w h)
theorem inlX4 : ∀ w ∈ wsX40, w ∈ wsL_law := fun _ h => List.mem_append_left _ (List.mem_append_left _ (List.mem_append_left _ (List.mem_append_left _ (List.mem_append_left _ (List.mem_append_left _ (List.mem_append_left _ (List.mem_append_left _ (List.mem_append_left _ (List.mem_append_left _ (List.mem_append_right _ h))))))))))
theorem inX4 : ∀ w ∈ wsX40, w ∈ lw_tbl := fun w h => wsL_law_in w (inlX4 w h)
theorem inlX5 : ∀ w ∈ wsX50, w ∈ wsL_law := fun _ h => List.mem_append_left _ (List.mem_append_left _ (List.mem_append_left _ (List.mem_append_left _ (List.mem_append_left _ (List.mem_append_left _ (List.mem_append_left _ (List.mem_append_left _ (List.mem_append_left _ (List.mem_append_right _ h)))))))))
theorem inX5 : ∀ w ∈ wsX50, w ∈ lw_tbl := fun w h => wsL_law_in w (inlX5 w h)
theorem inJx145de : ∀ w ∈ wsJx145de0, w ∈ lw_tbl := by decide +kernel
theorem inJx8e188 : ∀ w ∈ wsJx8e1880, w ∈ lw_tbl := by decide +kernel
theorem inJ6 : ∀ w ∈ wsJ60, w ∈ lw_tbl := by decide +kernel
theorem inJxab1ab : ∀ w ∈ wsJxab1ab0, w ∈ lw_tbl := by decide +kernel
theorem inJ13 : ∀ w ∈ wsJ130, w ∈ lw_tbl := by decide +kernel
theorem inJ9 : ∀ w ∈ wsJ90, w ∈ lw_tbl := by decide +kernel
theorem inJ0 : ∀ w ∈ wsJ00, w ∈ lw_tbl := by decide +kernel
theorem inJ10 : ∀ w ∈ wsJ100, w ∈ lw_tbl := by decide +kernel
theorem inJxa1e45 : ∀ w ∈ wsJxa1e450, w ∈ lw_tbl := by decide +kernel
theorem inJxc12de : ∀ w ∈ wsJxc12de0, w ∈ lw_tbl := by decide +kernel
theorem inlJx4a65c : ∀ w ∈ wsJx4a65c0, w ∈ wsL_law := fun _ h => List.mem_append_left _ (List.mem_append_left _ (List.mem_append_left _ (List.mem_append_left _ (List.mem_append_left _ (List.mem_append_left _ (List.mem_append_left _ (List.mem_append_right _ h)))))))
theorem inJx4a65c : ∀ w ∈ wsJx4a65c0, w ∈ lw_tbl := fun w h => wsL_law_in w (inlJx4a65c w h)
theorem inJ7 : ∀ w ∈ wsJ70, w ∈ lw_tbl := by decide +kernel
theorem inJx5ef63 : ∀ w ∈ wsJx5ef630, w ∈ lw_tbl := by decide +kernel
theorem inJxbd725 : ∀ w ∈ wsJxbd7250, w ∈ lw_tbl := by decide +kernel
theorem inJ15 : ∀ w ∈ wsJ150, w ∈ lw_tbl := by decide +kernel
theorem inJxf0a74 : ∀ w ∈ wsJxf0a740, w ∈ lw_tbl := by decide +kernel
theorem inJxa66e6 : ∀ w ∈ wsJxa66e60, w ∈ lw_tbl := by decide +kernel
theorem inJ8 : ∀ w ∈ wsJ80, w ∈ lw_tbl := by decide +kernel
theorem inJ3 : ∀ w ∈ wsJ30, w ∈ lw_tbl := by decide +kernel
set_option maxRecDepth 1000000 in
set_option maxHeartbeats 4000000 in
theorem ggL_person_X4_person : GoodIn wsL_person wsX4_person := goodIn_ca (goodIn_ca (goodIn_r _ [7, 8, 9, 10, 11, 12, 13, 6, 14, 15, 16, 17, 18, 19, 20, 21, 22] rfl (by decide +kernel)) (goodIn_sub (fun _ h => List.mem_cons_of_mem _ (List.mem_append_left _ (List.mem_append_right _ h))) (by decide +kernel))) (goodIn_sub (fun _ h => List.mem_cons_of_mem _ (List.mem_append_right _ h)) (by decide +kernel))
set_option maxRecDepth 20000 in
theorem gL_person_X4_person : GoodIn wsL_person (wsV RL 7 RX4 yX4_person wsX4_person) := goodIn_app (goodIn_of _ (by decide +kernel)) ggL_person_X4_person
theorem dL_person_0 : decode cL_person 0 = .ok (.aload_n 2, 1) := by decide +kernel
theorem dL_person_1 : decode cL_person 1 = .ok (.iconst 0, 1) := by decide +kernel
theorem dL_person_2 : decode cL_person 2 = .ok (.aload_n 0, 1) := by decide +kernel
theorem dL_person_3 : decode cL_person 3 = .ok (.iload_n 1, 1) := by decide +kernel
theorem dL_person_4 : decode cL_person 4 = .ok (.invokevirtual 7, 3) := by decide +kernel
theorem dL_person_7 : decode cL_person 7 = .ok (.i2l, 1) := by decide +kernel
theorem dL_person_8 : decode cL_person 8 = .ok (.lastore, 1) := by decide +kernel
theorem dL_person_9 : decode cL_person 9 = .ok (.goto 9, 3) := by decide +kernel
theorem dL_person_12 : decode cL_person 12 = .ok (.astore_n 3, 1) := by decide +kernel
theorem dL_person_13 : decode cL_person 13 = .ok (.iconst 1, 1) := by decide +kernel
theorem dL_person_14 : decode cL_person 14 = .ok (.ireturn, 1) := by decide +kernel
theorem dL_person_15 : decode cL_person 15 = .ok (.astore_n 3, 1) := by decide +kernel
theorem dL_person_16 : decode cL_person 16 = .ok (.iconst 2, 1) := by decide +kernel
theorem dL_person_17 : decode cL_person 17 = .ok (.ireturn, 1) := by decide +kernel
theorem dL_person_18 : decode cL_person 18 = .ok (.iconst 0, 1) := by decide +kernel
theorem dL_person_19 : decode cL_person 19 = .ok (.ireturn, 1) := by decide +kernel
set_option maxRecDepth 1000000 in
set_option maxHeartbeats 4000000 in
theorem ggL_follow_X4_follow : GoodIn wsL_follow wsX4_follow := goodIn_ca (goodIn_ca (goodIn_ca (goodIn_r _ [8, 9, 10, 11, 12, 13, 14, 15, 16, 17, 7, 18, 19, 20, 21, 22, 23, 24, 25, 26, 27, 28, 29, 30, 31, 32, 33, 34, 35, 36, 37, 38, 39, 40, 41, 42, 43, 44, 45, 46, 47, 48, 49, 50, 51, 52, 53, 54, 55, 56, 57, 58, 59, 60, 61, 62, 63, 64, 65, 66, 67, 68, 69, 70, 71, 72, 73, 74, 75, 76, 77, 78, 79, 80, 81, 82, 83, 84, 85, 86, 87, 88, 89, 90, 91, 92, 93, 94, 95, 96, 97, 98, 99, 100, 101, 102, 103, 104, 105, 106, 107, 108, 109, 110, 111, 112, 113, 114, 115, 116, 117, 118, 119, 120, 121, 122, 123, 124, 125, 126, 127, 128, 129, 130, 131, 132, 133, 134, 135, 136, 137, 138, 139, 140, 141, 142, 143, 144, 145, 146, 147, 148, 149, 150, 151, 152, 153, 154, 155, 156, 157, 158, 159, 160, 161, 162, 163, 164, 165, 166, 167, 168, 169, 170, 171, 172, 173, 174, 175, 176, 177, 178, 179, 180, 181, 182, 183, 184, 185, 186, 187, 188, 189, 190, 191, 192, 193, 194, 195, 196, 197, 198, 199, 200, 201, 202, 203, 204, 205, 206, 207, 208, 209, 210, 211, 212, 213, 214, 215, 216, 217, 218, 219, 220, 221, 222, 223, 224, 225, 226, 227, 228, 229, 230, 231, 232, 233, 234, 235, 236, 237, 238, 239, 240, 241, 242, 243, 244, 245, 246, 247, 248, 249, 250, 251, 252, 253, 254, 255] rfl (by decide +kernel)) (goodIn_sub (fun _ h => List.mem_cons_of_mem _ (List.mem_append_left _ (List.mem_append_left _ (List.mem_append_right _ h)))) (by decide +kernel))) (goodIn_sub (fun _ h => List.mem_cons_of_mem _ (List.mem_append_left _ (List.mem_append_right _ h))) (by decide +kernel))) (goodIn_sub (fun _ h => List.mem_cons_of_mem _ (List.mem_append_right _ h)) (by decide +kernel))
set_option maxRecDepth 20000 in
theorem gL_follow_X4_follow : GoodIn wsL_follow (wsV RL 17 RX4 yX4_follow wsX4_follow) := goodIn_app (goodIn_of _ (by decide +kernel)) ggL_follow_X4_follow
theorem dL_follow_0 : decode cL_follow 0 = .ok (.aload_n 0, 1) := by decide +kernel
theorem dL_follow_1 : decode cL_follow 1 = .ok (.iload_n 1, 1) := by decide +kernel
theorem dL_follow_2 : decode cL_follow 2 = .ok (.iload_n 2, 1) := by decide +kernel
theorem dL_follow_3 : decode cL_follow 3 = .ok (.invokevirtual 17, 3) := by decide +kernel
theorem dL_follow_6 : decode cL_follow 6 = .ok (.goto 12, 3) := by decide +kernel
theorem dL_follow_9 : decode cL_follow 9 = .ok (.astore_n 3, 1) := by decide +kernel
theorem dL_follow_10 : decode cL_follow 10 = .ok (.iconst 1, 1) := by decide +kernel
theorem dL_follow_11 : decode cL_follow 11 = .ok (.ireturn, 1) := by decide +kernel
theorem dL_follow_12 : decode cL_follow 12 = .ok (.astore_n 3, 1) := by decide +kernel
theorem dL_follow_13 : decode cL_follow 13 = .ok (.iconst 2, 1) := by decide +kernel
theorem dL_follow_14 : decode cL_follow 14 = .ok (.ireturn, 1) := by decide +kernel
theorem dL_follow_15 : decode cL_follow 15 = .ok (.astore_n 3, 1) := by decide +kernel
theorem dL_follow_16 : decode cL_follow 16 = .ok (.iconst 3, 1) := by decide +kernel
theorem dL_follow_17 : decode cL_follow 17 = .ok (.ireturn, 1) := by decide +kernel
theorem dL_follow_18 : decode cL_follow 18 = .ok (.iconst 0, 1) := by decide +kernel
theorem dL_follow_19 : decode cL_follow 19 = .ok (.ireturn, 1) := by decide +kernel
set_option maxRecDepth 1000000 in
set_option maxHeartbeats 4000000 in
theorem ggL_answer_X4_answer : GoodIn wsL_answer wsX4_answer := goodIn_ca (goodIn_ca (goodIn_r _ [7, 8, 9, 10, 11, 12, 13, 14, 15, 16, 6, 17, 18, 19, 20, 21, 22, 23, 24, 25, 26, 27, 28, 29, 30, 31, 32, 33, 34, 35, 36, 37, 38, 39, 40, 41, 42, 43, 44, 45, 46, 47, 48, 49, 50, 51, 52, 53, 54, 55, 56, 57, 58, 59, 60, 61, 62, 63, 64, 65, 66, 67, 68, 69, 70, 71, 72, 73, 74, 75, 76, 77, 78, 79, 80, 81, 82, 83, 84, 85, 86, 87, 88, 89, 90, 91, 92, 93, 94, 95, 96, 97, 98, 99, 100, 101, 102, 103, 104, 105, 106, 107, 108, 109, 110, 111, 112, 113, 114, 115, 116, 117, 118, 119, 120, 121, 122, 123, 124, 125, 126, 127, 128, 129, 130, 131, 132, 133, 134, 135, 136, 137, 138, 139, 140, 141, 142, 143, 144, 145, 146, 147, 148, 149, 150, 151, 152, 153, 154, 155, 156, 157, 158, 159, 160, 161, 162, 163, 164, 165, 166, 167, 168, 169, 170, 171, 172, 173, 174, 175, 176, 177, 178, 179, 180, 181, 182, 183, 184, 185, 186, 187, 188, 189, 190, 191, 192, 193, 194, 195, 196, 197, 198, 199, 200, 201, 202, 203, 204, 205, 206, 207, 208, 209, 210, 211, 212, 213, 214, 215, 216, 217, 218, 219, 220, 221, 222, 223, 224, 225, 226, 227, 228, 229, 230, 231, 232, 233, 234, 235, 236, 237, 238, 239, 240, 241, 242, 243, 244, 245, 246, 247] rfl (by decide +kernel)) (goodIn_sub (fun _ h => List.mem_cons_of_mem _ (List.mem_append_left _ (List.mem_append_right _ h))) (by decide +kernel))) (goodIn_sub (fun _ h => List.mem_cons_of_mem _ (List.mem_append_right _ h)) (by decide +kernel))
set_option maxRecDepth 20000 in
theorem gL_answer_X4_answer : GoodIn wsL_answer (wsV RL 23 RX4 yX4_answer wsX4_answer) := goodIn_app (goodIn_of _ (by decide +kernel)) ggL_answer_X4_answer
theorem dL_answer_0 : decode cL_answer 0 = .ok (.aload_n 0, 1) := by decide +kernel
theorem dL_answer_1 : decode cL_answer 1 = .ok (.iload_n 1, 1) := by decide +kernel
theorem dL_answer_2 : decode cL_answer 2 = .ok (.iload_n 2, 1) := by decide +kernel
theorem dL_answer_3 : decode cL_answer 3 = .ok (.iload_n 3, 1) := by decide +kernel
theorem dL_answer_4 : decode cL_answer 4 = .ok (.invokevirtual 23, 3) := by decide +kernel
theorem dL_answer_7 : decode cL_answer 7 = .ok (.goto 11, 3) := by decide +kernel
theorem dL_answer_10 : decode cL_answer 10 = .ok (.astore 4, 2) := by decide +kernel
theorem dL_answer_12 : decode cL_answer 12 = .ok (.iconst 1, 1) := by decide +kernel
theorem dL_answer_13 : decode cL_answer 13 = .ok (.ireturn, 1) := by decide +kernel
theorem dL_answer_14 : decode cL_answer 14 = .ok (.astore 4, 2) := by decide +kernel
theorem dL_answer_16 : decode cL_answer 16 = .ok (.iconst 2, 1) := by decide +kernel
theorem dL_answer_17 : decode cL_answer 17 = .ok (.ireturn, 1) := by decide +kernel
theorem dL_answer_18 : decode cL_answer 18 = .ok (.iconst 0, 1) := by decide +kernel
theorem dL_answer_19 : decode cL_answer 19 = .ok (.ireturn, 1) := by decide +kernel
set_option maxRecDepth 1000000 in
set_option maxHeartbeats 4000000 in
theorem ggL_leave_X4_leave : GoodIn wsL_leave wsX4_leave := goodIn_ca (goodIn_ca (goodIn_r _ [7, 8, 9, 10, 11, 12, 13, 14, 15, 16, 6, 17, 18, 19, 20, 21, 22, 23, 24, 25, 26, 27, 28, 29, 30, 31, 32, 33, 34, 35, 36, 37, 38, 39, 40, 41, 42, 43, 44, 45, 46, 47, 48, 49, 50, 51, 52, 53, 54, 55, 56, 57, 58, 59, 60, 61, 62, 63, 64, 65, 66, 67, 68, 69, 70, 71, 72, 73, 74, 75, 76, 77, 78, 79, 80, 81, 82, 83, 84, 85, 86, 87, 88, 89, 90, 91, 92, 93, 94, 95, 96, 97, 98, 99, 100, 101, 102, 103, 104, 105, 106, 107, 108, 109, 110, 111, 112, 113, 114, 115, 116, 117, 118, 119, 120, 121, 122, 123, 124, 125, 126, 127, 128, 129, 130, 131, 132, 133, 134, 135, 136, 137, 138, 139, 140, 141, 142, 143, 144, 145, 146, 147, 148, 149, 150, 151, 152, 153, 154, 155, 156, 157, 158, 159, 160, 161, 162, 163, 164, 165, 166, 167, 168, 169, 170, 171, 172, 173, 174, 175, 176, 177, 178, 179, 180, 181, 182, 183, 184, 185, 186, 187, 188, 189, 190, 191, 192, 193, 194, 195, 196, 197, 198, 199, 200, 201, 202, 203, 204, 205, 206, 207, 208, 209, 210, 211, 212, 213, 214, 215, 216, 217, 218, 219, 220, 221, 222, 223, 224, 225, 226, 227, 228, 229, 230, 231, 232, 233, 234, 235, 236, 237, 238, 239, 240, 241, 242, 243, 244, 245, 246, 247, 248] rfl (by decide +kernel)) (goodIn_sub (fun _ h => List.mem_cons_of_mem _ (List.mem_append_left _ (List.mem_append_right _ h))) (by decide +kernel))) (goodIn_sub (fun _ h => List.mem_cons_of_mem _ (List.mem_append_right _ h)) (by decide +kernel))
set_option maxRecDepth 20000 in
theorem gL_leave_X4_leave : GoodIn wsL_leave (wsV RL 27 RX4 yX4_leave wsX4_leave) := goodIn_app (goodIn_of _ (by decide +kernel)) ggL_leave_X4_leave
theorem dL_leave_0 : decode cL_leave 0 = .ok (.aload_n 0, 1) := by decide +kernel
theorem dL_leave_1 : decode cL_leave 1 = .ok (.iload_n 1, 1) := by decide +kernel
theorem dL_leave_2 : decode cL_leave 2 = .ok (.iload_n 2, 1) := by decide +kernel
theorem dL_leave_3 : decode cL_leave 3 = .ok (.invokevirtual 27, 3) := by decide +kernel
theorem dL_leave_6 : decode cL_leave 6 = .ok (.goto 9, 3) := by decide +kernel
theorem dL_leave_9 : decode cL_leave 9 = .ok (.astore_n 3, 1) := by decide +kernel
theorem dL_leave_10 : decode cL_leave 10 = .ok (.iconst 1, 1) := by decide +kernel
theorem dL_leave_11 : decode cL_leave 11 = .ok (.ireturn, 1) := by decide +kernel
theorem dL_leave_12 : decode cL_leave 12 = .ok (.astore_n 3, 1) := by decide +kernel
theorem dL_leave_13 : decode cL_leave 13 = .ok (.iconst 2, 1) := by decide +kernel
theorem dL_leave_14 : decode cL_leave 14 = .ok (.ireturn, 1) := by decide +kernel
theorem dL_leave_15 : decode cL_leave 15 = .ok (.iconst 0, 1) := by decide +kernel
theorem dL_leave_16 : decode cL_leave 16 = .ok (.ireturn, 1) := by decide +kernel
set_option maxRecDepth 1000000 in
set_option maxHeartbeats 4000000 in
theorem ggL_block_X4_block : GoodIn wsL_block wsX4_block := goodIn_ca (goodIn_ca (goodIn_ca (goodIn_r _ [8, 9, 10, 11, 12, 13, 14, 15, 16, 17, 7, 18, 19, 20, 21, 22, 23, 24, 25, 26, 27, 28, 29, 30, 31, 32, 33, 34, 35, 36, 37, 38, 39, 40, 41, 42, 43, 44, 45, 46, 47, 48, 49, 50, 51, 52, 53, 54, 55, 56, 57, 58, 59, 60, 61, 62, 63, 64, 65, 66, 67, 68, 69, 70, 71, 72, 73, 74, 75, 76, 77, 78, 79, 80, 81, 82, 83, 84, 85, 86, 87, 88, 89, 90, 91, 92, 93, 94, 95, 96, 97, 98, 99, 100, 101, 102, 103, 104, 105, 106, 107, 108, 109, 110, 111, 112, 113, 114, 115, 116, 117, 118, 119, 120, 121, 122, 123, 124, 125, 126, 127, 128, 129, 130, 131, 132, 133, 134, 135, 136, 137, 138, 139, 140, 141, 142, 143, 144, 145, 146, 147, 148, 149, 150, 151, 152, 153, 154, 155, 156, 157, 158, 159, 160, 161, 162, 163, 164, 165, 166, 167, 168, 169, 170, 171, 172, 173, 174, 175, 176, 177, 178, 179, 180, 181, 182, 183, 184, 185, 186, 187, 188, 189, 190, 191, 192, 193, 194, 195, 196, 197, 198, 199, 200, 201, 202, 203, 204, 205, 206, 207, 208, 209, 210, 211, 212, 213, 214, 215, 216, 217, 218, 219, 220, 221, 222, 223, 224, 225, 226, 227, 228, 229, 230, 231, 232, 233, 234, 235, 236, 237, 238, 239, 240, 241, 242, 243, 244, 245, 246, 247, 248, 249, 250, 251, 252, 253, 254, 255, 256] rfl (by decide +kernel)) (goodIn_sub (fun _ h => List.mem_cons_of_mem _ (List.mem_append_left _ (List.mem_append_left _ (List.mem_append_right _ h)))) (by decide +kernel))) (goodIn_sub (fun _ h => List.mem_cons_of_mem _ (List.mem_append_left _ (List.mem_append_right _ h))) (by decide +kernel))) (goodIn_sub (fun _ h => List.mem_cons_of_mem _ (List.mem_append_right _ h)) (by decide +kernel))
set_option maxRecDepth 20000 in
theorem gL_block_X4_block : GoodIn wsL_block (wsV RL 30 RX4 yX4_block wsX4_block) := goodIn_app (goodIn_of _ (by decide +kernel)) ggL_block_X4_block
theorem dL_block_0 : decode cL_block 0 = .ok (.aload_n 0, 1) := by decide +kernel
theorem dL_block_1 : decode cL_block 1 = .ok (.iload_n 1, 1) := by decide +kernel
theorem dL_block_2 : decode cL_block 2 = .ok (.iload_n 2, 1) := by decide +kernel
theorem dL_block_3 : decode cL_block 3 = .ok (.iload_n 3, 1) := by decide +kernel
theorem dL_block_4 : decode cL_block 4 = .ok (.invokevirtual 30, 3) := by decide +kernel
theorem dL_block_7 : decode cL_block 7 = .ok (.goto 15, 3) := by decide +kernel
theorem dL_block_10 : decode cL_block 10 = .ok (.astore 4, 2) := by decide +kernel
theorem dL_block_12 : decode cL_block 12 = .ok (.iconst 1, 1) := by decide +kernel
theorem dL_block_13 : decode cL_block 13 = .ok (.ireturn, 1) := by decide +kernel
theorem dL_block_14 : decode cL_block 14 = .ok (.astore 4, 2) := by decide +kernel
theorem dL_block_16 : decode cL_block 16 = .ok (.iconst 2, 1) := by decide +kernel
theorem dL_block_17 : decode cL_block 17 = .ok (.ireturn, 1) := by decide +kernel
theorem dL_block_18 : decode cL_block 18 = .ok (.astore 4, 2) := by decide +kernel
theorem dL_block_20 : decode cL_block 20 = .ok (.iconst 3, 1) := by decide +kernel
theorem dL_block_21 : decode cL_block 21 = .ok (.ireturn, 1) := by decide +kernel
theorem dL_block_22 : decode cL_block 22 = .ok (.iconst 0, 1) := by decide +kernel
theorem dL_block_23 : decode cL_block 23 = .ok (.ireturn, 1) := by decide +kernel
set_option maxRecDepth 1000000 in
set_option maxHeartbeats 4000000 in
theorem ggL_alias_X4_alias : GoodIn wsL_alias wsX4_alias := goodIn_ca (goodIn_ca (goodIn_r _ [7, 8, 9, 10, 11, 12, 13, 14, 6, 15, 16, 17, 18, 19, 20, 21, 22, 23, 24, 25, 26, 27, 28, 29, 30, 31, 32, 33, 34, 35, 36, 37, 38, 39, 40, 41, 42, 43, 44, 45, 46, 47, 48, 49, 50, 51, 52, 53, 54, 55, 56, 57, 58, 59, 60, 61, 62, 63, 64, 65, 66, 67, 68, 69, 70, 71, 72, 73, 74, 75, 76, 77, 78, 79, 80, 81, 82, 83, 84, 85, 86, 87, 88, 89, 90, 91, 92, 93, 94, 95, 96, 97, 98, 99, 100, 101, 102, 103, 104, 105, 106, 107, 108, 109, 110, 111, 112, 113, 114, 115, 116, 117, 118, 119, 120, 121, 122, 123, 124, 125, 126, 127, 128, 129, 130, 131, 132, 133, 134, 135, 136, 137, 138, 139, 140, 141, 142, 143, 144, 145, 146, 147, 148, 149, 150, 151, 152, 153, 154, 155, 156, 157, 158, 159, 160, 161, 162, 163, 164, 165, 166, 167, 168, 169, 170, 171, 172, 173, 174, 175, 176, 177, 178, 179, 180, 181, 182, 183, 184, 185, 186, 187, 188, 189, 190, 191, 192, 193, 194, 195, 196, 197, 198, 199, 200, 201, 202, 203, 204, 205, 206, 207, 208, 209, 210, 211, 212, 213, 214, 215, 216, 217, 218, 219, 220, 221, 222, 223, 224, 225, 226, 227, 228, 229, 230, 231, 232, 233, 234, 235, 236, 237, 238, 239, 240, 241, 242, 243, 244, 245] rfl (by decide +kernel)) (goodIn_sub (fun _ h => List.mem_cons_of_mem _ (List.mem_append_left _ (List.mem_append_right _ h))) (by decide +kernel))) (goodIn_sub (fun _ h => List.mem_cons_of_mem _ (List.mem_append_right _ h)) (by decide +kernel))
set_option maxRecDepth 20000 in
theorem gL_alias_X4_alias : GoodIn wsL_alias (wsV RL 33 RX4 yX4_alias wsX4_alias) := goodIn_app (goodIn_of _ (by decide +kernel)) ggL_alias_X4_alias
theorem dL_alias_0 : decode cL_alias 0 = .ok (.aload_n 0, 1) := by decide +kernel
theorem dL_alias_1 : decode cL_alias 1 = .ok (.iload_n 1, 1) := by decide +kernel
theorem dL_alias_2 : decode cL_alias 2 = .ok (.iload_n 2, 1) := by decide +kernel
theorem dL_alias_3 : decode cL_alias 3 = .ok (.invokevirtual 33, 3) := by decide +kernel
theorem dL_alias_6 : decode cL_alias 6 = .ok (.goto 9, 3) := by decide +kernel
theorem dL_alias_9 : decode cL_alias 9 = .ok (.astore_n 3, 1) := by decide +kernel
theorem dL_alias_10 : decode cL_alias 10 = .ok (.iconst 1, 1) := by decide +kernel
theorem dL_alias_11 : decode cL_alias 11 = .ok (.ireturn, 1) := by decide +kernel
theorem dL_alias_12 : decode cL_alias 12 = .ok (.astore_n 3, 1) := by decide +kernel
theorem dL_alias_13 : decode cL_alias 13 = .ok (.iconst 2, 1) := by decide +kernel
theorem dL_alias_14 : decode cL_alias 14 = .ok (.ireturn, 1) := by decide +kernel
theorem dL_alias_15 : decode cL_alias 15 = .ok (.iconst 0, 1) := by decide +kernel
theorem dL_alias_16 : decode cL_alias 16 = .ok (.ireturn, 1) := by decide +kernel
set_option maxRecDepth 1000000 in
set_option maxHeartbeats 4000000 in
theorem ggL_move_X4_move : GoodIn wsL_move wsX4_move := goodIn_ca (goodIn_ca (goodIn_r _ [7, 8, 9, 10, 11, 12, 13, 14, 15, 16, 6, 17, 18, 19, 20, 21, 22, 23, 24, 25, 26, 27, 28, 29, 30, 31, 32, 33, 34, 35, 36, 37, 38, 39, 40, 41, 42, 43, 44, 45, 46, 47, 48, 49, 50, 51, 52, 53, 54, 55, 56, 57, 58, 59, 60, 61, 62, 63, 64, 65, 66, 67, 68, 69, 70, 71, 72, 73, 74, 75, 76, 77, 78, 79, 80, 81, 82, 83, 84, 85, 86, 87, 88, 89, 90, 91, 92, 93, 94, 95, 96, 97, 98, 99, 100, 101, 102, 103, 104, 105, 106, 107, 108, 109, 110, 111, 112, 113, 114, 115, 116, 117, 118, 119, 120, 121, 122, 123, 124, 125, 126, 127, 128, 129, 130, 131, 132, 133, 134, 135, 136, 137, 138, 139, 140, 141, 142, 143, 144, 145, 146, 147, 148, 149, 150, 151, 152, 153, 154, 155, 156, 157, 158, 159, 160, 161, 162, 163, 164, 165, 166, 167, 168, 169, 170, 171, 172, 173, 174, 175, 176, 177, 178, 179, 180, 181, 182, 183, 184, 185, 186, 187, 188, 189, 190, 191, 192, 193, 194, 195, 196, 197, 198, 199, 200, 201, 202, 203, 204, 205, 206, 207, 208, 209, 210, 211, 212, 213, 214, 215, 216, 217, 218, 219, 220, 221, 222, 223, 224, 225, 226, 227, 228, 229, 230, 231, 232, 233, 234, 235, 236, 237, 238, 239, 240, 241, 242, 243, 244, 245, 246, 247, 248, 249, 250, 251, 252, 253, 254, 255, 256, 257] rfl (by decide +kernel)) (goodIn_sub (fun _ h => List.mem_cons_of_mem _ (List.mem_append_left _ (List.mem_append_right _ h))) (by decide +kernel))) (goodIn_sub (fun _ h => List.mem_cons_of_mem _ (List.mem_append_right _ h)) (by decide +kernel))
set_option maxRecDepth 20000 in
theorem gL_move_X4_move : GoodIn wsL_move (wsV RL 36 RX4 yX4_move wsX4_move) := goodIn_app (goodIn_of _ (by decide +kernel)) ggL_move_X4_move
theorem dL_move_0 : decode cL_move 0 = .ok (.aload_n 3, 1) := by decide +kernel
theorem dL_move_1 : decode cL_move 1 = .ok (.iconst 0, 1) := by decide +kernel
theorem dL_move_2 : decode cL_move 2 = .ok (.aload_n 0, 1) := by decide +kernel
theorem dL_move_3 : decode cL_move 3 = .ok (.iload_n 1, 1) := by decide +kernel
theorem dL_move_4 : decode cL_move 4 = .ok (.iload_n 2, 1) := by decide +kernel
theorem dL_move_5 : decode cL_move 5 = .ok (.invokevirtual 36, 3) := by decide +kernel
theorem dL_move_8 : decode cL_move 8 = .ok (.i2l, 1) := by decide +kernel
theorem dL_move_9 : decode cL_move 9 = .ok (.lastore, 1) := by decide +kernel
theorem dL_move_10 : decode cL_move 10 = .ok (.goto 11, 3) := by decide +kernel
theorem dL_move_13 : decode cL_move 13 = .ok (.astore 4, 2) := by decide +kernel
theorem dL_move_15 : decode cL_move 15 = .ok (.iconst 1, 1) := by decide +kernel
theorem dL_move_16 : decode cL_move 16 = .ok (.ireturn, 1) := by decide +kernel
theorem dL_move_17 : decode cL_move 17 = .ok (.astore 4, 2) := by decide +kernel
theorem dL_move_19 : decode cL_move 19 = .ok (.iconst 2, 1) := by decide +kernel
theorem dL_move_20 : decode cL_move 20 = .ok (.ireturn, 1) := by decide +kernel
theorem dL_move_21 : decode cL_move 21 = .ok (.iconst 0, 1) := by decide +kernel
theorem dL_move_22 : decode cL_move 22 = .ok (.ireturn, 1) := by decide +kernel
set_option maxRecDepth 1000000 in
set_option maxHeartbeats 4000000 in
theorem ggL_post_X4_post : GoodIn wsL_post wsX4_post := goodIn_ca (goodIn_ca (goodIn_ca (goodIn_r _ [8, 9, 10, 11, 12, 13, 14, 15, 16, 17, 18, 19, 20, 21, 22, 23, 24, 25, 26, 27, 7, 28, 29, 30, 31, 32, 33, 34, 35, 36, 37, 38, 39, 40, 41, 42, 43, 44, 45, 46, 47, 48, 49, 50, 51, 52, 53, 54, 55, 56, 57, 58, 59, 60, 61, 62, 63, 64, 65, 66, 67, 68, 69, 70, 71, 72, 73, 74, 75, 76, 77, 78, 79, 80, 81, 82, 83, 84, 85, 86, 87, 88, 89, 90, 91, 92, 93, 94, 95, 96, 97, 98, 99, 100, 101, 102, 103, 104, 105, 106, 107, 108, 109, 110, 111, 112, 113, 114, 115, 116, 117, 118, 119, 120, 121, 122, 123, 124, 125, 126, 127, 128, 129, 130, 131, 132, 133, 134, 135, 136, 137, 138, 139, 140, 141, 142, 143, 144, 145, 146, 147, 148, 149, 150, 151, 152, 153, 154, 155, 156, 157, 158, 159, 160, 161, 162, 163, 164, 165, 166, 167, 168, 169, 170, 171, 172, 173, 174, 175, 176, 177, 178, 179, 180, 181, 182, 183, 184, 185, 186, 187, 188, 189, 190, 191, 192, 193, 194, 195, 196, 197, 198, 199, 200, 201, 202, 203, 204, 205, 206, 207, 208, 209, 210, 211, 212, 213, 214, 215, 216, 217, 218, 219, 220, 221, 222, 223, 224, 225, 226, 227, 228, 229, 230, 231, 232, 233, 234, 235, 236, 237, 238, 239, 240, 241, 242, 243, 244, 245, 246, 247, 248, 249, 250, 251, 252, 253, 254, 255, 256, 257, 258, 259, 260, 261, 262, 263, 264, 265, 266, 267, 268, 269, 270, 271, 272, 273, 274, 275, 276] rfl (by decide +kernel)) (goodIn_sub (fun _ h => List.mem_cons_of_mem _ (List.mem_append_left _ (List.mem_append_left _ (List.mem_append_right _ h)))) (by decide +kernel))) (goodIn_sub (fun _ h => List.mem_cons_of_mem _ (List.mem_append_left _ (List.mem_append_right _ h))) (by decide +kernel))) (goodIn_sub (fun _ h => List.mem_cons_of_mem _ (List.mem_append_right _ h)) (by decide +kernel))
set_option maxRecDepth 20000 in
theorem gL_post_X4_post : GoodIn wsL_post (wsV RL 40 RX4 yX4_post wsX4_post) := goodIn_app (goodIn_of _ (by decide +kernel)) ggL_post_X4_post
theorem dL_post_0 : decode cL_post 0 = .ok (.aload 5, 2) := by decide +kernel
theorem dL_post_2 : decode cL_post 2 = .ok (.iconst 0, 1) := by decide +kernel
theorem dL_post_3 : decode cL_post 3 = .ok (.aload_n 0, 1) := by decide +kernel
theorem dL_post_4 : decode cL_post 4 = .ok (.iload_n 1, 1) := by decide +kernel
theorem dL_post_5 : decode cL_post 5 = .ok (.iload_n 2, 1) := by decide +kernel
theorem dL_post_6 : decode cL_post 6 = .ok (.iload_n 3, 1) := by decide +kernel
theorem dL_post_7 : decode cL_post 7 = .ok (.iload 4, 2) := by decide +kernel
theorem dL_post_9 : decode cL_post 9 = .ok (.invokevirtual 40, 3) := by decide +kernel
theorem dL_post_12 : decode cL_post 12 = .ok (.i2l, 1) := by decide +kernel
theorem dL_post_13 : decode cL_post 13 = .ok (.lastore, 1) := by decide +kernel
theorem dL_post_14 : decode cL_post 14 = .ok (.goto 15, 3) := by decide +kernel
theorem dL_post_17 : decode cL_post 17 = .ok (.astore 6, 2) := by decide +kernel
theorem dL_post_19 : decode cL_post 19 = .ok (.iconst 1, 1) := by decide +kernel
theorem dL_post_20 : decode cL_post 20 = .ok (.ireturn, 1) := by decide +kernel
theorem dL_post_21 : decode cL_post 21 = .ok (.astore 6, 2) := by decide +kernel
theorem dL_post_23 : decode cL_post 23 = .ok (.iconst 2, 1) := by decide +kernel
theorem dL_post_24 : decode cL_post 24 = .ok (.ireturn, 1) := by decide +kernel
theorem dL_post_25 : decode cL_post 25 = .ok (.astore 6, 2) := by decide +kernel
theorem dL_post_27 : decode cL_post 27 = .ok (.iconst 3, 1) := by decide +kernel
theorem dL_post_28 : decode cL_post 28 = .ok (.ireturn, 1) := by decide +kernel
theorem dL_post_29 : decode cL_post 29 = .ok (.iconst 0, 1) := by decide +kernel
theorem dL_post_30 : decode cL_post 30 = .ok (.ireturn, 1) := by decide +kernel
set_option maxRecDepth 1000000 in
set_option maxHeartbeats 4000000 in
theorem ggL_delete_X4_delete : GoodIn wsL_delete wsX4_delete := goodIn_ca (goodIn_ca (goodIn_r _ [7, 8, 9, 10, 11, 12, 13, 14, 15, 16, 17, 18, 19, 20, 6, 21, 22, 23, 24, 25, 26, 27, 28, 29, 30, 31, 32, 33, 34, 35, 36, 37, 38, 39, 40, 41, 42, 43, 44, 45, 46, 47, 48, 49, 50, 51, 52, 53, 54, 55, 56, 57, 58, 59, 60, 61, 62, 63, 64, 65, 66, 67, 68, 69, 70, 71, 72, 73, 74, 75, 76, 77, 78, 79, 80, 81, 82, 83, 84, 85, 86, 87, 88, 89, 90, 91, 92, 93, 94, 95, 96, 97, 98, 99, 100, 101, 102, 103, 104, 105, 106, 107, 108, 109, 110, 111, 112, 113, 114, 115, 116, 117, 118, 119, 120, 121, 122, 123, 124, 125, 126, 127, 128, 129, 130, 131, 132, 133, 134, 135, 136, 137, 138, 139, 140, 141, 142, 143, 144, 145, 146, 147, 148, 149, 150, 151, 152, 153, 154, 155, 156, 157, 158, 159, 160, 161, 162, 163, 164, 165, 166, 167, 168, 169, 170, 171, 172, 173, 174, 175, 176, 177, 178, 179, 180, 181, 182, 183, 184, 185, 186, 187, 188, 189, 190, 191, 192, 193, 194, 195, 196, 197, 198, 199, 200, 201, 202, 203, 204, 205, 206, 207, 208, 209, 210, 211, 212, 213, 214, 215, 216, 217, 218, 219, 220, 221, 222, 223, 224, 225, 226, 227, 228, 229, 230, 231, 232, 233, 234, 235, 236, 237, 238, 239, 240, 241, 242, 243, 244, 245, 246, 247, 248, 249, 250, 251, 252, 253, 254, 255, 256, 257, 258, 259] rfl (by decide +kernel)) (goodIn_sub (fun _ h => List.mem_cons_of_mem _ (List.mem_append_left _ (List.mem_append_right _ h))) (by decide +kernel))) (goodIn_sub (fun _ h => List.mem_cons_of_mem _ (List.mem_append_right _ h)) (by decide +kernel))
set_option maxRecDepth 20000 in
theorem gL_delete_X4_delete : GoodIn wsL_delete (wsV RL 44 RX4 yX4_delete wsX4_delete) := goodIn_app (goodIn_of _ (by decide +kernel)) ggL_delete_X4_delete
theorem dL_delete_0 : decode cL_delete 0 = .ok (.aload_n 2, 1) := by decide +kernel
theorem dL_delete_1 : decode cL_delete 1 = .ok (.iconst 0, 1) := by decide +kernel
theorem dL_delete_2 : decode cL_delete 2 = .ok (.aload_n 0, 1) := by decide +kernel
theorem dL_delete_3 : decode cL_delete 3 = .ok (.iload_n 1, 1) := by decide +kernel
theorem dL_delete_4 : decode cL_delete 4 = .ok (.invokevirtual 44, 3) := by decide +kernel
theorem dL_delete_7 : decode cL_delete 7 = .ok (.i2l, 1) := by decide +kernel
theorem dL_delete_8 : decode cL_delete 8 = .ok (.lastore, 1) := by decide +kernel
theorem dL_delete_9 : decode cL_delete 9 = .ok (.goto 9, 3) := by decide +kernel
theorem dL_delete_12 : decode cL_delete 12 = .ok (.astore_n 3, 1) := by decide +kernel
theorem dL_delete_13 : decode cL_delete 13 = .ok (.iconst 1, 1) := by decide +kernel
theorem dL_delete_14 : decode cL_delete 14 = .ok (.ireturn, 1) := by decide +kernel
theorem dL_delete_15 : decode cL_delete 15 = .ok (.astore_n 3, 1) := by decide +kernel
theorem dL_delete_16 : decode cL_delete 16 = .ok (.iconst 2, 1) := by decide +kernel
theorem dL_delete_17 : decode cL_delete 17 = .ok (.ireturn, 1) := by decide +kernel
theorem dL_delete_18 : decode cL_delete 18 = .ok (.iconst 0, 1) := by decide +kernel
theorem dL_delete_19 : decode cL_delete 19 = .ok (.ireturn, 1) := by decide +kernel
set_option maxRecDepth 1000000 in
set_option maxHeartbeats 4000000 in
theorem ggL_boost_X4_boost : GoodIn wsL_boost wsX4_boost := goodIn_ca (goodIn_ca (goodIn_r _ [7, 8, 9, 10, 11, 12, 13, 14, 15, 16, 17, 18, 19, 20, 6, 21, 22, 23, 24, 25, 26, 27, 28, 29, 30, 31, 32, 33, 34, 35, 36, 37, 38, 39, 40, 41, 42, 43, 44, 45, 46, 47, 48, 49, 50, 51, 52, 53, 54, 55, 56, 57, 58, 59, 60, 61, 62, 63, 64, 65, 66, 67, 68, 69, 70, 71, 72, 73, 74, 75, 76, 77, 78, 79, 80, 81, 82, 83, 84, 85, 86, 87, 88, 89, 90, 91, 92, 93, 94, 95, 96, 97, 98, 99, 100, 101, 102, 103, 104, 105, 106, 107, 108, 109, 110, 111, 112, 113, 114, 115, 116, 117, 118, 119, 120, 121, 122, 123, 124, 125, 126, 127, 128, 129, 130, 131, 132, 133, 134, 135, 136, 137, 138, 139, 140, 141, 142, 143, 144, 145, 146, 147, 148, 149, 150, 151, 152, 153, 154, 155, 156, 157, 158, 159, 160, 161, 162, 163, 164, 165, 166, 167, 168, 169, 170, 171, 172, 173, 174, 175, 176, 177, 178, 179, 180, 181, 182, 183, 184, 185, 186, 187, 188, 189, 190, 191, 192, 193, 194, 195, 196, 197, 198, 199, 200, 201, 202, 203, 204, 205, 206, 207, 208, 209, 210, 211, 212, 213, 214, 215, 216, 217, 218, 219, 220, 221, 222, 223, 224, 225, 226, 227, 228, 229, 230, 231, 232, 233, 234, 235, 236, 237, 238, 239, 240, 241, 242, 243, 244, 245, 246, 247, 248, 249, 250, 251, 252, 253, 254, 255, 256, 257, 258, 259, 260, 261, 262, 263, 264] rfl (by decide +kernel)) (goodIn_sub (fun _ h => List.mem_cons_of_mem _ (List.mem_append_left _ (List.mem_append_right _ h))) (by decide +kernel))) (goodIn_sub (fun _ h => List.mem_cons_of_mem _ (List.mem_append_right _ h)) (by decide +kernel))
set_option maxRecDepth 20000 in
theorem gL_boost_X4_boost : GoodIn wsL_boost (wsV RL 47 RX4 yX4_boost wsX4_boost) := goodIn_app (goodIn_of _ (by decide +kernel)) ggL_boost_X4_boost
theorem dL_boost_0 : decode cL_boost 0 = .ok (.aload_n 0, 1) := by decide +kernel
theorem dL_boost_1 : decode cL_boost 1 = .ok (.iload_n 1, 1) := by decide +kernel
theorem dL_boost_2 : decode cL_boost 2 = .ok (.iload_n 2, 1) := by decide +kernel
theorem dL_boost_3 : decode cL_boost 3 = .ok (.invokevirtual 47, 3) := by decide +kernel
theorem dL_boost_6 : decode cL_boost 6 = .ok (.goto 9, 3) := by decide +kernel
theorem dL_boost_9 : decode cL_boost 9 = .ok (.astore_n 3, 1) := by decide +kernel
theorem dL_boost_10 : decode cL_boost 10 = .ok (.iconst 1, 1) := by decide +kernel
theorem dL_boost_11 : decode cL_boost 11 = .ok (.ireturn, 1) := by decide +kernel
theorem dL_boost_12 : decode cL_boost 12 = .ok (.astore_n 3, 1) := by decide +kernel
theorem dL_boost_13 : decode cL_boost 13 = .ok (.iconst 2, 1) := by decide +kernel
theorem dL_boost_14 : decode cL_boost 14 = .ok (.ireturn, 1) := by decide +kernel
theorem dL_boost_15 : decode cL_boost 15 = .ok (.iconst 0, 1) := by decide +kernel
theorem dL_boost_16 : decode cL_boost 16 = .ok (.ireturn, 1) := by decide +kernel
set_option maxRecDepth 1000000 in
set_option maxHeartbeats 4000000 in
theorem ggL_deliver_X4_deliver : GoodIn wsL_deliver wsX4_deliver := goodIn_ca (goodIn_r _ [6, 7, 8, 9, 10, 11, 12, 13, 5, 14, 15, 16, 17, 18, 19, 20, 21, 22, 23, 24, 25, 26, 27, 28, 29, 30, 31, 32, 33, 34, 35, 36, 37, 38, 39, 40, 41, 42, 43, 44, 45, 46, 47, 48, 49, 50, 51, 52, 53, 54, 55, 56, 57, 58, 59, 60, 61, 62, 63, 64, 65, 66, 67, 68, 69, 70, 71, 72, 73, 74, 75, 76, 77, 78, 79, 80, 81, 82, 83, 84, 85, 86, 87, 88, 89, 90, 91, 92, 93, 94, 95, 96, 97, 98, 99, 100, 101, 102, 103, 104, 105, 106, 107, 108, 109, 110, 111, 112, 113, 114, 115, 116, 117, 118, 119, 120, 121, 122, 123, 124, 125, 126, 127, 128, 129, 130, 131, 132, 133, 134, 135, 136, 137, 138, 139, 140, 141, 142, 143, 144, 145, 146, 147, 148, 149, 150, 151, 152, 153, 154, 155, 156, 157, 158, 159, 160, 161, 162, 163, 164, 165, 166, 167, 168, 169, 170, 171, 172, 173, 174, 175, 176, 177, 178, 179, 180, 181, 182, 183, 184, 185, 186, 187, 188, 189, 190, 191, 192, 193, 194, 195, 196, 197, 198, 199, 200, 201, 202, 203, 204, 205, 206, 207, 208, 209, 210, 211, 212, 213, 214, 215, 216, 217, 218, 219, 220, 221, 222, 223, 224, 225, 226, 227] rfl (by decide +kernel)) (goodIn_sub (fun _ h => List.mem_cons_of_mem _ (List.mem_append_right _ h)) (by decide +kernel))
set_option maxRecDepth 20000 in
theorem gL_deliver_X4_deliver : GoodIn wsL_deliver (wsV RL 50 RX4 yX4_deliver wsX4_deliver) := goodIn_app (goodIn_of _ (by decide +kernel)) ggL_deliver_X4_deliver
theorem dL_deliver_0 : decode cL_deliver 0 = .ok (.aload_n 2, 1) := by decide +kernel
theorem dL_deliver_1 : decode cL_deliver 1 = .ok (.iconst 0, 1) := by decide +kernel
theorem dL_deliver_2 : decode cL_deliver 2 = .ok (.aload_n 0, 1) := by decide +kernel
theorem dL_deliver_3 : decode cL_deliver 3 = .ok (.iload_n 1, 1) := by decide +kernel
theorem dL_deliver_4 : decode cL_deliver 4 = .ok (.invokevirtual 50, 3) := by decide +kernel
theorem dL_deliver_7 : decode cL_deliver 7 = .ok (.i2l, 1) := by decide +kernel
theorem dL_deliver_8 : decode cL_deliver 8 = .ok (.lastore, 1) := by decide +kernel
theorem dL_deliver_9 : decode cL_deliver 9 = .ok (.goto 6, 3) := by decide +kernel
theorem dL_deliver_12 : decode cL_deliver 12 = .ok (.astore_n 3, 1) := by decide +kernel
theorem dL_deliver_13 : decode cL_deliver 13 = .ok (.iconst 1, 1) := by decide +kernel
theorem dL_deliver_14 : decode cL_deliver 14 = .ok (.ireturn, 1) := by decide +kernel
theorem dL_deliver_15 : decode cL_deliver 15 = .ok (.iconst 0, 1) := by decide +kernel
theorem dL_deliver_16 : decode cL_deliver 16 = .ok (.ireturn, 1) := by decide +kernel
set_option maxRecDepth 1000000 in
set_option maxHeartbeats 4000000 in
theorem ggL_repeat_X4_repeat : GoodIn wsL_repeat wsX4_repeat := goodIn_ca (goodIn_r _ [6, 7, 8, 9, 10, 11, 12, 13, 5, 14, 15, 16, 17, 18, 19, 20, 21, 22, 23, 24, 25, 26, 27, 28, 29, 30, 31, 32, 33, 34, 35, 36, 37, 38, 39, 40, 41, 42, 43, 44, 45, 46, 47, 48, 49, 50, 51, 52, 53, 54, 55, 56, 57, 58, 59, 60, 61, 62, 63, 64, 65, 66, 67, 68, 69, 70, 71, 72, 73, 74, 75, 76, 77, 78, 79, 80, 81, 82, 83, 84, 85, 86, 87, 88, 89, 90, 91, 92, 93, 94, 95, 96, 97, 98, 99, 100, 101, 102, 103, 104, 105, 106, 107, 108, 109, 110, 111, 112, 113, 114, 115, 116, 117, 118, 119, 120, 121, 122, 123, 124, 125, 126, 127, 128, 129, 130, 131, 132, 133, 134, 135, 136, 137, 138, 139, 140, 141, 142, 143, 144, 145, 146, 147, 148, 149, 150, 151, 152, 153, 154, 155, 156, 157, 158, 159, 160, 161, 162, 163, 164, 165, 166, 167, 168, 169, 170, 171, 172, 173, 174, 175, 176, 177, 178, 179, 180, 181, 182, 183, 184, 185, 186, 187, 188, 189, 190, 191, 192, 193, 194, 195, 196, 197, 198, 199, 200, 201, 202, 203, 204, 205, 206, 207, 208, 209, 210, 211, 212, 213, 214, 215, 216] rfl (by decide +kernel)) (goodIn_sub (fun _ h => List.mem_cons_of_mem _ (List.mem_append_right _ h)) (by decide +kernel))
set_option maxRecDepth 20000 in
theorem gL_repeat_X4_repeat : GoodIn wsL_repeat (wsV RL 53 RX4 yX4_repeat wsX4_repeat) := goodIn_app (goodIn_of _ (by decide +kernel)) ggL_repeat_X4_repeat
theorem dL_repeat_0 : decode cL_repeat 0 = .ok (.aload_n 2, 1) := by decide +kernel
theorem dL_repeat_1 : decode cL_repeat 1 = .ok (.iconst 0, 1) := by decide +kernel
theorem dL_repeat_2 : decode cL_repeat 2 = .ok (.aload_n 0, 1) := by decide +kernel
theorem dL_repeat_3 : decode cL_repeat 3 = .ok (.iload_n 1, 1) := by decide +kernel
theorem dL_repeat_4 : decode cL_repeat 4 = .ok (.invokevirtual 53, 3) := by decide +kernel
theorem dL_repeat_7 : decode cL_repeat 7 = .ok (.i2l, 1) := by decide +kernel
theorem dL_repeat_8 : decode cL_repeat 8 = .ok (.lastore, 1) := by decide +kernel
theorem dL_repeat_9 : decode cL_repeat 9 = .ok (.goto 6, 3) := by decide +kernel
theorem dL_repeat_12 : decode cL_repeat 12 = .ok (.astore_n 3, 1) := by decide +kernel
theorem dL_repeat_13 : decode cL_repeat 13 = .ok (.iconst 1, 1) := by decide +kernel
theorem dL_repeat_14 : decode cL_repeat 14 = .ok (.ireturn, 1) := by decide +kernel
theorem dL_repeat_15 : decode cL_repeat 15 = .ok (.iconst 0, 1) := by decide +kernel
theorem dL_repeat_16 : decode cL_repeat 16 = .ok (.ireturn, 1) := by decide +kernel
set_option maxRecDepth 1000000 in
set_option maxHeartbeats 4000000 in
theorem ggL_ofServer_X4_ofServer : GoodIn wsL_ofServer wsX4_ofServer := goodIn_ca (goodIn_ca (goodIn_r _ [7, 8, 9, 10, 11, 12, 13, 14, 6, 15, 16, 17, 18, 19, 20, 21, 22, 23, 24, 25, 26, 27, 28, 29, 30, 31, 32, 33, 34, 35, 36, 37, 38, 39, 40, 41, 42, 43, 44, 45, 46, 47, 48, 49, 50, 51, 52, 53, 54, 55, 56, 57, 58, 59, 60, 61, 62, 63, 64, 65, 66, 67, 68, 69, 70, 71, 72, 73, 74, 75, 76, 77, 78, 79, 80, 81, 82, 83, 84, 85, 86, 87, 88, 89, 90, 91] rfl (by decide +kernel)) (goodIn_sub (fun _ h => List.mem_cons_of_mem _ (List.mem_append_left _ (List.mem_append_right _ h))) (by decide +kernel))) (goodIn_sub (fun _ h => List.mem_cons_of_mem _ (List.mem_append_right _ h)) (by decide +kernel))
set_option maxRecDepth 20000 in
theorem gL_ofServer_X4_ofServer : GoodIn wsL_ofServer (wsV RL 56 RX4 yX4_ofServer wsX4_ofServer) := goodIn_app (goodIn_of _ (by decide +kernel)) ggL_ofServer_X4_ofServer
theorem dL_ofServer_0 : decode cL_ofServer 0 = .ok (.aload_n 3, 1) := by decide +kernel
theorem dL_ofServer_1 : decode cL_ofServer 1 = .ok (.iconst 0, 1) := by decide +kernel
theorem dL_ofServer_2 : decode cL_ofServer 2 = .ok (.aload_n 0, 1) := by decide +kernel
theorem dL_ofServer_3 : decode cL_ofServer 3 = .ok (.iload_n 1, 1) := by decide +kernel
theorem dL_ofServer_4 : decode cL_ofServer 4 = .ok (.iload_n 2, 1) := by decide +kernel
theorem dL_ofServer_5 : decode cL_ofServer 5 = .ok (.invokevirtual 56, 3) := by decide +kernel
theorem dL_ofServer_8 : decode cL_ofServer 8 = .ok (.i2l, 1) := by decide +kernel
theorem dL_ofServer_9 : decode cL_ofServer 9 = .ok (.lastore, 1) := by decide +kernel
theorem dL_ofServer_10 : decode cL_ofServer 10 = .ok (.goto 11, 3) := by decide +kernel
theorem dL_ofServer_13 : decode cL_ofServer 13 = .ok (.astore 4, 2) := by decide +kernel
theorem dL_ofServer_15 : decode cL_ofServer 15 = .ok (.iconst 1, 1) := by decide +kernel
theorem dL_ofServer_16 : decode cL_ofServer 16 = .ok (.ireturn, 1) := by decide +kernel
theorem dL_ofServer_17 : decode cL_ofServer 17 = .ok (.astore 4, 2) := by decide +kernel
theorem dL_ofServer_19 : decode cL_ofServer 19 = .ok (.iconst 2, 1) := by decide +kernel
theorem dL_ofServer_20 : decode cL_ofServer 20 = .ok (.ireturn, 1) := by decide +kernel
theorem dL_ofServer_21 : decode cL_ofServer 21 = .ok (.iconst 0, 1) := by decide +kernel
theorem dL_ofServer_22 : decode cL_ofServer 22 = .ok (.ireturn, 1) := by decide +kernel
set_option maxRecDepth 1000000 in
set_option maxHeartbeats 4000000 in
theorem ggL_between_X4_between : GoodIn wsL_between wsX4_between := goodIn_ca (goodIn_r _ [6, 7, 8, 9, 10, 5, 11, 12, 13, 14, 15, 16, 17, 18, 19, 20, 21, 22, 23, 24, 25, 26, 27, 28, 29, 30, 31, 32, 33, 34, 35, 36, 37, 38, 39, 40, 41, 42, 43, 44, 45, 46, 47, 48, 49, 50, 51, 52, 53, 54, 55, 56, 57, 58] rfl (by decide +kernel)) (goodIn_sub (fun _ h => List.mem_cons_of_mem _ (List.mem_append_right _ h)) (by decide +kernel))
set_option maxRecDepth 20000 in
theorem gL_between_X4_between : GoodIn wsL_between (wsV RL 59 RX4 yX4_between wsX4_between) := goodIn_app (goodIn_of _ (by decide +kernel)) ggL_between_X4_between
theorem dL_between_0 : decode cL_between 0 = .ok (.aload 4, 2) := by decide +kernel
theorem dL_between_2 : decode cL_between 2 = .ok (.iconst 0, 1) := by decide +kernel
theorem dL_between_3 : decode cL_between 3 = .ok (.aload_n 0, 1) := by decide +kernel
theorem dL_between_4 : decode cL_between 4 = .ok (.iload_n 1, 1) := by decide +kernel
theorem dL_between_5 : decode cL_between 5 = .ok (.iload_n 2, 1) := by decide +kernel
theorem dL_between_6 : decode cL_between 6 = .ok (.iload_n 3, 1) := by decide +kernel
theorem dL_between_7 : decode cL_between 7 = .ok (.invokevirtual 59, 3) := by decide +kernel
theorem dL_between_10 : decode cL_between 10 = .ok (.i2l, 1) := by decide +kernel
theorem dL_between_11 : decode cL_between 11 = .ok (.lastore, 1) := by decide +kernel
theorem dL_between_12 : decode cL_between 12 = .ok (.goto 7, 3) := by decide +kernel
theorem dL_between_15 : decode cL_between 15 = .ok (.astore 5, 2) := by decide +kernel
theorem dL_between_17 : decode cL_between 17 = .ok (.iconst 1, 1) := by decide +kernel
theorem dL_between_18 : decode cL_between 18 = .ok (.ireturn, 1) := by decide +kernel
theorem dL_between_19 : decode cL_between 19 = .ok (.iconst 0, 1) := by decide +kernel
theorem dL_between_20 : decode cL_between 20 = .ok (.ireturn, 1) := by decide +kernel
set_option maxRecDepth 1000000 in
set_option maxHeartbeats 4000000 in
theorem ggL_sees_X4_sees : GoodIn wsL_sees wsX4_sees := goodIn_ca (goodIn_r _ [6, 7, 8, 9, 10, 11, 5, 12, 13, 14, 15, 16, 17, 18, 19, 20, 21, 22, 23, 24, 25, 26, 27, 28, 29, 30, 31, 32, 33, 34, 35, 36, 37, 38, 39, 40, 41, 42, 43, 44, 45, 46, 47, 48, 49, 50, 51, 52, 53, 54, 55, 56, 57, 58, 59, 60, 61, 62, 63, 64, 65, 66, 67, 68, 69, 70, 71, 72, 73, 74, 75, 76, 77, 78, 79, 80, 81, 82, 83, 84, 85, 86, 87, 88, 89, 90, 91, 92, 93, 94, 95, 96, 97, 98, 99, 100, 101] rfl (by decide +kernel)) (goodIn_sub (fun _ h => List.mem_cons_of_mem _ (List.mem_append_right _ h)) (by decide +kernel))
set_option maxRecDepth 20000 in
theorem gL_sees_X4_sees : GoodIn wsL_sees (wsV RL 63 RX4 yX4_sees wsX4_sees) := goodIn_app (goodIn_of _ (by decide +kernel)) ggL_sees_X4_sees
theorem dL_sees_0 : decode cL_sees 0 = .ok (.aload_n 3, 1) := by decide +kernel
theorem dL_sees_1 : decode cL_sees 1 = .ok (.iconst 0, 1) := by decide +kernel
theorem dL_sees_2 : decode cL_sees 2 = .ok (.aload_n 0, 1) := by decide +kernel
theorem dL_sees_3 : decode cL_sees 3 = .ok (.iload_n 1, 1) := by decide +kernel
theorem dL_sees_4 : decode cL_sees 4 = .ok (.iload_n 2, 1) := by decide +kernel
theorem dL_sees_5 : decode cL_sees 5 = .ok (.invokevirtual 63, 3) := by decide +kernel
theorem dL_sees_8 : decode cL_sees 8 = .ok (.ifCond .eq 7, 3) := by decide +kernel
theorem dL_sees_11 : decode cL_sees 11 = .ok (.lconst 1, 1) := by decide +kernel
theorem dL_sees_12 : decode cL_sees 12 = .ok (.goto 4, 3) := by decide +kernel
theorem dL_sees_15 : decode cL_sees 15 = .ok (.lconst 0, 1) := by decide +kernel
theorem dL_sees_16 : decode cL_sees 16 = .ok (.lastore, 1) := by decide +kernel
theorem dL_sees_17 : decode cL_sees 17 = .ok (.goto 7, 3) := by decide +kernel
theorem dL_sees_20 : decode cL_sees 20 = .ok (.astore 4, 2) := by decide +kernel
theorem dL_sees_22 : decode cL_sees 22 = .ok (.iconst 1, 1) := by decide +kernel
theorem dL_sees_23 : decode cL_sees 23 = .ok (.ireturn, 1) := by decide +kernel
theorem dL_sees_24 : decode cL_sees 24 = .ok (.iconst 0, 1) := by decide +kernel
theorem dL_sees_25 : decode cL_sees 25 = .ok (.ireturn, 1) := by decide +kernel
set_option maxRecDepth 1000000 in
set_option maxHeartbeats 4000000 in
theorem ggL_seesAnew_X4_seesAnew : GoodIn wsL_seesAnew wsX4_seesAnew := goodIn_ca (goodIn_r _ [6, 7, 8, 9, 10, 11, 12, 13, 14, 15, 16, 5, 17, 18, 19, 20, 21, 22, 23, 24, 25, 26, 27, 28, 29, 30, 31, 32, 33, 34, 35, 36, 37, 38, 39, 40, 41, 42, 43, 44, 45, 46, 47, 48, 49, 50, 51, 52, 53, 54, 55, 56, 57, 58, 59, 60, 61, 62, 63, 64, 65, 66, 67, 68, 69, 70, 71, 72, 73, 74, 75, 76, 77, 78, 79, 80, 81, 82, 83, 84, 85, 86, 87, 88, 89, 90, 91, 92, 93, 94, 95, 96, 97, 98, 99, 100, 101, 102, 103, 104, 105, 106, 107, 108, 109, 110, 111, 112, 113, 114, 115, 116, 117, 118, 119, 120, 121, 122, 123, 124, 125, 126, 127, 128, 129, 130, 131, 132, 133, 134, 135, 136, 137, 138, 139, 140, 141, 142, 143, 144, 145] rfl (by decide +kernel)) (goodIn_sub (fun _ h => List.mem_cons_of_mem _ (List.mem_append_right _ h)) (by decide +kernel))
set_option maxRecDepth 20000 in
theorem gL_seesAnew_X4_seesAnew : GoodIn wsL_seesAnew (wsV RL 67 RX4 yX4_seesAnew wsX4_seesAnew) := goodIn_app (goodIn_of _ (by decide +kernel)) ggL_seesAnew_X4_seesAnew
theorem dL_seesAnew_0 : decode cL_seesAnew 0 = .ok (.aload_n 3, 1) := by decide +kernel
theorem dL_seesAnew_1 : decode cL_seesAnew 1 = .ok (.iconst 0, 1) := by decide +kernel
theorem dL_seesAnew_2 : decode cL_seesAnew 2 = .ok (.aload_n 0, 1) := by decide +kernel
theorem dL_seesAnew_3 : decode cL_seesAnew 3 = .ok (.iload_n 1, 1) := by decide +kernel
theorem dL_seesAnew_4 : decode cL_seesAnew 4 = .ok (.iload_n 2, 1) := by decide +kernel
theorem dL_seesAnew_5 : decode cL_seesAnew 5 = .ok (.invokevirtual 67, 3) := by decide +kernel
theorem dL_seesAnew_8 : decode cL_seesAnew 8 = .ok (.ifCond .eq 7, 3) := by decide +kernel
theorem dL_seesAnew_11 : decode cL_seesAnew 11 = .ok (.lconst 1, 1) := by decide +kernel
theorem dL_seesAnew_12 : decode cL_seesAnew 12 = .ok (.goto 4, 3) := by decide +kernel
theorem dL_seesAnew_15 : decode cL_seesAnew 15 = .ok (.lconst 0, 1) := by decide +kernel
theorem dL_seesAnew_16 : decode cL_seesAnew 16 = .ok (.lastore, 1) := by decide +kernel
theorem dL_seesAnew_17 : decode cL_seesAnew 17 = .ok (.goto 7, 3) := by decide +kernel
theorem dL_seesAnew_20 : decode cL_seesAnew 20 = .ok (.astore 4, 2) := by decide +kernel
theorem dL_seesAnew_22 : decode cL_seesAnew 22 = .ok (.iconst 1, 1) := by decide +kernel
theorem dL_seesAnew_23 : decode cL_seesAnew 23 = .ok (.ireturn, 1) := by decide +kernel
theorem dL_seesAnew_24 : decode cL_seesAnew 24 = .ok (.iconst 0, 1) := by decide +kernel
theorem dL_seesAnew_25 : decode cL_seesAnew 25 = .ok (.ireturn, 1) := by decide +kernel
set_option maxRecDepth 1000000 in
set_option maxHeartbeats 4000000 in
theorem ggL_home_X4_home : GoodIn wsL_home wsX4_home := goodIn_ca (goodIn_r _ [6, 7, 8, 9, 10, 11, 12, 13, 5, 14, 15, 16, 17, 18, 19, 20, 21, 22, 23, 24, 25, 26, 27, 28, 29, 30, 31, 32, 33, 34, 35, 36, 37, 38, 39, 40, 41, 42, 43, 44, 45, 46, 47, 48, 49, 50, 51, 52, 53, 54, 55, 56, 57, 58, 59, 60, 61, 62, 63, 64, 65, 66, 67, 68, 69, 70, 71, 72, 73, 74, 75, 76, 77, 78, 79, 80, 81, 82, 83, 84, 85, 86, 87, 88, 89, 90, 91, 92, 93, 94, 95, 96, 97, 98, 99, 100, 101, 102, 103, 104, 105, 106, 107, 108, 109, 110] rfl (by decide +kernel)) (goodIn_sub (fun _ h => List.mem_cons_of_mem _ (List.mem_append_right _ h)) (by decide +kernel))
set_option maxRecDepth 20000 in
theorem gL_home_X4_home : GoodIn wsL_home (wsV RL 70 RX4 yX4_home wsX4_home) := goodIn_app (goodIn_of _ (by decide +kernel)) ggL_home_X4_home
theorem dL_home_0 : decode cL_home 0 = .ok (.aload_n 3, 1) := by decide +kernel
theorem dL_home_1 : decode cL_home 1 = .ok (.iconst 0, 1) := by decide +kernel
theorem dL_home_2 : decode cL_home 2 = .ok (.aload_n 0, 1) := by decide +kernel
theorem dL_home_3 : decode cL_home 3 = .ok (.iload_n 1, 1) := by decide +kernel
theorem dL_home_4 : decode cL_home 4 = .ok (.iload_n 2, 1) := by decide +kernel
theorem dL_home_5 : decode cL_home 5 = .ok (.invokevirtual 70, 3) := by decide +kernel
theorem dL_home_8 : decode cL_home 8 = .ok (.i2l, 1) := by decide +kernel
theorem dL_home_9 : decode cL_home 9 = .ok (.lastore, 1) := by decide +kernel
theorem dL_home_10 : decode cL_home 10 = .ok (.goto 7, 3) := by decide +kernel
theorem dL_home_13 : decode cL_home 13 = .ok (.astore 4, 2) := by decide +kernel
theorem dL_home_15 : decode cL_home 15 = .ok (.iconst 1, 1) := by decide +kernel
theorem dL_home_16 : decode cL_home 16 = .ok (.ireturn, 1) := by decide +kernel
theorem dL_home_17 : decode cL_home 17 = .ok (.iconst 0, 1) := by decide +kernel
theorem dL_home_18 : decode cL_home 18 = .ok (.ireturn, 1) := by decide +kernel
set_option maxRecDepth 1000000 in
set_option maxHeartbeats 4000000 in
theorem ggL_law_X4_init : GoodIn wsL_law wsX4_init := goodIn_c wsL_cs wsL_cin _ [(0, 9), (0, 10), (0, 11), (0, 12), (0, 13), (0, 14), (0, 15), (0, 16), (0, 17), (0, 18), (0, 19), (0, 20), (0, 21), (0, 22), (0, 23), (1, 0), (1, 1), (1, 2), (1, 3), (1, 4), (1, 5), (1, 6), (1, 7), (1, 8), (1, 9), (1, 10), (1, 11), (1, 12), (1, 13), (1, 14), (1, 15), (1, 16), (1, 17), (1, 18), (1, 19), (1, 20), (1, 21), (1, 22), (0, 6), (1, 23), (2, 0), (2, 1), (2, 2), (2, 3), (2, 4), (2, 5), (2, 6), (2, 7), (2, 8), (2, 9), (2, 10), (2, 11), (2, 12), (2, 13), (2, 14), (2, 15), (2, 16), (2, 17), (30, 0), (30, 1), (30, 2), (30, 3), (30, 4), (28, 0), (28, 1), (28, 2), (28, 3), (28, 4), (28, 5), (31, 0), (31, 1), (31, 2), (32, 0), (32, 1), (32, 2), (32, 3), (32, 4), (32, 5), (32, 6)] rfl (by decide +kernel)
set_option maxRecDepth 20000 in
theorem gL_law_X4_init : GoodIn wsL_law (wsX4_init) := ggL_law_X4_init
set_option maxRecDepth 1000000 in
set_option maxHeartbeats 4000000 in
theorem ggL_law_X5_init : GoodIn wsL_law wsX5_init := goodIn_c wsL_cs wsL_cin _ [(2, 20), (2, 21), (0, 11), (0, 12), (0, 17), (2, 22), (1, 13), (2, 23), (3, 0), (3, 1), (3, 2), (3, 3), (3, 4), (3, 5), (3, 6), (3, 7), (3, 8), (3, 9), (3, 10), (3, 11), (3, 12), (3, 13), (3, 14), (3, 15), (3, 16), (3, 17), (3, 18), (3, 19), (29, 0), (29, 1), (29, 2), (29, 3), (29, 4), (29, 5), (29, 6), (29, 7), (29, 8), (29, 9), (29, 10), (29, 11), (29, 12), (29, 13), (29, 14), (29, 15), (29, 16), (29, 17), (29, 18), (29, 19), (29, 20), (29, 21), (29, 22), (29, 23), (29, 24), (29, 25)] rfl (by decide +kernel)
set_option maxRecDepth 20000 in
theorem gL_law_X5_init : GoodIn wsL_law (wsX5_init) := ggL_law_X5_init
set_option maxRecDepth 1000000 in
set_option maxHeartbeats 4000000 in
theorem ggL_law_L_person : GoodIn wsL_law wsL_person := goodIn_ca (goodIn_ca (goodIn_c wsL_cs wsL_cin _ [(3, 23), (4, 0), (4, 1), (4, 2), (4, 3), (4, 4), (0, 2), (4, 5), (4, 6), (4, 7), (1, 3), (0, 18), (4, 8), (4, 9), (4, 10), (4, 11), (4, 12), (28, 0), (28, 1), (28, 2), (28, 3), (28, 4), (28, 5)] rfl (by decide +kernel)) (goodIn_sub (fun _ h => List.mem_append_left _ (List.mem_append_left _ (List.mem_append_right _ h))) (by decide +kernel))) (goodIn_sub (fun _ h => List.mem_append_left _ (List.mem_append_right _ h)) (by decide +kernel))
set_option maxRecDepth 20000 in
theorem gL_law_L_person : GoodIn wsL_law (va_wsS RL 77 yL_person wsL_person) := goodIn_app (goodIn_of _ (by decide +kernel)) ggL_law_L_person
set_option maxRecDepth 1000000 in
set_option maxHeartbeats 4000000 in
theorem ggL_law_X5_person : GoodIn wsL_law wsX5_person := goodIn_c wsL_cs wsL_cin _ [(4, 16), (4, 17), (4, 18), (2, 22), (4, 19), (4, 20), (0, 5), (4, 21), (29, 0), (29, 1), (29, 2), (29, 3), (29, 4), (29, 5), (29, 6), (29, 7), (29, 8), (29, 9), (29, 10), (29, 11), (29, 12), (29, 13), (29, 14), (29, 15), (29, 16), (29, 17), (29, 18), (29, 19), (29, 20), (29, 21), (29, 22), (29, 23), (29, 24), (29, 25)] rfl (by decide +kernel)
set_option maxRecDepth 20000 in
theorem gL_law_X5_person : GoodIn wsL_law (wsV RL 82 RX5 yX5_person wsX5_person) := goodIn_app (goodIn_of _ (by decide +kernel)) ggL_law_X5_person
set_option maxRecDepth 1000000 in
set_option maxHeartbeats 4000000 in
theorem ggL_law_X5_thrown : GoodIn wsL_law wsX5_thrown := goodIn_c wsL_cs wsL_cin _ [(5, 1), (4, 18), (29, 0), (29, 1), (29, 2), (29, 3), (29, 4), (29, 5), (29, 6), (29, 7), (29, 8), (29, 9), (29, 10), (29, 11), (29, 12), (29, 13), (29, 14), (29, 15), (29, 16), (29, 17), (29, 18), (29, 19), (29, 20), (29, 21), (29, 22), (29, 23), (29, 24), (29, 25)] rfl (by decide +kernel)
set_option maxRecDepth 20000 in
theorem gL_law_X5_thrown : GoodIn wsL_law (wsV RL 83 RX5 yX5_thrown wsX5_thrown) := goodIn_app (goodIn_of _ (by decide +kernel)) ggL_law_X5_thrown
set_option maxRecDepth 1000000 in
set_option maxHeartbeats 4000000 in
theorem ggL_law_L_follow : GoodIn wsL_law wsL_follow := goodIn_ca (goodIn_ca (goodIn_ca (goodIn_c wsL_cs wsL_cin _ [(5, 4), (4, 0), (5, 5), (4, 1), (5, 6), (5, 7), (5, 8), (0, 2), (5, 9), (4, 6), (4, 7), (5, 10), (5, 11), (5, 12), (1, 4), (5, 13), (5, 14), (5, 15), (5, 16), (5, 17), (5, 18), (5, 19), (5, 20), (4, 11), (4, 12), (1, 3), (5, 21), (5, 22), (5, 23), (6, 0), (6, 1), (6, 2), (6, 3), (6, 4), (6, 5), (0, 16), (0, 18), (6, 6), (6, 7), (6, 8), (6, 9), (1, 1), (6, 10), (1, 19), (6, 11), (6, 12), (6, 13), (6, 14), (6, 15), (6, 16), (1, 20), (6, 17), (6, 18), (6, 19), (6, 20), (1, 21), (6, 21), (6, 22), (6, 23), (7, 0), (0, 11), (0, 12), (7, 1), (7, 2), (7, 3), (7, 4), (7, 5), (7, 6), (7, 7), (7, 8), (7, 9), (7, 10), (7, 11), (7, 12), (7, 13), (7, 14), (7, 15), (7, 16), (7, 17), (7, 18), (7, 19), (7, 20), (7, 21), (7, 22), (7, 23), (8, 0), (8, 1), (8, 2), (0, 21), (8, 3), (8, 4), (8, 5), (2, 6), (8, 6), (8, 7), (8, 8), (8, 9), (8, 10), (8, 11), (8, 12), (8, 13), (8, 14), (8, 15), (8, 16), (8, 17), (8, 18), (2, 5), (8, 19), (8, 20), (8, 21), (8, 22), (8, 23), (9, 0), (9, 1), (9, 2), (9, 3), (9, 4), (9, 5), (9, 6), (9, 7), (9, 8), (9, 9), (9, 10), (9, 11), (9, 12), (9, 13), (9, 14), (9, 15), (9, 16), (9, 17), (9, 18), (9, 19), (9, 20), (9, 21), (9, 22), (9, 23), (10, 0), (10, 1), (10, 2), (10, 3), (10, 4), (10, 5), (10, 6), (10, 7), (10, 8), (10, 9), (10, 10), (10, 11), (10, 12), (10, 13), (10, 14), (10, 15), (10, 16), (10, 17), (10, 18), (1, 22), (10, 19), (2, 0), (2, 1), (1, 23), (10, 20), (10, 21), (10, 22), (10, 23), (11, 0), (11, 1), (11, 2), (11, 3), (11, 4), (11, 5), (11, 6), (11, 7), (11, 8), (11, 9), (11, 10), (11, 11), (11, 12), (11, 13), (11, 14), (11, 15), (11, 16), (11, 17), (11, 18), (11, 19), (11, 20), (11, 21), (11, 22), (11, 23), (0, 22), (12, 0), (12, 1), (12, 2), (12, 3), (12, 4), (12, 5), (12, 6), (12, 7), (12, 8), (12, 9), (12, 10), (12, 11), (12, 12), (12, 13), (12, 14), (12, 15), (12, 16), (12, 17), (12, 18), (12, 19), (12, 20), (12, 21), (12, 22), (12, 23), (13, 0), (13, 1), (13, 2), (13, 3), (13, 4), (13, 5), (13, 6), (13, 7), (13, 8), (13, 9), (13, 10), (33, 0), (33, 1), (33, 2), (33, 3), (33, 4), (28, 0), (28, 1), (28, 2), (28, 3), (28, 4), (28, 5), (30, 0), (30, 1), (30, 2), (30, 3), (30, 4), (32, 0), (32, 1), (32, 2), (32, 3), (32, 4), (32, 5), (32, 6), (31, 0), (31, 1), (31, 2), (34, 0), (34, 1), (34, 2), (34, 3), (34, 4), (34, 5)] rfl (by decide +kernel)) (goodIn_sub (fun _ h => List.mem_append_left _ (List.mem_append_left _ (List.mem_append_right _ h))) (by decide +kernel))) (goodIn_sub (fun _ h => List.mem_append_left _ (List.mem_append_right _ h)) (by decide +kernel))) (goodIn_sub (fun _ h => List.mem_append_right _ h) (by decide +kernel))
set_option maxRecDepth 20000 in
theorem gL_law_L_follow : GoodIn wsL_law (va_wsS RL 87 yL_follow wsL_follow) := goodIn_app (goodIn_of _ (by decide +kernel)) ggL_law_L_follow
set_option maxRecDepth 1000000 in
set_option maxHeartbeats 4000000 in
theorem ggL_law_X5_follow : GoodIn wsL_law wsX5_follow := goodIn_c wsL_cs wsL_cin _ [(13, 14), (4, 18), (2, 22), (2, 23), (3, 0), (13, 15), (13, 16), (13, 17), (0, 5), (13, 18), (4, 17), (4, 19), (4, 20), (4, 21), (13, 19), (13, 20), (13, 21), (13, 22), (13, 23), (14, 0), (14, 1), (3, 1), (14, 2), (14, 3), (14, 4), (14, 5), (14, 6), (3, 12), (3, 13), (3, 14), (3, 15), (14, 7), (14, 8), (14, 9), (14, 10), (3, 17), (3, 19), (14, 11), (14, 12), (14, 13), (14, 14), (3, 16), (3, 2), (14, 15), (14, 16), (14, 17), (14, 18), (3, 3), (3, 4), (3, 7), (3, 5), (3, 6), (14, 19), (14, 20), (14, 21), (14, 22), (3, 8), (3, 10), (3, 11), (14, 23), (15, 0), (15, 1), (15, 2), (15, 3), (15, 4), (15, 5), (15, 6), (15, 7), (15, 8), (15, 9), (15, 10), (15, 11), (15, 12), (15, 13), (15, 14), (29, 0), (29, 1), (29, 2), (29, 3), (29, 4), (29, 5), (29, 6), (29, 7), (29, 8), (29, 9), (29, 10), (29, 11), (29, 12), (29, 13), (29, 14), (29, 15), (29, 16), (29, 17), (29, 18), (29, 19), (29, 20), (29, 21), (29, 22), (29, 23), (29, 24), (29, 25)] rfl (by decide +kernel)
set_option maxRecDepth 20000 in
theorem gL_law_X5_follow : GoodIn wsL_law (wsV RL 90 RX5 yX5_follow wsX5_follow) := goodIn_app (goodIn_of _ (by decide +kernel)) ggL_law_X5_follow
set_option maxRecDepth 1000000 in
set_option maxHeartbeats 4000000 in
theorem ggL_law_L_answer : GoodIn wsL_law wsL_answer := goodIn_ca (goodIn_ca (goodIn_c wsL_cs wsL_cin _ [(15, 17), (4, 0), (4, 1), (15, 18), (15, 19), (15, 20), (0, 2), (15, 21), (4, 6), (4, 7), (5, 10), (5, 11), (5, 12), (1, 4), (5, 13), (5, 14), (5, 15), (5, 16), (5, 17), (5, 18), (5, 19), (5, 20), (4, 11), (4, 12), (1, 3), (6, 2), (6, 3), (6, 4), (6, 5), (0, 16), (0, 18), (6, 6), (6, 7), (6, 8), (6, 9), (1, 1), (6, 10), (1, 19), (6, 11), (6, 12), (6, 21), (6, 22), (6, 23), (7, 0), (0, 11), (0, 12), (7, 1), (7, 2), (7, 3), (7, 4), (7, 5), (7, 6), (7, 7), (7, 8), (7, 9), (7, 10), (7, 11), (7, 12), (7, 13), (7, 14), (7, 15), (7, 16), (7, 17), (7, 18), (7, 19), (7, 20), (7, 21), (7, 22), (7, 23), (8, 0), (8, 1), (8, 2), (0, 21), (8, 3), (8, 4), (8, 5), (2, 6), (8, 6), (8, 7), (8, 8), (8, 9), (8, 10), (8, 11), (8, 12), (8, 13), (8, 14), (8, 15), (8, 16), (8, 17), (8, 18), (2, 5), (8, 19), (8, 20), (8, 21), (8, 22), (8, 23), (9, 0), (9, 1), (9, 2), (9, 3), (9, 4), (9, 5), (9, 6), (9, 7), (9, 8), (9, 9), (9, 10), (9, 11), (9, 12), (9, 13), (9, 14), (9, 15), (9, 16), (9, 17), (9, 18), (9, 19), (9, 20), (9, 21), (9, 22), (9, 23), (10, 0), (10, 1), (10, 2), (10, 3), (10, 4), (10, 5), (10, 6), (10, 7), (10, 8), (10, 9), (10, 10), (10, 11), (10, 12), (10, 13), (10, 14), (10, 15), (10, 16), (10, 17), (10, 18), (1, 21), (1, 22), (10, 19), (2, 0), (2, 1), (1, 23), (10, 20), (10, 21), (10, 22), (10, 23), (11, 0), (6, 14), (6, 15), (6, 16), (1, 20), (11, 1), (6, 18), (6, 19), (6, 20), (11, 2), (11, 3), (11, 4), (11, 5), (11, 6), (11, 7), (11, 8), (11, 9), (11, 10), (11, 11), (11, 12), (11, 13), (11, 14), (11, 15), (11, 16), (11, 17), (11, 18), (11, 19), (11, 20), (11, 21), (11, 22), (11, 23), (0, 22), (12, 0), (12, 1), (12, 2), (12, 3), (12, 4), (12, 5), (12, 6), (12, 7), (12, 8), (12, 9), (12, 10), (12, 11), (12, 12), (12, 13), (12, 14), (12, 15), (12, 16), (12, 17), (12, 18), (12, 19), (12, 20), (12, 21), (12, 22), (12, 23), (13, 0), (13, 1), (13, 2), (13, 3), (13, 4), (13, 5), (13, 6), (13, 7), (13, 8), (13, 9), (13, 10), (33, 0), (33, 1), (33, 2), (33, 3), (33, 4), (28, 0), (28, 1), (28, 2), (28, 3), (28, 4), (28, 5), (30, 0), (30, 1), (30, 2), (30, 3), (30, 4), (32, 0), (32, 1), (32, 2), (32, 3), (32, 4), (32, 5), (32, 6), (31, 0), (31, 1), (31, 2), (34, 0), (34, 1), (34, 2), (34, 3), (34, 4), (34, 5)] rfl (by decide +kernel)) (goodIn_sub (fun _ h => List.mem_append_left _ (List.mem_append_left _ (List.mem_append_right _ h))) (by decide +kernel))) (goodIn_sub (fun _ h => List.mem_append_left _ (List.mem_append_right _ h)) (by decide +kernel))
set_option maxRecDepth 20000 in
theorem gL_law_L_answer : GoodIn wsL_law (va_wsS RL 91 yL_answer wsL_answer) := goodIn_app (goodIn_of _ (by decide +kernel)) ggL_law_L_answer
set_option maxRecDepth 1000000 in
set_option maxHeartbeats 4000000 in
theorem ggL_law_X5_answer : GoodIn wsL_law wsX5_answer := goodIn_c wsL_cs wsL_cin _ [(16, 1), (2, 23), (2, 22), (4, 18), (13, 15), (13, 16), (13, 17), (0, 5), (13, 18), (4, 17), (4, 19), (4, 20), (4, 21), (13, 19), (13, 20), (13, 21), (14, 2), (14, 3), (14, 4), (14, 5), (14, 6), (3, 12), (3, 13), (3, 14), (3, 15), (14, 7), (14, 8), (14, 9), (14, 10), (3, 17), (3, 19), (14, 11), (14, 12), (14, 13), (14, 14), (3, 16), (3, 0), (3, 2), (3, 1), (14, 15), (14, 16), (14, 17), (14, 18), (3, 3), (3, 4), (3, 7), (3, 5), (3, 6), (14, 19), (14, 20), (14, 21), (14, 22), (3, 8), (3, 10), (3, 11), (14, 23), (15, 0), (15, 1), (15, 2), (13, 22), (13, 23), (14, 0), (14, 1), (15, 3), (15, 4), (15, 5), (15, 6), (15, 7), (15, 8), (15, 9), (15, 10), (15, 11), (15, 12), (15, 13), (15, 14), (29, 0), (29, 1), (29, 2), (29, 3), (29, 4), (29, 5), (29, 6), (29, 7), (29, 8), (29, 9), (29, 10), (29, 11), (29, 12), (29, 13), (29, 14), (29, 15), (29, 16), (29, 17), (29, 18), (29, 19), (29, 20), (29, 21), (29, 22), (29, 23), (29, 24), (29, 25)] rfl (by decide +kernel)
set_option maxRecDepth 20000 in
theorem gL_law_X5_answer : GoodIn wsL_law (wsV RL 94 RX5 yX5_answer wsX5_answer) := goodIn_app (goodIn_of _ (by decide +kernel)) ggL_law_X5_answer
set_option maxRecDepth 1000000 in
set_option maxHeartbeats 4000000 in
theorem ggL_law_L_leave : GoodIn wsL_law wsL_leave := goodIn_ca (goodIn_ca (goodIn_c wsL_cs wsL_cin _ [(16, 4), (4, 0), (4, 1), (16, 5), (16, 6), (16, 7), (0, 2), (16, 8), (4, 6), (4, 7), (5, 10), (5, 11), (5, 12), (1, 4), (5, 13), (5, 14), (5, 15), (5, 16), (5, 17), (5, 18), (5, 19), (5, 20), (4, 11), (4, 12), (1, 3), (6, 2), (6, 3), (6, 4), (6, 5), (0, 16), (0, 18), (6, 6), (6, 7), (6, 8), (6, 9), (1, 1), (6, 10), (1, 19), (6, 11), (6, 12), (6, 13), (6, 14), (6, 15), (6, 16), (1, 20), (6, 21), (6, 22), (6, 23), (7, 0), (0, 11), (0, 12), (7, 1), (7, 2), (7, 3), (7, 4), (7, 5), (7, 6), (7, 7), (7, 8), (7, 9), (7, 10), (7, 11), (7, 12), (7, 13), (7, 14), (7, 15), (7, 16), (7, 17), (7, 18), (7, 19), (7, 20), (7, 21), (7, 22), (7, 23), (8, 0), (8, 1), (8, 2), (0, 21), (8, 3), (8, 4), (8, 5), (2, 6), (8, 6), (8, 7), (8, 8), (8, 9), (8, 10), (8, 11), (8, 12), (8, 13), (8, 14), (8, 15), (8, 16), (8, 17), (8, 18), (2, 5), (8, 19), (8, 20), (8, 21), (8, 22), (8, 23), (9, 0), (9, 1), (9, 2), (9, 3), (9, 4), (9, 5), (9, 6), (9, 7), (9, 8), (9, 9), (9, 10), (9, 11), (9, 12), (9, 13), (9, 14), (9, 15), (9, 16), (9, 17), (9, 18), (9, 19), (9, 20), (9, 21), (9, 22), (9, 23), (10, 0), (10, 1), (10, 2), (10, 3), (10, 4), (10, 5), (10, 6), (10, 7), (10, 8), (10, 9), (10, 10), (10, 11), (10, 12), (10, 13), (10, 14), (10, 15), (10, 16), (10, 17), (10, 18), (1, 21), (1, 22), (10, 19), (2, 0), (2, 1), (1, 23), (10, 20), (10, 21), (10, 22), (10, 23), (11, 0), (11, 1), (6, 18), (6, 19), (6, 20), (11, 2), (11, 3), (11, 4), (11, 5), (11, 6), (11, 7), (11, 8), (11, 9), (11, 10), (11, 11), (11, 12), (11, 13), (11, 14), (11, 15), (11, 16), (11, 17), (11, 18), (11, 19), (11, 20), (11, 21), (11, 22), (11, 23), (0, 22), (12, 0), (12, 1), (12, 2), (12, 3), (12, 4), (12, 5), (12, 6), (12, 7), (12, 8), (12, 9), (12, 10), (12, 11), (12, 12), (12, 13), (12, 14), (12, 15), (12, 16), (12, 17), (12, 18), (12, 19), (12, 20), (12, 21), (12, 22), (12, 23), (13, 0), (13, 1), (13, 2), (13, 3), (13, 4), (13, 5), (13, 6), (13, 7), (13, 8), (13, 9), (13, 10), (33, 0), (33, 1), (33, 2), (33, 3), (33, 4), (28, 0), (28, 1), (28, 2), (28, 3), (28, 4), (28, 5), (30, 0), (30, 1), (30, 2), (30, 3), (30, 4), (32, 0), (32, 1), (32, 2), (32, 3), (32, 4), (32, 5), (32, 6), (31, 0), (31, 1), (31, 2), (34, 0), (34, 1), (34, 2), (34, 3), (34, 4), (34, 5)] rfl (by decide +kernel)) (goodIn_sub (fun _ h => List.mem_append_left _ (List.mem_append_left _ (List.mem_append_right _ h))) (by decide +kernel))) (goodIn_sub (fun _ h => List.mem_append_left _ (List.mem_append_right _ h)) (by decide +kernel))
set_option maxRecDepth 20000 in
theorem gL_law_L_leave : GoodIn wsL_law (va_wsS RL 95 yL_leave wsL_leave) := goodIn_app (goodIn_of _ (by decide +kernel)) ggL_law_L_leave
set_option maxRecDepth 1000000 in
set_option maxHeartbeats 4000000 in
theorem ggL_law_X5_leave : GoodIn wsL_law wsX5_leave := goodIn_c wsL_cs wsL_cin _ [(16, 12), (2, 23), (2, 22), (3, 0), (4, 18), (13, 15), (13, 16), (13, 17), (0, 5), (13, 18), (4, 17), (4, 19), (4, 20), (4, 21), (13, 19), (13, 20), (13, 21), (14, 2), (14, 3), (14, 4), (14, 5), (14, 6), (3, 12), (3, 13), (3, 14), (3, 15), (14, 7), (14, 8), (14, 9), (14, 10), (3, 17), (3, 19), (14, 11), (14, 12), (14, 13), (14, 14), (3, 16), (3, 2), (3, 1), (14, 15), (14, 16), (14, 17), (14, 18), (3, 3), (3, 4), (3, 7), (3, 5), (3, 6), (14, 19), (14, 20), (14, 21), (14, 22), (3, 8), (3, 10), (3, 11), (14, 23), (15, 0), (15, 1), (15, 2), (13, 22), (13, 23), (14, 0), (14, 1), (15, 3), (15, 4), (15, 5), (15, 6), (15, 7), (15, 8), (15, 9), (15, 10), (15, 11), (15, 12), (15, 13), (15, 14), (29, 0), (29, 1), (29, 2), (29, 3), (29, 4), (29, 5), (29, 6), (29, 7), (29, 8), (29, 9), (29, 10), (29, 11), (29, 12), (29, 13), (29, 14), (29, 15), (29, 16), (29, 17), (29, 18), (29, 19), (29, 20), (29, 21), (29, 22), (29, 23), (29, 24), (29, 25)] rfl (by decide +kernel)
set_option maxRecDepth 20000 in
theorem gL_law_X5_leave : GoodIn wsL_law (wsV RL 97 RX5 yX5_leave wsX5_leave) := goodIn_app (goodIn_of _ (by decide +kernel)) ggL_law_X5_leave
set_option maxRecDepth 1000000 in
set_option maxHeartbeats 4000000 in
theorem ggL_law_L_block : GoodIn wsL_law wsL_block := goodIn_ca (goodIn_ca (goodIn_ca (goodIn_c wsL_cs wsL_cin _ [(16, 15), (4, 0), (5, 5), (4, 1), (16, 16), (16, 17), (16, 18), (0, 2), (16, 19), (4, 6), (4, 7), (5, 10), (5, 11), (5, 12), (1, 4), (5, 13), (5, 14), (5, 15), (5, 16), (5, 17), (5, 18), (5, 19), (5, 20), (4, 11), (4, 12), (1, 3), (5, 21), (5, 22), (5, 23), (6, 0), (6, 1), (6, 2), (6, 3), (6, 4), (6, 5), (0, 16), (0, 18), (6, 6), (16, 20), (16, 21), (16, 22), (1, 1), (16, 23), (1, 21), (6, 11), (6, 12), (6, 21), (6, 22), (6, 23), (7, 0), (0, 11), (0, 12), (7, 1), (7, 2), (7, 3), (7, 4), (7, 5), (7, 6), (7, 7), (7, 8), (7, 9), (7, 10), (7, 11), (7, 12), (7, 13), (7, 14), (7, 15), (7, 16), (7, 17), (7, 18), (7, 19), (7, 20), (7, 21), (7, 22), (7, 23), (8, 0), (8, 1), (8, 2), (0, 21), (8, 3), (8, 4), (8, 5), (2, 6), (8, 6), (8, 7), (8, 8), (8, 9), (8, 10), (8, 11), (8, 12), (8, 13), (8, 14), (8, 15), (8, 16), (8, 17), (8, 18), (2, 5), (8, 19), (8, 20), (8, 21), (8, 22), (8, 23), (9, 0), (9, 1), (9, 2), (9, 3), (9, 4), (9, 5), (9, 6), (9, 7), (9, 8), (9, 9), (9, 10), (9, 11), (9, 12), (9, 13), (9, 14), (9, 15), (9, 16), (9, 17), (9, 18), (9, 19), (9, 20), (9, 21), (9, 22), (9, 23), (10, 0), (10, 1), (10, 2), (10, 3), (10, 4), (10, 5), (10, 6), (10, 7), (10, 8), (10, 9), (10, 10), (10, 11), (10, 12), (10, 13), (10, 14), (10, 15), (10, 16), (10, 17), (10, 18), (1, 19), (1, 22), (10, 19), (2, 0), (2, 1), (1, 23), (10, 20), (10, 21), (10, 22), (10, 23), (11, 0), (6, 14), (6, 15), (6, 16), (1, 20), (11, 1), (6, 18), (6, 19), (6, 20), (11, 2), (11, 3), (11, 4), (11, 5), (11, 6), (6, 8), (6, 9), (6, 10), (11, 7), (11, 8), (11, 9), (11, 10), (11, 11), (11, 12), (11, 13), (11, 14), (11, 15), (11, 16), (11, 17), (11, 18), (11, 19), (11, 20), (11, 21), (11, 22), (11, 23), (0, 22), (12, 0), (12, 1), (12, 2), (12, 3), (12, 4), (12, 5), (12, 6), (12, 7), (12, 8), (12, 9), (12, 10), (12, 11), (12, 12), (12, 13), (12, 14), (12, 15), (12, 16), (12, 17), (12, 18), (12, 19), (12, 20), (12, 21), (12, 22), (12, 23), (13, 0), (13, 1), (13, 2), (13, 3), (13, 4), (13, 5), (13, 6), (13, 7), (13, 8), (13, 9), (13, 10), (33, 0), (33, 1), (33, 2), (33, 3), (33, 4), (28, 0), (28, 1), (28, 2), (28, 3), (28, 4), (28, 5), (30, 0), (30, 1), (30, 2), (30, 3), (30, 4), (32, 0), (32, 1), (32, 2), (32, 3), (32, 4), (32, 5), (32, 6), (31, 0), (31, 1), (31, 2), (34, 0), (34, 1), (34, 2), (34, 3), (34, 4), (34, 5)] rfl (by decide +kernel)) (goodIn_sub (fun _ h => List.mem_append_left _ (List.mem_append_left _ (List.mem_append_right _ h))) (by decide +kernel))) (goodIn_sub (fun _ h => List.mem_append_left _ (List.mem_append_right _ h)) (by decide +kernel))) (goodIn_sub (fun _ h => List.mem_append_right _ h) (by decide +kernel))
set_option maxRecDepth 20000 in
theorem gL_law_L_block : GoodIn wsL_law (va_wsS RL 98 yL_block wsL_block) := goodIn_app (goodIn_of _ (by decide +kernel)) ggL_law_L_block
set_option maxRecDepth 1000000 in
set_option maxHeartbeats 4000000 in
theorem ggL_law_X5_block : GoodIn wsL_law wsX5_block := goodIn_c wsL_cs wsL_cin _ [(17, 3), (3, 1), (2, 22), (4, 18), (13, 15), (13, 16), (13, 17), (0, 5), (13, 18), (4, 17), (4, 19), (4, 20), (4, 21), (13, 19), (13, 20), (13, 21), (14, 2), (14, 3), (14, 4), (14, 5), (14, 6), (3, 12), (3, 13), (3, 14), (3, 15), (14, 7), (14, 8), (14, 9), (14, 10), (3, 17), (3, 19), (14, 11), (14, 12), (14, 13), (14, 14), (3, 16), (2, 23), (3, 0), (3, 2), (14, 15), (14, 16), (14, 17), (14, 18), (3, 3), (3, 4), (3, 7), (3, 5), (3, 6), (14, 19), (14, 20), (14, 21), (14, 22), (3, 8), (3, 10), (3, 11), (14, 23), (15, 0), (15, 1), (15, 2), (13, 22), (13, 23), (14, 0), (14, 1), (15, 3), (15, 4), (15, 5), (15, 6), (15, 7), (15, 8), (15, 9), (15, 10), (15, 11), (15, 12), (15, 13), (15, 14), (29, 0), (29, 1), (29, 2), (29, 3), (29, 4), (29, 5), (29, 6), (29, 7), (29, 8), (29, 9), (29, 10), (29, 11), (29, 12), (29, 13), (29, 14), (29, 15), (29, 16), (29, 17), (29, 18), (29, 19), (29, 20), (29, 21), (29, 22), (29, 23), (29, 24), (29, 25)] rfl (by decide +kernel)
set_option maxRecDepth 20000 in
theorem gL_law_X5_block : GoodIn wsL_law (wsV RL 100 RX5 yX5_block wsX5_block) := goodIn_app (goodIn_of _ (by decide +kernel)) ggL_law_X5_block
set_option maxRecDepth 1000000 in
set_option maxHeartbeats 4000000 in
theorem ggL_law_L_alias : GoodIn wsL_law wsL_alias := goodIn_ca (goodIn_ca (goodIn_c wsL_cs wsL_cin _ [(17, 6), (4, 0), (5, 5), (17, 7), (17, 8), (17, 9), (0, 2), (17, 10), (5, 10), (5, 11), (5, 12), (1, 4), (5, 13), (5, 14), (5, 15), (5, 16), (5, 17), (5, 18), (5, 19), (5, 20), (4, 11), (4, 12), (1, 3), (5, 21), (5, 22), (5, 23), (6, 0), (6, 1), (6, 21), (6, 22), (6, 23), (7, 0), (0, 11), (0, 12), (7, 1), (7, 2), (7, 3), (7, 4), (7, 5), (7, 6), (7, 7), (7, 8), (7, 9), (0, 18), (7, 10), (7, 11), (7, 12), (7, 13), (7, 14), (7, 15), (7, 16), (7, 17), (7, 18), (7, 19), (7, 20), (7, 21), (0, 16), (7, 22), (7, 23), (6, 11), (6, 12), (8, 0), (8, 1), (8, 2), (0, 21), (8, 3), (8, 4), (8, 5), (2, 6), (8, 6), (8, 7), (8, 8), (8, 9), (8, 10), (8, 11), (8, 12), (8, 13), (8, 14), (8, 15), (8, 16), (8, 17), (8, 18), (2, 5), (8, 19), (8, 20), (8, 21), (8, 22), (8, 23), (9, 0), (9, 1), (9, 2), (9, 3), (9, 4), (9, 5), (9, 6), (9, 7), (9, 8), (9, 9), (9, 10), (9, 11), (9, 12), (9, 13), (9, 14), (9, 15), (9, 16), (9, 17), (9, 18), (9, 19), (9, 20), (9, 21), (9, 22), (9, 23), (10, 0), (10, 1), (10, 2), (10, 3), (10, 4), (10, 5), (10, 6), (10, 7), (10, 8), (10, 9), (10, 10), (10, 11), (6, 6), (10, 12), (10, 13), (10, 14), (1, 1), (10, 15), (10, 16), (10, 17), (10, 18), (1, 19), (1, 21), (1, 22), (10, 19), (2, 0), (2, 1), (1, 23), (10, 20), (10, 21), (10, 22), (10, 23), (11, 0), (6, 14), (6, 15), (6, 16), (1, 20), (11, 1), (6, 18), (6, 19), (6, 20), (11, 2), (11, 3), (11, 4), (11, 5), (11, 6), (6, 8), (6, 9), (6, 10), (11, 7), (11, 8), (11, 9), (11, 10), (11, 11), (11, 12), (11, 13), (11, 14), (11, 15), (11, 16), (11, 17), (11, 18), (11, 19), (11, 20), (11, 21), (11, 22), (11, 23), (0, 22), (12, 0), (12, 1), (12, 2), (12, 3), (12, 4), (12, 5), (12, 6), (12, 7), (12, 8), (12, 9), (12, 10), (12, 11), (12, 12), (12, 13), (12, 14), (12, 15), (12, 16), (12, 17), (12, 18), (12, 19), (12, 20), (12, 21), (12, 22), (12, 23), (13, 0), (13, 1), (13, 2), (13, 3), (13, 4), (13, 5), (13, 6), (13, 7), (13, 8), (13, 9), (13, 10), (33, 0), (33, 1), (33, 2), (33, 3), (33, 4), (28, 0), (28, 1), (28, 2), (28, 3), (28, 4), (28, 5), (30, 0), (30, 1), (30, 2), (30, 3), (30, 4), (31, 0), (31, 1), (31, 2), (32, 0), (32, 1), (32, 2), (32, 3), (32, 4), (32, 5), (32, 6), (34, 0), (34, 1), (34, 2), (34, 3), (34, 4), (34, 5)] rfl (by decide +kernel)) (goodIn_sub (fun _ h => List.mem_append_left _ (List.mem_append_right _ h)) (by decide +kernel))) (goodIn_sub (fun _ h => List.mem_append_right _ h) (by decide +kernel))
set_option maxRecDepth 20000 in
theorem gL_law_L_alias : GoodIn wsL_law (va_wsS RL 101 yL_alias wsL_alias) := goodIn_app (goodIn_of _ (by decide +kernel)) ggL_law_L_alias
set_option maxRecDepth 1000000 in
set_option maxHeartbeats 4000000 in
theorem ggL_law_X5_alias : GoodIn wsL_law wsX5_alias := goodIn_c wsL_cs wsL_cin _ [(17, 14), (4, 18), (2, 22), (13, 15), (13, 16), (13, 17), (0, 5), (13, 18), (4, 17), (4, 19), (4, 20), (4, 21), (14, 2), (14, 3), (14, 4), (14, 5), (14, 6), (3, 12), (3, 13), (3, 14), (3, 15), (14, 7), (14, 8), (14, 9), (14, 10), (3, 17), (3, 19), (14, 11), (14, 12), (14, 13), (14, 14), (3, 16), (2, 23), (3, 0), (3, 2), (3, 1), (14, 15), (14, 16), (14, 17), (14, 18), (3, 3), (3, 4), (3, 7), (3, 5), (3, 6), (14, 19), (14, 20), (14, 21), (14, 22), (3, 8), (3, 10), (3, 11), (14, 23), (15, 0), (15, 1), (15, 2), (13, 19), (13, 20), (13, 21), (13, 22), (13, 23), (14, 0), (14, 1), (15, 3), (15, 4), (15, 5), (15, 6), (15, 7), (15, 8), (15, 9), (15, 10), (15, 11), (15, 12), (15, 13), (15, 14), (29, 0), (29, 1), (29, 2), (29, 3), (29, 4), (29, 5), (29, 6), (29, 7), (29, 8), (29, 9), (29, 10), (29, 11), (29, 12), (29, 13), (29, 14), (29, 15), (29, 16), (29, 17), (29, 18), (29, 19), (29, 20), (29, 21), (29, 22), (29, 23), (29, 24), (29, 25)] rfl (by decide +kernel)
set_option maxRecDepth 20000 in
theorem gL_law_X5_alias : GoodIn wsL_law (wsV RL 103 RX5 yX5_alias wsX5_alias) := goodIn_app (goodIn_of _ (by decide +kernel)) ggL_law_X5_alias
set_option maxRecDepth 1000000 in
set_option maxHeartbeats 4000000 in
theorem ggL_law_L_move : GoodIn wsL_law wsL_move := goodIn_ca (goodIn_ca (goodIn_c wsL_cs wsL_cin _ [(17, 17), (4, 0), (4, 1), (17, 18), (17, 19), (17, 20), (0, 2), (17, 21), (4, 6), (4, 7), (5, 10), (5, 11), (5, 12), (1, 4), (5, 13), (5, 14), (5, 15), (5, 16), (5, 17), (5, 18), (5, 19), (5, 20), (4, 11), (4, 12), (1, 3), (6, 2), (6, 3), (6, 4), (6, 5), (0, 16), (0, 18), (6, 6), (17, 22), (17, 23), (18, 0), (1, 1), (18, 1), (1, 22), (6, 11), (6, 12), (13, 3), (13, 4), (13, 5), (13, 6), (11, 0), (6, 14), (6, 15), (6, 16), (1, 20), (7, 11), (7, 12), (6, 21), (6, 22), (6, 23), (7, 0), (0, 11), (0, 12), (7, 1), (7, 2), (7, 3), (7, 4), (7, 5), (13, 7), (13, 8), (13, 9), (13, 10), (7, 23), (7, 6), (7, 7), (7, 8), (7, 9), (7, 10), (7, 13), (7, 14), (7, 15), (7, 16), (7, 17), (7, 18), (7, 19), (7, 20), (7, 21), (7, 22), (8, 0), (8, 1), (8, 2), (0, 21), (8, 3), (8, 4), (8, 5), (2, 6), (8, 6), (8, 7), (8, 8), (8, 9), (8, 10), (8, 11), (8, 12), (8, 13), (8, 14), (8, 15), (8, 16), (8, 17), (8, 18), (2, 5), (8, 19), (8, 20), (8, 21), (8, 22), (8, 23), (9, 0), (9, 1), (9, 2), (9, 3), (9, 4), (9, 5), (9, 6), (9, 7), (9, 8), (9, 9), (9, 10), (9, 11), (9, 12), (9, 13), (9, 14), (9, 15), (9, 16), (9, 17), (9, 18), (9, 19), (9, 20), (9, 21), (9, 22), (9, 23), (10, 0), (10, 1), (10, 2), (10, 3), (10, 4), (10, 5), (10, 6), (10, 7), (10, 8), (10, 9), (10, 10), (10, 11), (10, 12), (10, 13), (10, 14), (10, 15), (10, 16), (10, 17), (10, 18), (1, 19), (1, 21), (10, 19), (2, 0), (2, 1), (1, 23), (10, 20), (10, 21), (10, 22), (10, 23), (11, 1), (6, 18), (6, 19), (6, 20), (11, 2), (11, 3), (11, 4), (11, 5), (11, 6), (6, 8), (6, 9), (6, 10), (11, 7), (11, 8), (11, 9), (11, 10), (11, 11), (11, 12), (11, 13), (11, 14), (11, 15), (11, 16), (11, 17), (11, 18), (11, 19), (11, 20), (11, 21), (11, 22), (11, 23), (0, 22), (12, 0), (12, 1), (12, 2), (12, 3), (12, 4), (12, 5), (12, 6), (12, 7), (12, 8), (12, 9), (12, 10), (12, 11), (12, 12), (12, 13), (12, 14), (12, 15), (12, 16), (12, 17), (12, 18), (12, 19), (12, 20), (12, 21), (12, 22), (12, 23), (13, 0), (13, 1), (13, 2), (18, 2), (18, 3), (18, 4), (18, 5), (18, 6), (18, 7), (18, 8), (33, 0), (33, 1), (33, 2), (33, 3), (33, 4), (28, 0), (28, 1), (28, 2), (28, 3), (28, 4), (28, 5), (30, 0), (30, 1), (30, 2), (30, 3), (30, 4), (32, 0), (32, 1), (32, 2), (32, 3), (32, 4), (32, 5), (32, 6), (31, 0), (31, 1), (31, 2), (34, 0), (34, 1), (34, 2), (34, 3), (34, 4), (34, 5)] rfl (by decide +kernel)) (goodIn_sub (fun _ h => List.mem_append_left _ (List.mem_append_left _ (List.mem_append_right _ h))) (by decide +kernel))) (goodIn_sub (fun _ h => List.mem_append_left _ (List.mem_append_right _ h)) (by decide +kernel))
set_option maxRecDepth 20000 in
theorem gL_law_L_move : GoodIn wsL_law (va_wsS RL 104 yL_move wsL_move) := goodIn_app (goodIn_of _ (by decide +kernel)) ggL_law_L_move
set_option maxRecDepth 1000000 in
set_option maxHeartbeats 4000000 in
theorem ggL_law_X5_move : GoodIn wsL_law wsX5_move := goodIn_c wsL_cs wsL_cin _ [(18, 12), (3, 2), (2, 22), (4, 18), (4, 17), (3, 0), (13, 15), (13, 16), (13, 17), (0, 5), (13, 18), (4, 19), (4, 20), (4, 21), (13, 19), (13, 20), (13, 21), (14, 23), (15, 0), (15, 1), (15, 2), (14, 2), (14, 3), (14, 4), (14, 5), (14, 6), (3, 12), (3, 13), (3, 14), (3, 15), (14, 7), (14, 8), (14, 9), (14, 10), (3, 17), (3, 19), (14, 11), (14, 12), (14, 13), (14, 14), (3, 16), (2, 23), (3, 1), (14, 15), (14, 16), (14, 17), (14, 18), (3, 3), (3, 4), (3, 7), (3, 5), (3, 6), (14, 19), (14, 20), (14, 21), (14, 22), (3, 8), (3, 10), (3, 11), (13, 22), (13, 23), (14, 0), (14, 1), (15, 3), (15, 4), (15, 5), (15, 6), (15, 7), (15, 8), (15, 9), (15, 10), (15, 11), (15, 12), (15, 13), (15, 14), (29, 0), (29, 1), (29, 2), (29, 3), (29, 4), (29, 5), (29, 6), (29, 7), (29, 8), (29, 9), (29, 10), (29, 11), (29, 12), (29, 13), (29, 14), (29, 15), (29, 16), (29, 17), (29, 18), (29, 19), (29, 20), (29, 21), (29, 22), (29, 23), (29, 24), (29, 25)] rfl (by decide +kernel)
set_option maxRecDepth 20000 in
theorem gL_law_X5_move : GoodIn wsL_law (wsV RL 107 RX5 yX5_move wsX5_move) := goodIn_app (goodIn_of _ (by decide +kernel)) ggL_law_X5_move
set_option maxRecDepth 1000000 in
set_option maxHeartbeats 4000000 in
theorem ggL_law_L_post : GoodIn wsL_law wsL_post := goodIn_ca (goodIn_ca (goodIn_ca (goodIn_c wsL_cs wsL_cin _ [(18, 15), (4, 0), (5, 5), (4, 1), (18, 16), (18, 17), (18, 18), (0, 2), (18, 19), (6, 0), (6, 1), (4, 6), (4, 7), (1, 3), (0, 22), (12, 1), (13, 1), (18, 20), (18, 21), (18, 22), (5, 10), (5, 11), (5, 12), (1, 4), (13, 2), (5, 17), (5, 18), (5, 19), (5, 20), (4, 11), (4, 12), (18, 23), (19, 0), (19, 1), (19, 2), (19, 3), (19, 4), (19, 5), (0, 21), (19, 6), (8, 6), (6, 2), (6, 3), (6, 4), (6, 5), (0, 16), (0, 18), (6, 6), (12, 5), (12, 6), (12, 7), (12, 8), (12, 9), (12, 10), (12, 11), (12, 12), (12, 13), (12, 14), (12, 15), (12, 16), (12, 17), (12, 18), (12, 19), (12, 20), (2, 6), (19, 7), (19, 8), (19, 9), (1, 1), (19, 10), (2, 0), (2, 1), (19, 11), (19, 12), (19, 13), (19, 14), (19, 15), (19, 16), (11, 1), (6, 18), (6, 19), (6, 20), (1, 21), (6, 11), (6, 12), (11, 0), (6, 14), (6, 15), (6, 16), (1, 20), (13, 7), (13, 8), (13, 9), (13, 10), (7, 23), (7, 6), (7, 7), (7, 8), (7, 9), (7, 10), (7, 11), (7, 12), (13, 3), (13, 4), (13, 5), (13, 6), (19, 17), (19, 18), (19, 19), (19, 20), (0, 11), (0, 12), (19, 21), (19, 22), (19, 23), (20, 0), (20, 1), (20, 2), (8, 0), (8, 1), (8, 2), (8, 3), (8, 4), (8, 5), (8, 7), (8, 8), (8, 9), (8, 10), (8, 11), (8, 12), (8, 13), (8, 14), (8, 15), (8, 16), (8, 17), (8, 18), (2, 5), (8, 19), (8, 20), (8, 21), (8, 22), (8, 23), (9, 0), (9, 1), (9, 2), (9, 3), (9, 4), (9, 5), (9, 6), (9, 7), (9, 8), (9, 9), (9, 10), (9, 11), (9, 12), (9, 13), (9, 14), (9, 15), (9, 16), (9, 17), (9, 18), (9, 19), (9, 20), (9, 21), (9, 22), (9, 23), (10, 0), (10, 1), (10, 2), (10, 3), (10, 4), (6, 21), (6, 22), (6, 23), (7, 0), (7, 1), (7, 2), (7, 3), (7, 4), (7, 5), (7, 13), (7, 14), (7, 15), (7, 16), (7, 17), (7, 18), (7, 19), (7, 20), (7, 21), (7, 22), (10, 5), (10, 6), (10, 7), (10, 8), (10, 9), (10, 10), (10, 11), (10, 12), (10, 13), (10, 14), (10, 15), (10, 16), (10, 17), (10, 18), (1, 19), (1, 22), (10, 19), (1, 23), (10, 20), (10, 21), (10, 22), (10, 23), (11, 2), (11, 3), (11, 4), (11, 5), (11, 6), (6, 8), (6, 9), (6, 10), (11, 7), (11, 8), (11, 9), (11, 10), (11, 11), (11, 12), (11, 13), (11, 14), (11, 15), (11, 16), (11, 17), (11, 18), (11, 19), (11, 20), (11, 21), (11, 22), (11, 23), (12, 0), (12, 2), (12, 3), (12, 4), (12, 21), (12, 22), (12, 23), (13, 0), (28, 0), (28, 1), (28, 2), (28, 3), (28, 4), (28, 5), (34, 0), (34, 1), (34, 2), (34, 3), (34, 4), (34, 5), (33, 0), (33, 1), (33, 2), (33, 3), (33, 4), (31, 0), (31, 1), (31, 2), (30, 0), (30, 1), (30, 2), (30, 3), (30, 4), (32, 0), (32, 1), (32, 2), (32, 3), (32, 4), (32, 5), (32, 6)] rfl (by decide +kernel)) (goodIn_sub (fun _ h => List.mem_append_right _ h) (by decide +kernel))) (goodIn_sub (fun _ h => List.mem_append_left _ (List.mem_append_left _ (List.mem_append_right _ h))) (by decide +kernel))) (goodIn_sub (fun _ h => List.mem_append_left _ (List.mem_append_right _ h)) (by decide +kernel))
set_option maxRecDepth 20000 in
theorem gL_law_L_post : GoodIn wsL_law (va_wsS RL 108 yL_post wsL_post) := goodIn_app (goodIn_of _ (by decide +kernel)) ggL_law_L_post
set_option maxRecDepth 1000000 in
set_option maxHeartbeats 4000000 in
theorem ggL_law_X5_post : GoodIn wsL_law wsX5_post := goodIn_c wsL_cs wsL_cin _ [(20, 6), (20, 7), (4, 17), (4, 18), (3, 7), (3, 8), (3, 9), (3, 10), (2, 22), (3, 11), (13, 15), (13, 16), (13, 17), (0, 5), (13, 18), (4, 19), (4, 20), (4, 21), (20, 8), (20, 9), (20, 10), (20, 11), (3, 3), (3, 0), (13, 22), (13, 23), (14, 0), (14, 1), (3, 1), (13, 19), (13, 20), (13, 21), (20, 12), (20, 13), (20, 14), (20, 15), (14, 23), (15, 0), (15, 1), (15, 2), (14, 2), (14, 3), (14, 4), (14, 5), (14, 6), (3, 12), (3, 13), (3, 14), (3, 15), (14, 7), (14, 8), (14, 9), (14, 10), (3, 17), (3, 19), (14, 11), (14, 12), (14, 13), (14, 14), (3, 16), (2, 23), (3, 2), (14, 15), (14, 16), (14, 17), (14, 18), (3, 4), (3, 5), (3, 6), (14, 19), (14, 20), (14, 21), (14, 22), (15, 3), (15, 4), (15, 5), (15, 6), (15, 7), (15, 8), (15, 9), (15, 10), (15, 11), (15, 12), (15, 13), (15, 14), (29, 0), (29, 1), (29, 2), (29, 3), (29, 4), (29, 5), (29, 6), (29, 7), (29, 8), (29, 9), (29, 10), (29, 11), (29, 12), (29, 13), (29, 14), (29, 15), (29, 16), (29, 17), (29, 18), (29, 19), (29, 20), (29, 21), (29, 22), (29, 23), (29, 24), (29, 25)] rfl (by decide +kernel)
set_option maxRecDepth 20000 in
theorem gL_law_X5_post : GoodIn wsL_law (wsV RL 111 RX5 yX5_post wsX5_post) := goodIn_app (goodIn_of _ (by decide +kernel)) ggL_law_X5_post
set_option maxRecDepth 1000000 in
set_option maxHeartbeats 4000000 in
theorem ggL_law_L_delete : GoodIn wsL_law wsL_delete := goodIn_ca (goodIn_ca (goodIn_c wsL_cs wsL_cin _ [(20, 18), (4, 0), (4, 1), (20, 19), (20, 20), (20, 21), (0, 2), (20, 22), (4, 6), (4, 7), (0, 22), (12, 1), (13, 1), (5, 10), (5, 11), (5, 12), (1, 4), (13, 2), (18, 23), (19, 0), (19, 1), (19, 2), (4, 11), (4, 12), (19, 3), (19, 4), (19, 5), (0, 21), (19, 6), (8, 6), (12, 5), (12, 6), (12, 7), (12, 8), (12, 9), (12, 10), (12, 11), (12, 12), (12, 13), (12, 14), (12, 15), (12, 16), (12, 17), (12, 18), (12, 19), (12, 20), (2, 6), (6, 2), (6, 3), (6, 4), (6, 5), (0, 16), (0, 18), (6, 6), (20, 23), (21, 0), (21, 1), (1, 1), (21, 2), (2, 1), (19, 15), (19, 16), (6, 21), (6, 22), (6, 23), (7, 0), (0, 11), (0, 12), (7, 1), (7, 2), (7, 3), (7, 4), (7, 5), (7, 13), (7, 14), (7, 15), (7, 16), (7, 17), (7, 6), (7, 7), (7, 8), (7, 9), (7, 10), (7, 11), (7, 12), (7, 18), (7, 19), (7, 20), (7, 21), (7, 22), (7, 23), (6, 11), (6, 12), (8, 0), (8, 1), (8, 2), (8, 3), (8, 4), (8, 5), (8, 7), (8, 8), (8, 9), (8, 10), (8, 11), (8, 12), (8, 13), (8, 14), (8, 15), (8, 16), (8, 17), (8, 18), (2, 5), (8, 19), (8, 20), (8, 21), (8, 22), (8, 23), (9, 0), (9, 1), (9, 2), (9, 3), (9, 4), (9, 5), (9, 6), (9, 7), (9, 8), (9, 9), (9, 10), (9, 11), (9, 12), (9, 13), (9, 14), (9, 15), (9, 16), (9, 17), (9, 18), (9, 19), (9, 20), (9, 21), (9, 22), (9, 23), (10, 0), (10, 1), (10, 2), (10, 3), (10, 4), (10, 5), (10, 6), (10, 7), (10, 8), (10, 9), (10, 10), (10, 11), (10, 12), (10, 13), (10, 14), (10, 15), (10, 16), (10, 17), (10, 18), (1, 19), (1, 21), (1, 22), (10, 19), (2, 0), (1, 23), (10, 20), (10, 21), (10, 22), (10, 23), (11, 0), (6, 14), (6, 15), (6, 16), (1, 20), (11, 1), (6, 18), (6, 19), (6, 20), (11, 2), (11, 3), (11, 4), (11, 5), (11, 6), (6, 8), (6, 9), (6, 10), (11, 7), (11, 8), (11, 9), (11, 10), (11, 11), (11, 12), (11, 13), (11, 14), (11, 15), (11, 16), (11, 17), (11, 18), (11, 19), (11, 20), (11, 21), (11, 22), (11, 23), (12, 0), (12, 2), (12, 3), (12, 4), (12, 21), (12, 22), (12, 23), (13, 0), (13, 3), (13, 4), (13, 5), (13, 6), (13, 7), (13, 8), (13, 9), (13, 10), (1, 3), (18, 2), (18, 3), (18, 4), (18, 5), (18, 6), (18, 7), (18, 8), (28, 0), (28, 1), (28, 2), (28, 3), (28, 4), (28, 5), (34, 0), (34, 1), (34, 2), (34, 3), (34, 4), (34, 5), (33, 0), (33, 1), (33, 2), (33, 3), (33, 4), (31, 0), (31, 1), (31, 2), (30, 0), (30, 1), (30, 2), (30, 3), (30, 4), (32, 0), (32, 1), (32, 2), (32, 3), (32, 4), (32, 5), (32, 6)] rfl (by decide +kernel)) (goodIn_sub (fun _ h => List.mem_append_left _ (List.mem_append_left _ (List.mem_append_right _ h))) (by decide +kernel))) (goodIn_sub (fun _ h => List.mem_append_left _ (List.mem_append_right _ h)) (by decide +kernel))
set_option maxRecDepth 20000 in
theorem gL_law_L_delete : GoodIn wsL_law (va_wsS RL 112 yL_delete wsL_delete) := goodIn_app (goodIn_of _ (by decide +kernel)) ggL_law_L_delete
set_option maxRecDepth 1000000 in
set_option maxHeartbeats 4000000 in
theorem ggL_law_X5_delete : GoodIn wsL_law wsX5_delete := goodIn_c wsL_cs wsL_cin _ [(21, 6), (20, 7), (4, 18), (2, 22), (3, 7), (3, 4), (3, 11), (3, 5), (4, 19), (4, 20), (0, 5), (4, 21), (14, 2), (14, 3), (14, 4), (14, 5), (14, 6), (3, 12), (3, 13), (3, 14), (3, 15), (14, 7), (14, 8), (14, 9), (14, 10), (3, 17), (3, 19), (14, 11), (14, 12), (14, 13), (14, 14), (3, 16), (2, 23), (3, 0), (3, 2), (3, 1), (14, 15), (14, 16), (14, 17), (14, 18), (3, 3), (3, 6), (14, 19), (14, 20), (14, 21), (14, 22), (3, 8), (3, 10), (14, 23), (15, 0), (15, 1), (15, 2), (4, 17), (13, 19), (13, 20), (13, 21), (13, 22), (13, 23), (14, 0), (14, 1), (15, 3), (15, 4), (15, 5), (15, 6), (15, 7), (15, 8), (15, 9), (15, 10), (15, 11), (15, 12), (15, 13), (15, 14), (29, 0), (29, 1), (29, 2), (29, 3), (29, 4), (29, 5), (29, 6), (29, 7), (29, 8), (29, 9), (29, 10), (29, 11), (29, 12), (29, 13), (29, 14), (29, 15), (29, 16), (29, 17), (29, 18), (29, 19), (29, 20), (29, 21), (29, 22), (29, 23), (29, 24), (29, 25)] rfl (by decide +kernel)
set_option maxRecDepth 20000 in
theorem gL_law_X5_delete : GoodIn wsL_law (wsV RL 114 RX5 yX5_delete wsX5_delete) := goodIn_app (goodIn_of _ (by decide +kernel)) ggL_law_X5_delete
set_option maxRecDepth 1000000 in
set_option maxHeartbeats 4000000 in
theorem ggL_law_L_boost : GoodIn wsL_law wsL_boost := goodIn_ca (goodIn_ca (goodIn_c wsL_cs wsL_cin _ [(21, 9), (4, 0), (4, 1), (21, 10), (21, 11), (21, 12), (0, 2), (21, 13), (4, 6), (4, 7), (0, 22), (12, 1), (12, 2), (13, 1), (5, 10), (5, 11), (5, 12), (1, 4), (5, 17), (5, 18), (5, 19), (5, 20), (4, 11), (4, 12), (1, 3), (18, 23), (19, 0), (19, 1), (19, 2), (19, 3), (19, 4), (19, 5), (0, 21), (19, 6), (8, 6), (12, 5), (12, 6), (12, 7), (12, 8), (12, 9), (12, 10), (12, 11), (12, 12), (12, 13), (12, 14), (12, 15), (12, 16), (12, 17), (12, 18), (12, 19), (12, 20), (2, 6), (6, 2), (6, 3), (6, 4), (6, 5), (0, 16), (0, 18), (6, 6), (19, 7), (19, 8), (19, 9), (1, 1), (19, 10), (2, 0), (2, 1), (19, 11), (19, 12), (19, 13), (19, 14), (19, 15), (19, 16), (11, 1), (6, 18), (6, 19), (6, 20), (1, 21), (6, 11), (6, 12), (11, 0), (6, 14), (6, 15), (6, 16), (1, 20), (21, 14), (21, 15), (21, 16), (21, 17), (1, 23), (13, 3), (13, 4), (13, 5), (13, 6), (7, 11), (7, 12), (13, 7), (13, 8), (13, 9), (13, 10), (7, 23), (7, 6), (7, 7), (7, 8), (7, 9), (7, 10), (6, 21), (6, 22), (6, 23), (7, 0), (0, 11), (0, 12), (7, 1), (7, 2), (7, 3), (7, 4), (7, 5), (7, 13), (7, 14), (7, 15), (7, 16), (7, 17), (7, 18), (7, 19), (7, 20), (7, 21), (7, 22), (8, 0), (8, 1), (8, 2), (8, 3), (8, 4), (8, 5), (8, 7), (8, 8), (8, 9), (8, 10), (8, 11), (8, 12), (8, 13), (8, 14), (8, 15), (8, 16), (8, 17), (8, 18), (2, 5), (8, 19), (8, 20), (8, 21), (8, 22), (8, 23), (9, 0), (9, 1), (9, 2), (9, 3), (9, 4), (9, 5), (9, 6), (9, 7), (9, 8), (9, 9), (9, 10), (9, 11), (9, 12), (9, 13), (9, 14), (9, 15), (9, 16), (9, 17), (9, 18), (9, 19), (9, 20), (9, 21), (9, 22), (9, 23), (10, 0), (10, 1), (10, 2), (10, 3), (10, 4), (10, 5), (10, 6), (10, 7), (10, 8), (10, 9), (10, 10), (10, 11), (10, 12), (10, 13), (10, 14), (10, 15), (10, 16), (10, 17), (10, 18), (1, 19), (1, 22), (10, 19), (10, 20), (10, 21), (10, 22), (10, 23), (11, 2), (11, 3), (11, 4), (11, 5), (11, 6), (6, 8), (6, 9), (6, 10), (11, 7), (11, 8), (11, 9), (11, 10), (11, 11), (11, 12), (11, 13), (11, 14), (11, 15), (11, 16), (11, 17), (11, 18), (11, 19), (11, 20), (11, 21), (11, 22), (11, 23), (12, 0), (12, 3), (12, 4), (12, 21), (12, 22), (12, 23), (13, 0), (13, 2), (28, 0), (28, 1), (28, 2), (28, 3), (28, 4), (28, 5), (34, 0), (34, 1), (34, 2), (34, 3), (34, 4), (34, 5), (33, 0), (33, 1), (33, 2), (33, 3), (33, 4), (31, 0), (31, 1), (31, 2), (30, 0), (30, 1), (30, 2), (30, 3), (30, 4), (32, 0), (32, 1), (32, 2), (32, 3), (32, 4), (32, 5), (32, 6)] rfl (by decide +kernel)) (goodIn_sub (fun _ h => List.mem_append_left _ (List.mem_append_left _ (List.mem_append_right _ h))) (by decide +kernel))) (goodIn_sub (fun _ h => List.mem_append_left _ (List.mem_append_right _ h)) (by decide +kernel))
set_option maxRecDepth 20000 in
theorem gL_law_L_boost : GoodIn wsL_law (va_wsS RL 115 yL_boost wsL_boost) := goodIn_app (goodIn_of _ (by decide +kernel)) ggL_law_L_boost
set_option maxRecDepth 1000000 in
set_option maxHeartbeats 4000000 in
theorem ggL_law_X5_boost : GoodIn wsL_law wsX5_boost := goodIn_c wsL_cs wsL_cin _ [(21, 21), (20, 7), (4, 18), (3, 8), (3, 6), (2, 22), (3, 7), (13, 15), (13, 16), (13, 17), (0, 5), (13, 18), (4, 17), (4, 19), (4, 20), (4, 21), (20, 8), (20, 9), (20, 10), (20, 11), (3, 3), (3, 0), (13, 22), (13, 23), (14, 0), (14, 1), (3, 1), (13, 19), (13, 20), (13, 21), (20, 12), (20, 13), (20, 14), (20, 15), (3, 9), (14, 23), (15, 0), (15, 1), (15, 2), (14, 2), (14, 3), (14, 4), (14, 5), (14, 6), (3, 12), (3, 13), (3, 14), (3, 15), (14, 7), (14, 8), (14, 9), (14, 10), (3, 17), (3, 19), (14, 11), (14, 12), (14, 13), (14, 14), (3, 16), (2, 23), (3, 2), (14, 15), (14, 16), (14, 17), (14, 18), (3, 4), (3, 5), (14, 19), (14, 20), (14, 21), (14, 22), (3, 10), (3, 11), (15, 3), (15, 4), (15, 5), (15, 6), (15, 7), (15, 8), (15, 9), (15, 10), (15, 11), (15, 12), (15, 13), (15, 14), (29, 0), (29, 1), (29, 2), (29, 3), (29, 4), (29, 5), (29, 6), (29, 7), (29, 8), (29, 9), (29, 10), (29, 11), (29, 12), (29, 13), (29, 14), (29, 15), (29, 16), (29, 17), (29, 18), (29, 19), (29, 20), (29, 21), (29, 22), (29, 23), (29, 24), (29, 25)] rfl (by decide +kernel)
set_option maxRecDepth 20000 in
theorem gL_law_X5_boost : GoodIn wsL_law (wsV RL 117 RX5 yX5_boost wsX5_boost) := goodIn_app (goodIn_of _ (by decide +kernel)) ggL_law_X5_boost
set_option maxRecDepth 1000000 in
set_option maxHeartbeats 4000000 in
theorem ggL_law_L_deliver : GoodIn wsL_law wsL_deliver := goodIn_ca (goodIn_c wsL_cs wsL_cin _ [(22, 0), (4, 0), (22, 1), (22, 2), (22, 3), (0, 2), (22, 4), (0, 16), (7, 22), (22, 5), (22, 6), (11, 23), (4, 8), (4, 9), (4, 10), (4, 11), (4, 12), (22, 7), (22, 8), (22, 9), (0, 15), (22, 10), (1, 12), (1, 15), (22, 11), (19, 4), (19, 5), (0, 21), (19, 6), (8, 6), (12, 5), (12, 6), (12, 7), (12, 8), (12, 9), (12, 10), (12, 11), (12, 12), (12, 13), (12, 14), (12, 15), (12, 16), (12, 17), (12, 18), (12, 19), (12, 20), (2, 6), (10, 5), (10, 6), (10, 7), (10, 8), (10, 9), (10, 10), (10, 11), (6, 6), (8, 0), (8, 1), (8, 2), (8, 3), (8, 4), (8, 5), (8, 7), (8, 8), (8, 9), (8, 10), (8, 11), (8, 12), (8, 13), (8, 14), (8, 15), (8, 16), (8, 17), (8, 18), (2, 5), (8, 19), (8, 20), (8, 21), (8, 22), (8, 23), (9, 0), (9, 1), (9, 2), (9, 3), (9, 4), (9, 5), (9, 6), (9, 7), (9, 8), (9, 9), (9, 10), (9, 11), (9, 12), (9, 13), (9, 14), (9, 15), (9, 16), (9, 17), (9, 18), (9, 19), (9, 20), (9, 21), (9, 22), (9, 23), (10, 0), (10, 1), (10, 2), (10, 3), (10, 4), (10, 12), (10, 13), (10, 14), (1, 1), (10, 15), (10, 16), (10, 17), (10, 18), (1, 19), (1, 21), (1, 22), (10, 19), (2, 0), (2, 1), (1, 23), (10, 20), (10, 21), (10, 22), (10, 23), (11, 0), (6, 14), (6, 15), (6, 16), (1, 20), (6, 11), (6, 12), (11, 1), (6, 18), (6, 19), (6, 20), (7, 11), (7, 12), (11, 2), (11, 3), (11, 4), (11, 5), (11, 6), (6, 8), (6, 9), (6, 10), (11, 7), (11, 8), (11, 9), (11, 10), (11, 11), (11, 12), (11, 13), (11, 14), (11, 15), (11, 16), (11, 17), (11, 18), (11, 19), (11, 20), (11, 21), (11, 22), (0, 22), (12, 0), (12, 1), (12, 2), (12, 3), (0, 18), (12, 4), (12, 21), (12, 22), (12, 23), (13, 0), (13, 1), (13, 2), (13, 3), (13, 4), (13, 5), (13, 6), (13, 7), (13, 8), (13, 9), (13, 10), (1, 3), (7, 23), (7, 6), (7, 7), (7, 8), (7, 9), (7, 10), (7, 18), (7, 19), (7, 20), (7, 21), (28, 0), (28, 1), (28, 2), (28, 3), (28, 4), (28, 5), (30, 0), (30, 1), (30, 2), (30, 3), (30, 4), (33, 0), (33, 1), (33, 2), (33, 3), (33, 4), (31, 0), (31, 1), (31, 2), (32, 0), (32, 1), (32, 2), (32, 3), (32, 4), (32, 5), (32, 6), (34, 0), (34, 1), (34, 2), (34, 3), (34, 4), (34, 5)] rfl (by decide +kernel)) (goodIn_sub (fun _ h => List.mem_append_left _ (List.mem_append_right _ h)) (by decide +kernel))
set_option maxRecDepth 20000 in
theorem gL_law_L_deliver : GoodIn wsL_law (va_wsS RL 118 yL_deliver wsL_deliver) := goodIn_app (goodIn_of _ (by decide +kernel)) ggL_law_L_deliver
set_option maxRecDepth 1000000 in
set_option maxHeartbeats 4000000 in
theorem ggL_law_X5_deliver : GoodIn wsL_law wsX5_deliver := goodIn_c wsL_cs wsL_cin _ [(22, 15), (4, 18), (3, 18), (3, 19), (3, 17), (3, 16), (3, 12), (4, 19), (4, 20), (0, 5), (4, 21), (14, 11), (14, 12), (14, 13), (14, 14), (3, 13), (3, 14), (2, 23), (3, 0), (3, 2), (3, 15), (3, 1), (14, 15), (14, 16), (14, 17), (14, 18), (3, 3), (3, 4), (2, 22), (3, 7), (3, 5), (3, 6), (14, 19), (14, 20), (14, 21), (14, 22), (3, 8), (3, 10), (3, 11), (14, 23), (15, 0), (15, 1), (15, 2), (4, 17), (13, 19), (13, 20), (13, 21), (14, 7), (14, 8), (14, 9), (14, 10), (13, 22), (13, 23), (14, 0), (14, 1), (15, 3), (15, 4), (15, 5), (15, 6), (15, 7), (15, 8), (15, 9), (15, 10), (15, 11), (15, 12), (15, 13), (15, 14), (29, 0), (29, 1), (29, 2), (29, 3), (29, 4), (29, 5), (29, 6), (29, 7), (29, 8), (29, 9), (29, 10), (29, 11), (29, 12), (29, 13), (29, 14), (29, 15), (29, 16), (29, 17), (29, 18), (29, 19), (29, 20), (29, 21), (29, 22), (29, 23), (29, 24), (29, 25)] rfl (by decide +kernel)
set_option maxRecDepth 20000 in
theorem gL_law_X5_deliver : GoodIn wsL_law (wsV RL 120 RX5 yX5_deliver wsX5_deliver) := goodIn_app (goodIn_of _ (by decide +kernel)) ggL_law_X5_deliver
set_option maxRecDepth 1000000 in
set_option maxHeartbeats 4000000 in
theorem ggL_law_L_repeat : GoodIn wsL_law wsL_repeat := goodIn_ca (goodIn_c wsL_cs wsL_cin _ [(22, 18), (4, 0), (22, 19), (22, 20), (22, 21), (0, 2), (22, 22), (0, 16), (22, 5), (7, 22), (22, 6), (11, 23), (4, 8), (4, 9), (4, 10), (4, 11), (4, 12), (12, 5), (12, 6), (12, 7), (0, 21), (12, 8), (8, 6), (12, 9), (12, 10), (12, 11), (12, 12), (12, 13), (12, 14), (12, 15), (12, 16), (12, 17), (12, 18), (12, 19), (12, 20), (2, 6), (10, 5), (10, 6), (10, 7), (10, 8), (10, 9), (10, 10), (10, 11), (6, 6), (8, 0), (8, 1), (8, 2), (8, 3), (8, 4), (8, 5), (8, 7), (8, 8), (8, 9), (8, 10), (8, 11), (8, 12), (8, 13), (8, 14), (8, 15), (8, 16), (8, 17), (8, 18), (2, 5), (8, 19), (8, 20), (8, 21), (8, 22), (8, 23), (9, 0), (9, 1), (9, 2), (9, 3), (9, 4), (9, 5), (9, 6), (9, 7), (9, 8), (9, 9), (9, 10), (9, 11), (9, 12), (9, 13), (9, 14), (9, 15), (9, 16), (9, 17), (9, 18), (9, 19), (9, 20), (9, 21), (9, 22), (9, 23), (10, 0), (10, 1), (10, 2), (10, 3), (10, 4), (10, 12), (10, 13), (10, 14), (1, 1), (10, 15), (10, 16), (10, 17), (10, 18), (1, 19), (1, 21), (1, 22), (10, 19), (2, 0), (2, 1), (1, 23), (10, 20), (10, 21), (10, 22), (10, 23), (11, 0), (6, 14), (6, 15), (6, 16), (1, 20), (6, 11), (6, 12), (11, 1), (6, 18), (6, 19), (6, 20), (7, 11), (7, 12), (11, 2), (11, 3), (11, 4), (11, 5), (11, 6), (6, 8), (6, 9), (6, 10), (11, 7), (11, 8), (11, 9), (11, 10), (11, 11), (11, 12), (11, 13), (11, 14), (11, 15), (11, 16), (11, 17), (11, 18), (11, 19), (11, 20), (11, 21), (11, 22), (0, 22), (12, 0), (12, 1), (12, 2), (12, 3), (0, 18), (12, 4), (12, 21), (12, 22), (12, 23), (13, 0), (13, 1), (13, 2), (13, 3), (13, 4), (13, 5), (13, 6), (13, 7), (13, 8), (13, 9), (13, 10), (1, 3), (7, 23), (7, 6), (7, 7), (7, 8), (7, 9), (7, 10), (7, 18), (7, 19), (7, 20), (7, 21), (28, 0), (28, 1), (28, 2), (28, 3), (28, 4), (28, 5), (30, 0), (30, 1), (30, 2), (30, 3), (30, 4), (33, 0), (33, 1), (33, 2), (33, 3), (33, 4), (31, 0), (31, 1), (31, 2), (32, 0), (32, 1), (32, 2), (32, 3), (32, 4), (32, 5), (32, 6), (34, 0), (34, 1), (34, 2), (34, 3), (34, 4), (34, 5)] rfl (by decide +kernel)) (goodIn_sub (fun _ h => List.mem_append_left _ (List.mem_append_right _ h)) (by decide +kernel))
set_option maxRecDepth 20000 in
theorem gL_law_L_repeat : GoodIn wsL_law (va_wsS RL 121 yL_repeat wsL_repeat) := goodIn_app (goodIn_of _ (by decide +kernel)) ggL_law_L_repeat
set_option maxRecDepth 1000000 in
set_option maxHeartbeats 4000000 in
theorem ggL_law_X5_repeat : GoodIn wsL_law wsX5_repeat := goodIn_c wsL_cs wsL_cin _ [(23, 2), (4, 18), (3, 18), (3, 12), (3, 17), (4, 19), (4, 20), (0, 5), (4, 21), (29, 0), (29, 1), (29, 2), (29, 3), (29, 4), (29, 5), (29, 6), (29, 7), (29, 8), (29, 9), (29, 10), (29, 11), (29, 12), (29, 13), (29, 14), (29, 15), (29, 16), (29, 17), (29, 18), (29, 19), (29, 20), (29, 21), (29, 22), (29, 23), (29, 24), (29, 25)] rfl (by decide +kernel)
set_option maxRecDepth 20000 in
theorem gL_law_X5_repeat : GoodIn wsL_law (wsV RL 123 RX5 yX5_repeat wsX5_repeat) := goodIn_app (goodIn_of _ (by decide +kernel)) ggL_law_X5_repeat
set_option maxRecDepth 1000000 in
set_option maxHeartbeats 4000000 in
theorem ggL_law_L_ofServer : GoodIn wsL_law wsL_ofServer := goodIn_ca (goodIn_ca (goodIn_c wsL_cs wsL_cin _ [(23, 5), (4, 0), (5, 5), (23, 6), (23, 7), (23, 8), (0, 2), (23, 9), (6, 0), (6, 1), (0, 16), (10, 11), (6, 6), (4, 8), (4, 9), (4, 10), (4, 11), (4, 12), (22, 7), (22, 8), (22, 9), (0, 15), (22, 10), (1, 12), (1, 15), (22, 11), (19, 4), (19, 5), (0, 21), (19, 6), (8, 6), (19, 3), (23, 10), (23, 11), (23, 12), (1, 1), (23, 13), (2, 0), (2, 1), (19, 11), (23, 14), (23, 15), (23, 16), (23, 17), (23, 18), (23, 19), (23, 20), (23, 21), (23, 22), (23, 23), (24, 0), (24, 1), (24, 2), (24, 3), (24, 4), (1, 20), (24, 5), (24, 6), (24, 7), (24, 8), (18, 3), (18, 4), (18, 5), (18, 6), (18, 7), (18, 8), (24, 9), (24, 10), (24, 11), (24, 12), (1, 19), (28, 0), (28, 1), (28, 2), (28, 3), (28, 4), (28, 5), (30, 0), (30, 1), (30, 2), (30, 3), (30, 4), (31, 0), (31, 1), (31, 2), (32, 0), (32, 1), (32, 2), (32, 3), (32, 4), (32, 5), (32, 6)] rfl (by decide +kernel)) (goodIn_sub (fun _ h => List.mem_append_right _ h) (by decide +kernel))) (goodIn_sub (fun _ h => List.mem_append_left _ (List.mem_append_right _ h)) (by decide +kernel))
set_option maxRecDepth 20000 in
theorem gL_law_L_ofServer : GoodIn wsL_law (va_wsS RL 124 yL_ofServer wsL_ofServer) := goodIn_app (goodIn_of _ (by decide +kernel)) ggL_law_L_ofServer
set_option maxRecDepth 1000000 in
set_option maxHeartbeats 4000000 in
theorem ggL_law_X5_ofServer : GoodIn wsL_law wsX5_ofServer := goodIn_c wsL_cs wsL_cin _ [(24, 16), (4, 18), (14, 6), (3, 16), (3, 19), (3, 18), (4, 19), (4, 20), (0, 5), (4, 21), (24, 17), (24, 18), (24, 19), (24, 20), (3, 3), (3, 4), (3, 0), (2, 23), (29, 0), (29, 1), (29, 2), (29, 3), (29, 4), (29, 5), (29, 6), (29, 7), (29, 8), (29, 9), (29, 10), (29, 11), (29, 12), (29, 13), (29, 14), (29, 15), (29, 16), (29, 17), (29, 18), (29, 19), (29, 20), (29, 21), (29, 22), (29, 23), (29, 24), (29, 25)] rfl (by decide +kernel)
set_option maxRecDepth 20000 in
theorem gL_law_X5_ofServer : GoodIn wsL_law (wsV RL 126 RX5 yX5_ofServer wsX5_ofServer) := goodIn_app (goodIn_of _ (by decide +kernel)) ggL_law_X5_ofServer
set_option maxRecDepth 1000000 in
set_option maxHeartbeats 4000000 in
theorem ggL_law_L_between : GoodIn wsL_law wsL_between := goodIn_ca (goodIn_c wsL_cs wsL_cin _ [(24, 23), (4, 0), (25, 0), (25, 1), (25, 2), (0, 2), (25, 3), (0, 16), (6, 6), (4, 8), (4, 9), (4, 10), (4, 11), (4, 12), (5, 13), (5, 14), (5, 15), (5, 16), (5, 17), (5, 18), (5, 19), (5, 20), (1, 3), (6, 7), (6, 8), (6, 9), (1, 1), (6, 10), (1, 19), (6, 11), (6, 12), (6, 13), (6, 14), (6, 15), (6, 16), (1, 20), (16, 20), (16, 21), (16, 22), (16, 23), (1, 21), (28, 0), (28, 1), (28, 2), (28, 3), (28, 4), (28, 5), (30, 0), (30, 1), (30, 2), (30, 3), (30, 4), (32, 0), (32, 1), (32, 2), (32, 3), (32, 4), (32, 5), (32, 6)] rfl (by decide +kernel)) (goodIn_sub (fun _ h => List.mem_append_left _ (List.mem_append_right _ h)) (by decide +kernel))
set_option maxRecDepth 20000 in
theorem gL_law_L_between : GoodIn wsL_law (va_wsS RL 127 yL_between wsL_between) := goodIn_app (goodIn_of _ (by decide +kernel)) ggL_law_L_between
set_option maxRecDepth 1000000 in
set_option maxHeartbeats 4000000 in
theorem ggL_law_X5_between : GoodIn wsL_law wsX5_between := goodIn_c wsL_cs wsL_cin _ [(25, 7), (4, 18), (3, 0), (2, 23), (3, 1), (4, 19), (4, 20), (0, 5), (4, 21), (13, 15), (13, 16), (13, 17), (13, 18), (4, 17), (13, 19), (13, 20), (13, 21), (29, 0), (29, 1), (29, 2), (29, 3), (29, 4), (29, 5), (29, 6), (29, 7), (29, 8), (29, 9), (29, 10), (29, 11), (29, 12), (29, 13), (29, 14), (29, 15), (29, 16), (29, 17), (29, 18), (29, 19), (29, 20), (29, 21), (29, 22), (29, 23), (29, 24), (29, 25)] rfl (by decide +kernel)
set_option maxRecDepth 20000 in
theorem gL_law_X5_between : GoodIn wsL_law (wsV RL 130 RX5 yX5_between wsX5_between) := goodIn_app (goodIn_of _ (by decide +kernel)) ggL_law_X5_between
set_option maxRecDepth 1000000 in
set_option maxHeartbeats 4000000 in
theorem ggL_law_L_sees : GoodIn wsL_law wsL_sees := goodIn_ca (goodIn_c wsL_cs wsL_cin _ [(25, 10), (4, 0), (25, 11), (25, 12), (25, 13), (0, 2), (25, 14), (0, 22), (12, 1), (5, 17), (5, 18), (5, 19), (5, 20), (4, 11), (4, 12), (1, 3), (18, 23), (19, 0), (19, 1), (19, 2), (19, 3), (19, 4), (19, 5), (0, 21), (19, 6), (8, 6), (6, 2), (6, 3), (6, 4), (6, 5), (0, 16), (0, 18), (6, 6), (12, 5), (12, 6), (12, 7), (12, 8), (12, 9), (12, 10), (12, 11), (12, 12), (12, 13), (12, 14), (12, 15), (12, 16), (12, 17), (12, 18), (12, 19), (12, 20), (2, 6), (19, 7), (19, 8), (19, 9), (1, 1), (19, 10), (2, 0), (2, 1), (19, 11), (19, 12), (19, 13), (19, 14), (19, 15), (19, 16), (11, 1), (6, 18), (6, 19), (6, 20), (1, 21), (6, 11), (6, 12), (11, 0), (6, 14), (6, 15), (6, 16), (1, 20), (28, 0), (28, 1), (28, 2), (28, 3), (28, 4), (28, 5), (31, 0), (31, 1), (31, 2), (30, 0), (30, 1), (30, 2), (30, 3), (30, 4), (32, 0), (32, 1), (32, 2), (32, 3), (32, 4), (32, 5), (32, 6), (34, 0), (34, 1), (34, 2), (34, 3), (34, 4), (34, 5)] rfl (by decide +kernel)) (goodIn_sub (fun _ h => List.mem_append_left _ (List.mem_append_right _ h)) (by decide +kernel))
set_option maxRecDepth 20000 in
theorem gL_law_L_sees : GoodIn wsL_law (va_wsS RL 131 yL_sees wsL_sees) := goodIn_app (goodIn_of _ (by decide +kernel)) ggL_law_L_sees
set_option maxRecDepth 1000000 in
set_option maxHeartbeats 4000000 in
theorem ggL_law_X5_sees : GoodIn wsL_law wsX5_sees := goodIn_c wsL_cs wsL_cin _ [(25, 18), (20, 7), (4, 18), (13, 15), (13, 16), (13, 17), (0, 5), (13, 18), (4, 17), (4, 19), (4, 20), (4, 21), (20, 8), (20, 9), (20, 10), (20, 11), (2, 22), (3, 3), (3, 7), (3, 8), (3, 0), (13, 22), (13, 23), (14, 0), (14, 1), (3, 1), (13, 19), (13, 20), (13, 21), (20, 12), (20, 13), (20, 14), (20, 15), (3, 9), (29, 0), (29, 1), (29, 2), (29, 3), (29, 4), (29, 5), (29, 6), (29, 7), (29, 8), (29, 9), (29, 10), (29, 11), (29, 12), (29, 13), (29, 14), (29, 15), (29, 16), (29, 17), (29, 18), (29, 19), (29, 20), (29, 21), (29, 22), (29, 23), (29, 24), (29, 25)] rfl (by decide +kernel)
set_option maxRecDepth 20000 in
theorem gL_law_X5_sees : GoodIn wsL_law (wsV RL 133 RX5 yX5_sees wsX5_sees) := goodIn_app (goodIn_of _ (by decide +kernel)) ggL_law_X5_sees
set_option maxRecDepth 1000000 in
set_option maxHeartbeats 4000000 in
theorem ggL_law_L_seesAnew : GoodIn wsL_law wsL_seesAnew := goodIn_ca (goodIn_c wsL_cs wsL_cin _ [(25, 21), (4, 0), (25, 22), (25, 23), (26, 0), (0, 2), (26, 1), (0, 16), (0, 18), (10, 11), (1, 2), (22, 6), (0, 22), (12, 1), (5, 17), (5, 18), (5, 19), (5, 20), (4, 11), (4, 12), (1, 3), (18, 23), (19, 0), (19, 1), (19, 2), (19, 3), (19, 4), (19, 5), (0, 21), (19, 6), (8, 6), (26, 2), (26, 3), (26, 4), (1, 1), (26, 5), (1, 19), (1, 20), (1, 21), (1, 22), (1, 23), (2, 0), (2, 1), (12, 5), (12, 6), (12, 7), (12, 8), (12, 9), (12, 10), (12, 11), (12, 12), (12, 13), (12, 14), (12, 15), (12, 16), (12, 17), (12, 18), (12, 19), (12, 20), (2, 6), (10, 12), (10, 13), (10, 14), (10, 15), (10, 16), (10, 17), (10, 18), (10, 19), (10, 20), (10, 21), (10, 22), (10, 23), (11, 0), (6, 14), (6, 15), (6, 16), (6, 11), (6, 12), (11, 1), (6, 18), (6, 19), (6, 20), (7, 11), (7, 12), (11, 2), (11, 3), (11, 4), (11, 5), (11, 6), (6, 8), (6, 9), (6, 10), (11, 7), (11, 8), (11, 9), (11, 10), (11, 11), (11, 12), (11, 13), (11, 14), (11, 15), (11, 16), (11, 17), (11, 18), (19, 7), (19, 8), (19, 9), (19, 10), (19, 11), (19, 12), (19, 13), (19, 14), (19, 15), (19, 16), (28, 0), (28, 1), (28, 2), (28, 3), (28, 4), (28, 5), (30, 0), (30, 1), (30, 2), (30, 3), (30, 4), (31, 0), (31, 1), (31, 2), (32, 0), (32, 1), (32, 2), (32, 3), (32, 4), (32, 5), (32, 6), (33, 0), (33, 1), (33, 2), (33, 3), (33, 4), (34, 0), (34, 1), (34, 2), (34, 3), (34, 4), (34, 5)] rfl (by decide +kernel)) (goodIn_sub (fun _ h => List.mem_append_left _ (List.mem_append_right _ h)) (by decide +kernel))
set_option maxRecDepth 20000 in
theorem gL_law_L_seesAnew : GoodIn wsL_law (va_wsS RL 134 yL_seesAnew wsL_seesAnew) := goodIn_app (goodIn_of _ (by decide +kernel)) ggL_law_L_seesAnew
set_option maxRecDepth 1000000 in
set_option maxHeartbeats 4000000 in
theorem ggL_law_X5_seesAnew : GoodIn wsL_law wsX5_seesAnew := goodIn_c wsL_cs wsL_cin _ [(26, 9), (20, 7), (4, 18), (13, 15), (13, 16), (13, 17), (0, 5), (13, 18), (4, 17), (4, 19), (4, 20), (4, 21), (20, 8), (20, 9), (20, 10), (20, 11), (2, 22), (3, 3), (3, 7), (3, 8), (3, 0), (13, 22), (13, 23), (14, 0), (14, 1), (3, 1), (13, 19), (13, 20), (13, 21), (20, 12), (20, 13), (20, 14), (20, 15), (3, 9), (29, 0), (29, 1), (29, 2), (29, 3), (29, 4), (29, 5), (29, 6), (29, 7), (29, 8), (29, 9), (29, 10), (29, 11), (29, 12), (29, 13), (29, 14), (29, 15), (29, 16), (29, 17), (29, 18), (29, 19), (29, 20), (29, 21), (29, 22), (29, 23), (29, 24), (29, 25)] rfl (by decide +kernel)
set_option maxRecDepth 20000 in
theorem gL_law_X5_seesAnew : GoodIn wsL_law (wsV RL 136 RX5 yX5_seesAnew wsX5_seesAnew) := goodIn_app (goodIn_of _ (by decide +kernel)) ggL_law_X5_seesAnew
set_option maxRecDepth 1000000 in
set_option maxHeartbeats 4000000 in
theorem ggL_law_L_home : GoodIn wsL_law wsL_home := goodIn_ca (goodIn_c wsL_cs wsL_cin _ [(26, 12), (4, 0), (26, 13), (26, 14), (26, 15), (0, 2), (26, 16), (4, 11), (4, 12), (0, 22), (12, 1), (5, 17), (5, 18), (5, 19), (5, 20), (1, 3), (6, 2), (6, 3), (6, 4), (6, 5), (0, 16), (0, 18), (6, 6), (19, 3), (19, 4), (19, 5), (0, 21), (19, 6), (8, 6), (12, 5), (12, 6), (12, 7), (12, 8), (12, 9), (12, 10), (12, 11), (12, 12), (12, 13), (12, 14), (12, 15), (12, 16), (12, 17), (12, 18), (12, 19), (12, 20), (2, 6), (26, 17), (26, 18), (26, 19), (1, 1), (26, 20), (19, 12), (19, 13), (26, 21), (19, 8), (19, 9), (19, 10), (2, 0), (2, 1), (19, 11), (19, 14), (19, 15), (19, 16), (11, 1), (6, 18), (6, 19), (6, 20), (1, 21), (6, 11), (6, 12), (11, 0), (6, 14), (6, 15), (6, 16), (1, 20), (26, 22), (26, 23), (27, 0), (27, 1), (27, 2), (21, 15), (21, 16), (21, 17), (1, 23), (28, 0), (28, 1), (28, 2), (28, 3), (28, 4), (28, 5), (30, 0), (30, 1), (30, 2), (30, 3), (30, 4), (31, 0), (31, 1), (31, 2), (34, 0), (34, 1), (34, 2), (34, 3), (34, 4), (34, 5), (32, 0), (32, 1), (32, 2), (32, 3), (32, 4), (32, 5), (32, 6)] rfl (by decide +kernel)) (goodIn_sub (fun _ h => List.mem_append_left _ (List.mem_append_right _ h)) (by decide +kernel))
set_option maxRecDepth 20000 in
theorem gL_law_L_home : GoodIn wsL_law (va_wsS RL 137 yL_home wsL_home) := goodIn_app (goodIn_of _ (by decide +kernel)) ggL_law_L_home
set_option maxRecDepth 1000000 in
set_option maxHeartbeats 4000000 in
theorem ggL_law_X5_home : GoodIn wsL_law wsX5_home := goodIn_c wsL_cs wsL_cin _ [(27, 6), (4, 18), (20, 7), (13, 15), (13, 16), (13, 17), (0, 5), (13, 18), (4, 17), (4, 19), (4, 20), (4, 21), (27, 7), (27, 8), (27, 9), (27, 10), (2, 22), (3, 7), (3, 0), (3, 6), (20, 12), (20, 13), (20, 14), (20, 15), (3, 9), (13, 19), (13, 20), (13, 21), (20, 8), (20, 9), (20, 10), (20, 11), (3, 3), (3, 8), (13, 22), (13, 23), (14, 0), (14, 1), (3, 1), (29, 0), (29, 1), (29, 2), (29, 3), (29, 4), (29, 5), (29, 6), (29, 7), (29, 8), (29, 9), (29, 10), (29, 11), (29, 12), (29, 13), (29, 14), (29, 15), (29, 16), (29, 17), (29, 18), (29, 19), (29, 20), (29, 21), (29, 22), (29, 23), (29, 24), (29, 25)] rfl (by decide +kernel)
set_option maxRecDepth 20000 in
theorem gL_law_X5_home : GoodIn wsL_law (wsV RL 139 RX5 yX5_home wsX5_home) := goodIn_app (goodIn_of _ (by decide +kernel)) ggL_law_X5_home
theorem dL_law_0 : decode cL_law 0 = .ok (.new 8, 3) := by decide +kernel
theorem dL_law_3 : decode cL_law 3 = .ok (.dup, 1) := by decide +kernel
theorem dL_law_4 : decode cL_law 4 = .ok (.invokespecial 73, 3) := by decide +kernel
theorem dL_law_7 : decode cL_law 7 = .ok (.astore_n 1, 1) := by decide +kernel
theorem dL_law_8 : decode cL_law 8 = .ok (.new 74, 3) := by decide +kernel
theorem dL_law_11 : decode cL_law 11 = .ok (.dup, 1) := by decide +kernel
theorem dL_law_12 : decode cL_law 12 = .ok (.invokespecial 76, 3) := by decide +kernel
theorem dL_law_15 : decode cL_law 15 = .ok (.astore_n 2, 1) := by decide +kernel
theorem dL_law_16 : decode cL_law 16 = .ok (.iconst 1, 1) := by decide +kernel
theorem dL_law_17 : decode cL_law 17 = .ok (.newarray .long, 2) := by decide +kernel
theorem dL_law_19 : decode cL_law 19 = .ok (.astore_n 3, 1) := by decide +kernel
theorem dL_law_20 : decode cL_law 20 = .ok (.iconst 0, 1) := by decide +kernel
theorem dL_law_21 : decode cL_law 21 = .ok (.istore 4, 2) := by decide +kernel
theorem dL_law_23 : decode cL_law 23 = .ok (.iload 4, 2) := by decide +kernel
theorem dL_law_25 : decode cL_law 25 = .ok (.aload_n 0, 1) := by decide +kernel
theorem dL_law_26 : decode cL_law 26 = .ok (.arraylength, 1) := by decide +kernel
theorem dL_law_27 : decode cL_law 27 = .ok (.iconst 5, 1) := by decide +kernel
theorem dL_law_28 : decode cL_law 28 = .ok (.isub, 1) := by decide +kernel
theorem dL_law_29 : decode cL_law 29 = .ok (.if_icmp .gt 1191, 3) := by decide +kernel
theorem dL_law_32 : decode cL_law 32 = .ok (.aload_n 0, 1) := by decide +kernel
theorem dL_law_33 : decode cL_law 33 = .ok (.iload 4, 2) := by decide +kernel
theorem dL_law_35 : decode cL_law 35 = .ok (.iaload, 1) := by decide +kernel
theorem dL_law_36 : decode cL_law 36 = .ok (.bipush 31, 2) := by decide +kernel
theorem dL_law_38 : decode cL_law 38 = .ok (.iand, 1) := by decide +kernel
theorem dL_law_39 : decode cL_law 39 = .ok (.tableswitch 1175 0 16 #[81, 137, 185, 261, 309, 385, 433, 501, 593, 649, 697, 753, 809, 877, 957, 1032, 1107], 81) := by decide +kernel
theorem dL_law_120 : decode cL_law 120 = .ok (.aload_n 1, 1) := by decide +kernel
theorem dL_law_121 : decode cL_law 121 = .ok (.aload_n 0, 1) := by decide +kernel
theorem dL_law_122 : decode cL_law 122 = .ok (.iload 4, 2) := by decide +kernel
theorem dL_law_124 : decode cL_law 124 = .ok (.iconst 1, 1) := by decide +kernel
theorem dL_law_125 : decode cL_law 125 = .ok (.iadd, 1) := by decide +kernel
theorem dL_law_126 : decode cL_law 126 = .ok (.iaload, 1) := by decide +kernel
theorem dL_law_127 : decode cL_law 127 = .ok (.aload_n 3, 1) := by decide +kernel
theorem dL_law_128 : decode cL_law 128 = .ok (.invokestatic 77, 3) := by decide +kernel
theorem dL_law_131 : decode cL_law 131 = .ok (.istore 5, 2) := by decide +kernel
theorem dL_law_133 : decode cL_law 133 = .ok (.aload_n 2, 1) := by decide +kernel
theorem dL_law_134 : decode cL_law 134 = .ok (.aload_n 0, 1) := by decide +kernel
theorem dL_law_135 : decode cL_law 135 = .ok (.iload 4, 2) := by decide +kernel
theorem dL_law_137 : decode cL_law 137 = .ok (.iconst 1, 1) := by decide +kernel
theorem dL_law_138 : decode cL_law 138 = .ok (.iadd, 1) := by decide +kernel
theorem dL_law_139 : decode cL_law 139 = .ok (.iaload, 1) := by decide +kernel
theorem dL_law_140 : decode cL_law 140 = .ok (.invokevirtual 82, 3) := by decide +kernel
theorem dL_law_143 : decode cL_law 143 = .ok (.istore 6, 2) := by decide +kernel
theorem dL_law_145 : decode cL_law 145 = .ok (.aload_n 2, 1) := by decide +kernel
theorem dL_law_146 : decode cL_law 146 = .ok (.invokevirtual 83, 3) := by decide +kernel
theorem dL_law_149 : decode cL_law 149 = .ok (.iload 5, 2) := by decide +kernel
theorem dL_law_151 : decode cL_law 151 = .ok (.if_icmp .eq 5, 3) := by decide +kernel
theorem dL_law_154 : decode cL_law 154 = .ok (.iconst 0, 1) := by decide +kernel
theorem dL_law_155 : decode cL_law 155 = .ok (.ireturn, 1) := by decide +kernel
theorem dL_law_156 : decode cL_law 156 = .ok (.iload 5, 2) := by decide +kernel
theorem dL_law_158 : decode cL_law 158 = .ok (.ifCond .ne 15, 3) := by decide +kernel
theorem dL_law_161 : decode cL_law 161 = .ok (.aload_n 3, 1) := by decide +kernel
theorem dL_law_162 : decode cL_law 162 = .ok (.iconst 0, 1) := by decide +kernel
theorem dL_law_163 : decode cL_law 163 = .ok (.laload, 1) := by decide +kernel
theorem dL_law_164 : decode cL_law 164 = .ok (.iload 6, 2) := by decide +kernel
theorem dL_law_166 : decode cL_law 166 = .ok (.i2l, 1) := by decide +kernel
theorem dL_law_167 : decode cL_law 167 = .ok (.lcmp, 1) := by decide +kernel
theorem dL_law_168 : decode cL_law 168 = .ok (.ifCond .eq 5, 3) := by decide +kernel
theorem dL_law_171 : decode cL_law 171 = .ok (.iconst 0, 1) := by decide +kernel
theorem dL_law_172 : decode cL_law 172 = .ok (.ireturn, 1) := by decide +kernel
theorem dL_law_173 : decode cL_law 173 = .ok (.goto 1041, 3) := by decide +kernel
theorem dL_law_176 : decode cL_law 176 = .ok (.aload_n 1, 1) := by decide +kernel
theorem dL_law_177 : decode cL_law 177 = .ok (.aload_n 0, 1) := by decide +kernel
theorem dL_law_178 : decode cL_law 178 = .ok (.iload 4, 2) := by decide +kernel
theorem dL_law_180 : decode cL_law 180 = .ok (.iconst 1, 1) := by decide +kernel
theorem dL_law_181 : decode cL_law 181 = .ok (.iadd, 1) := by decide +kernel
theorem dL_law_182 : decode cL_law 182 = .ok (.iaload, 1) := by decide +kernel
theorem dL_law_183 : decode cL_law 183 = .ok (.aload_n 0, 1) := by decide +kernel
theorem dL_law_184 : decode cL_law 184 = .ok (.iload 4, 2) := by decide +kernel
theorem dL_law_186 : decode cL_law 186 = .ok (.iconst 2, 1) := by decide +kernel
theorem dL_law_187 : decode cL_law 187 = .ok (.iadd, 1) := by decide +kernel
theorem dL_law_188 : decode cL_law 188 = .ok (.iaload, 1) := by decide +kernel
theorem dL_law_189 : decode cL_law 189 = .ok (.invokestatic 87, 3) := by decide +kernel
theorem dL_law_192 : decode cL_law 192 = .ok (.istore 5, 2) := by decide +kernel
theorem dL_law_194 : decode cL_law 194 = .ok (.aload_n 2, 1) := by decide +kernel
theorem dL_law_195 : decode cL_law 195 = .ok (.aload_n 0, 1) := by decide +kernel
theorem dL_law_196 : decode cL_law 196 = .ok (.iload 4, 2) := by decide +kernel
theorem dL_law_198 : decode cL_law 198 = .ok (.iconst 1, 1) := by decide +kernel
theorem dL_law_199 : decode cL_law 199 = .ok (.iadd, 1) := by decide +kernel
theorem dL_law_200 : decode cL_law 200 = .ok (.iaload, 1) := by decide +kernel
theorem dL_law_201 : decode cL_law 201 = .ok (.aload_n 0, 1) := by decide +kernel
theorem dL_law_202 : decode cL_law 202 = .ok (.iload 4, 2) := by decide +kernel
theorem dL_law_204 : decode cL_law 204 = .ok (.iconst 2, 1) := by decide +kernel
theorem dL_law_205 : decode cL_law 205 = .ok (.iadd, 1) := by decide +kernel
theorem dL_law_206 : decode cL_law 206 = .ok (.iaload, 1) := by decide +kernel
theorem dL_law_207 : decode cL_law 207 = .ok (.invokevirtual 90, 3) := by decide +kernel
theorem dL_law_210 : decode cL_law 210 = .ok (.aload_n 2, 1) := by decide +kernel
theorem dL_law_211 : decode cL_law 211 = .ok (.invokevirtual 83, 3) := by decide +kernel
theorem dL_law_214 : decode cL_law 214 = .ok (.iload 5, 2) := by decide +kernel
theorem dL_law_216 : decode cL_law 216 = .ok (.if_icmp .eq 5, 3) := by decide +kernel
theorem dL_law_219 : decode cL_law 219 = .ok (.iconst 0, 1) := by decide +kernel
theorem dL_law_220 : decode cL_law 220 = .ok (.ireturn, 1) := by decide +kernel
theorem dL_law_221 : decode cL_law 221 = .ok (.goto 993, 3) := by decide +kernel
theorem dL_law_224 : decode cL_law 224 = .ok (.aload_n 1, 1) := by decide +kernel
theorem dL_law_225 : decode cL_law 225 = .ok (.aload_n 0, 1) := by decide +kernel
theorem dL_law_226 : decode cL_law 226 = .ok (.iload 4, 2) := by decide +kernel
theorem dL_law_228 : decode cL_law 228 = .ok (.iconst 1, 1) := by decide +kernel
theorem dL_law_229 : decode cL_law 229 = .ok (.iadd, 1) := by decide +kernel
theorem dL_law_230 : decode cL_law 230 = .ok (.iaload, 1) := by decide +kernel
theorem dL_law_231 : decode cL_law 231 = .ok (.aload_n 0, 1) := by decide +kernel
theorem dL_law_232 : decode cL_law 232 = .ok (.iload 4, 2) := by decide +kernel
theorem dL_law_234 : decode cL_law 234 = .ok (.iconst 2, 1) := by decide +kernel
theorem dL_law_235 : decode cL_law 235 = .ok (.iadd, 1) := by decide +kernel
theorem dL_law_236 : decode cL_law 236 = .ok (.iaload, 1) := by decide +kernel
theorem dL_law_237 : decode cL_law 237 = .ok (.aload_n 0, 1) := by decide +kernel
theorem dL_law_238 : decode cL_law 238 = .ok (.iload 4, 2) := by decide +kernel
theorem dL_law_240 : decode cL_law 240 = .ok (.iconst 3, 1) := by decide +kernel
theorem dL_law_241 : decode cL_law 241 = .ok (.iadd, 1) := by decide +kernel
theorem dL_law_242 : decode cL_law 242 = .ok (.iaload, 1) := by decide +kernel
theorem dL_law_243 : decode cL_law 243 = .ok (.ifCond .eq 7, 3) := by decide +kernel
theorem dL_law_246 : decode cL_law 246 = .ok (.iconst 1, 1) := by decide +kernel
theorem dL_law_247 : decode cL_law 247 = .ok (.goto 4, 3) := by decide +kernel
theorem dL_law_250 : decode cL_law 250 = .ok (.iconst 0, 1) := by decide +kernel
theorem dL_law_251 : decode cL_law 251 = .ok (.invokestatic 91, 3) := by decide +kernel
theorem dL_law_254 : decode cL_law 254 = .ok (.istore 5, 2) := by decide +kernel
theorem dL_law_256 : decode cL_law 256 = .ok (.aload_n 2, 1) := by decide +kernel
theorem dL_law_257 : decode cL_law 257 = .ok (.aload_n 0, 1) := by decide +kernel
theorem dL_law_258 : decode cL_law 258 = .ok (.iload 4, 2) := by decide +kernel
theorem dL_law_260 : decode cL_law 260 = .ok (.iconst 1, 1) := by decide +kernel
theorem dL_law_261 : decode cL_law 261 = .ok (.iadd, 1) := by decide +kernel
theorem dL_law_262 : decode cL_law 262 = .ok (.iaload, 1) := by decide +kernel
theorem dL_law_263 : decode cL_law 263 = .ok (.aload_n 0, 1) := by decide +kernel
theorem dL_law_264 : decode cL_law 264 = .ok (.iload 4, 2) := by decide +kernel
theorem dL_law_266 : decode cL_law 266 = .ok (.iconst 2, 1) := by decide +kernel
theorem dL_law_267 : decode cL_law 267 = .ok (.iadd, 1) := by decide +kernel
theorem dL_law_268 : decode cL_law 268 = .ok (.iaload, 1) := by decide +kernel
theorem dL_law_269 : decode cL_law 269 = .ok (.aload_n 0, 1) := by decide +kernel
theorem dL_law_270 : decode cL_law 270 = .ok (.iload 4, 2) := by decide +kernel
theorem dL_law_272 : decode cL_law 272 = .ok (.iconst 3, 1) := by decide +kernel
theorem dL_law_273 : decode cL_law 273 = .ok (.iadd, 1) := by decide +kernel
theorem dL_law_274 : decode cL_law 274 = .ok (.iaload, 1) := by decide +kernel
theorem dL_law_275 : decode cL_law 275 = .ok (.ifCond .eq 7, 3) := by decide +kernel
theorem dL_law_278 : decode cL_law 278 = .ok (.iconst 1, 1) := by decide +kernel
theorem dL_law_279 : decode cL_law 279 = .ok (.goto 4, 3) := by decide +kernel
theorem dL_law_282 : decode cL_law 282 = .ok (.iconst 0, 1) := by decide +kernel
theorem dL_law_283 : decode cL_law 283 = .ok (.invokevirtual 94, 3) := by decide +kernel
theorem dL_law_286 : decode cL_law 286 = .ok (.aload_n 2, 1) := by decide +kernel
theorem dL_law_287 : decode cL_law 287 = .ok (.invokevirtual 83, 3) := by decide +kernel
theorem dL_law_290 : decode cL_law 290 = .ok (.iload 5, 2) := by decide +kernel
theorem dL_law_292 : decode cL_law 292 = .ok (.if_icmp .eq 5, 3) := by decide +kernel
theorem dL_law_295 : decode cL_law 295 = .ok (.iconst 0, 1) := by decide +kernel
theorem dL_law_296 : decode cL_law 296 = .ok (.ireturn, 1) := by decide +kernel
theorem dL_law_297 : decode cL_law 297 = .ok (.goto 917, 3) := by decide +kernel
theorem dL_law_300 : decode cL_law 300 = .ok (.aload_n 1, 1) := by decide +kernel
theorem dL_law_301 : decode cL_law 301 = .ok (.aload_n 0, 1) := by decide +kernel
theorem dL_law_302 : decode cL_law 302 = .ok (.iload 4, 2) := by decide +kernel
theorem dL_law_304 : decode cL_law 304 = .ok (.iconst 1, 1) := by decide +kernel
theorem dL_law_305 : decode cL_law 305 = .ok (.iadd, 1) := by decide +kernel
theorem dL_law_306 : decode cL_law 306 = .ok (.iaload, 1) := by decide +kernel
theorem dL_law_307 : decode cL_law 307 = .ok (.aload_n 0, 1) := by decide +kernel
theorem dL_law_308 : decode cL_law 308 = .ok (.iload 4, 2) := by decide +kernel
theorem dL_law_310 : decode cL_law 310 = .ok (.iconst 2, 1) := by decide +kernel
theorem dL_law_311 : decode cL_law 311 = .ok (.iadd, 1) := by decide +kernel
theorem dL_law_312 : decode cL_law 312 = .ok (.iaload, 1) := by decide +kernel
theorem dL_law_313 : decode cL_law 313 = .ok (.invokestatic 95, 3) := by decide +kernel
theorem dL_law_316 : decode cL_law 316 = .ok (.istore 5, 2) := by decide +kernel
theorem dL_law_318 : decode cL_law 318 = .ok (.aload_n 2, 1) := by decide +kernel
theorem dL_law_319 : decode cL_law 319 = .ok (.aload_n 0, 1) := by decide +kernel
theorem dL_law_320 : decode cL_law 320 = .ok (.iload 4, 2) := by decide +kernel
theorem dL_law_322 : decode cL_law 322 = .ok (.iconst 1, 1) := by decide +kernel
theorem dL_law_323 : decode cL_law 323 = .ok (.iadd, 1) := by decide +kernel
theorem dL_law_324 : decode cL_law 324 = .ok (.iaload, 1) := by decide +kernel
theorem dL_law_325 : decode cL_law 325 = .ok (.aload_n 0, 1) := by decide +kernel
theorem dL_law_326 : decode cL_law 326 = .ok (.iload 4, 2) := by decide +kernel
theorem dL_law_328 : decode cL_law 328 = .ok (.iconst 2, 1) := by decide +kernel
theorem dL_law_329 : decode cL_law 329 = .ok (.iadd, 1) := by decide +kernel
theorem dL_law_330 : decode cL_law 330 = .ok (.iaload, 1) := by decide +kernel
theorem dL_law_331 : decode cL_law 331 = .ok (.invokevirtual 97, 3) := by decide +kernel
theorem dL_law_334 : decode cL_law 334 = .ok (.aload_n 2, 1) := by decide +kernel
theorem dL_law_335 : decode cL_law 335 = .ok (.invokevirtual 83, 3) := by decide +kernel
theorem dL_law_338 : decode cL_law 338 = .ok (.iload 5, 2) := by decide +kernel
theorem dL_law_340 : decode cL_law 340 = .ok (.if_icmp .eq 5, 3) := by decide +kernel
theorem dL_law_343 : decode cL_law 343 = .ok (.iconst 0, 1) := by decide +kernel
theorem dL_law_344 : decode cL_law 344 = .ok (.ireturn, 1) := by decide +kernel
theorem dL_law_345 : decode cL_law 345 = .ok (.goto 869, 3) := by decide +kernel
theorem dL_law_348 : decode cL_law 348 = .ok (.aload_n 1, 1) := by decide +kernel
theorem dL_law_349 : decode cL_law 349 = .ok (.aload_n 0, 1) := by decide +kernel
theorem dL_law_350 : decode cL_law 350 = .ok (.iload 4, 2) := by decide +kernel
theorem dL_law_352 : decode cL_law 352 = .ok (.iconst 1, 1) := by decide +kernel
theorem dL_law_353 : decode cL_law 353 = .ok (.iadd, 1) := by decide +kernel
theorem dL_law_354 : decode cL_law 354 = .ok (.iaload, 1) := by decide +kernel
theorem dL_law_355 : decode cL_law 355 = .ok (.aload_n 0, 1) := by decide +kernel
theorem dL_law_356 : decode cL_law 356 = .ok (.iload 4, 2) := by decide +kernel
theorem dL_law_358 : decode cL_law 358 = .ok (.iconst 2, 1) := by decide +kernel
theorem dL_law_359 : decode cL_law 359 = .ok (.iadd, 1) := by decide +kernel
theorem dL_law_360 : decode cL_law 360 = .ok (.iaload, 1) := by decide +kernel
theorem dL_law_361 : decode cL_law 361 = .ok (.aload_n 0, 1) := by decide +kernel
theorem dL_law_362 : decode cL_law 362 = .ok (.iload 4, 2) := by decide +kernel
theorem dL_law_364 : decode cL_law 364 = .ok (.iconst 3, 1) := by decide +kernel
theorem dL_law_365 : decode cL_law 365 = .ok (.iadd, 1) := by decide +kernel
theorem dL_law_366 : decode cL_law 366 = .ok (.iaload, 1) := by decide +kernel
theorem dL_law_367 : decode cL_law 367 = .ok (.ifCond .eq 7, 3) := by decide +kernel
theorem dL_law_370 : decode cL_law 370 = .ok (.iconst 1, 1) := by decide +kernel
theorem dL_law_371 : decode cL_law 371 = .ok (.goto 4, 3) := by decide +kernel
theorem dL_law_374 : decode cL_law 374 = .ok (.iconst 0, 1) := by decide +kernel
theorem dL_law_375 : decode cL_law 375 = .ok (.invokestatic 98, 3) := by decide +kernel
theorem dL_law_378 : decode cL_law 378 = .ok (.istore 5, 2) := by decide +kernel
theorem dL_law_380 : decode cL_law 380 = .ok (.aload_n 2, 1) := by decide +kernel
theorem dL_law_381 : decode cL_law 381 = .ok (.aload_n 0, 1) := by decide +kernel
theorem dL_law_382 : decode cL_law 382 = .ok (.iload 4, 2) := by decide +kernel
theorem dL_law_384 : decode cL_law 384 = .ok (.iconst 1, 1) := by decide +kernel
theorem dL_law_385 : decode cL_law 385 = .ok (.iadd, 1) := by decide +kernel
theorem dL_law_386 : decode cL_law 386 = .ok (.iaload, 1) := by decide +kernel
theorem dL_law_387 : decode cL_law 387 = .ok (.aload_n 0, 1) := by decide +kernel
theorem dL_law_388 : decode cL_law 388 = .ok (.iload 4, 2) := by decide +kernel
theorem dL_law_390 : decode cL_law 390 = .ok (.iconst 2, 1) := by decide +kernel
theorem dL_law_391 : decode cL_law 391 = .ok (.iadd, 1) := by decide +kernel
theorem dL_law_392 : decode cL_law 392 = .ok (.iaload, 1) := by decide +kernel
theorem dL_law_393 : decode cL_law 393 = .ok (.aload_n 0, 1) := by decide +kernel
theorem dL_law_394 : decode cL_law 394 = .ok (.iload 4, 2) := by decide +kernel
theorem dL_law_396 : decode cL_law 396 = .ok (.iconst 3, 1) := by decide +kernel
theorem dL_law_397 : decode cL_law 397 = .ok (.iadd, 1) := by decide +kernel
theorem dL_law_398 : decode cL_law 398 = .ok (.iaload, 1) := by decide +kernel
theorem dL_law_399 : decode cL_law 399 = .ok (.ifCond .eq 7, 3) := by decide +kernel
theorem dL_law_402 : decode cL_law 402 = .ok (.iconst 1, 1) := by decide +kernel
theorem dL_law_403 : decode cL_law 403 = .ok (.goto 4, 3) := by decide +kernel
theorem dL_law_406 : decode cL_law 406 = .ok (.iconst 0, 1) := by decide +kernel
theorem dL_law_407 : decode cL_law 407 = .ok (.invokevirtual 100, 3) := by decide +kernel
theorem dL_law_410 : decode cL_law 410 = .ok (.aload_n 2, 1) := by decide +kernel
theorem dL_law_411 : decode cL_law 411 = .ok (.invokevirtual 83, 3) := by decide +kernel
theorem dL_law_414 : decode cL_law 414 = .ok (.iload 5, 2) := by decide +kernel
theorem dL_law_416 : decode cL_law 416 = .ok (.if_icmp .eq 5, 3) := by decide +kernel
theorem dL_law_419 : decode cL_law 419 = .ok (.iconst 0, 1) := by decide +kernel
theorem dL_law_420 : decode cL_law 420 = .ok (.ireturn, 1) := by decide +kernel
theorem dL_law_421 : decode cL_law 421 = .ok (.goto 793, 3) := by decide +kernel
theorem dL_law_424 : decode cL_law 424 = .ok (.aload_n 1, 1) := by decide +kernel
theorem dL_law_425 : decode cL_law 425 = .ok (.aload_n 0, 1) := by decide +kernel
theorem dL_law_426 : decode cL_law 426 = .ok (.iload 4, 2) := by decide +kernel
theorem dL_law_428 : decode cL_law 428 = .ok (.iconst 1, 1) := by decide +kernel
theorem dL_law_429 : decode cL_law 429 = .ok (.iadd, 1) := by decide +kernel
theorem dL_law_430 : decode cL_law 430 = .ok (.iaload, 1) := by decide +kernel
theorem dL_law_431 : decode cL_law 431 = .ok (.aload_n 0, 1) := by decide +kernel
theorem dL_law_432 : decode cL_law 432 = .ok (.iload 4, 2) := by decide +kernel
theorem dL_law_434 : decode cL_law 434 = .ok (.iconst 2, 1) := by decide +kernel
theorem dL_law_435 : decode cL_law 435 = .ok (.iadd, 1) := by decide +kernel
theorem dL_law_436 : decode cL_law 436 = .ok (.iaload, 1) := by decide +kernel
theorem dL_law_437 : decode cL_law 437 = .ok (.invokestatic 101, 3) := by decide +kernel
theorem dL_law_440 : decode cL_law 440 = .ok (.istore 5, 2) := by decide +kernel
theorem dL_law_442 : decode cL_law 442 = .ok (.aload_n 2, 1) := by decide +kernel
theorem dL_law_443 : decode cL_law 443 = .ok (.aload_n 0, 1) := by decide +kernel
theorem dL_law_444 : decode cL_law 444 = .ok (.iload 4, 2) := by decide +kernel
theorem dL_law_446 : decode cL_law 446 = .ok (.iconst 1, 1) := by decide +kernel
theorem dL_law_447 : decode cL_law 447 = .ok (.iadd, 1) := by decide +kernel
theorem dL_law_448 : decode cL_law 448 = .ok (.iaload, 1) := by decide +kernel
theorem dL_law_449 : decode cL_law 449 = .ok (.aload_n 0, 1) := by decide +kernel
theorem dL_law_450 : decode cL_law 450 = .ok (.iload 4, 2) := by decide +kernel
theorem dL_law_452 : decode cL_law 452 = .ok (.iconst 2, 1) := by decide +kernel
theorem dL_law_453 : decode cL_law 453 = .ok (.iadd, 1) := by decide +kernel
theorem dL_law_454 : decode cL_law 454 = .ok (.iaload, 1) := by decide +kernel
theorem dL_law_455 : decode cL_law 455 = .ok (.invokevirtual 103, 3) := by decide +kernel
theorem dL_law_458 : decode cL_law 458 = .ok (.aload_n 2, 1) := by decide +kernel
theorem dL_law_459 : decode cL_law 459 = .ok (.invokevirtual 83, 3) := by decide +kernel
theorem dL_law_462 : decode cL_law 462 = .ok (.iload 5, 2) := by decide +kernel
theorem dL_law_464 : decode cL_law 464 = .ok (.if_icmp .eq 5, 3) := by decide +kernel
theorem dL_law_467 : decode cL_law 467 = .ok (.iconst 0, 1) := by decide +kernel
theorem dL_law_468 : decode cL_law 468 = .ok (.ireturn, 1) := by decide +kernel
theorem dL_law_469 : decode cL_law 469 = .ok (.goto 745, 3) := by decide +kernel
theorem dL_law_472 : decode cL_law 472 = .ok (.aload_n 1, 1) := by decide +kernel
theorem dL_law_473 : decode cL_law 473 = .ok (.aload_n 0, 1) := by decide +kernel
theorem dL_law_474 : decode cL_law 474 = .ok (.iload 4, 2) := by decide +kernel
theorem dL_law_476 : decode cL_law 476 = .ok (.iconst 1, 1) := by decide +kernel
theorem dL_law_477 : decode cL_law 477 = .ok (.iadd, 1) := by decide +kernel
theorem dL_law_478 : decode cL_law 478 = .ok (.iaload, 1) := by decide +kernel
theorem dL_law_479 : decode cL_law 479 = .ok (.aload_n 0, 1) := by decide +kernel
theorem dL_law_480 : decode cL_law 480 = .ok (.iload 4, 2) := by decide +kernel
theorem dL_law_482 : decode cL_law 482 = .ok (.iconst 2, 1) := by decide +kernel
theorem dL_law_483 : decode cL_law 483 = .ok (.iadd, 1) := by decide +kernel
theorem dL_law_484 : decode cL_law 484 = .ok (.iaload, 1) := by decide +kernel
theorem dL_law_485 : decode cL_law 485 = .ok (.aload_n 3, 1) := by decide +kernel
theorem dL_law_486 : decode cL_law 486 = .ok (.invokestatic 104, 3) := by decide +kernel
theorem dL_law_489 : decode cL_law 489 = .ok (.istore 5, 2) := by decide +kernel
theorem dL_law_491 : decode cL_law 491 = .ok (.aload_n 2, 1) := by decide +kernel
theorem dL_law_492 : decode cL_law 492 = .ok (.aload_n 0, 1) := by decide +kernel
theorem dL_law_493 : decode cL_law 493 = .ok (.iload 4, 2) := by decide +kernel
theorem dL_law_495 : decode cL_law 495 = .ok (.iconst 1, 1) := by decide +kernel
theorem dL_law_496 : decode cL_law 496 = .ok (.iadd, 1) := by decide +kernel
theorem dL_law_497 : decode cL_law 497 = .ok (.iaload, 1) := by decide +kernel
theorem dL_law_498 : decode cL_law 498 = .ok (.aload_n 0, 1) := by decide +kernel
theorem dL_law_499 : decode cL_law 499 = .ok (.iload 4, 2) := by decide +kernel
theorem dL_law_501 : decode cL_law 501 = .ok (.iconst 2, 1) := by decide +kernel
theorem dL_law_502 : decode cL_law 502 = .ok (.iadd, 1) := by decide +kernel
theorem dL_law_503 : decode cL_law 503 = .ok (.iaload, 1) := by decide +kernel
theorem dL_law_504 : decode cL_law 504 = .ok (.invokevirtual 107, 3) := by decide +kernel
theorem dL_law_507 : decode cL_law 507 = .ok (.istore 6, 2) := by decide +kernel
theorem dL_law_509 : decode cL_law 509 = .ok (.aload_n 2, 1) := by decide +kernel
theorem dL_law_510 : decode cL_law 510 = .ok (.invokevirtual 83, 3) := by decide +kernel
theorem dL_law_513 : decode cL_law 513 = .ok (.iload 5, 2) := by decide +kernel
theorem dL_law_515 : decode cL_law 515 = .ok (.if_icmp .eq 5, 3) := by decide +kernel
theorem dL_law_518 : decode cL_law 518 = .ok (.iconst 0, 1) := by decide +kernel
theorem dL_law_519 : decode cL_law 519 = .ok (.ireturn, 1) := by decide +kernel
theorem dL_law_520 : decode cL_law 520 = .ok (.iload 5, 2) := by decide +kernel
theorem dL_law_522 : decode cL_law 522 = .ok (.ifCond .ne 15, 3) := by decide +kernel
theorem dL_law_525 : decode cL_law 525 = .ok (.aload_n 3, 1) := by decide +kernel
theorem dL_law_526 : decode cL_law 526 = .ok (.iconst 0, 1) := by decide +kernel
theorem dL_law_527 : decode cL_law 527 = .ok (.laload, 1) := by decide +kernel
theorem dL_law_528 : decode cL_law 528 = .ok (.iload 6, 2) := by decide +kernel
theorem dL_law_530 : decode cL_law 530 = .ok (.i2l, 1) := by decide +kernel
theorem dL_law_531 : decode cL_law 531 = .ok (.lcmp, 1) := by decide +kernel
theorem dL_law_532 : decode cL_law 532 = .ok (.ifCond .eq 5, 3) := by decide +kernel
theorem dL_law_535 : decode cL_law 535 = .ok (.iconst 0, 1) := by decide +kernel
theorem dL_law_536 : decode cL_law 536 = .ok (.ireturn, 1) := by decide +kernel
theorem dL_law_537 : decode cL_law 537 = .ok (.goto 677, 3) := by decide +kernel
theorem dL_law_540 : decode cL_law 540 = .ok (.aload_n 1, 1) := by decide +kernel
theorem dL_law_541 : decode cL_law 541 = .ok (.aload_n 0, 1) := by decide +kernel
theorem dL_law_542 : decode cL_law 542 = .ok (.iload 4, 2) := by decide +kernel
theorem dL_law_544 : decode cL_law 544 = .ok (.iconst 1, 1) := by decide +kernel
theorem dL_law_545 : decode cL_law 545 = .ok (.iadd, 1) := by decide +kernel
theorem dL_law_546 : decode cL_law 546 = .ok (.iaload, 1) := by decide +kernel
theorem dL_law_547 : decode cL_law 547 = .ok (.aload_n 0, 1) := by decide +kernel
theorem dL_law_548 : decode cL_law 548 = .ok (.iload 4, 2) := by decide +kernel
theorem dL_law_550 : decode cL_law 550 = .ok (.iconst 2, 1) := by decide +kernel
theorem dL_law_551 : decode cL_law 551 = .ok (.iadd, 1) := by decide +kernel
theorem dL_law_552 : decode cL_law 552 = .ok (.iaload, 1) := by decide +kernel
theorem dL_law_553 : decode cL_law 553 = .ok (.aload_n 0, 1) := by decide +kernel
theorem dL_law_554 : decode cL_law 554 = .ok (.iload 4, 2) := by decide +kernel
theorem dL_law_556 : decode cL_law 556 = .ok (.iconst 3, 1) := by decide +kernel
theorem dL_law_557 : decode cL_law 557 = .ok (.iadd, 1) := by decide +kernel
theorem dL_law_558 : decode cL_law 558 = .ok (.iaload, 1) := by decide +kernel
theorem dL_law_559 : decode cL_law 559 = .ok (.aload_n 0, 1) := by decide +kernel
theorem dL_law_560 : decode cL_law 560 = .ok (.iload 4, 2) := by decide +kernel
theorem dL_law_562 : decode cL_law 562 = .ok (.iconst 4, 1) := by decide +kernel
theorem dL_law_563 : decode cL_law 563 = .ok (.iadd, 1) := by decide +kernel
theorem dL_law_564 : decode cL_law 564 = .ok (.iaload, 1) := by decide +kernel
theorem dL_law_565 : decode cL_law 565 = .ok (.aload_n 3, 1) := by decide +kernel
theorem dL_law_566 : decode cL_law 566 = .ok (.invokestatic 108, 3) := by decide +kernel
theorem dL_law_569 : decode cL_law 569 = .ok (.istore 5, 2) := by decide +kernel
theorem dL_law_571 : decode cL_law 571 = .ok (.aload_n 2, 1) := by decide +kernel
theorem dL_law_572 : decode cL_law 572 = .ok (.aload_n 0, 1) := by decide +kernel
theorem dL_law_573 : decode cL_law 573 = .ok (.iload 4, 2) := by decide +kernel
theorem dL_law_575 : decode cL_law 575 = .ok (.iconst 1, 1) := by decide +kernel
theorem dL_law_576 : decode cL_law 576 = .ok (.iadd, 1) := by decide +kernel
theorem dL_law_577 : decode cL_law 577 = .ok (.iaload, 1) := by decide +kernel
theorem dL_law_578 : decode cL_law 578 = .ok (.aload_n 0, 1) := by decide +kernel
theorem dL_law_579 : decode cL_law 579 = .ok (.iload 4, 2) := by decide +kernel
theorem dL_law_581 : decode cL_law 581 = .ok (.iconst 2, 1) := by decide +kernel
theorem dL_law_582 : decode cL_law 582 = .ok (.iadd, 1) := by decide +kernel
theorem dL_law_583 : decode cL_law 583 = .ok (.iaload, 1) := by decide +kernel
theorem dL_law_584 : decode cL_law 584 = .ok (.aload_n 0, 1) := by decide +kernel
theorem dL_law_585 : decode cL_law 585 = .ok (.iload 4, 2) := by decide +kernel
theorem dL_law_587 : decode cL_law 587 = .ok (.iconst 3, 1) := by decide +kernel
theorem dL_law_588 : decode cL_law 588 = .ok (.iadd, 1) := by decide +kernel
theorem dL_law_589 : decode cL_law 589 = .ok (.iaload, 1) := by decide +kernel
theorem dL_law_590 : decode cL_law 590 = .ok (.aload_n 0, 1) := by decide +kernel
theorem dL_law_591 : decode cL_law 591 = .ok (.iload 4, 2) := by decide +kernel
theorem dL_law_593 : decode cL_law 593 = .ok (.iconst 4, 1) := by decide +kernel
theorem dL_law_594 : decode cL_law 594 = .ok (.iadd, 1) := by decide +kernel
theorem dL_law_595 : decode cL_law 595 = .ok (.iaload, 1) := by decide +kernel
theorem dL_law_596 : decode cL_law 596 = .ok (.invokevirtual 111, 3) := by decide +kernel
theorem dL_law_599 : decode cL_law 599 = .ok (.istore 6, 2) := by decide +kernel
theorem dL_law_601 : decode cL_law 601 = .ok (.aload_n 2, 1) := by decide +kernel
theorem dL_law_602 : decode cL_law 602 = .ok (.invokevirtual 83, 3) := by decide +kernel
theorem dL_law_605 : decode cL_law 605 = .ok (.iload 5, 2) := by decide +kernel
theorem dL_law_607 : decode cL_law 607 = .ok (.if_icmp .eq 5, 3) := by decide +kernel
theorem dL_law_610 : decode cL_law 610 = .ok (.iconst 0, 1) := by decide +kernel
theorem dL_law_611 : decode cL_law 611 = .ok (.ireturn, 1) := by decide +kernel
theorem dL_law_612 : decode cL_law 612 = .ok (.iload 5, 2) := by decide +kernel
theorem dL_law_614 : decode cL_law 614 = .ok (.ifCond .ne 15, 3) := by decide +kernel
theorem dL_law_617 : decode cL_law 617 = .ok (.aload_n 3, 1) := by decide +kernel
theorem dL_law_618 : decode cL_law 618 = .ok (.iconst 0, 1) := by decide +kernel
theorem dL_law_619 : decode cL_law 619 = .ok (.laload, 1) := by decide +kernel
theorem dL_law_620 : decode cL_law 620 = .ok (.iload 6, 2) := by decide +kernel
theorem dL_law_622 : decode cL_law 622 = .ok (.i2l, 1) := by decide +kernel
theorem dL_law_623 : decode cL_law 623 = .ok (.lcmp, 1) := by decide +kernel
theorem dL_law_624 : decode cL_law 624 = .ok (.ifCond .eq 5, 3) := by decide +kernel
theorem dL_law_627 : decode cL_law 627 = .ok (.iconst 0, 1) := by decide +kernel
theorem dL_law_628 : decode cL_law 628 = .ok (.ireturn, 1) := by decide +kernel
theorem dL_law_629 : decode cL_law 629 = .ok (.goto 585, 3) := by decide +kernel
theorem dL_law_632 : decode cL_law 632 = .ok (.aload_n 1, 1) := by decide +kernel
theorem dL_law_633 : decode cL_law 633 = .ok (.aload_n 0, 1) := by decide +kernel
theorem dL_law_634 : decode cL_law 634 = .ok (.iload 4, 2) := by decide +kernel
theorem dL_law_636 : decode cL_law 636 = .ok (.iconst 1, 1) := by decide +kernel
theorem dL_law_637 : decode cL_law 637 = .ok (.iadd, 1) := by decide +kernel
theorem dL_law_638 : decode cL_law 638 = .ok (.iaload, 1) := by decide +kernel
theorem dL_law_639 : decode cL_law 639 = .ok (.aload_n 3, 1) := by decide +kernel
theorem dL_law_640 : decode cL_law 640 = .ok (.invokestatic 112, 3) := by decide +kernel
theorem dL_law_643 : decode cL_law 643 = .ok (.istore 5, 2) := by decide +kernel
theorem dL_law_645 : decode cL_law 645 = .ok (.aload_n 2, 1) := by decide +kernel
theorem dL_law_646 : decode cL_law 646 = .ok (.aload_n 0, 1) := by decide +kernel
theorem dL_law_647 : decode cL_law 647 = .ok (.iload 4, 2) := by decide +kernel
theorem dL_law_649 : decode cL_law 649 = .ok (.iconst 1, 1) := by decide +kernel
theorem dL_law_650 : decode cL_law 650 = .ok (.iadd, 1) := by decide +kernel
theorem dL_law_651 : decode cL_law 651 = .ok (.iaload, 1) := by decide +kernel
theorem dL_law_652 : decode cL_law 652 = .ok (.invokevirtual 114, 3) := by decide +kernel
theorem dL_law_655 : decode cL_law 655 = .ok (.istore 6, 2) := by decide +kernel
theorem dL_law_657 : decode cL_law 657 = .ok (.aload_n 2, 1) := by decide +kernel
theorem dL_law_658 : decode cL_law 658 = .ok (.invokevirtual 83, 3) := by decide +kernel
theorem dL_law_661 : decode cL_law 661 = .ok (.iload 5, 2) := by decide +kernel
theorem dL_law_663 : decode cL_law 663 = .ok (.if_icmp .eq 5, 3) := by decide +kernel
theorem dL_law_666 : decode cL_law 666 = .ok (.iconst 0, 1) := by decide +kernel
theorem dL_law_667 : decode cL_law 667 = .ok (.ireturn, 1) := by decide +kernel
theorem dL_law_668 : decode cL_law 668 = .ok (.iload 5, 2) := by decide +kernel
theorem dL_law_670 : decode cL_law 670 = .ok (.ifCond .ne 15, 3) := by decide +kernel
theorem dL_law_673 : decode cL_law 673 = .ok (.aload_n 3, 1) := by decide +kernel
theorem dL_law_674 : decode cL_law 674 = .ok (.iconst 0, 1) := by decide +kernel
theorem dL_law_675 : decode cL_law 675 = .ok (.laload, 1) := by decide +kernel
theorem dL_law_676 : decode cL_law 676 = .ok (.iload 6, 2) := by decide +kernel
theorem dL_law_678 : decode cL_law 678 = .ok (.i2l, 1) := by decide +kernel
theorem dL_law_679 : decode cL_law 679 = .ok (.lcmp, 1) := by decide +kernel
theorem dL_law_680 : decode cL_law 680 = .ok (.ifCond .eq 5, 3) := by decide +kernel
theorem dL_law_683 : decode cL_law 683 = .ok (.iconst 0, 1) := by decide +kernel
theorem dL_law_684 : decode cL_law 684 = .ok (.ireturn, 1) := by decide +kernel
theorem dL_law_685 : decode cL_law 685 = .ok (.goto 529, 3) := by decide +kernel
theorem dL_law_688 : decode cL_law 688 = .ok (.aload_n 1, 1) := by decide +kernel
theorem dL_law_689 : decode cL_law 689 = .ok (.aload_n 0, 1) := by decide +kernel
theorem dL_law_690 : decode cL_law 690 = .ok (.iload 4, 2) := by decide +kernel
theorem dL_law_692 : decode cL_law 692 = .ok (.iconst 1, 1) := by decide +kernel
theorem dL_law_693 : decode cL_law 693 = .ok (.iadd, 1) := by decide +kernel
theorem dL_law_694 : decode cL_law 694 = .ok (.iaload, 1) := by decide +kernel
theorem dL_law_695 : decode cL_law 695 = .ok (.aload_n 0, 1) := by decide +kernel
theorem dL_law_696 : decode cL_law 696 = .ok (.iload 4, 2) := by decide +kernel
theorem dL_law_698 : decode cL_law 698 = .ok (.iconst 2, 1) := by decide +kernel
theorem dL_law_699 : decode cL_law 699 = .ok (.iadd, 1) := by decide +kernel
theorem dL_law_700 : decode cL_law 700 = .ok (.iaload, 1) := by decide +kernel
theorem dL_law_701 : decode cL_law 701 = .ok (.invokestatic 115, 3) := by decide +kernel
theorem dL_law_704 : decode cL_law 704 = .ok (.istore 5, 2) := by decide +kernel
theorem dL_law_706 : decode cL_law 706 = .ok (.aload_n 2, 1) := by decide +kernel
theorem dL_law_707 : decode cL_law 707 = .ok (.aload_n 0, 1) := by decide +kernel
theorem dL_law_708 : decode cL_law 708 = .ok (.iload 4, 2) := by decide +kernel
theorem dL_law_710 : decode cL_law 710 = .ok (.iconst 1, 1) := by decide +kernel
theorem dL_law_711 : decode cL_law 711 = .ok (.iadd, 1) := by decide +kernel
theorem dL_law_712 : decode cL_law 712 = .ok (.iaload, 1) := by decide +kernel
theorem dL_law_713 : decode cL_law 713 = .ok (.aload_n 0, 1) := by decide +kernel
theorem dL_law_714 : decode cL_law 714 = .ok (.iload 4, 2) := by decide +kernel
theorem dL_law_716 : decode cL_law 716 = .ok (.iconst 2, 1) := by decide +kernel
theorem dL_law_717 : decode cL_law 717 = .ok (.iadd, 1) := by decide +kernel
theorem dL_law_718 : decode cL_law 718 = .ok (.iaload, 1) := by decide +kernel
theorem dL_law_719 : decode cL_law 719 = .ok (.invokevirtual 117, 3) := by decide +kernel
theorem dL_law_722 : decode cL_law 722 = .ok (.aload_n 2, 1) := by decide +kernel
theorem dL_law_723 : decode cL_law 723 = .ok (.invokevirtual 83, 3) := by decide +kernel
theorem dL_law_726 : decode cL_law 726 = .ok (.iload 5, 2) := by decide +kernel
theorem dL_law_728 : decode cL_law 728 = .ok (.if_icmp .eq 5, 3) := by decide +kernel
theorem dL_law_731 : decode cL_law 731 = .ok (.iconst 0, 1) := by decide +kernel
theorem dL_law_732 : decode cL_law 732 = .ok (.ireturn, 1) := by decide +kernel
theorem dL_law_733 : decode cL_law 733 = .ok (.goto 481, 3) := by decide +kernel
theorem dL_law_736 : decode cL_law 736 = .ok (.aload_n 1, 1) := by decide +kernel
theorem dL_law_737 : decode cL_law 737 = .ok (.aload_n 0, 1) := by decide +kernel
theorem dL_law_738 : decode cL_law 738 = .ok (.iload 4, 2) := by decide +kernel
theorem dL_law_740 : decode cL_law 740 = .ok (.iconst 1, 1) := by decide +kernel
theorem dL_law_741 : decode cL_law 741 = .ok (.iadd, 1) := by decide +kernel
theorem dL_law_742 : decode cL_law 742 = .ok (.iaload, 1) := by decide +kernel
theorem dL_law_743 : decode cL_law 743 = .ok (.aload_n 3, 1) := by decide +kernel
theorem dL_law_744 : decode cL_law 744 = .ok (.invokestatic 118, 3) := by decide +kernel
theorem dL_law_747 : decode cL_law 747 = .ok (.istore 5, 2) := by decide +kernel
theorem dL_law_749 : decode cL_law 749 = .ok (.aload_n 2, 1) := by decide +kernel
theorem dL_law_750 : decode cL_law 750 = .ok (.aload_n 0, 1) := by decide +kernel
theorem dL_law_751 : decode cL_law 751 = .ok (.iload 4, 2) := by decide +kernel
theorem dL_law_753 : decode cL_law 753 = .ok (.iconst 1, 1) := by decide +kernel
theorem dL_law_754 : decode cL_law 754 = .ok (.iadd, 1) := by decide +kernel
theorem dL_law_755 : decode cL_law 755 = .ok (.iaload, 1) := by decide +kernel
theorem dL_law_756 : decode cL_law 756 = .ok (.invokevirtual 120, 3) := by decide +kernel
theorem dL_law_759 : decode cL_law 759 = .ok (.istore 6, 2) := by decide +kernel
theorem dL_law_761 : decode cL_law 761 = .ok (.aload_n 2, 1) := by decide +kernel
theorem dL_law_762 : decode cL_law 762 = .ok (.invokevirtual 83, 3) := by decide +kernel
theorem dL_law_765 : decode cL_law 765 = .ok (.iload 5, 2) := by decide +kernel
theorem dL_law_767 : decode cL_law 767 = .ok (.if_icmp .eq 5, 3) := by decide +kernel
theorem dL_law_770 : decode cL_law 770 = .ok (.iconst 0, 1) := by decide +kernel
theorem dL_law_771 : decode cL_law 771 = .ok (.ireturn, 1) := by decide +kernel
theorem dL_law_772 : decode cL_law 772 = .ok (.iload 5, 2) := by decide +kernel
theorem dL_law_774 : decode cL_law 774 = .ok (.ifCond .ne 15, 3) := by decide +kernel
theorem dL_law_777 : decode cL_law 777 = .ok (.aload_n 3, 1) := by decide +kernel
theorem dL_law_778 : decode cL_law 778 = .ok (.iconst 0, 1) := by decide +kernel
theorem dL_law_779 : decode cL_law 779 = .ok (.laload, 1) := by decide +kernel
theorem dL_law_780 : decode cL_law 780 = .ok (.iload 6, 2) := by decide +kernel
theorem dL_law_782 : decode cL_law 782 = .ok (.i2l, 1) := by decide +kernel
theorem dL_law_783 : decode cL_law 783 = .ok (.lcmp, 1) := by decide +kernel
theorem dL_law_784 : decode cL_law 784 = .ok (.ifCond .eq 5, 3) := by decide +kernel
theorem dL_law_787 : decode cL_law 787 = .ok (.iconst 0, 1) := by decide +kernel
theorem dL_law_788 : decode cL_law 788 = .ok (.ireturn, 1) := by decide +kernel
theorem dL_law_789 : decode cL_law 789 = .ok (.goto 425, 3) := by decide +kernel
theorem dL_law_792 : decode cL_law 792 = .ok (.aload_n 1, 1) := by decide +kernel
theorem dL_law_793 : decode cL_law 793 = .ok (.aload_n 0, 1) := by decide +kernel
theorem dL_law_794 : decode cL_law 794 = .ok (.iload 4, 2) := by decide +kernel
theorem dL_law_796 : decode cL_law 796 = .ok (.iconst 1, 1) := by decide +kernel
theorem dL_law_797 : decode cL_law 797 = .ok (.iadd, 1) := by decide +kernel
theorem dL_law_798 : decode cL_law 798 = .ok (.iaload, 1) := by decide +kernel
theorem dL_law_799 : decode cL_law 799 = .ok (.aload_n 3, 1) := by decide +kernel
theorem dL_law_800 : decode cL_law 800 = .ok (.invokestatic 121, 3) := by decide +kernel
theorem dL_law_803 : decode cL_law 803 = .ok (.istore 5, 2) := by decide +kernel
theorem dL_law_805 : decode cL_law 805 = .ok (.aload_n 2, 1) := by decide +kernel
theorem dL_law_806 : decode cL_law 806 = .ok (.aload_n 0, 1) := by decide +kernel
theorem dL_law_807 : decode cL_law 807 = .ok (.iload 4, 2) := by decide +kernel
theorem dL_law_809 : decode cL_law 809 = .ok (.iconst 1, 1) := by decide +kernel
theorem dL_law_810 : decode cL_law 810 = .ok (.iadd, 1) := by decide +kernel
theorem dL_law_811 : decode cL_law 811 = .ok (.iaload, 1) := by decide +kernel
theorem dL_law_812 : decode cL_law 812 = .ok (.invokevirtual 123, 3) := by decide +kernel
theorem dL_law_815 : decode cL_law 815 = .ok (.istore 6, 2) := by decide +kernel
theorem dL_law_817 : decode cL_law 817 = .ok (.aload_n 2, 1) := by decide +kernel
theorem dL_law_818 : decode cL_law 818 = .ok (.invokevirtual 83, 3) := by decide +kernel
theorem dL_law_821 : decode cL_law 821 = .ok (.iload 5, 2) := by decide +kernel
theorem dL_law_823 : decode cL_law 823 = .ok (.if_icmp .eq 5, 3) := by decide +kernel
theorem dL_law_826 : decode cL_law 826 = .ok (.iconst 0, 1) := by decide +kernel
theorem dL_law_827 : decode cL_law 827 = .ok (.ireturn, 1) := by decide +kernel
theorem dL_law_828 : decode cL_law 828 = .ok (.iload 5, 2) := by decide +kernel
theorem dL_law_830 : decode cL_law 830 = .ok (.ifCond .ne 15, 3) := by decide +kernel
theorem dL_law_833 : decode cL_law 833 = .ok (.aload_n 3, 1) := by decide +kernel
theorem dL_law_834 : decode cL_law 834 = .ok (.iconst 0, 1) := by decide +kernel
theorem dL_law_835 : decode cL_law 835 = .ok (.laload, 1) := by decide +kernel
theorem dL_law_836 : decode cL_law 836 = .ok (.iload 6, 2) := by decide +kernel
theorem dL_law_838 : decode cL_law 838 = .ok (.i2l, 1) := by decide +kernel
theorem dL_law_839 : decode cL_law 839 = .ok (.lcmp, 1) := by decide +kernel
theorem dL_law_840 : decode cL_law 840 = .ok (.ifCond .eq 5, 3) := by decide +kernel
theorem dL_law_843 : decode cL_law 843 = .ok (.iconst 0, 1) := by decide +kernel
theorem dL_law_844 : decode cL_law 844 = .ok (.ireturn, 1) := by decide +kernel
theorem dL_law_845 : decode cL_law 845 = .ok (.goto 369, 3) := by decide +kernel
theorem dL_law_848 : decode cL_law 848 = .ok (.aload_n 1, 1) := by decide +kernel
theorem dL_law_849 : decode cL_law 849 = .ok (.aload_n 0, 1) := by decide +kernel
theorem dL_law_850 : decode cL_law 850 = .ok (.iload 4, 2) := by decide +kernel
theorem dL_law_852 : decode cL_law 852 = .ok (.iconst 1, 1) := by decide +kernel
theorem dL_law_853 : decode cL_law 853 = .ok (.iadd, 1) := by decide +kernel
theorem dL_law_854 : decode cL_law 854 = .ok (.iaload, 1) := by decide +kernel
theorem dL_law_855 : decode cL_law 855 = .ok (.aload_n 0, 1) := by decide +kernel
theorem dL_law_856 : decode cL_law 856 = .ok (.iload 4, 2) := by decide +kernel
theorem dL_law_858 : decode cL_law 858 = .ok (.iconst 2, 1) := by decide +kernel
theorem dL_law_859 : decode cL_law 859 = .ok (.iadd, 1) := by decide +kernel
theorem dL_law_860 : decode cL_law 860 = .ok (.iaload, 1) := by decide +kernel
theorem dL_law_861 : decode cL_law 861 = .ok (.aload_n 3, 1) := by decide +kernel
theorem dL_law_862 : decode cL_law 862 = .ok (.invokestatic 124, 3) := by decide +kernel
theorem dL_law_865 : decode cL_law 865 = .ok (.istore 5, 2) := by decide +kernel
theorem dL_law_867 : decode cL_law 867 = .ok (.aload_n 2, 1) := by decide +kernel
theorem dL_law_868 : decode cL_law 868 = .ok (.aload_n 0, 1) := by decide +kernel
theorem dL_law_869 : decode cL_law 869 = .ok (.iload 4, 2) := by decide +kernel
theorem dL_law_871 : decode cL_law 871 = .ok (.iconst 1, 1) := by decide +kernel
theorem dL_law_872 : decode cL_law 872 = .ok (.iadd, 1) := by decide +kernel
theorem dL_law_873 : decode cL_law 873 = .ok (.iaload, 1) := by decide +kernel
theorem dL_law_874 : decode cL_law 874 = .ok (.aload_n 0, 1) := by decide +kernel
theorem dL_law_875 : decode cL_law 875 = .ok (.iload 4, 2) := by decide +kernel
theorem dL_law_877 : decode cL_law 877 = .ok (.iconst 2, 1) := by decide +kernel
theorem dL_law_878 : decode cL_law 878 = .ok (.iadd, 1) := by decide +kernel
theorem dL_law_879 : decode cL_law 879 = .ok (.iaload, 1) := by decide +kernel
theorem dL_law_880 : decode cL_law 880 = .ok (.invokevirtual 126, 3) := by decide +kernel
theorem dL_law_883 : decode cL_law 883 = .ok (.istore 6, 2) := by decide +kernel
theorem dL_law_885 : decode cL_law 885 = .ok (.aload_n 2, 1) := by decide +kernel
theorem dL_law_886 : decode cL_law 886 = .ok (.invokevirtual 83, 3) := by decide +kernel
theorem dL_law_889 : decode cL_law 889 = .ok (.iload 5, 2) := by decide +kernel
theorem dL_law_891 : decode cL_law 891 = .ok (.if_icmp .eq 5, 3) := by decide +kernel
theorem dL_law_894 : decode cL_law 894 = .ok (.iconst 0, 1) := by decide +kernel
theorem dL_law_895 : decode cL_law 895 = .ok (.ireturn, 1) := by decide +kernel
theorem dL_law_896 : decode cL_law 896 = .ok (.iload 5, 2) := by decide +kernel
theorem dL_law_898 : decode cL_law 898 = .ok (.ifCond .ne 15, 3) := by decide +kernel
theorem dL_law_901 : decode cL_law 901 = .ok (.aload_n 3, 1) := by decide +kernel
theorem dL_law_902 : decode cL_law 902 = .ok (.iconst 0, 1) := by decide +kernel
theorem dL_law_903 : decode cL_law 903 = .ok (.laload, 1) := by decide +kernel
theorem dL_law_904 : decode cL_law 904 = .ok (.iload 6, 2) := by decide +kernel
theorem dL_law_906 : decode cL_law 906 = .ok (.i2l, 1) := by decide +kernel
theorem dL_law_907 : decode cL_law 907 = .ok (.lcmp, 1) := by decide +kernel
theorem dL_law_908 : decode cL_law 908 = .ok (.ifCond .eq 5, 3) := by decide +kernel
theorem dL_law_911 : decode cL_law 911 = .ok (.iconst 0, 1) := by decide +kernel
theorem dL_law_912 : decode cL_law 912 = .ok (.ireturn, 1) := by decide +kernel
theorem dL_law_913 : decode cL_law 913 = .ok (.goto 301, 3) := by decide +kernel
theorem dL_law_916 : decode cL_law 916 = .ok (.aload_n 1, 1) := by decide +kernel
theorem dL_law_917 : decode cL_law 917 = .ok (.aload_n 0, 1) := by decide +kernel
theorem dL_law_918 : decode cL_law 918 = .ok (.iload 4, 2) := by decide +kernel
theorem dL_law_920 : decode cL_law 920 = .ok (.iconst 1, 1) := by decide +kernel
theorem dL_law_921 : decode cL_law 921 = .ok (.iadd, 1) := by decide +kernel
theorem dL_law_922 : decode cL_law 922 = .ok (.iaload, 1) := by decide +kernel
theorem dL_law_923 : decode cL_law 923 = .ok (.aload_n 0, 1) := by decide +kernel
theorem dL_law_924 : decode cL_law 924 = .ok (.iload 4, 2) := by decide +kernel
theorem dL_law_926 : decode cL_law 926 = .ok (.iconst 2, 1) := by decide +kernel
theorem dL_law_927 : decode cL_law 927 = .ok (.iadd, 1) := by decide +kernel
theorem dL_law_928 : decode cL_law 928 = .ok (.iaload, 1) := by decide +kernel
theorem dL_law_929 : decode cL_law 929 = .ok (.aload_n 0, 1) := by decide +kernel
theorem dL_law_930 : decode cL_law 930 = .ok (.iload 4, 2) := by decide +kernel
theorem dL_law_932 : decode cL_law 932 = .ok (.iconst 3, 1) := by decide +kernel
theorem dL_law_933 : decode cL_law 933 = .ok (.iadd, 1) := by decide +kernel
theorem dL_law_934 : decode cL_law 934 = .ok (.iaload, 1) := by decide +kernel
theorem dL_law_935 : decode cL_law 935 = .ok (.aload_n 3, 1) := by decide +kernel
theorem dL_law_936 : decode cL_law 936 = .ok (.invokestatic 127, 3) := by decide +kernel
theorem dL_law_939 : decode cL_law 939 = .ok (.istore 5, 2) := by decide +kernel
theorem dL_law_941 : decode cL_law 941 = .ok (.aload_n 2, 1) := by decide +kernel
theorem dL_law_942 : decode cL_law 942 = .ok (.aload_n 0, 1) := by decide +kernel
theorem dL_law_943 : decode cL_law 943 = .ok (.iload 4, 2) := by decide +kernel
theorem dL_law_945 : decode cL_law 945 = .ok (.iconst 1, 1) := by decide +kernel
theorem dL_law_946 : decode cL_law 946 = .ok (.iadd, 1) := by decide +kernel
theorem dL_law_947 : decode cL_law 947 = .ok (.iaload, 1) := by decide +kernel
theorem dL_law_948 : decode cL_law 948 = .ok (.aload_n 0, 1) := by decide +kernel
theorem dL_law_949 : decode cL_law 949 = .ok (.iload 4, 2) := by decide +kernel
theorem dL_law_951 : decode cL_law 951 = .ok (.iconst 2, 1) := by decide +kernel
theorem dL_law_952 : decode cL_law 952 = .ok (.iadd, 1) := by decide +kernel
theorem dL_law_953 : decode cL_law 953 = .ok (.iaload, 1) := by decide +kernel
theorem dL_law_954 : decode cL_law 954 = .ok (.aload_n 0, 1) := by decide +kernel
theorem dL_law_955 : decode cL_law 955 = .ok (.iload 4, 2) := by decide +kernel
theorem dL_law_957 : decode cL_law 957 = .ok (.iconst 3, 1) := by decide +kernel
theorem dL_law_958 : decode cL_law 958 = .ok (.iadd, 1) := by decide +kernel
theorem dL_law_959 : decode cL_law 959 = .ok (.iaload, 1) := by decide +kernel
theorem dL_law_960 : decode cL_law 960 = .ok (.invokevirtual 130, 3) := by decide +kernel
theorem dL_law_963 : decode cL_law 963 = .ok (.istore 6, 2) := by decide +kernel
theorem dL_law_965 : decode cL_law 965 = .ok (.aload_n 2, 1) := by decide +kernel
theorem dL_law_966 : decode cL_law 966 = .ok (.invokevirtual 83, 3) := by decide +kernel
theorem dL_law_969 : decode cL_law 969 = .ok (.iload 5, 2) := by decide +kernel
theorem dL_law_971 : decode cL_law 971 = .ok (.if_icmp .eq 5, 3) := by decide +kernel
theorem dL_law_974 : decode cL_law 974 = .ok (.iconst 0, 1) := by decide +kernel
theorem dL_law_975 : decode cL_law 975 = .ok (.ireturn, 1) := by decide +kernel
theorem dL_law_976 : decode cL_law 976 = .ok (.iload 5, 2) := by decide +kernel
theorem dL_law_978 : decode cL_law 978 = .ok (.ifCond .ne 15, 3) := by decide +kernel
theorem dL_law_981 : decode cL_law 981 = .ok (.aload_n 3, 1) := by decide +kernel
theorem dL_law_982 : decode cL_law 982 = .ok (.iconst 0, 1) := by decide +kernel
theorem dL_law_983 : decode cL_law 983 = .ok (.laload, 1) := by decide +kernel
theorem dL_law_984 : decode cL_law 984 = .ok (.iload 6, 2) := by decide +kernel
theorem dL_law_986 : decode cL_law 986 = .ok (.i2l, 1) := by decide +kernel
theorem dL_law_987 : decode cL_law 987 = .ok (.lcmp, 1) := by decide +kernel
theorem dL_law_988 : decode cL_law 988 = .ok (.ifCond .eq 5, 3) := by decide +kernel
theorem dL_law_991 : decode cL_law 991 = .ok (.iconst 0, 1) := by decide +kernel
theorem dL_law_992 : decode cL_law 992 = .ok (.ireturn, 1) := by decide +kernel
theorem dL_law_993 : decode cL_law 993 = .ok (.goto 221, 3) := by decide +kernel
theorem dL_law_996 : decode cL_law 996 = .ok (.aload_n 1, 1) := by decide +kernel
theorem dL_law_997 : decode cL_law 997 = .ok (.aload_n 0, 1) := by decide +kernel
theorem dL_law_998 : decode cL_law 998 = .ok (.iload 4, 2) := by decide +kernel
theorem dL_law_1000 : decode cL_law 1000 = .ok (.iconst 1, 1) := by decide +kernel
theorem dL_law_1001 : decode cL_law 1001 = .ok (.iadd, 1) := by decide +kernel
theorem dL_law_1002 : decode cL_law 1002 = .ok (.iaload, 1) := by decide +kernel
theorem dL_law_1003 : decode cL_law 1003 = .ok (.aload_n 0, 1) := by decide +kernel
theorem dL_law_1004 : decode cL_law 1004 = .ok (.iload 4, 2) := by decide +kernel
theorem dL_law_1006 : decode cL_law 1006 = .ok (.iconst 2, 1) := by decide +kernel
theorem dL_law_1007 : decode cL_law 1007 = .ok (.iadd, 1) := by decide +kernel
theorem dL_law_1008 : decode cL_law 1008 = .ok (.iaload, 1) := by decide +kernel
theorem dL_law_1009 : decode cL_law 1009 = .ok (.aload_n 3, 1) := by decide +kernel
theorem dL_law_1010 : decode cL_law 1010 = .ok (.invokestatic 131, 3) := by decide +kernel
theorem dL_law_1013 : decode cL_law 1013 = .ok (.istore 5, 2) := by decide +kernel
theorem dL_law_1015 : decode cL_law 1015 = .ok (.aload_n 2, 1) := by decide +kernel
theorem dL_law_1016 : decode cL_law 1016 = .ok (.aload_n 0, 1) := by decide +kernel
theorem dL_law_1017 : decode cL_law 1017 = .ok (.iload 4, 2) := by decide +kernel
theorem dL_law_1019 : decode cL_law 1019 = .ok (.iconst 1, 1) := by decide +kernel
theorem dL_law_1020 : decode cL_law 1020 = .ok (.iadd, 1) := by decide +kernel
theorem dL_law_1021 : decode cL_law 1021 = .ok (.iaload, 1) := by decide +kernel
theorem dL_law_1022 : decode cL_law 1022 = .ok (.aload_n 0, 1) := by decide +kernel
theorem dL_law_1023 : decode cL_law 1023 = .ok (.iload 4, 2) := by decide +kernel
theorem dL_law_1025 : decode cL_law 1025 = .ok (.iconst 2, 1) := by decide +kernel
theorem dL_law_1026 : decode cL_law 1026 = .ok (.iadd, 1) := by decide +kernel
theorem dL_law_1027 : decode cL_law 1027 = .ok (.iaload, 1) := by decide +kernel
theorem dL_law_1028 : decode cL_law 1028 = .ok (.invokevirtual 133, 3) := by decide +kernel
theorem dL_law_1031 : decode cL_law 1031 = .ok (.istore 6, 2) := by decide +kernel
theorem dL_law_1033 : decode cL_law 1033 = .ok (.aload_n 2, 1) := by decide +kernel
theorem dL_law_1034 : decode cL_law 1034 = .ok (.invokevirtual 83, 3) := by decide +kernel
theorem dL_law_1037 : decode cL_law 1037 = .ok (.iload 5, 2) := by decide +kernel
theorem dL_law_1039 : decode cL_law 1039 = .ok (.if_icmp .eq 5, 3) := by decide +kernel
theorem dL_law_1042 : decode cL_law 1042 = .ok (.iconst 0, 1) := by decide +kernel
theorem dL_law_1043 : decode cL_law 1043 = .ok (.ireturn, 1) := by decide +kernel
theorem dL_law_1044 : decode cL_law 1044 = .ok (.iload 5, 2) := by decide +kernel
theorem dL_law_1046 : decode cL_law 1046 = .ok (.ifCond .ne 22, 3) := by decide +kernel
theorem dL_law_1049 : decode cL_law 1049 = .ok (.aload_n 3, 1) := by decide +kernel
theorem dL_law_1050 : decode cL_law 1050 = .ok (.iconst 0, 1) := by decide +kernel
theorem dL_law_1051 : decode cL_law 1051 = .ok (.laload, 1) := by decide +kernel
theorem dL_law_1052 : decode cL_law 1052 = .ok (.iload 6, 2) := by decide +kernel
theorem dL_law_1054 : decode cL_law 1054 = .ok (.ifCond .eq 7, 3) := by decide +kernel
theorem dL_law_1057 : decode cL_law 1057 = .ok (.lconst 1, 1) := by decide +kernel
theorem dL_law_1058 : decode cL_law 1058 = .ok (.goto 4, 3) := by decide +kernel
theorem dL_law_1061 : decode cL_law 1061 = .ok (.lconst 0, 1) := by decide +kernel
theorem dL_law_1062 : decode cL_law 1062 = .ok (.lcmp, 1) := by decide +kernel
theorem dL_law_1063 : decode cL_law 1063 = .ok (.ifCond .eq 5, 3) := by decide +kernel
theorem dL_law_1066 : decode cL_law 1066 = .ok (.iconst 0, 1) := by decide +kernel
theorem dL_law_1067 : decode cL_law 1067 = .ok (.ireturn, 1) := by decide +kernel
theorem dL_law_1068 : decode cL_law 1068 = .ok (.goto 146, 3) := by decide +kernel
theorem dL_law_1071 : decode cL_law 1071 = .ok (.aload_n 1, 1) := by decide +kernel
theorem dL_law_1072 : decode cL_law 1072 = .ok (.aload_n 0, 1) := by decide +kernel
theorem dL_law_1073 : decode cL_law 1073 = .ok (.iload 4, 2) := by decide +kernel
theorem dL_law_1075 : decode cL_law 1075 = .ok (.iconst 1, 1) := by decide +kernel
theorem dL_law_1076 : decode cL_law 1076 = .ok (.iadd, 1) := by decide +kernel
theorem dL_law_1077 : decode cL_law 1077 = .ok (.iaload, 1) := by decide +kernel
theorem dL_law_1078 : decode cL_law 1078 = .ok (.aload_n 0, 1) := by decide +kernel
theorem dL_law_1079 : decode cL_law 1079 = .ok (.iload 4, 2) := by decide +kernel
theorem dL_law_1081 : decode cL_law 1081 = .ok (.iconst 2, 1) := by decide +kernel
theorem dL_law_1082 : decode cL_law 1082 = .ok (.iadd, 1) := by decide +kernel
theorem dL_law_1083 : decode cL_law 1083 = .ok (.iaload, 1) := by decide +kernel
theorem dL_law_1084 : decode cL_law 1084 = .ok (.aload_n 3, 1) := by decide +kernel
theorem dL_law_1085 : decode cL_law 1085 = .ok (.invokestatic 134, 3) := by decide +kernel
theorem dL_law_1088 : decode cL_law 1088 = .ok (.istore 5, 2) := by decide +kernel
theorem dL_law_1090 : decode cL_law 1090 = .ok (.aload_n 2, 1) := by decide +kernel
theorem dL_law_1091 : decode cL_law 1091 = .ok (.aload_n 0, 1) := by decide +kernel
theorem dL_law_1092 : decode cL_law 1092 = .ok (.iload 4, 2) := by decide +kernel
theorem dL_law_1094 : decode cL_law 1094 = .ok (.iconst 1, 1) := by decide +kernel
theorem dL_law_1095 : decode cL_law 1095 = .ok (.iadd, 1) := by decide +kernel
theorem dL_law_1096 : decode cL_law 1096 = .ok (.iaload, 1) := by decide +kernel
theorem dL_law_1097 : decode cL_law 1097 = .ok (.aload_n 0, 1) := by decide +kernel
theorem dL_law_1098 : decode cL_law 1098 = .ok (.iload 4, 2) := by decide +kernel
theorem dL_law_1100 : decode cL_law 1100 = .ok (.iconst 2, 1) := by decide +kernel
theorem dL_law_1101 : decode cL_law 1101 = .ok (.iadd, 1) := by decide +kernel
theorem dL_law_1102 : decode cL_law 1102 = .ok (.iaload, 1) := by decide +kernel
theorem dL_law_1103 : decode cL_law 1103 = .ok (.invokevirtual 136, 3) := by decide +kernel
theorem dL_law_1106 : decode cL_law 1106 = .ok (.istore 6, 2) := by decide +kernel
theorem dL_law_1108 : decode cL_law 1108 = .ok (.aload_n 2, 1) := by decide +kernel
theorem dL_law_1109 : decode cL_law 1109 = .ok (.invokevirtual 83, 3) := by decide +kernel
theorem dL_law_1112 : decode cL_law 1112 = .ok (.iload 5, 2) := by decide +kernel
theorem dL_law_1114 : decode cL_law 1114 = .ok (.if_icmp .eq 5, 3) := by decide +kernel
theorem dL_law_1117 : decode cL_law 1117 = .ok (.iconst 0, 1) := by decide +kernel
theorem dL_law_1118 : decode cL_law 1118 = .ok (.ireturn, 1) := by decide +kernel
theorem dL_law_1119 : decode cL_law 1119 = .ok (.iload 5, 2) := by decide +kernel
theorem dL_law_1121 : decode cL_law 1121 = .ok (.ifCond .ne 22, 3) := by decide +kernel
theorem dL_law_1124 : decode cL_law 1124 = .ok (.aload_n 3, 1) := by decide +kernel
theorem dL_law_1125 : decode cL_law 1125 = .ok (.iconst 0, 1) := by decide +kernel
theorem dL_law_1126 : decode cL_law 1126 = .ok (.laload, 1) := by decide +kernel
theorem dL_law_1127 : decode cL_law 1127 = .ok (.iload 6, 2) := by decide +kernel
theorem dL_law_1129 : decode cL_law 1129 = .ok (.ifCond .eq 7, 3) := by decide +kernel
theorem dL_law_1132 : decode cL_law 1132 = .ok (.lconst 1, 1) := by decide +kernel
theorem dL_law_1133 : decode cL_law 1133 = .ok (.goto 4, 3) := by decide +kernel
theorem dL_law_1136 : decode cL_law 1136 = .ok (.lconst 0, 1) := by decide +kernel
theorem dL_law_1137 : decode cL_law 1137 = .ok (.lcmp, 1) := by decide +kernel
theorem dL_law_1138 : decode cL_law 1138 = .ok (.ifCond .eq 5, 3) := by decide +kernel
theorem dL_law_1141 : decode cL_law 1141 = .ok (.iconst 0, 1) := by decide +kernel
theorem dL_law_1142 : decode cL_law 1142 = .ok (.ireturn, 1) := by decide +kernel
theorem dL_law_1143 : decode cL_law 1143 = .ok (.goto 71, 3) := by decide +kernel
theorem dL_law_1146 : decode cL_law 1146 = .ok (.aload_n 1, 1) := by decide +kernel
theorem dL_law_1147 : decode cL_law 1147 = .ok (.aload_n 0, 1) := by decide +kernel
theorem dL_law_1148 : decode cL_law 1148 = .ok (.iload 4, 2) := by decide +kernel
theorem dL_law_1150 : decode cL_law 1150 = .ok (.iconst 1, 1) := by decide +kernel
theorem dL_law_1151 : decode cL_law 1151 = .ok (.iadd, 1) := by decide +kernel
theorem dL_law_1152 : decode cL_law 1152 = .ok (.iaload, 1) := by decide +kernel
theorem dL_law_1153 : decode cL_law 1153 = .ok (.aload_n 0, 1) := by decide +kernel
theorem dL_law_1154 : decode cL_law 1154 = .ok (.iload 4, 2) := by decide +kernel
theorem dL_law_1156 : decode cL_law 1156 = .ok (.iconst 2, 1) := by decide +kernel
theorem dL_law_1157 : decode cL_law 1157 = .ok (.iadd, 1) := by decide +kernel
theorem dL_law_1158 : decode cL_law 1158 = .ok (.iaload, 1) := by decide +kernel
theorem dL_law_1159 : decode cL_law 1159 = .ok (.aload_n 3, 1) := by decide +kernel
theorem dL_law_1160 : decode cL_law 1160 = .ok (.invokestatic 137, 3) := by decide +kernel
theorem dL_law_1163 : decode cL_law 1163 = .ok (.istore 5, 2) := by decide +kernel
theorem dL_law_1165 : decode cL_law 1165 = .ok (.aload_n 2, 1) := by decide +kernel
theorem dL_law_1166 : decode cL_law 1166 = .ok (.aload_n 0, 1) := by decide +kernel
theorem dL_law_1167 : decode cL_law 1167 = .ok (.iload 4, 2) := by decide +kernel
theorem dL_law_1169 : decode cL_law 1169 = .ok (.iconst 1, 1) := by decide +kernel
theorem dL_law_1170 : decode cL_law 1170 = .ok (.iadd, 1) := by decide +kernel
theorem dL_law_1171 : decode cL_law 1171 = .ok (.iaload, 1) := by decide +kernel
theorem dL_law_1172 : decode cL_law 1172 = .ok (.aload_n 0, 1) := by decide +kernel
theorem dL_law_1173 : decode cL_law 1173 = .ok (.iload 4, 2) := by decide +kernel
theorem dL_law_1175 : decode cL_law 1175 = .ok (.iconst 2, 1) := by decide +kernel
theorem dL_law_1176 : decode cL_law 1176 = .ok (.iadd, 1) := by decide +kernel
theorem dL_law_1177 : decode cL_law 1177 = .ok (.iaload, 1) := by decide +kernel
theorem dL_law_1178 : decode cL_law 1178 = .ok (.invokevirtual 139, 3) := by decide +kernel
theorem dL_law_1181 : decode cL_law 1181 = .ok (.istore 6, 2) := by decide +kernel
theorem dL_law_1183 : decode cL_law 1183 = .ok (.aload_n 2, 1) := by decide +kernel
theorem dL_law_1184 : decode cL_law 1184 = .ok (.invokevirtual 83, 3) := by decide +kernel
theorem dL_law_1187 : decode cL_law 1187 = .ok (.iload 5, 2) := by decide +kernel
theorem dL_law_1189 : decode cL_law 1189 = .ok (.if_icmp .eq 5, 3) := by decide +kernel
theorem dL_law_1192 : decode cL_law 1192 = .ok (.iconst 0, 1) := by decide +kernel
theorem dL_law_1193 : decode cL_law 1193 = .ok (.ireturn, 1) := by decide +kernel
theorem dL_law_1194 : decode cL_law 1194 = .ok (.iload 5, 2) := by decide +kernel
theorem dL_law_1196 : decode cL_law 1196 = .ok (.ifCond .ne 15, 3) := by decide +kernel
theorem dL_law_1199 : decode cL_law 1199 = .ok (.aload_n 3, 1) := by decide +kernel
theorem dL_law_1200 : decode cL_law 1200 = .ok (.iconst 0, 1) := by decide +kernel
theorem dL_law_1201 : decode cL_law 1201 = .ok (.laload, 1) := by decide +kernel
theorem dL_law_1202 : decode cL_law 1202 = .ok (.iload 6, 2) := by decide +kernel
theorem dL_law_1204 : decode cL_law 1204 = .ok (.i2l, 1) := by decide +kernel
theorem dL_law_1205 : decode cL_law 1205 = .ok (.lcmp, 1) := by decide +kernel
theorem dL_law_1206 : decode cL_law 1206 = .ok (.ifCond .eq 5, 3) := by decide +kernel
theorem dL_law_1209 : decode cL_law 1209 = .ok (.iconst 0, 1) := by decide +kernel
theorem dL_law_1210 : decode cL_law 1210 = .ok (.ireturn, 1) := by decide +kernel
theorem dL_law_1211 : decode cL_law 1211 = .ok (.goto 3, 3) := by decide +kernel
theorem dL_law_1214 : decode cL_law 1214 = .ok (.iinc 4 5, 3) := by decide +kernel
theorem dL_law_1217 : decode cL_law 1217 = .ok (.goto (-1194), 3) := by decide +kernel
theorem dL_law_1220 : decode cL_law 1220 = .ok (.iconst 1, 1) := by decide +kernel
theorem dL_law_1221 : decode cL_law 1221 = .ok (.ireturn, 1) := by decide +kernel
