/-! p20: the law's end: all that waits is delivered, twice over -/
def dT (μ : Nat → Nat → Int32) : Nat := tn (μ 24 0) + tn (μ 24 1) + tn (μ 24 2)
theorem dT_1 {μ μ' : Nat → Nat → Int32} {s : Nat} (hs : s < 3) (h : tn (μ' 24 s) = tn (μ 24 s) + 1) (h2 : ∀ i, i ≠ s → μ' 24 i = μ 24 i) : dT μ' = dT μ + 1 := by
  unfold dT
  rcases (show s = 0 ∨ s = 1 ∨ s = 2 by omega) with rfl | rfl | rfl
  · rw [h, h2 1 (by decide), h2 2 (by decide)]; omega
  · rw [h, h2 0 (by decide), h2 2 (by decide)]; omega
  · rw [h, h2 0 (by decide), h2 1 (by decide)]; omega
theorem qu_0 {μ : Nat → Nat → Int32} {s : Nat} (h : tn (μ 25 s) = tn (μ 24 s)) : qu μ s := fun j h1 h2 => by omega
/-- how far a pass has come at server s, begun at μ0 -/
def FP (s : Nat) (μ0 μ : Nat → Nat → Int32) : Prop := (∀ i, i < 3 → qu μ0 i → qu μ i) ∧ (qu μ0 s → ∀ i, i < 3 → i ≠ s → tn (μ 25 i) = tn (μ0 25 i) ∧ tn (μ 24 i) = tn (μ0 24 i))
theorem FP_0 (s : Nat) (μ : Nat → Nat → Int32) : FP s μ μ := ⟨fun _ _ h => h, fun _ _ _ _ => ⟨rfl, rfl⟩⟩
theorem FP_1 {s : Nat} {μ0 μ μ' : Nat → Nat → Int32} (hs : s < 3) (h : FP s μ0 μ) (h1 : ∀ i, i ≠ s → μ' 24 i = μ 24 i) (h2 : ∀ i, i < 4 → qu μ i → qu μ' i) (h3 : qu μ s → ∀ i, i < 4 → μ' 25 i = μ 25 i) : FP s μ0 μ' := by
  refine ⟨fun i hi hq => h2 i (by omega) (h.1 i hi hq), fun hq i hi hne => ?_⟩
  rw [h1 i hne, h3 (h.1 s hs hq) i (by omega)]
  exact h.2 hq i hi hne
theorem w_le {cy : Nat → ClassId} {e0 vo nn nc : Nat} {μ : Nat → Nat → Int32} {w : va_W} (h : KK cy e0 vo μ nn nc w) (hn : nn ≤ 20) (hc : nc ≤ 60) : dT μ ≤ 540 ∧ ∀ i, i < 3 → tn (μ 24 i) ≤ tn (μ 25 i) ∧ tn (μ 25 i) ≤ 180 := by
  obtain ⟨r1, r2, r3, r4, r5, r6, r7, r8⟩ := KK_ref h (by omega) (by omega)
  have a : ∀ i, i < 3 → tn (μ 24 i) ≤ tn (μ 25 i) ∧ tn (μ 25 i) ≤ 180 := fun i hi => by
    have := (Jp_le h.2.2.2.2.2.2.2.2.2.2 i (by omega)).2 hi
    exact ⟨(r3 i (by omega)).2, by omega⟩
  refine ⟨?_, a⟩
  have := a 0 (by omega)
  have := a 1 (by omega)
  have := a 2 (by omega)
  unfold dT
  omega

set_option maxHeartbeats 4000000 in
set_option maxRecDepth 100000 in
theorem kF_1_in {p : Program} {l : Launch} {e : Env} {s : State} {m : MethodId} {below : List Frame} {meth : Method} {c : Code} {b L : Nat} {xs : Nat → Int32} {A0 : Nat → Prop} {D : va_G} {cy : Nat → ClassId} {e0 mi vo ha ra ga : Nat} {hf : Nat → Int32} {Q : State → Prop} (hLE : LE p l s m c b L xs A0 D cy e0 mi) {nn nc s1 : Nat} {af gf : Nat → Int32} {μ0 : Nat → Nat → Int32} (hs1 : s1 < 3) (hn : nn ≤ 20) (hc : nc ≤ 60) (kk : ∀ (μ' : Nat → Nat → Int32) (w' : va_W) (H' : Heap) (locs' : List Loc) (ls' : Array Slot) (cells' slots' : Nat), LW s A0 D cy e0 vo ha ra ga hf af gf μ' nn nc w' H' locs' → tn (μ' 25 s1) = tn (μ' 24 s1) → FP s1 μ0 μ' → cells' ≤ 2000 + 5 * dT μ' → slots' ≤ 1500000 + 6170 * dT μ' → lv_has ls' 23 [(0, .ref b), (1, .ref vo), (2, .ref ha), (3, .ref ra), (4, .ref ga), (5, .int (nI 6)), (6, .int (nI nn)), (7, .int (nI 1)), (8, .int (nI s1))] → W p l e room_1 s m #[Value.ref b] below meth c H' locs' cells' slots' Q (F0 m 1421 ls' [])) : ∀ (d : Nat) (μ : Nat → Nat → Int32) (w : va_W) (g9 j9 : Nat) (H : Heap) (locs : List Loc) (ls : Array Slot) (cells slots : Nat), LW s A0 D cy e0 vo ha ra ga hf af gf μ nn nc w H locs → tn (μ 25 s1) = tn (μ 24 s1) + d → j9 + d ≤ 180 → g9 ≤ 10 → FP s1 μ0 μ → cells ≤ 2000 + 5 * dT μ → slots ≤ 1500000 + 6170 * dT μ → lv_has ls 23 [(0, .ref b), (1, .ref vo), (2, .ref ha), (3, .ref ra), (4, .ref ga), (5, .int (nI 6)), (6, .int (nI nn)), (7, .int (nI 1)), (8, .int (nI s1)), (9, .int (nI g9)), (10, .int (nI j9))] → W p l e room_1 s m #[Value.ref b] below meth c H locs cells slots Q (F0 m 1393 ls []) := by
  obtain ⟨⟨hx, hb, hml, hown, hts⟩, ⟨hX, hbl, hL, hfl, hA, hbA⟩, hE, hF, hZ⟩ := id hLE
  have bs4 : s1 < 4 := by omega
  intro d
  induction d with
  | zero =>
    intro μ w g9 j9 H locs ls cells slots hLW hd hj hg hFP hcb hsb hl
    obtain ⟨hP, hD, hS, hK, hA3⟩ := hLW
    obtain ⟨bT, bW⟩ := w_le hK hn hc
    refine lv_iload hx hb dL_law_1393 (lv_at hl 10 rfl) ?_
    refine lv_sipush (v := 200) hx hb dL_law_1395 (by decide) ?_
    refine vg_tp (nI 200) (by decide) ?_
    refine lv_icmp_ge (tgt := 1421) hx hb dL_law_1398 (by decide) (fun z9 => absurd z9 (fun q9 => absurd ((nI_leI (a := 200) (b := j9) (by omega) (by omega)).mp q9) (by omega))) (fun _ => ?_)
    refine lv_iload hx hb dL_law_1401 (lv_at hl 9 rfl) ?_
    refine lv_iconst (v := (-1)) hx hb dL_law_1403 (by decide) ?_
    refine lv_icmp_eq (tgt := 1421) hx hb dL_law_1404 (by decide) (fun z9 => absurd z9 (nI_nm1 (by omega))) (fun _ => ?_)
    refine lv_aload_n hx hb dL_law_1407 rfl (lv_at hl 1 rfl) ?_
    refine lv_iload hx hb dL_law_1408 (lv_at hl 8 rfl) ?_
    refine vQ_r (va_runV (As := [.int (nI s1)]) (rest := []) ⟨hx, hb, hml, hown, hts⟩ (kN_deliver_no l hfl D cy H.size e0 mi vo 130 μ w hK.1 (by omega) hK.2.1.1 bs4 (show tn (μ 24 s1) = tn (μ 25 s1) by omega)) (cwV 1 hts gL_law_X4_deliver rfl rfl rfl (by decide +kernel) ⟨Nat.le_of_ble_eq_true rfl, Nat.le_of_ble_eq_true rfl⟩) (vQ_pV hK.1 hE hF hZ hS hA hP hD) rfl rfl hl.1 rfl (lv_room (Nat.le_of_ble_eq_true rfl)) dL_law_1410 ⟨by show cells + 0 ≤ 600104; omega, by show slots + 0 ≤ 7301314; omega⟩) hP hD hS hA (fun r _ H locs hk hP hD hS => ?_)
    subst hk
    refine lv_istore (lv' := [(9, .int ((-1))), (0, .ref b), (1, .ref vo), (2, .ref ha), (3, .ref ra), (4, .ref ga), (5, .int (nI 6)), (6, .int (nI nn)), (7, .int (nI 1)), (8, .int (nI s1)), (10, .int (nI j9))]) hx hb dL_law_1413 hl (by decide) rfl (fun ls hl => ?_)
    refine lv_iinc (v := nI (j9 + 1)) (lv' := [(10, .int (nI (j9 + 1))), (9, .int ((-1))), (0, .ref b), (1, .ref vo), (2, .ref ha), (3, .ref ra), (4, .ref ga), (5, .int (nI 6)), (6, .int (nI nn)), (7, .int (nI 1)), (8, .int (nI s1))]) hx hb dL_law_1415 hl (k := 10) rfl (by rw [show Int32.ofInt 1 = nI 1 from by decide, nI_add]) (by decide) rfl (fun ls hl => ?_)
    refine lv_goto (tgt := 1393) hx hb dL_law_1418 (by decide) ?_
    refine lv_iload hx hb dL_law_1393 (lv_at hl 0 rfl) ?_
    refine lv_sipush (v := 200) hx hb dL_law_1395 (by decide) ?_
    refine vg_tp (nI 200) (by decide) ?_
    refine lv_icmp_ge (tgt := 1421) hx hb dL_law_1398 (by decide) (fun z9 => absurd z9 (fun q9 => absurd ((nI_leI (a := 200) (b := j9 + 1) (by omega) (by omega)).mp q9) (by omega))) (fun _ => ?_)
    refine lv_iload hx hb dL_law_1401 (lv_at hl 1 rfl) ?_
    refine lv_iconst (v := (-1)) hx hb dL_law_1403 (by decide) ?_
    refine lv_icmp_eq (tgt := 1421) hx hb dL_law_1404 (by decide) (fun _ => ?_) (fun z9 => absurd (show (-1 : Int32) = -1 from rfl) z9)
    exact kk μ w H locs ls cells slots ⟨hP, hD, hS, hK, hA3⟩ hd hFP hcb hsb (lv_sub hl [2, 3, 4, 5, 6, 7, 8, 9, 10] rfl)
  | succ d ih =>
    intro μ w g9 j9 H locs ls cells slots hLW hd hj hg hFP hcb hsb hl
    obtain ⟨hP, hD, hS, hK, hA3⟩ := hLW
    obtain ⟨bT, bW⟩ := w_le hK hn hc
    have he : ¬ tn (μ 24 s1) = tn (μ 25 s1) := by omega
    obtain ⟨kd, hkd, ekd⟩ := dlvR_n hK hn hc hs1 he
    refine lv_iload hx hb dL_law_1393 (lv_at hl 10 rfl) ?_
    refine lv_sipush (v := 200) hx hb dL_law_1395 (by decide) ?_
    refine vg_tp (nI 200) (by decide) ?_
    refine lv_icmp_ge (tgt := 1421) hx hb dL_law_1398 (by decide) (fun z9 => absurd z9 (fun q9 => absurd ((nI_leI (a := 200) (b := j9) (by omega) (by omega)).mp q9) (by omega))) (fun _ => ?_)
    refine lv_iload hx hb dL_law_1401 (lv_at hl 9 rfl) ?_
    refine lv_iconst (v := (-1)) hx hb dL_law_1403 (by decide) ?_
    refine lv_icmp_eq (tgt := 1421) hx hb dL_law_1404 (by decide) (fun z9 => absurd z9 (nI_nm1 (by omega))) (fun _ => ?_)
    refine lv_aload_n hx hb dL_law_1407 rfl (lv_at hl 1 rfl) ?_
    refine lv_iload hx hb dL_law_1408 (lv_at hl 8 rfl) ?_
    by_cases hz9 : μ 22 (600 * s1 + mDlvA μ s1) = 0
    · refine vQ_i (va_runV (As := [.int (nI s1)]) (rest := []) ⟨hx, hb, hml, hown, hts⟩ (kN_deliver_new l hfl D cy H.size e0 mi vo 130 μ w hK.1 (by omega) hK.2.1.1 bs4 he hz9) (cwV 1 hts gL_law_X4_deliver rfl rfl rfl (by decide +kernel) ⟨Nat.le_of_ble_eq_true rfl, Nat.le_of_ble_eq_true rfl⟩) (vQ_pV hK.1 hE hF hZ hS hA hP hD) rfl rfl hl.1 rfl (lv_room (Nat.le_of_ble_eq_true rfl)) dL_law_1410 ⟨by show cells + 5 ≤ 600104; omega, by show slots + 6170 ≤ 7301314; omega⟩) hP hD hS hA (fun r u H locs hk hP hD hS => ?_)
      obtain ⟨hk1a, hk2⟩ := hk
      rw [ekd] at hk1a
      subst hk1a
      obtain ⟨hK2, hSM, ⟨d1, d2⟩, d3, -, d6, d7⟩ := c_dlv hK hn hc hs1 he hk2
      have d3n : tn (mDlv μ (nI s1) 25 s1) = tn (μ 25 s1) := by rw [d3]
      have eT := dT_1 hs1 d1 d2
      refine lv_istore (lv' := [(9, .int (nI kd)), (0, .ref b), (1, .ref vo), (2, .ref ha), (3, .ref ra), (4, .ref ga), (5, .int (nI 6)), (6, .int (nI nn)), (7, .int (nI 1)), (8, .int (nI s1)), (10, .int (nI j9))]) hx hb dL_law_1413 hl (by decide) rfl (fun ls hl => ?_)
      refine lv_iinc (v := nI (j9 + 1)) (lv' := [(10, .int (nI (j9 + 1))), (9, .int (nI kd)), (0, .ref b), (1, .ref vo), (2, .ref ha), (3, .ref ra), (4, .ref ga), (5, .int (nI 6)), (6, .int (nI nn)), (7, .int (nI 1)), (8, .int (nI s1))]) hx hb dL_law_1415 hl (k := 10) rfl (by rw [show Int32.ofInt 1 = nI 1 from by decide, nI_add]) (by decide) rfl (fun ls hl => ?_)
      refine lv_goto (tgt := 1393) hx hb dL_law_1418 (by decide) ?_
      exact ih (mDlv μ (nI s1)) u kd (j9 + 1) H locs ls (cells + 5) (slots + 6170) ⟨hP, hD, hS, hK2, LA3_SM hA3 hSM⟩ (by omega) (by omega) hkd (FP_1 hs1 hFP d2 d6 d7) (by omega) (by omega) (lv_sub hl [2, 3, 4, 5, 6, 7, 8, 9, 10, 1, 0] rfl)
    · refine vQ_r (va_runV (As := [.int (nI s1)]) (rest := []) ⟨hx, hb, hml, hown, hts⟩ (kN_deliver_old l hfl D cy H.size e0 mi vo 130 μ w hK.1 (by omega) hK.2.1.1 bs4 he hz9) (cwV 1 hts gL_law_X4_deliver rfl rfl rfl (by decide +kernel) ⟨Nat.le_of_ble_eq_true rfl, Nat.le_of_ble_eq_true rfl⟩) (vQ_pV hK.1 hE hF hZ hS hA hP hD) rfl rfl hl.1 rfl (lv_room (Nat.le_of_ble_eq_true rfl)) dL_law_1410 ⟨by show cells + 0 ≤ 600104; omega, by show slots + 0 ≤ 7301314; omega⟩) hP hD hS hA (fun r u H locs hk hP hD hS => ?_)
      obtain ⟨hk1a, hk2⟩ := hk
      rw [ekd] at hk1a
      subst hk1a
      obtain ⟨hK2, hSM, ⟨d1, d2⟩, d3, -, d6, d7⟩ := c_dlv hK hn hc hs1 he hk2
      have d3n : tn (mDlv μ (nI s1) 25 s1) = tn (μ 25 s1) := by rw [d3]
      have eT := dT_1 hs1 d1 d2
      refine lv_istore (lv' := [(9, .int (nI kd)), (0, .ref b), (1, .ref vo), (2, .ref ha), (3, .ref ra), (4, .ref ga), (5, .int (nI 6)), (6, .int (nI nn)), (7, .int (nI 1)), (8, .int (nI s1)), (10, .int (nI j9))]) hx hb dL_law_1413 hl (by decide) rfl (fun ls hl => ?_)
      refine lv_iinc (v := nI (j9 + 1)) (lv' := [(10, .int (nI (j9 + 1))), (9, .int (nI kd)), (0, .ref b), (1, .ref vo), (2, .ref ha), (3, .ref ra), (4, .ref ga), (5, .int (nI 6)), (6, .int (nI nn)), (7, .int (nI 1)), (8, .int (nI s1))]) hx hb dL_law_1415 hl (k := 10) rfl (by rw [show Int32.ofInt 1 = nI 1 from by decide, nI_add]) (by decide) rfl (fun ls hl => ?_)
      refine lv_goto (tgt := 1393) hx hb dL_law_1418 (by decide) ?_
      exact ih (mDlv μ (nI s1)) u kd (j9 + 1) H locs ls cells slots ⟨hP, hD, hS, hK2, LA3_SM hA3 hSM⟩ (by omega) (by omega) hkd (FP_1 hs1 hFP d2 d6 d7) (by omega) (by omega) (lv_sub hl [2, 3, 4, 5, 6, 7, 8, 9, 10, 1, 0] rfl)

set_option maxHeartbeats 4000000 in
set_option maxRecDepth 100000 in
theorem kF_1 {p : Program} {l : Launch} {e : Env} {s : State} {m : MethodId} {below : List Frame} {meth : Method} {c : Code} {b L : Nat} {xs : Nat → Int32} {A0 : Nat → Prop} {D : va_G} {cy : Nat → ClassId} {e0 mi vo ha ra ga : Nat} {hf : Nat → Int32} {Q : State → Prop} (hLE : LE p l s m c b L xs A0 D cy e0 mi) {nn nc : Nat} {af gf : Nat → Int32} (hn : nn ≤ 20) (hc : nc ≤ 60) (kk : ∀ (μ' : Nat → Nat → Int32) (w' : va_W) (H' : Heap) (locs' : List Loc) (ls' : Array Slot) (cells' slots' : Nat), LW s A0 D cy e0 vo ha ra ga hf af gf μ' nn nc w' H' locs' → (∀ i, i < 3 → qu μ' i) → cells' ≤ 2000 + 5 * dT μ' → slots' ≤ 1500000 + 6170 * dT μ' → lv_has ls' 23 [(0, .ref b), (1, .ref vo), (2, .ref ha), (3, .ref ra), (4, .ref ga), (5, .int (nI 6)), (6, .int (nI nn)), (7, .int (nI 1)), (8, .int (nI 3))] → W p l e room_1 s m #[Value.ref b] below meth c H' locs' cells' slots' Q (F0 m 1427 ls' [])) : ∀ (d s1 : Nat) (μ : Nat → Nat → Int32) (w : va_W) (H : Heap) (locs : List Loc) (ls : Array Slot) (cells slots : Nat), s1 + d = 3 → LW s A0 D cy e0 vo ha ra ga hf af gf μ nn nc w H locs → (∀ i, i < s1 → qu μ i) → cells ≤ 2000 + 5 * dT μ → slots ≤ 1500000 + 6170 * dT μ → lv_has ls 23 [(0, .ref b), (1, .ref vo), (2, .ref ha), (3, .ref ra), (4, .ref ga), (5, .int (nI 6)), (6, .int (nI nn)), (7, .int (nI 1)), (8, .int (nI s1))] → W p l e room_1 s m #[Value.ref b] below meth c H locs cells slots Q (F0 m 1381 ls []) := by
  obtain ⟨⟨hx, hb, hml, hown, hts⟩, -, -, -, -⟩ := id hLE
  intro d
  induction d with
  | zero =>
    intro s1 μ w H locs ls cells slots h1 hLW hi hcb hsb hl
    have e9 : s1 = 3 := by omega
    subst e9
    refine lv_iload hx hb dL_law_1381 (lv_at hl 8 rfl) ?_
    refine lv_iconst (v := 3) hx hb dL_law_1383 (by decide) ?_
    refine vg_tp (nI 3) (by decide) ?_
    refine lv_icmp_ge (tgt := 1427) hx hb dL_law_1384 (by decide) (fun _ => ?_) (fun z9 => absurd ((nI_leI (a := 3) (b := 3) (by omega) (by omega)).mpr (by omega)) z9)
    exact kk μ w H locs ls cells slots hLW hi hcb hsb hl
  | succ d ih =>
    intro s1 μ w H locs ls cells slots h1 hLW hi hcb hsb hl
    obtain ⟨bT, bW⟩ := w_le hLW.2.2.2.1 hn hc
    have bw := bW s1 (by omega)
    refine lv_iload hx hb dL_law_1381 (lv_at hl 8 rfl) ?_
    refine lv_iconst (v := 3) hx hb dL_law_1383 (by decide) ?_
    refine vg_tp (nI 3) (by decide) ?_
    refine lv_icmp_ge (tgt := 1427) hx hb dL_law_1384 (by decide) (fun z9 => absurd z9 (fun q9 => absurd ((nI_leI (a := 3) (b := s1) (by omega) (by omega)).mp q9) (by omega))) (fun _ => ?_)
    refine lv_iconst (v := 0) hx hb dL_law_1387 (by decide) ?_
    refine vg_tp (nI 0) (by decide) ?_
    refine lv_istore (lv' := [(9, .int (nI 0)), (0, .ref b), (1, .ref vo), (2, .ref ha), (3, .ref ra), (4, .ref ga), (5, .int (nI 6)), (6, .int (nI nn)), (7, .int (nI 1)), (8, .int (nI s1))]) hx hb dL_law_1388 hl (by decide) rfl (fun ls hl => ?_)
    refine lv_iconst (v := 0) hx hb dL_law_1390 (by decide) ?_
    refine vg_tp (nI 0) (by decide) ?_
    refine lv_istore (lv' := [(10, .int (nI 0)), (9, .int (nI 0)), (0, .ref b), (1, .ref vo), (2, .ref ha), (3, .ref ra), (4, .ref ga), (5, .int (nI 6)), (6, .int (nI nn)), (7, .int (nI 1)), (8, .int (nI s1))]) hx hb dL_law_1391 hl (by decide) rfl (fun ls hl => ?_)
    refine kF_1_in hLE (μ0 := μ) (show s1 < 3 by omega) hn hc (fun μ' w' H' locs' ls' cells' slots' hLW' hz hFP hcb' hsb' hl' => ?_) (tn (μ 25 s1) - tn (μ 24 s1)) μ w 0 0 H locs ls cells slots hLW (by omega) (by omega) (by omega) (FP_0 s1 μ) hcb hsb (lv_sub hl [2, 3, 4, 5, 6, 7, 8, 9, 10, 1, 0] rfl)
    refine lv_iinc (v := nI (s1 + 1)) (lv' := [(8, .int (nI (s1 + 1))), (0, .ref b), (1, .ref vo), (2, .ref ha), (3, .ref ra), (4, .ref ga), (5, .int (nI 6)), (6, .int (nI nn)), (7, .int (nI 1))]) hx hb dL_law_1421 hl' (k := 8) rfl (by rw [show Int32.ofInt 1 = nI 1 from by decide, nI_add]) (by decide) rfl (fun ls hl => ?_)
    refine lv_goto (tgt := 1381) hx hb dL_law_1424 (by decide) ?_
    exact ih (s1 + 1) μ' w' H' locs' ls cells' slots' (by omega) hLW' (fun i hi2 => by
      by_cases c : i = s1
      · rw [c]; exact qu_0 hz
      · exact hFP.1 i (by omega) (hi i (by omega))) hcb' hsb' (lv_sub hl [1, 2, 3, 4, 5, 6, 7, 8, 0] rfl)

set_option maxHeartbeats 4000000 in
set_option maxRecDepth 100000 in
theorem kF_2_in {p : Program} {l : Launch} {e : Env} {s : State} {m : MethodId} {below : List Frame} {meth : Method} {c : Code} {b L : Nat} {xs : Nat → Int32} {A0 : Nat → Prop} {D : va_G} {cy : Nat → ClassId} {e0 mi vo ha ra ga : Nat} {hf : Nat → Int32} {Q : State → Prop} (hLE : LE p l s m c b L xs A0 D cy e0 mi) {nn nc s1 : Nat} {af gf : Nat → Int32} {μ0 : Nat → Nat → Int32} (hs1 : s1 < 3) (hn : nn ≤ 20) (hc : nc ≤ 60) (kk : ∀ (μ' : Nat → Nat → Int32) (w' : va_W) (H' : Heap) (locs' : List Loc) (ls' : Array Slot) (cells' slots' : Nat), LW s A0 D cy e0 vo ha ra ga hf af gf μ' nn nc w' H' locs' → tn (μ' 25 s1) = tn (μ' 24 s1) → FP s1 μ0 μ' → cells' ≤ 2000 + 5 * dT μ' → slots' ≤ 1500000 + 6170 * dT μ' → lv_has ls' 23 [(0, .ref b), (1, .ref vo), (2, .ref ha), (3, .ref ra), (4, .ref ga), (5, .int (nI 6)), (6, .int (nI nn)), (7, .int (nI 1)), (8, .int (nI s1))] → W p l e room_1 s m #[Value.ref b] below meth c H' locs' cells' slots' Q (F0 m 1470 ls' [])) : ∀ (d : Nat) (μ : Nat → Nat → Int32) (w : va_W) (g9 j9 : Nat) (H : Heap) (locs : List Loc) (ls : Array Slot) (cells slots : Nat), LW s A0 D cy e0 vo ha ra ga hf af gf μ nn nc w H locs → tn (μ 25 s1) = tn (μ 24 s1) + d → j9 + d ≤ 180 → g9 ≤ 10 → FP s1 μ0 μ → cells ≤ 2000 + 5 * dT μ → slots ≤ 1500000 + 6170 * dT μ → lv_has ls 23 [(0, .ref b), (1, .ref vo), (2, .ref ha), (3, .ref ra), (4, .ref ga), (5, .int (nI 6)), (6, .int (nI nn)), (7, .int (nI 1)), (8, .int (nI s1)), (9, .int (nI g9)), (10, .int (nI j9))] → W p l e room_1 s m #[Value.ref b] below meth c H locs cells slots Q (F0 m 1442 ls []) := by
  obtain ⟨⟨hx, hb, hml, hown, hts⟩, ⟨hX, hbl, hL, hfl, hA, hbA⟩, hE, hF, hZ⟩ := id hLE
  have bs4 : s1 < 4 := by omega
  intro d
  induction d with
  | zero =>
    intro μ w g9 j9 H locs ls cells slots hLW hd hj hg hFP hcb hsb hl
    obtain ⟨hP, hD, hS, hK, hA3⟩ := hLW
    obtain ⟨bT, bW⟩ := w_le hK hn hc
    refine lv_iload hx hb dL_law_1442 (lv_at hl 10 rfl) ?_
    refine lv_sipush (v := 200) hx hb dL_law_1444 (by decide) ?_
    refine vg_tp (nI 200) (by decide) ?_
    refine lv_icmp_ge (tgt := 1470) hx hb dL_law_1447 (by decide) (fun z9 => absurd z9 (fun q9 => absurd ((nI_leI (a := 200) (b := j9) (by omega) (by omega)).mp q9) (by omega))) (fun _ => ?_)
    refine lv_iload hx hb dL_law_1450 (lv_at hl 9 rfl) ?_
    refine lv_iconst (v := (-1)) hx hb dL_law_1452 (by decide) ?_
    refine lv_icmp_eq (tgt := 1470) hx hb dL_law_1453 (by decide) (fun z9 => absurd z9 (nI_nm1 (by omega))) (fun _ => ?_)
    refine lv_aload_n hx hb dL_law_1456 rfl (lv_at hl 1 rfl) ?_
    refine lv_iload hx hb dL_law_1457 (lv_at hl 8 rfl) ?_
    refine vQ_r (va_runV (As := [.int (nI s1)]) (rest := []) ⟨hx, hb, hml, hown, hts⟩ (kN_deliver_no l hfl D cy H.size e0 mi vo 130 μ w hK.1 (by omega) hK.2.1.1 bs4 (show tn (μ 24 s1) = tn (μ 25 s1) by omega)) (cwV 1 hts gL_law_X4_deliver rfl rfl rfl (by decide +kernel) ⟨Nat.le_of_ble_eq_true rfl, Nat.le_of_ble_eq_true rfl⟩) (vQ_pV hK.1 hE hF hZ hS hA hP hD) rfl rfl hl.1 rfl (lv_room (Nat.le_of_ble_eq_true rfl)) dL_law_1459 ⟨by show cells + 0 ≤ 600104; omega, by show slots + 0 ≤ 7301314; omega⟩) hP hD hS hA (fun r _ H locs hk hP hD hS => ?_)
    subst hk
    refine lv_istore (lv' := [(9, .int ((-1))), (0, .ref b), (1, .ref vo), (2, .ref ha), (3, .ref ra), (4, .ref ga), (5, .int (nI 6)), (6, .int (nI nn)), (7, .int (nI 1)), (8, .int (nI s1)), (10, .int (nI j9))]) hx hb dL_law_1462 hl (by decide) rfl (fun ls hl => ?_)
    refine lv_iinc (v := nI (j9 + 1)) (lv' := [(10, .int (nI (j9 + 1))), (9, .int ((-1))), (0, .ref b), (1, .ref vo), (2, .ref ha), (3, .ref ra), (4, .ref ga), (5, .int (nI 6)), (6, .int (nI nn)), (7, .int (nI 1)), (8, .int (nI s1))]) hx hb dL_law_1464 hl (k := 10) rfl (by rw [show Int32.ofInt 1 = nI 1 from by decide, nI_add]) (by decide) rfl (fun ls hl => ?_)
    refine lv_goto (tgt := 1442) hx hb dL_law_1467 (by decide) ?_
    refine lv_iload hx hb dL_law_1442 (lv_at hl 0 rfl) ?_
    refine lv_sipush (v := 200) hx hb dL_law_1444 (by decide) ?_
    refine vg_tp (nI 200) (by decide) ?_
    refine lv_icmp_ge (tgt := 1470) hx hb dL_law_1447 (by decide) (fun z9 => absurd z9 (fun q9 => absurd ((nI_leI (a := 200) (b := j9 + 1) (by omega) (by omega)).mp q9) (by omega))) (fun _ => ?_)
    refine lv_iload hx hb dL_law_1450 (lv_at hl 1 rfl) ?_
    refine lv_iconst (v := (-1)) hx hb dL_law_1452 (by decide) ?_
    refine lv_icmp_eq (tgt := 1470) hx hb dL_law_1453 (by decide) (fun _ => ?_) (fun z9 => absurd (show (-1 : Int32) = -1 from rfl) z9)
    exact kk μ w H locs ls cells slots ⟨hP, hD, hS, hK, hA3⟩ hd hFP hcb hsb (lv_sub hl [2, 3, 4, 5, 6, 7, 8, 9, 10] rfl)
  | succ d ih =>
    intro μ w g9 j9 H locs ls cells slots hLW hd hj hg hFP hcb hsb hl
    obtain ⟨hP, hD, hS, hK, hA3⟩ := hLW
    obtain ⟨bT, bW⟩ := w_le hK hn hc
    have he : ¬ tn (μ 24 s1) = tn (μ 25 s1) := by omega
    obtain ⟨kd, hkd, ekd⟩ := dlvR_n hK hn hc hs1 he
    refine lv_iload hx hb dL_law_1442 (lv_at hl 10 rfl) ?_
    refine lv_sipush (v := 200) hx hb dL_law_1444 (by decide) ?_
    refine vg_tp (nI 200) (by decide) ?_
    refine lv_icmp_ge (tgt := 1470) hx hb dL_law_1447 (by decide) (fun z9 => absurd z9 (fun q9 => absurd ((nI_leI (a := 200) (b := j9) (by omega) (by omega)).mp q9) (by omega))) (fun _ => ?_)
    refine lv_iload hx hb dL_law_1450 (lv_at hl 9 rfl) ?_
    refine lv_iconst (v := (-1)) hx hb dL_law_1452 (by decide) ?_
    refine lv_icmp_eq (tgt := 1470) hx hb dL_law_1453 (by decide) (fun z9 => absurd z9 (nI_nm1 (by omega))) (fun _ => ?_)
    refine lv_aload_n hx hb dL_law_1456 rfl (lv_at hl 1 rfl) ?_
    refine lv_iload hx hb dL_law_1457 (lv_at hl 8 rfl) ?_
    by_cases hz9 : μ 22 (600 * s1 + mDlvA μ s1) = 0
    · refine vQ_i (va_runV (As := [.int (nI s1)]) (rest := []) ⟨hx, hb, hml, hown, hts⟩ (kN_deliver_new l hfl D cy H.size e0 mi vo 130 μ w hK.1 (by omega) hK.2.1.1 bs4 he hz9) (cwV 1 hts gL_law_X4_deliver rfl rfl rfl (by decide +kernel) ⟨Nat.le_of_ble_eq_true rfl, Nat.le_of_ble_eq_true rfl⟩) (vQ_pV hK.1 hE hF hZ hS hA hP hD) rfl rfl hl.1 rfl (lv_room (Nat.le_of_ble_eq_true rfl)) dL_law_1459 ⟨by show cells + 5 ≤ 600104; omega, by show slots + 6170 ≤ 7301314; omega⟩) hP hD hS hA (fun r u H locs hk hP hD hS => ?_)
      obtain ⟨hk1a, hk2⟩ := hk
      rw [ekd] at hk1a
      subst hk1a
      obtain ⟨hK2, hSM, ⟨d1, d2⟩, d3, -, d6, d7⟩ := c_dlv hK hn hc hs1 he hk2
      have d3n : tn (mDlv μ (nI s1) 25 s1) = tn (μ 25 s1) := by rw [d3]
      have eT := dT_1 hs1 d1 d2
      refine lv_istore (lv' := [(9, .int (nI kd)), (0, .ref b), (1, .ref vo), (2, .ref ha), (3, .ref ra), (4, .ref ga), (5, .int (nI 6)), (6, .int (nI nn)), (7, .int (nI 1)), (8, .int (nI s1)), (10, .int (nI j9))]) hx hb dL_law_1462 hl (by decide) rfl (fun ls hl => ?_)
      refine lv_iinc (v := nI (j9 + 1)) (lv' := [(10, .int (nI (j9 + 1))), (9, .int (nI kd)), (0, .ref b), (1, .ref vo), (2, .ref ha), (3, .ref ra), (4, .ref ga), (5, .int (nI 6)), (6, .int (nI nn)), (7, .int (nI 1)), (8, .int (nI s1))]) hx hb dL_law_1464 hl (k := 10) rfl (by rw [show Int32.ofInt 1 = nI 1 from by decide, nI_add]) (by decide) rfl (fun ls hl => ?_)
      refine lv_goto (tgt := 1442) hx hb dL_law_1467 (by decide) ?_
      exact ih (mDlv μ (nI s1)) u kd (j9 + 1) H locs ls (cells + 5) (slots + 6170) ⟨hP, hD, hS, hK2, LA3_SM hA3 hSM⟩ (by omega) (by omega) hkd (FP_1 hs1 hFP d2 d6 d7) (by omega) (by omega) (lv_sub hl [2, 3, 4, 5, 6, 7, 8, 9, 10, 1, 0] rfl)
    · refine vQ_r (va_runV (As := [.int (nI s1)]) (rest := []) ⟨hx, hb, hml, hown, hts⟩ (kN_deliver_old l hfl D cy H.size e0 mi vo 130 μ w hK.1 (by omega) hK.2.1.1 bs4 he hz9) (cwV 1 hts gL_law_X4_deliver rfl rfl rfl (by decide +kernel) ⟨Nat.le_of_ble_eq_true rfl, Nat.le_of_ble_eq_true rfl⟩) (vQ_pV hK.1 hE hF hZ hS hA hP hD) rfl rfl hl.1 rfl (lv_room (Nat.le_of_ble_eq_true rfl)) dL_law_1459 ⟨by show cells + 0 ≤ 600104; omega, by show slots + 0 ≤ 7301314; omega⟩) hP hD hS hA (fun r u H locs hk hP hD hS => ?_)
      obtain ⟨hk1a, hk2⟩ := hk
      rw [ekd] at hk1a
      subst hk1a
      obtain ⟨hK2, hSM, ⟨d1, d2⟩, d3, -, d6, d7⟩ := c_dlv hK hn hc hs1 he hk2
      have d3n : tn (mDlv μ (nI s1) 25 s1) = tn (μ 25 s1) := by rw [d3]
      have eT := dT_1 hs1 d1 d2
      refine lv_istore (lv' := [(9, .int (nI kd)), (0, .ref b), (1, .ref vo), (2, .ref ha), (3, .ref ra), (4, .ref ga), (5, .int (nI 6)), (6, .int (nI nn)), (7, .int (nI 1)), (8, .int (nI s1)), (10, .int (nI j9))]) hx hb dL_law_1462 hl (by decide) rfl (fun ls hl => ?_)
      refine lv_iinc (v := nI (j9 + 1)) (lv' := [(10, .int (nI (j9 + 1))), (9, .int (nI kd)), (0, .ref b), (1, .ref vo), (2, .ref ha), (3, .ref ra), (4, .ref ga), (5, .int (nI 6)), (6, .int (nI nn)), (7, .int (nI 1)), (8, .int (nI s1))]) hx hb dL_law_1464 hl (k := 10) rfl (by rw [show Int32.ofInt 1 = nI 1 from by decide, nI_add]) (by decide) rfl (fun ls hl => ?_)
      refine lv_goto (tgt := 1442) hx hb dL_law_1467 (by decide) ?_
      exact ih (mDlv μ (nI s1)) u kd (j9 + 1) H locs ls cells slots ⟨hP, hD, hS, hK2, LA3_SM hA3 hSM⟩ (by omega) (by omega) hkd (FP_1 hs1 hFP d2 d6 d7) (by omega) (by omega) (lv_sub hl [2, 3, 4, 5, 6, 7, 8, 9, 10, 1, 0] rfl)

set_option maxHeartbeats 4000000 in
set_option maxRecDepth 100000 in
theorem kF_2 {p : Program} {l : Launch} {e : Env} {s : State} {m : MethodId} {below : List Frame} {meth : Method} {c : Code} {b L : Nat} {xs : Nat → Int32} {A0 : Nat → Prop} {D : va_G} {cy : Nat → ClassId} {e0 mi vo ha ra ga : Nat} {hf : Nat → Int32} {Q : State → Prop} (hLE : LE p l s m c b L xs A0 D cy e0 mi) {nn nc : Nat} {af gf : Nat → Int32} (hn : nn ≤ 20) (hc : nc ≤ 60) (kk : ∀ (μ' : Nat → Nat → Int32) (w' : va_W) (H' : Heap) (locs' : List Loc) (ls' : Array Slot) (cells' slots' : Nat), LW s A0 D cy e0 vo ha ra ga hf af gf μ' nn nc w' H' locs' → ((∀ i, i < 3 → qu μ' i) ∧ ∀ i, i < 3 → tn (μ' 25 i) = tn (μ' 24 i)) → cells' ≤ 2000 + 5 * dT μ' → slots' ≤ 1500000 + 6170 * dT μ' → lv_has ls' 23 [(0, .ref b), (1, .ref vo), (2, .ref ha), (3, .ref ra), (4, .ref ga), (5, .int (nI 6)), (6, .int (nI nn)), (7, .int (nI 1)), (8, .int (nI 3))] → W p l e room_1 s m #[Value.ref b] below meth c H' locs' cells' slots' Q (F0 m 1476 ls' [])) : ∀ (d s1 : Nat) (μ : Nat → Nat → Int32) (w : va_W) (H : Heap) (locs : List Loc) (ls : Array Slot) (cells slots : Nat), s1 + d = 3 → LW s A0 D cy e0 vo ha ra ga hf af gf μ nn nc w H locs → ((∀ i, i < 3 → qu μ i) ∧ ∀ i, i < s1 → tn (μ 25 i) = tn (μ 24 i)) → cells ≤ 2000 + 5 * dT μ → slots ≤ 1500000 + 6170 * dT μ → lv_has ls 23 [(0, .ref b), (1, .ref vo), (2, .ref ha), (3, .ref ra), (4, .ref ga), (5, .int (nI 6)), (6, .int (nI nn)), (7, .int (nI 1)), (8, .int (nI s1))] → W p l e room_1 s m #[Value.ref b] below meth c H locs cells slots Q (F0 m 1430 ls []) := by
  obtain ⟨⟨hx, hb, hml, hown, hts⟩, -, -, -, -⟩ := id hLE
  intro d
  induction d with
  | zero =>
    intro s1 μ w H locs ls cells slots h1 hLW hi hcb hsb hl
    have e9 : s1 = 3 := by omega
    subst e9
    refine lv_iload hx hb dL_law_1430 (lv_at hl 8 rfl) ?_
    refine lv_iconst (v := 3) hx hb dL_law_1432 (by decide) ?_
    refine vg_tp (nI 3) (by decide) ?_
    refine lv_icmp_ge (tgt := 1476) hx hb dL_law_1433 (by decide) (fun _ => ?_) (fun z9 => absurd ((nI_leI (a := 3) (b := 3) (by omega) (by omega)).mpr (by omega)) z9)
    exact kk μ w H locs ls cells slots hLW hi hcb hsb hl
  | succ d ih =>
    intro s1 μ w H locs ls cells slots h1 hLW hi hcb hsb hl
    obtain ⟨bT, bW⟩ := w_le hLW.2.2.2.1 hn hc
    have bw := bW s1 (by omega)
    refine lv_iload hx hb dL_law_1430 (lv_at hl 8 rfl) ?_
    refine lv_iconst (v := 3) hx hb dL_law_1432 (by decide) ?_
    refine vg_tp (nI 3) (by decide) ?_
    refine lv_icmp_ge (tgt := 1476) hx hb dL_law_1433 (by decide) (fun z9 => absurd z9 (fun q9 => absurd ((nI_leI (a := 3) (b := s1) (by omega) (by omega)).mp q9) (by omega))) (fun _ => ?_)
    refine lv_iconst (v := 0) hx hb dL_law_1436 (by decide) ?_
    refine vg_tp (nI 0) (by decide) ?_
    refine lv_istore (lv' := [(9, .int (nI 0)), (0, .ref b), (1, .ref vo), (2, .ref ha), (3, .ref ra), (4, .ref ga), (5, .int (nI 6)), (6, .int (nI nn)), (7, .int (nI 1)), (8, .int (nI s1))]) hx hb dL_law_1437 hl (by decide) rfl (fun ls hl => ?_)
    refine lv_iconst (v := 0) hx hb dL_law_1439 (by decide) ?_
    refine vg_tp (nI 0) (by decide) ?_
    refine lv_istore (lv' := [(10, .int (nI 0)), (9, .int (nI 0)), (0, .ref b), (1, .ref vo), (2, .ref ha), (3, .ref ra), (4, .ref ga), (5, .int (nI 6)), (6, .int (nI nn)), (7, .int (nI 1)), (8, .int (nI s1))]) hx hb dL_law_1440 hl (by decide) rfl (fun ls hl => ?_)
    refine kF_2_in hLE (μ0 := μ) (show s1 < 3 by omega) hn hc (fun μ' w' H' locs' ls' cells' slots' hLW' hz hFP hcb' hsb' hl' => ?_) (tn (μ 25 s1) - tn (μ 24 s1)) μ w 0 0 H locs ls cells slots hLW (by omega) (by omega) (by omega) (FP_0 s1 μ) hcb hsb (lv_sub hl [2, 3, 4, 5, 6, 7, 8, 9, 10, 1, 0] rfl)
    refine lv_iinc (v := nI (s1 + 1)) (lv' := [(8, .int (nI (s1 + 1))), (0, .ref b), (1, .ref vo), (2, .ref ha), (3, .ref ra), (4, .ref ga), (5, .int (nI 6)), (6, .int (nI nn)), (7, .int (nI 1))]) hx hb dL_law_1470 hl' (k := 8) rfl (by rw [show Int32.ofInt 1 = nI 1 from by decide, nI_add]) (by decide) rfl (fun ls hl => ?_)
    refine lv_goto (tgt := 1430) hx hb dL_law_1473 (by decide) ?_
    exact ih (s1 + 1) μ' w' H' locs' ls cells' slots' (by omega) hLW' ⟨fun i hi2 => hFP.1 i hi2 (hi.1 i hi2), fun i hi2 => by
      by_cases c : i = s1
      · rw [c]; exact hz
      · obtain ⟨f1, f2⟩ := hFP.2 (hi.1 s1 (by omega)) i (by omega) c
        rw [f1, f2]; exact hi.2 i (by omega)⟩ hcb' hsb' (lv_sub hl [1, 2, 3, 4, 5, 6, 7, 8, 0] rfl)

set_option maxHeartbeats 4000000 in
set_option maxRecDepth 100000 in
theorem kF_posts {p : Program} {l : Launch} {e : Env} {s : State} {m : MethodId} {below : List Frame} {meth : Method} {c : Code} {b L : Nat} {xs : Nat → Int32} {A0 : Nat → Prop} {D : va_G} {cy : Nat → ClassId} {e0 mi vo ha ra ga : Nat} {hf : Nat → Int32} {Q : State → Prop} (hLE : LE p l s m c b L xs A0 D cy e0 mi) {nn nc cells slots : Nat} {af gf : Nat → Int32} {μ : Nat → Nat → Int32} (hn : nn ≤ 20) (hc : nc ≤ 60) (hcl : cells ≤ 600104) (hsl : slots ≤ 7301314) (kk : ∀ (w' : va_W) (H' : Heap) (locs' : List Loc) (ls' : Array Slot), LW s A0 D cy e0 vo ha ra ga hf af gf μ nn nc w' H' locs' → lv_has ls' 23 [(0, .ref b), (1, .ref vo), (2, .ref ha), (3, .ref ra), (4, .ref ga), (5, .int (nI 6)), (6, .int (nI nn)), (7, .int (nI 1)), (8, .int (nI nn))] → W p l e room_1 s m #[Value.ref b] below meth c H' locs' cells slots Q (F0 m 1533 ls' [])) : ∀ (d i9 : Nat) (w : va_W) (H : Heap) (locs : List Loc) (ls : Array Slot), i9 + d = nn → LW s A0 D cy e0 vo ha ra ga hf af gf μ nn nc w H locs → lv_has ls 23 [(0, .ref b), (1, .ref vo), (2, .ref ha), (3, .ref ra), (4, .ref ga), (5, .int (nI 6)), (6, .int (nI nn)), (7, .int (nI 1)), (8, .int (nI i9))] → W p l e room_1 s m #[Value.ref b] below meth c H locs cells slots Q (F0 m 1479 ls []) := by
  obtain ⟨⟨hx, hb, hml, hown, hts⟩, ⟨hX, hbl, hL, hfl, hA, hbA⟩, hE, hF, hZ⟩ := id hLE
  intro d
  induction d with
  | zero =>
    intro i9 w H locs ls h1 hLW hl
    have e9 : i9 = nn := by omega
    subst e9
    refine lv_iload hx hb dL_law_1479 (lv_at hl 8 rfl) ?_
    refine lv_iload hx hb dL_law_1481 (lv_at hl 6 rfl) ?_
    refine lv_icmp_ge (tgt := 1533) hx hb dL_law_1483 (by decide) (fun _ => ?_) (fun z9 => absurd ((nI_leI (a := i9) (b := i9) (by omega) (by omega)).mpr (by omega)) z9)
    exact kk w H locs ls hLW hl
  | succ d ih =>
    intro i9 w H locs ls h1 hLW hl
    obtain ⟨hP, hD, hS, hK, hA3⟩ := hLW
    refine lv_iload hx hb dL_law_1479 (lv_at hl 8 rfl) ?_
    refine lv_iload hx hb dL_law_1481 (lv_at hl 6 rfl) ?_
    refine lv_icmp_ge (tgt := 1533) hx hb dL_law_1483 (by decide) (fun z9 => absurd z9 (fun q9 => absurd ((nI_leI (a := nn) (b := i9) (by omega) (by omega)).mp q9) (by omega))) (fun _ => ?_)
    refine lv_iload hx hb dL_law_1486 (lv_at hl 8 rfl) ?_
    refine lv_aload_n hx hb dL_law_1488 rfl (lv_at hl 0 rfl) ?_
    refine va_slen hx hb hX hbl hbA hS dL_law_1489 ?_
    refine vg_tp (nI L) rfl ?_
    refine lv_iadd hx hb dL_law_1490 ?_
    refine vg_tp (nI (i9 + L)) (nI_add _ _) ?_
    refine lv_iload hx hb dL_law_1491 (lv_at hl 5 rfl) ?_
    refine lv_irem hx hb dL_law_1493 (by decide) ?_
    refine vg_tp (nI ((i9 + L) % 6)) (pk_rem (by omega) (by omega) (by omega)) ?_
    obtain ⟨p1, ep1⟩ : ∃ q, q = (i9 + L) % 6 := ⟨_, rfl⟩
    refine vg_tp (nI p1) (by rw [ep1]) ?_
    have hp : p1 < 6 := by omega
    refine lv_istore (lv' := [(9, .int (nI p1)), (0, .ref b), (1, .ref vo), (2, .ref ha), (3, .ref ra), (4, .ref ga), (5, .int (nI 6)), (6, .int (nI nn)), (7, .int (nI 1)), (8, .int (nI i9))]) hx hb dL_law_1494 hl (by decide) rfl (fun ls hl => ?_)
    refine lv_iload hx hb dL_law_1496 (lv_at hl 8 rfl) ?_
    refine lv_if_eq (tgt := 1524) hx hb dL_law_1498 (by decide) (fun z9 => absurd z9 (fun q9 => absurd ((nI_eq (a := 1) (b := 0) (by omega) (by omega)).mp q9) (by omega))) (fun _ => ?_)
    refine lv_aload_n hx hb dL_law_1501 rfl (lv_at hl 2 rfl) ?_
    refine lv_iload hx hb dL_law_1502 (lv_at hl 0 rfl) ?_
    refine lv_iload hx hb dL_law_1504 (lv_at hl 9 rfl) ?_
    refine vQ_r (va_runV (As := [.int (nI p1), .int (nI i9)]) (rest := []) ⟨hx, hb, hml, hown, hts⟩ (kN_sees l hfl D cy H.size e0 mi vo 130 μ w hK.1 (by omega) hK.2.1.1 ⟨hK.2.1.2.2.2, by omega⟩ hp (show i9 < nn by omega)) (cwV 2 hts gL_law_X4_sees rfl rfl rfl (by decide +kernel) ⟨Nat.le_of_ble_eq_true rfl, Nat.le_of_ble_eq_true rfl⟩) (vQ_pV hK.1 hE hF hZ hS hA hP hD) rfl rfl hl.1 rfl (lv_room (Nat.le_of_ble_eq_true rfl)) dL_law_1506 ⟨by show cells + 0 ≤ 600104; omega, by show slots + 0 ≤ 7301314; omega⟩) hP hD hS hA (fun r _ H locs hk hP hD hS => ?_)
    subst hk
    refine lv_aload_n hx hb dL_law_1509 rfl (lv_at hl 2 rfl) ?_
    refine lv_iload hx hb dL_law_1510 (lv_at hl 0 rfl) ?_
    refine lv_iload hx hb dL_law_1512 (lv_at hl 9 rfl) ?_
    refine vQ_r (va_runV (As := [.int (nI p1), .int (nI i9)]) (rest := [.int (bI (mSeen μ p1 i9))]) ⟨hx, hb, hml, hown, hts⟩ (kN_seesAnew l hfl D cy H.size e0 mi vo 130 μ w hK.1 (by omega) hK.2.1.1 ⟨hK.2.1.2.2.2, by omega⟩ hp (show i9 < nn by omega)) (cwV 2 hts gL_law_X4_seesAnew rfl rfl rfl (by decide +kernel) ⟨Nat.le_of_ble_eq_true rfl, Nat.le_of_ble_eq_true rfl⟩) (vQ_pV hK.1 hE hF hZ hS hA hP hD) rfl rfl hl.1 rfl (lv_room (Nat.le_of_ble_eq_true rfl)) dL_law_1514 ⟨by show cells + 0 ≤ 600104; omega, by show slots + 0 ≤ 7301314; omega⟩) hP hD hS hA (fun r u H locs hk hP hD hS => ?_)
    obtain ⟨hk1a, hk2⟩ := hk
    subst hk1a
    refine lv_icmp_ne (tgt := 1524) hx hb dL_law_1517 (by decide) (fun z9 => absurd (show bI (mSeen μ p1 i9) = bI (mSeen μ p1 i9) from rfl) z9) (fun _ => ?_)
    refine lv_iconst (v := 1) hx hb dL_law_1520 (by decide) ?_
    refine vg_tp (nI 1) (by decide) ?_
    refine lv_goto (tgt := 1525) hx hb dL_law_1521 (by decide) ?_
    refine lv_istore (lv' := [(7, .int (nI 1)), (9, .int (nI p1)), (0, .ref b), (1, .ref vo), (2, .ref ha), (3, .ref ra), (4, .ref ga), (5, .int (nI 6)), (6, .int (nI nn)), (8, .int (nI i9))]) hx hb dL_law_1525 hl (by decide) rfl (fun ls hl => ?_)
    refine lv_iinc (v := nI (i9 + 1)) (lv' := [(8, .int (nI (i9 + 1))), (7, .int (nI 1)), (9, .int (nI p1)), (0, .ref b), (1, .ref vo), (2, .ref ha), (3, .ref ra), (4, .ref ga), (5, .int (nI 6)), (6, .int (nI nn))]) hx hb dL_law_1527 hl (k := 9) rfl (by rw [show Int32.ofInt 1 = nI 1 from by decide, nI_add]) (by decide) rfl (fun ls hl => ?_)
    refine lv_goto (tgt := 1479) hx hb dL_law_1530 (by decide) ?_
    exact ih (i9 + 1) u H locs ls (by omega) ⟨hP, hD, hS, ⟨hk2, hK.2⟩, hA3⟩ (lv_sub hl [3, 4, 5, 6, 7, 8, 9, 1, 0] rfl)

set_option maxHeartbeats 4000000 in
set_option maxRecDepth 100000 in
theorem kF_last {p : Program} {l : Launch} {e : Env} {s : State} {m : MethodId} {below : List Frame} {meth : Method} {c : Code} {b L : Nat} {xs : Nat → Int32} {A0 : Nat → Prop} {D : va_G} {cy : Nat → ClassId} {e0 mi vo ha ra ga : Nat} {hf : Nat → Int32} {Q : State → Prop} (hLE : LE p l s m c b L xs A0 D cy e0 mi) {nn nc cells slots : Nat} {af gf : Nat → Int32} {μ : Nat → Nat → Int32} {w : va_W} {H : Heap} {locs : List Loc} {ls : Array Slot} (hn : nn ≤ 20) (hc : nc ≤ 60) (hcl : cells ≤ 600104) (hsl : slots ≤ 7301314) (hz : ∀ i, i < 3 → tn (μ 25 i) = tn (μ 24 i)) (hLW : LW s A0 D cy e0 vo ha ra ga hf af gf μ nn nc w H locs) (hl : lv_has ls 23 [(0, .ref b), (1, .ref vo), (2, .ref ha), (3, .ref ra), (4, .ref ga), (5, .int (nI 6)), (6, .int (nI nn)), (7, .int (nI 1)), (8, .int (nI nn))]) (kk : ∀ (H' : Heap) (locs' : List Loc) (ls' : Array Slot), va_S A0 s.heap H' locs' → W p l e room_1 s m #[Value.ref b] below meth c H' locs' cells slots Q (F0 m 1596 ls' [.int 1])) : W p l e room_1 s m #[Value.ref b] below meth c H locs cells slots Q (F0 m 1533 ls []) := by
  obtain ⟨⟨hx, hb, hml, hown, hts⟩, ⟨hX, hbl, hL, hfl, hA, hbA⟩, hE, hF, hZ⟩ := hLE
  obtain ⟨hP, hD, hS, hK, hA3⟩ := hLW
  obtain ⟨bT, bW⟩ := w_le hK hn hc
  have z0 := hz 0 (by omega)
  have z1 := hz 1 (by omega)
  have z2 := hz 2 (by omega)
  refine lv_iload hx hb dL_law_1533 (lv_at hl 7 rfl) ?_
  refine lv_if_eq (tgt := 1595) hx hb dL_law_1535 (by decide) (fun z9 => absurd z9 (fun q9 => absurd ((nI_eq (a := 1) (b := 0) (by omega) (by omega)).mp q9) (by omega))) (fun _ => ?_)
  refine lv_aload_n hx hb dL_law_1538 rfl (lv_at hl 1 rfl) ?_
  refine lv_iconst (v := 0) hx hb dL_law_1539 (by decide) ?_
  refine vg_tp (nI 0) (by decide) ?_
  refine lv_iconst (v := 0) hx hb dL_law_1540 (by decide) ?_
  refine vg_tp (nI 0) (by decide) ?_
  refine vQ_r (va_runV (As := [.int (nI 0), .int (nI 0)]) (rest := []) ⟨hx, hb, hml, hown, hts⟩ (kN_ofServer l hfl D cy H.size e0 mi vo 130 μ w hK.1 (by omega) hK.2.1.1 (show 0 < 4 by omega) (show 0 < 6 by omega)) (cwV 2 hts gL_law_X4_ofServer rfl rfl rfl (by decide +kernel) ⟨Nat.le_of_ble_eq_true rfl, Nat.le_of_ble_eq_true rfl⟩) (vQ_pV hK.1 hE hF hZ hS hA hP hD) rfl rfl hl.1 rfl (lv_room (Nat.le_of_ble_eq_true rfl)) dL_law_1541 ⟨by show cells + 0 ≤ 600104; omega, by show slots + 0 ≤ 7301314; omega⟩) hP hD hS hA (fun r _ H locs hk hP hD hS => ?_)
  rw [ofs_0 (show 0 < 4 by omega) (show tn (μ 24 0) ≤ tn (μ 25 0) by omega)] at hk
  subst hk
  refine lv_aload_n hx hb dL_law_1544 rfl (lv_at hl 1 rfl) ?_
  refine lv_iconst (v := 1) hx hb dL_law_1545 (by decide) ?_
  refine vg_tp (nI 1) (by decide) ?_
  refine lv_iconst (v := 0) hx hb dL_law_1546 (by decide) ?_
  refine vg_tp (nI 0) (by decide) ?_
  refine vQ_r (va_runV (As := [.int (nI 1), .int (nI 0)]) (rest := [.int (nI (tn (μ 25 0) - tn (μ 24 0)))]) ⟨hx, hb, hml, hown, hts⟩ (kN_ofServer l hfl D cy H.size e0 mi vo 130 μ w hK.1 (by omega) hK.2.1.1 (show 1 < 4 by omega) (show 0 < 6 by omega)) (cwV 2 hts gL_law_X4_ofServer rfl rfl rfl (by decide +kernel) ⟨Nat.le_of_ble_eq_true rfl, Nat.le_of_ble_eq_true rfl⟩) (vQ_pV hK.1 hE hF hZ hS hA hP hD) rfl rfl hl.1 rfl (lv_room (Nat.le_of_ble_eq_true rfl)) dL_law_1547 ⟨by show cells + 0 ≤ 600104; omega, by show slots + 0 ≤ 7301314; omega⟩) hP hD hS hA (fun r _ H locs hk hP hD hS => ?_)
  rw [ofs_0 (show 1 < 4 by omega) (show tn (μ 24 1) ≤ tn (μ 25 1) by omega)] at hk
  subst hk
  refine lv_iadd hx hb dL_law_1550 ?_
  refine vg_tp (nI (tn (μ 25 0) - tn (μ 24 0) + (tn (μ 25 1) - tn (μ 24 1)))) (nI_add _ _) ?_
  refine lv_aload_n hx hb dL_law_1551 rfl (lv_at hl 1 rfl) ?_
  refine lv_iconst (v := 2) hx hb dL_law_1552 (by decide) ?_
  refine vg_tp (nI 2) (by decide) ?_
  refine lv_iconst (v := 0) hx hb dL_law_1553 (by decide) ?_
  refine vg_tp (nI 0) (by decide) ?_
  refine vQ_r (va_runV (As := [.int (nI 2), .int (nI 0)]) (rest := [.int (nI (tn (μ 25 0) - tn (μ 24 0) + (tn (μ 25 1) - tn (μ 24 1))))]) ⟨hx, hb, hml, hown, hts⟩ (kN_ofServer l hfl D cy H.size e0 mi vo 130 μ w hK.1 (by omega) hK.2.1.1 (show 2 < 4 by omega) (show 0 < 6 by omega)) (cwV 2 hts gL_law_X4_ofServer rfl rfl rfl (by decide +kernel) ⟨Nat.le_of_ble_eq_true rfl, Nat.le_of_ble_eq_true rfl⟩) (vQ_pV hK.1 hE hF hZ hS hA hP hD) rfl rfl hl.1 rfl (lv_room (Nat.le_of_ble_eq_true rfl)) dL_law_1554 ⟨by show cells + 0 ≤ 600104; omega, by show slots + 0 ≤ 7301314; omega⟩) hP hD hS hA (fun r _ H locs hk hP hD hS => ?_)
  rw [ofs_0 (show 2 < 4 by omega) (show tn (μ 24 2) ≤ tn (μ 25 2) by omega)] at hk
  subst hk
  refine lv_iadd hx hb dL_law_1557 ?_
  refine vg_tp (nI (tn (μ 25 0) - tn (μ 24 0) + (tn (μ 25 1) - tn (μ 24 1)) + (tn (μ 25 2) - tn (μ 24 2)))) (nI_add _ _) ?_
  refine lv_if_ne (tgt := 1595) hx hb dL_law_1558 (by decide) (fun z9 => absurd ((nI_eq (a := tn (μ 25 0) - tn (μ 24 0) + (tn (μ 25 1) - tn (μ 24 1)) + (tn (μ 25 2) - tn (μ 24 2))) (b := 0) (by omega) (by omega)).mpr (by omega)) z9) (fun _ => ?_)
  refine lv_aload_n hx hb dL_law_1561 rfl (lv_at hl 1 rfl) ?_
  refine lv_iconst (v := 0) hx hb dL_law_1562 (by decide) ?_
  refine vg_tp (nI 0) (by decide) ?_
  refine lv_iload hx hb dL_law_1563 (lv_at hl 5 rfl) ?_
  refine vQ_r (va_runS (As := [.ref vo, .int (nI 0), .int (nI 6)]) (rest := []) ⟨hx, hb, hml, hown, hts⟩ (kD_isWell l hfl D cy H.size e0 mi vo nn nc μ w hK (show 0 < 4 by omega)) (va_cwS 3 hts gL_law_L_isWell rfl rfl rfl (by decide +kernel) ⟨Nat.le_of_ble_eq_true rfl, Nat.le_of_ble_eq_true rfl⟩) (vQ_pS hE hF hZ hS hA hP hD) rfl rfl hl.1 rfl (lv_room (Nat.le_of_ble_eq_true rfl)) dL_law_1565 ⟨by show cells + 0 ≤ 600104; omega, by show slots + 0 ≤ 7301314; omega⟩) hP hD hS hA (fun r _ H locs hk hP hD hS => ?_)
  subst hk
  refine lv_if_eq (tgt := 1595) hx hb dL_law_1568 (by decide) (fun z9 => absurd z9 (show ¬ (1 : Int32) = 0 by decide)) (fun _ => ?_)
  refine lv_aload_n hx hb dL_law_1571 rfl (lv_at hl 1 rfl) ?_
  refine lv_iconst (v := 1) hx hb dL_law_1572 (by decide) ?_
  refine vg_tp (nI 1) (by decide) ?_
  refine lv_iload hx hb dL_law_1573 (lv_at hl 5 rfl) ?_
  refine vQ_r (va_runS (As := [.ref vo, .int (nI 1), .int (nI 6)]) (rest := []) ⟨hx, hb, hml, hown, hts⟩ (kD_isWell l hfl D cy H.size e0 mi vo nn nc μ w hK (show 1 < 4 by omega)) (va_cwS 3 hts gL_law_L_isWell rfl rfl rfl (by decide +kernel) ⟨Nat.le_of_ble_eq_true rfl, Nat.le_of_ble_eq_true rfl⟩) (vQ_pS hE hF hZ hS hA hP hD) rfl rfl hl.1 rfl (lv_room (Nat.le_of_ble_eq_true rfl)) dL_law_1575 ⟨by show cells + 0 ≤ 600104; omega, by show slots + 0 ≤ 7301314; omega⟩) hP hD hS hA (fun r _ H locs hk hP hD hS => ?_)
  subst hk
  refine lv_if_eq (tgt := 1595) hx hb dL_law_1578 (by decide) (fun z9 => absurd z9 (show ¬ (1 : Int32) = 0 by decide)) (fun _ => ?_)
  refine lv_aload_n hx hb dL_law_1581 rfl (lv_at hl 1 rfl) ?_
  refine lv_iconst (v := 2) hx hb dL_law_1582 (by decide) ?_
  refine vg_tp (nI 2) (by decide) ?_
  refine lv_iload hx hb dL_law_1583 (lv_at hl 5 rfl) ?_
  refine vQ_r (va_runS (As := [.ref vo, .int (nI 2), .int (nI 6)]) (rest := []) ⟨hx, hb, hml, hown, hts⟩ (kD_isWell l hfl D cy H.size e0 mi vo nn nc μ w hK (show 2 < 4 by omega)) (va_cwS 3 hts gL_law_L_isWell rfl rfl rfl (by decide +kernel) ⟨Nat.le_of_ble_eq_true rfl, Nat.le_of_ble_eq_true rfl⟩) (vQ_pS hE hF hZ hS hA hP hD) rfl rfl hl.1 rfl (lv_room (Nat.le_of_ble_eq_true rfl)) dL_law_1585 ⟨by show cells + 0 ≤ 600104; omega, by show slots + 0 ≤ 7301314; omega⟩) hP hD hS hA (fun r _ H locs hk hP hD hS => ?_)
  subst hk
  refine lv_if_eq (tgt := 1595) hx hb dL_law_1588 (by decide) (fun z9 => absurd z9 (show ¬ (1 : Int32) = 0 by decide)) (fun _ => ?_)
  refine lv_iconst (v := 1) hx hb dL_law_1591 (by decide) ?_
  refine vg_tp (nI 1) (by decide) ?_
  refine lv_goto (tgt := 1596) hx hb dL_law_1592 (by decide) ?_
  refine vg_tp 1 rfl ?_
  exact kk H locs ls hS

set_option maxHeartbeats 4000000 in
set_option maxRecDepth 100000 in
theorem kF_all {p : Program} {l : Launch} {e : Env} {s : State} {m : MethodId} {below : List Frame} {meth : Method} {c : Code} {b L : Nat} {xs : Nat → Int32} {A0 : Nat → Prop} {D : va_G} {cy : Nat → ClassId} {e0 mi vo ha ra ga : Nat} {hf : Nat → Int32} {Q : State → Prop} (hLE : LE p l s m c b L xs A0 D cy e0 mi) {nn nc : Nat} {af gf : Nat → Int32} {μ : Nat → Nat → Int32} {w : va_W} {H : Heap} {locs : List Loc} {ls : Array Slot} (hn : nn ≤ 20) (hc : nc ≤ 60) (hLW : LW s A0 D cy e0 vo ha ra ga hf af gf μ nn nc w H locs) (hl : lv_has ls 23 [(0, .ref b), (1, .ref vo), (2, .ref ha), (3, .ref ra), (4, .ref ga), (5, .int (nI 6)), (6, .int (nI nn)), (7, .int (nI 1)), (8, .int (nI 60))]) (kk : ∀ (H' : Heap) (locs' : List Loc) (ls' : Array Slot) (cells' slots' : Nat), va_S A0 s.heap H' locs' → cells' ≤ 600104 → slots' ≤ 7301314 → W p l e room_1 s m #[Value.ref b] below meth c H' locs' cells' slots' Q (F0 m 1596 ls' [.int 1])) : W p l e room_1 s m #[Value.ref b] below meth c H locs 2000 1500000 Q (F0 m 1378 ls []) := by
  obtain ⟨⟨hx, hb, hml, hown, hts⟩, -, -, -, -⟩ := id hLE
  refine lv_iconst (v := 0) hx hb dL_law_1378 (by decide) ?_
  refine vg_tp (nI 0) (by decide) ?_
  refine lv_istore (lv' := [(8, .int (nI 0)), (0, .ref b), (1, .ref vo), (2, .ref ha), (3, .ref ra), (4, .ref ga), (5, .int (nI 6)), (6, .int (nI nn)), (7, .int (nI 1))]) hx hb dL_law_1379 hl (by decide) rfl (fun ls hl => ?_)
  refine kF_1 hLE hn hc (fun μ1 w1 H1 locs1 ls1 cells1 slots1 hLW1 hi1 hcb1 hsb1 hl1 => ?_) 3 0 μ w H locs ls 2000 1500000 (by omega) hLW (fun i hi => absurd hi (Nat.not_lt_zero _)) (by omega) (by omega) (lv_sub hl [1, 2, 3, 4, 5, 6, 7, 8, 0] rfl)
  refine lv_iconst (v := 0) hx hb dL_law_1427 (by decide) ?_
  refine vg_tp (nI 0) (by decide) ?_
  refine lv_istore (lv' := [(8, .int (nI 0)), (0, .ref b), (1, .ref vo), (2, .ref ha), (3, .ref ra), (4, .ref ga), (5, .int (nI 6)), (6, .int (nI nn)), (7, .int (nI 1))]) hx hb dL_law_1428 hl1 (by decide) rfl (fun ls hl => ?_)
  refine kF_2 hLE hn hc (fun μ2 w2 H2 locs2 ls2 cells2 slots2 hLW2 hi2 hcb2 hsb2 hl2 => ?_) 3 0 μ1 w1 H1 locs1 ls cells1 slots1 (by omega) hLW1 ⟨hi1, fun i hi => absurd hi (Nat.not_lt_zero _)⟩ hcb1 hsb1 (lv_sub hl [1, 2, 3, 4, 5, 6, 7, 8, 0] rfl)
  refine lv_iconst (v := 0) hx hb dL_law_1476 (by decide) ?_
  refine vg_tp (nI 0) (by decide) ?_
  refine lv_istore (lv' := [(8, .int (nI 0)), (0, .ref b), (1, .ref vo), (2, .ref ha), (3, .ref ra), (4, .ref ga), (5, .int (nI 6)), (6, .int (nI nn)), (7, .int (nI 1))]) hx hb dL_law_1477 hl2 (by decide) rfl (fun ls hl => ?_)
  obtain ⟨bT, bW⟩ := w_le hLW2.2.2.2.1 hn hc
  exact kF_posts hLE hn hc (cells := cells2) (slots := slots2) (by omega) (by omega) (fun w3 H3 locs3 ls3 hLW3 hl3 => kF_last hLE hn hc (by omega) (by omega) hi2.2 hLW3 hl3 (fun H4 locs4 ls4 hS4 => kk H4 locs4 ls4 cells2 slots2 hS4 (by omega) (by omega))) nn 0 w2 H2 locs2 ls (by omega) hLW2 (lv_sub hl [1, 2, 3, 4, 5, 6, 7, 8, 0] rfl)
