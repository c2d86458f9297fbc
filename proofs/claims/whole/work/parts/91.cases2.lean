/-! the law's cases -/
set_option maxHeartbeats 4000000 in
set_option maxRecDepth 100000 in
theorem kC_move {p : Program} {l : Launch} {e : Env} {s : State} {m : MethodId} {below : List Frame} {meth : Method} {c : Code} {b L : Nat} {xs : Nat → Int32} {A0 : Nat → Prop} {D : va_G} {cy : Nat → ClassId} {e0 mi vo mo oa n cells slots : Nat} {ad : Nat → Nat} {μ : Nat → Nat → Int32} {f : Nat → Int64} {w : va_W} {H : Heap} {locs : List Loc} {ls : Array Slot} {Q : State → Prop} (hLE : LE p l s m c b L xs A0 D cy e0 mi) (hLW : LW s A0 D cy e0 vo mo oa n ad μ f w H locs) (hn : n < 512) (h5 : 5 * n + 5 ≤ L) (hl : lv_has ls 7 [(0, .ref b), (1, .ref vo), (2, .ref mo), (3, .ref oa), (4, .int (nI (5 * n)))]) (hc : cells + 12 ≤ room_1.cells) (hs : slots + 12351 ≤ room_1.slots) (kk : ∀ (μ' : Nat → Nat → Int32) (f' : Nat → Int64) (w' : va_W) (H' : Heap) (locs' : List Loc) (ls' : Array Slot), LW s A0 D cy e0 vo mo oa (n + 1) ad μ' f' w' H' locs' → lv_has ls' 7 [(0, .ref b), (1, .ref vo), (2, .ref mo), (3, .ref oa), (4, .int (nI (5 * n)))] → W p l e room_1 s m #[Value.ref b] below meth c H' locs' (cells + 12) (slots + 12351) Q (F0 m 1214 ls' [])) : W p l e room_1 s m #[Value.ref b] below meth c H locs cells slots Q (F0 m 472 ls []) := by
  obtain ⟨⟨hx, hb, hml, hown, hts⟩, ⟨hX, hbl, hL, hfl, hA, hbA⟩, hE, hF, hZ, hN⟩ := hLE
  obtain ⟨hP, hD, hS, hI⟩ := hLW
  obtain ⟨f1, f2, f3, f4, f5, f6⟩ := CI_ref hI hn
  obtain ⟨a1, e1⟩ : ∃ y, y = xs (nI (5 * n + 1)).toNatClampNeg := ⟨_, rfl⟩
  obtain ⟨a2, e2⟩ : ∃ y, y = xs (nI (5 * n + 2)).toNatClampNeg := ⟨_, rfl⟩
  refine lv_aload_n hx hb dL_law_472 rfl (lv_at hl 1 rfl) ?_
  refine lv_aload_n hx hb dL_law_473 rfl (lv_at hl 0 rfl) ?_
  refine lv_iload hx hb dL_law_474 (lv_at hl 4 rfl) ?_
  refine lv_iconst (v := 1) hx hb dL_law_476 (by decide) ?_
  refine lv_iadd hx hb dL_law_477 ?_
  refine vg_tp (nI (5 * n + 1)) (nI_add _ 1) ?_
  refine va_sld hx hb hX hbl hbA hS (vp_in_nI (by omega) (by omega)) dL_law_478 ?_
  refine vg_tp a1 e1.symm ?_
  refine lv_aload_n hx hb dL_law_479 rfl (lv_at hl 0 rfl) ?_
  refine lv_iload hx hb dL_law_480 (lv_at hl 4 rfl) ?_
  refine lv_iconst (v := 2) hx hb dL_law_482 (by decide) ?_
  refine lv_iadd hx hb dL_law_483 ?_
  refine vg_tp (nI (5 * n + 2)) (nI_add _ 2) ?_
  refine va_sld hx hb hX hbl hbA hS (vp_in_nI (by omega) (by omega)) dL_law_484 ?_
  refine vg_tp a2 e2.symm ?_
  refine lv_aload_n hx hb dL_law_485 rfl (lv_at hl 3 rfl) ?_
  have hp9 : (wJ (uOut cy oa f) (wJ (Mw cy mo ad μ) w) : va_W).Perm (wJ (wJ (uOut cy oa f) w) (Mw cy mo ad μ)) := vp_pc (fun n9 hn9 h90 => by simp only [wJ, hn9, h90, Nat.add_zero, Nat.zero_add] <;> ac_rfl)
  refine vj_calli (vx_runSW (As := [.ref vo, .int a1, .int a2, .ref oa]) (rest := []) ⟨hx, hb, hml, hown, hts⟩ (kM_move l hfl D cy H.size e0 mi vo n μ w a1 a2 oa f hI hn) (vx_cwSW 4 hts gL_law_L_move rfl rfl rfl (by decide +kernel) ⟨Nat.le_of_ble_eq_true rfl, Nat.le_of_ble_eq_true rfl⟩) (vk_P.preS hE hF hZ hN hS (vj_free (vd_perm hp9 hD) hS hA) (vp_app.mp (vp_perm hP hp9)).1 (vd_app.mp (vd_perm hp9 hD)).1) rfl rfl hl.1 rfl (lv_room (Nat.le_of_ble_eq_true rfl)) dL_law_486 ⟨hc, hs⟩) hP hD hS hA hp9 (fun r u H locs hk hP hD hS => ?_)
  have hp8 : (wJ (wJ (uOut cy oa u.1) u.2) (Mw cy mo ad μ) : va_W).Perm (wJ (Mw cy mo ad μ) (wJ (uOut cy oa u.1) u.2)) := vp_pc (fun n9 hn9 h90 => by simp only [wJ, hn9, h90, Nat.add_zero, Nat.zero_add] <;> ac_rfl)
  have hP : va_P D vwCl (wJ (Mw cy mo ad μ) (wJ (uOut cy oa u.1) u.2)) H := vp_perm hP hp8
  have hD : va_D A0 (wJ (Mw cy mo ad μ) (wJ (uOut cy oa u.1) u.2)) := vd_perm hp8 hD
  refine lv_istore (lv' := [(5, .int r), (0, .ref b), (1, .ref vo), (2, .ref mo), (3, .ref oa), (4, .int (nI (5 * n)))]) hx hb dL_law_489 hl (by decide) rfl (fun ls hl => ?_)
  refine lv_aload_n hx hb dL_law_491 rfl (lv_at hl 3 rfl) ?_
  refine lv_aload_n hx hb dL_law_492 rfl (lv_at hl 1 rfl) ?_
  refine lv_iload hx hb dL_law_493 (lv_at hl 5 rfl) ?_
  refine lv_iconst (v := 1) hx hb dL_law_495 (by decide) ?_
  refine lv_iadd hx hb dL_law_496 ?_
  refine vg_tp (nI (5 * n + 1)) (nI_add _ 1) ?_
  refine va_sld hx hb hX hbl hbA hS (vp_in_nI (by omega) (by omega)) dL_law_497 ?_
  refine vg_tp a1 e1.symm ?_
  refine lv_aload_n hx hb dL_law_498 rfl (lv_at hl 1 rfl) ?_
  refine lv_iload hx hb dL_law_499 (lv_at hl 5 rfl) ?_
  refine lv_iconst (v := 2) hx hb dL_law_501 (by decide) ?_
  refine lv_iadd hx hb dL_law_502 ?_
  refine vg_tp (nI (5 * n + 2)) (nI_add _ 2) ?_
  refine va_sld hx hb hX hbl hbA hS (vp_in_nI (by omega) (by omega)) dL_law_503 ?_
  refine vg_tp a2 e2.symm ?_
  refine vj_calli (va_runV (As := [.int a1, .int a2]) (rest := []) ⟨hx, hb, hml, hown, hts⟩ (kX5_move l D cy H.size mo ad μ a1 a2 f1 f2 f3) (cwV 2 hts gL_law_X5_move rfl rfl rfl (by decide +kernel) ⟨Nat.le_of_ble_eq_true rfl, Nat.le_of_ble_eq_true rfl⟩) (vg_P.preV hE hP 0 rfl rfl (vp_app.mp hP).1 (vd_app.mp hD).1) rfl rfl hl.1 rfl (lv_room (Nat.le_of_ble_eq_true rfl)) dL_law_504 ⟨hc, hs⟩) hP hD hS hA (List.Perm.refl _) (fun r2 _ H locs hk2 hP hD hS => ?_)
  have hP : va_P D vwCl (wJ (Mw cy mo ad (mMve μ a1 a2)) (wJ (uOut cy oa u.1) u.2)) H := hP
  have hD : va_D A0 (wJ (Mw cy mo ad (mMve μ a1 a2)) (wJ (uOut cy oa u.1) u.2)) := hD
  refine lv_istore (lv' := [(6, .int r2), (5, .int r), (0, .ref b), (1, .ref vo), (2, .ref mo), (3, .ref oa), (4, .int (nI (5 * n)))]) hx hb dL_law_507 hl (by decide) rfl (fun ls hl => ?_)
  refine lv_aload_n hx hb dL_law_509 rfl (lv_at hl 4 rfl) ?_
  refine vj_calli (va_runV (As := []) (rest := []) ⟨hx, hb, hml, hown, hts⟩ (kX5_thrown l D cy H.size mo ad (mMve μ a1 a2)) (cwV 0 hts gL_law_X5_thrown rfl rfl rfl (by decide +kernel) ⟨Nat.le_of_ble_eq_true rfl, Nat.le_of_ble_eq_true rfl⟩) (vg_P.preV hE hP 0 rfl rfl (vp_app.mp hP).1 (vd_app.mp hD).1) rfl rfl hl.1 rfl (lv_room (Nat.le_of_ble_eq_true rfl)) dL_law_510 ⟨hc, hs⟩) hP hD hS hA (List.Perm.refl _) (fun r3 _ H locs hk3 hP hD hS => ?_)
  have hp6 : (wJ (Mw cy mo ad (mMve μ a1 a2)) (wJ (uOut cy oa u.1) u.2) : va_W).Perm (wJ (uOut cy oa u.1) (wJ (Mw cy mo ad (mMve μ a1 a2)) u.2)) := vp_pc (fun n9 hn9 h90 => by simp only [wJ, hn9, h90, Nat.add_zero, Nat.zero_add] <;> ac_rfl)
  have hP : va_P D vwCl (wJ (uOut cy oa u.1) (wJ (Mw cy mo ad (mMve μ a1 a2)) u.2)) H := vp_perm hP hp6
  have hD : va_D A0 (wJ (uOut cy oa u.1) (wJ (Mw cy mo ad (mMve μ a1 a2)) u.2)) := vd_perm hp6 hD
  refine lv_iload hx hb dL_law_513 (lv_at hl 1 rfl) ?_
  refine lv_icmp_eq (tgt := 520) hx hb dL_law_515 (by decide) (fun _ => ?_) (fun z => absurd (hk3.trans hk.1.symm) z)
  refine lv_iload hx hb dL_law_520 (lv_at hl 1 rfl) ?_
  refine lv_if_ne (tgt := 537) hx hb dL_law_522 (by decide) (fun _ => ?_) (fun hr0 => ?_)
  · refine lv_goto (tgt := 1214) hx hb dL_law_537 (by decide) ?_
    exact kk (mMve μ a1 a2) u.1 u.2 H locs ls ⟨hP, hD, hS, hk.2.2.2⟩ (lv_sub hl [2, 3, 4, 5, 6] rfl)
  · refine lv_aload_n hx hb dL_law_525 rfl (lv_at hl 5 rfl) ?_
    refine lv_iconst (v := 0) hx hb dL_law_526 (by decide) ?_
    refine vg_tp (nI 0) rfl ?_
    refine vg_lald hx hb hE.1 hP 0 1 rfl rfl (f := u.1) (j := 0) (by decide) (by decide) dL_law_527 ?_
    refine vg_tpl (r2.toInt64) (by rw [hk.2.1 hr0, hk2]; exact if_pos rfl) ?_
    refine lv_iload hx hb dL_law_528 (lv_at hl 0 rfl) ?_
    refine lv_i2l (v := r2.toInt64) hx hb dL_law_530 rfl ?_
    refine W.lcmp hx hb dL_law_531 ?_
    refine vg_tp 0 (lg_cmp_0 _) ?_
    refine lv_if_eq (tgt := 537) hx hb dL_law_532 (by decide) (fun _ => ?_) (fun z => absurd rfl z)
    refine lv_goto (tgt := 1214) hx hb dL_law_537 (by decide) ?_
    exact kk (mMve μ a1 a2) u.1 u.2 H locs ls ⟨hP, hD, hS, hk.2.2.2⟩ (lv_sub hl [2, 3, 4, 5, 6] rfl)

set_option maxHeartbeats 4000000 in
set_option maxRecDepth 100000 in
theorem kC_post {p : Program} {l : Launch} {e : Env} {s : State} {m : MethodId} {below : List Frame} {meth : Method} {c : Code} {b L : Nat} {xs : Nat → Int32} {A0 : Nat → Prop} {D : va_G} {cy : Nat → ClassId} {e0 mi vo mo oa n cells slots : Nat} {ad : Nat → Nat} {μ : Nat → Nat → Int32} {f : Nat → Int64} {w : va_W} {H : Heap} {locs : List Loc} {ls : Array Slot} {Q : State → Prop} (hLE : LE p l s m c b L xs A0 D cy e0 mi) (hLW : LW s A0 D cy e0 vo mo oa n ad μ f w H locs) (hn : n < 512) (h5 : 5 * n + 5 ≤ L) (hl : lv_has ls 7 [(0, .ref b), (1, .ref vo), (2, .ref mo), (3, .ref oa), (4, .int (nI (5 * n)))]) (hc : cells + 12 ≤ room_1.cells) (hs : slots + 12351 ≤ room_1.slots) (kk : ∀ (μ' : Nat → Nat → Int32) (f' : Nat → Int64) (w' : va_W) (H' : Heap) (locs' : List Loc) (ls' : Array Slot), LW s A0 D cy e0 vo mo oa (n + 1) ad μ' f' w' H' locs' → lv_has ls' 7 [(0, .ref b), (1, .ref vo), (2, .ref mo), (3, .ref oa), (4, .int (nI (5 * n)))] → W p l e room_1 s m #[Value.ref b] below meth c H' locs' (cells + 12) (slots + 12351) Q (F0 m 1214 ls' [])) : W p l e room_1 s m #[Value.ref b] below meth c H locs cells slots Q (F0 m 540 ls []) := by
  obtain ⟨⟨hx, hb, hml, hown, hts⟩, ⟨hX, hbl, hL, hfl, hA, hbA⟩, hE, hF, hZ, hN⟩ := hLE
  obtain ⟨hP, hD, hS, hI⟩ := hLW
  obtain ⟨f1, f2, f3, f4, f5, f6⟩ := CI_ref hI hn
  obtain ⟨a1, e1⟩ : ∃ y, y = xs (nI (5 * n + 1)).toNatClampNeg := ⟨_, rfl⟩
  obtain ⟨a2, e2⟩ : ∃ y, y = xs (nI (5 * n + 2)).toNatClampNeg := ⟨_, rfl⟩
  obtain ⟨a3, e3⟩ : ∃ y, y = xs (nI (5 * n + 3)).toNatClampNeg := ⟨_, rfl⟩
  obtain ⟨a4, e4⟩ : ∃ y, y = xs (nI (5 * n + 4)).toNatClampNeg := ⟨_, rfl⟩
  refine lv_aload_n hx hb dL_law_540 rfl (lv_at hl 1 rfl) ?_
  refine lv_aload_n hx hb dL_law_541 rfl (lv_at hl 0 rfl) ?_
  refine lv_iload hx hb dL_law_542 (lv_at hl 4 rfl) ?_
  refine lv_iconst (v := 1) hx hb dL_law_544 (by decide) ?_
  refine lv_iadd hx hb dL_law_545 ?_
  refine vg_tp (nI (5 * n + 1)) (nI_add _ 1) ?_
  refine va_sld hx hb hX hbl hbA hS (vp_in_nI (by omega) (by omega)) dL_law_546 ?_
  refine vg_tp a1 e1.symm ?_
  refine lv_aload_n hx hb dL_law_547 rfl (lv_at hl 0 rfl) ?_
  refine lv_iload hx hb dL_law_548 (lv_at hl 4 rfl) ?_
  refine lv_iconst (v := 2) hx hb dL_law_550 (by decide) ?_
  refine lv_iadd hx hb dL_law_551 ?_
  refine vg_tp (nI (5 * n + 2)) (nI_add _ 2) ?_
  refine va_sld hx hb hX hbl hbA hS (vp_in_nI (by omega) (by omega)) dL_law_552 ?_
  refine vg_tp a2 e2.symm ?_
  refine lv_aload_n hx hb dL_law_553 rfl (lv_at hl 0 rfl) ?_
  refine lv_iload hx hb dL_law_554 (lv_at hl 4 rfl) ?_
  refine lv_iconst (v := 3) hx hb dL_law_556 (by decide) ?_
  refine lv_iadd hx hb dL_law_557 ?_
  refine vg_tp (nI (5 * n + 3)) (nI_add _ 3) ?_
  refine va_sld hx hb hX hbl hbA hS (vp_in_nI (by omega) (by omega)) dL_law_558 ?_
  refine vg_tp a3 e3.symm ?_
  refine lv_aload_n hx hb dL_law_559 rfl (lv_at hl 0 rfl) ?_
  refine lv_iload hx hb dL_law_560 (lv_at hl 4 rfl) ?_
  refine lv_iconst (v := 4) hx hb dL_law_562 (by decide) ?_
  refine lv_iadd hx hb dL_law_563 ?_
  refine vg_tp (nI (5 * n + 4)) (nI_add _ 4) ?_
  refine va_sld hx hb hX hbl hbA hS (vp_in_nI (by omega) (by omega)) dL_law_564 ?_
  refine vg_tp a4 e4.symm ?_
  refine lv_aload_n hx hb dL_law_565 rfl (lv_at hl 3 rfl) ?_
  have hp9 : (wJ (uOut cy oa f) (wJ (Mw cy mo ad μ) w) : va_W).Perm (wJ (wJ (uOut cy oa f) w) (Mw cy mo ad μ)) := vp_pc (fun n9 hn9 h90 => by simp only [wJ, hn9, h90, Nat.add_zero, Nat.zero_add] <;> ac_rfl)
  refine vj_calli (vx_runSW (As := [.ref vo, .int a1, .int a2, .int a3, .int a4, .ref oa]) (rest := []) ⟨hx, hb, hml, hown, hts⟩ (kM_post l hfl D cy H.size e0 mi vo n μ w a1 a2 a3 a4 oa f hI hn) (vx_cwSW 6 hts gL_law_L_post rfl rfl rfl (by decide +kernel) ⟨Nat.le_of_ble_eq_true rfl, Nat.le_of_ble_eq_true rfl⟩) (vk_P.preS hE hF hZ hN hS (vj_free (vd_perm hp9 hD) hS hA) (vp_app.mp (vp_perm hP hp9)).1 (vd_app.mp (vd_perm hp9 hD)).1) rfl rfl hl.1 rfl (lv_room (Nat.le_of_ble_eq_true rfl)) dL_law_566 ⟨hc, hs⟩) hP hD hS hA hp9 (fun r u H locs hk hP hD hS => ?_)
  have hp8 : (wJ (wJ (uOut cy oa u.1) u.2) (Mw cy mo ad μ) : va_W).Perm (wJ (Mw cy mo ad μ) (wJ (uOut cy oa u.1) u.2)) := vp_pc (fun n9 hn9 h90 => by simp only [wJ, hn9, h90, Nat.add_zero, Nat.zero_add] <;> ac_rfl)
  have hP : va_P D vwCl (wJ (Mw cy mo ad μ) (wJ (uOut cy oa u.1) u.2)) H := vp_perm hP hp8
  have hD : va_D A0 (wJ (Mw cy mo ad μ) (wJ (uOut cy oa u.1) u.2)) := vd_perm hp8 hD
  refine lv_istore (lv' := [(5, .int r), (0, .ref b), (1, .ref vo), (2, .ref mo), (3, .ref oa), (4, .int (nI (5 * n)))]) hx hb dL_law_569 hl (by decide) rfl (fun ls hl => ?_)
  refine lv_aload_n hx hb dL_law_571 rfl (lv_at hl 3 rfl) ?_
  refine lv_aload_n hx hb dL_law_572 rfl (lv_at hl 1 rfl) ?_
  refine lv_iload hx hb dL_law_573 (lv_at hl 5 rfl) ?_
  refine lv_iconst (v := 1) hx hb dL_law_575 (by decide) ?_
  refine lv_iadd hx hb dL_law_576 ?_
  refine vg_tp (nI (5 * n + 1)) (nI_add _ 1) ?_
  refine va_sld hx hb hX hbl hbA hS (vp_in_nI (by omega) (by omega)) dL_law_577 ?_
  refine vg_tp a1 e1.symm ?_
  refine lv_aload_n hx hb dL_law_578 rfl (lv_at hl 1 rfl) ?_
  refine lv_iload hx hb dL_law_579 (lv_at hl 5 rfl) ?_
  refine lv_iconst (v := 2) hx hb dL_law_581 (by decide) ?_
  refine lv_iadd hx hb dL_law_582 ?_
  refine vg_tp (nI (5 * n + 2)) (nI_add _ 2) ?_
  refine va_sld hx hb hX hbl hbA hS (vp_in_nI (by omega) (by omega)) dL_law_583 ?_
  refine vg_tp a2 e2.symm ?_
  refine lv_aload_n hx hb dL_law_584 rfl (lv_at hl 1 rfl) ?_
  refine lv_iload hx hb dL_law_585 (lv_at hl 5 rfl) ?_
  refine lv_iconst (v := 3) hx hb dL_law_587 (by decide) ?_
  refine lv_iadd hx hb dL_law_588 ?_
  refine vg_tp (nI (5 * n + 3)) (nI_add _ 3) ?_
  refine va_sld hx hb hX hbl hbA hS (vp_in_nI (by omega) (by omega)) dL_law_589 ?_
  refine vg_tp a3 e3.symm ?_
  refine lv_aload_n hx hb dL_law_590 rfl (lv_at hl 1 rfl) ?_
  refine lv_iload hx hb dL_law_591 (lv_at hl 5 rfl) ?_
  refine lv_iconst (v := 4) hx hb dL_law_593 (by decide) ?_
  refine lv_iadd hx hb dL_law_594 ?_
  refine vg_tp (nI (5 * n + 4)) (nI_add _ 4) ?_
  refine va_sld hx hb hX hbl hbA hS (vp_in_nI (by omega) (by omega)) dL_law_595 ?_
  refine vg_tp a4 e4.symm ?_
  refine vj_calli (va_runV (As := [.int a1, .int a2, .int a3, .int a4]) (rest := []) ⟨hx, hb, hml, hown, hts⟩ (kX5_post l D cy H.size mo ad μ a1 a2 a3 a4 f1 f2 f3 f4) (cwV 4 hts gL_law_X5_post rfl rfl rfl (by decide +kernel) ⟨Nat.le_of_ble_eq_true rfl, Nat.le_of_ble_eq_true rfl⟩) (vg_P.preV hE hP 0 rfl rfl (vp_app.mp hP).1 (vd_app.mp hD).1) rfl rfl hl.1 rfl (lv_room (Nat.le_of_ble_eq_true rfl)) dL_law_596 ⟨hc, hs⟩) hP hD hS hA (List.Perm.refl _) (fun r2 _ H locs hk2 hP hD hS => ?_)
  have hP : va_P D vwCl (wJ (Mw cy mo ad (mPos μ a1 a2 a3 a4)) (wJ (uOut cy oa u.1) u.2)) H := hP
  have hD : va_D A0 (wJ (Mw cy mo ad (mPos μ a1 a2 a3 a4)) (wJ (uOut cy oa u.1) u.2)) := hD
  refine lv_istore (lv' := [(6, .int r2), (5, .int r), (0, .ref b), (1, .ref vo), (2, .ref mo), (3, .ref oa), (4, .int (nI (5 * n)))]) hx hb dL_law_599 hl (by decide) rfl (fun ls hl => ?_)
  refine lv_aload_n hx hb dL_law_601 rfl (lv_at hl 4 rfl) ?_
  refine vj_calli (va_runV (As := []) (rest := []) ⟨hx, hb, hml, hown, hts⟩ (kX5_thrown l D cy H.size mo ad (mPos μ a1 a2 a3 a4)) (cwV 0 hts gL_law_X5_thrown rfl rfl rfl (by decide +kernel) ⟨Nat.le_of_ble_eq_true rfl, Nat.le_of_ble_eq_true rfl⟩) (vg_P.preV hE hP 0 rfl rfl (vp_app.mp hP).1 (vd_app.mp hD).1) rfl rfl hl.1 rfl (lv_room (Nat.le_of_ble_eq_true rfl)) dL_law_602 ⟨hc, hs⟩) hP hD hS hA (List.Perm.refl _) (fun r3 _ H locs hk3 hP hD hS => ?_)
  have hp6 : (wJ (Mw cy mo ad (mPos μ a1 a2 a3 a4)) (wJ (uOut cy oa u.1) u.2) : va_W).Perm (wJ (uOut cy oa u.1) (wJ (Mw cy mo ad (mPos μ a1 a2 a3 a4)) u.2)) := vp_pc (fun n9 hn9 h90 => by simp only [wJ, hn9, h90, Nat.add_zero, Nat.zero_add] <;> ac_rfl)
  have hP : va_P D vwCl (wJ (uOut cy oa u.1) (wJ (Mw cy mo ad (mPos μ a1 a2 a3 a4)) u.2)) H := vp_perm hP hp6
  have hD : va_D A0 (wJ (uOut cy oa u.1) (wJ (Mw cy mo ad (mPos μ a1 a2 a3 a4)) u.2)) := vd_perm hp6 hD
  refine lv_iload hx hb dL_law_605 (lv_at hl 1 rfl) ?_
  refine lv_icmp_eq (tgt := 612) hx hb dL_law_607 (by decide) (fun _ => ?_) (fun z => absurd (hk3.trans hk.1.symm) z)
  refine lv_iload hx hb dL_law_612 (lv_at hl 1 rfl) ?_
  refine lv_if_ne (tgt := 629) hx hb dL_law_614 (by decide) (fun _ => ?_) (fun hr0 => ?_)
  · refine lv_goto (tgt := 1214) hx hb dL_law_629 (by decide) ?_
    exact kk (mPos μ a1 a2 a3 a4) u.1 u.2 H locs ls ⟨hP, hD, hS, hk.2.2.2⟩ (lv_sub hl [2, 3, 4, 5, 6] rfl)
  · refine lv_aload_n hx hb dL_law_617 rfl (lv_at hl 5 rfl) ?_
    refine lv_iconst (v := 0) hx hb dL_law_618 (by decide) ?_
    refine vg_tp (nI 0) rfl ?_
    refine vg_lald hx hb hE.1 hP 0 1 rfl rfl (f := u.1) (j := 0) (by decide) (by decide) dL_law_619 ?_
    refine vg_tpl (r2.toInt64) (by rw [hk.2.1 hr0, hk2]; exact if_pos rfl) ?_
    refine lv_iload hx hb dL_law_620 (lv_at hl 0 rfl) ?_
    refine lv_i2l (v := r2.toInt64) hx hb dL_law_622 rfl ?_
    refine W.lcmp hx hb dL_law_623 ?_
    refine vg_tp 0 (lg_cmp_0 _) ?_
    refine lv_if_eq (tgt := 629) hx hb dL_law_624 (by decide) (fun _ => ?_) (fun z => absurd rfl z)
    refine lv_goto (tgt := 1214) hx hb dL_law_629 (by decide) ?_
    exact kk (mPos μ a1 a2 a3 a4) u.1 u.2 H locs ls ⟨hP, hD, hS, hk.2.2.2⟩ (lv_sub hl [2, 3, 4, 5, 6] rfl)

set_option maxHeartbeats 4000000 in
set_option maxRecDepth 100000 in
theorem kC_delete {p : Program} {l : Launch} {e : Env} {s : State} {m : MethodId} {below : List Frame} {meth : Method} {c : Code} {b L : Nat} {xs : Nat → Int32} {A0 : Nat → Prop} {D : va_G} {cy : Nat → ClassId} {e0 mi vo mo oa n cells slots : Nat} {ad : Nat → Nat} {μ : Nat → Nat → Int32} {f : Nat → Int64} {w : va_W} {H : Heap} {locs : List Loc} {ls : Array Slot} {Q : State → Prop} (hLE : LE p l s m c b L xs A0 D cy e0 mi) (hLW : LW s A0 D cy e0 vo mo oa n ad μ f w H locs) (hn : n < 512) (h5 : 5 * n + 5 ≤ L) (hl : lv_has ls 7 [(0, .ref b), (1, .ref vo), (2, .ref mo), (3, .ref oa), (4, .int (nI (5 * n)))]) (hc : cells + 12 ≤ room_1.cells) (hs : slots + 12351 ≤ room_1.slots) (kk : ∀ (μ' : Nat → Nat → Int32) (f' : Nat → Int64) (w' : va_W) (H' : Heap) (locs' : List Loc) (ls' : Array Slot), LW s A0 D cy e0 vo mo oa (n + 1) ad μ' f' w' H' locs' → lv_has ls' 7 [(0, .ref b), (1, .ref vo), (2, .ref mo), (3, .ref oa), (4, .int (nI (5 * n)))] → W p l e room_1 s m #[Value.ref b] below meth c H' locs' (cells + 12) (slots + 12351) Q (F0 m 1214 ls' [])) : W p l e room_1 s m #[Value.ref b] below meth c H locs cells slots Q (F0 m 632 ls []) := by
  obtain ⟨⟨hx, hb, hml, hown, hts⟩, ⟨hX, hbl, hL, hfl, hA, hbA⟩, hE, hF, hZ, hN⟩ := hLE
  obtain ⟨hP, hD, hS, hI⟩ := hLW
  obtain ⟨f1, f2, f3, f4, f5, f6⟩ := CI_ref hI hn
  obtain ⟨a1, e1⟩ : ∃ y, y = xs (nI (5 * n + 1)).toNatClampNeg := ⟨_, rfl⟩
  refine lv_aload_n hx hb dL_law_632 rfl (lv_at hl 1 rfl) ?_
  refine lv_aload_n hx hb dL_law_633 rfl (lv_at hl 0 rfl) ?_
  refine lv_iload hx hb dL_law_634 (lv_at hl 4 rfl) ?_
  refine lv_iconst (v := 1) hx hb dL_law_636 (by decide) ?_
  refine lv_iadd hx hb dL_law_637 ?_
  refine vg_tp (nI (5 * n + 1)) (nI_add _ 1) ?_
  refine va_sld hx hb hX hbl hbA hS (vp_in_nI (by omega) (by omega)) dL_law_638 ?_
  refine vg_tp a1 e1.symm ?_
  refine lv_aload_n hx hb dL_law_639 rfl (lv_at hl 3 rfl) ?_
  have hp9 : (wJ (uOut cy oa f) (wJ (Mw cy mo ad μ) w) : va_W).Perm (wJ (wJ (uOut cy oa f) w) (Mw cy mo ad μ)) := vp_pc (fun n9 hn9 h90 => by simp only [wJ, hn9, h90, Nat.add_zero, Nat.zero_add] <;> ac_rfl)
  refine vj_calli (vx_runSW (As := [.ref vo, .int a1, .ref oa]) (rest := []) ⟨hx, hb, hml, hown, hts⟩ (kM_delete l hfl D cy H.size e0 mi vo n μ w a1 oa f hI hn) (vx_cwSW 3 hts gL_law_L_delete rfl rfl rfl (by decide +kernel) ⟨Nat.le_of_ble_eq_true rfl, Nat.le_of_ble_eq_true rfl⟩) (vk_P.preS hE hF hZ hN hS (vj_free (vd_perm hp9 hD) hS hA) (vp_app.mp (vp_perm hP hp9)).1 (vd_app.mp (vd_perm hp9 hD)).1) rfl rfl hl.1 rfl (lv_room (Nat.le_of_ble_eq_true rfl)) dL_law_640 ⟨hc, hs⟩) hP hD hS hA hp9 (fun r u H locs hk hP hD hS => ?_)
  have hp8 : (wJ (wJ (uOut cy oa u.1) u.2) (Mw cy mo ad μ) : va_W).Perm (wJ (Mw cy mo ad μ) (wJ (uOut cy oa u.1) u.2)) := vp_pc (fun n9 hn9 h90 => by simp only [wJ, hn9, h90, Nat.add_zero, Nat.zero_add] <;> ac_rfl)
  have hP : va_P D vwCl (wJ (Mw cy mo ad μ) (wJ (uOut cy oa u.1) u.2)) H := vp_perm hP hp8
  have hD : va_D A0 (wJ (Mw cy mo ad μ) (wJ (uOut cy oa u.1) u.2)) := vd_perm hp8 hD
  refine lv_istore (lv' := [(5, .int r), (0, .ref b), (1, .ref vo), (2, .ref mo), (3, .ref oa), (4, .int (nI (5 * n)))]) hx hb dL_law_643 hl (by decide) rfl (fun ls hl => ?_)
  refine lv_aload_n hx hb dL_law_645 rfl (lv_at hl 3 rfl) ?_
  refine lv_aload_n hx hb dL_law_646 rfl (lv_at hl 1 rfl) ?_
  refine lv_iload hx hb dL_law_647 (lv_at hl 5 rfl) ?_
  refine lv_iconst (v := 1) hx hb dL_law_649 (by decide) ?_
  refine lv_iadd hx hb dL_law_650 ?_
  refine vg_tp (nI (5 * n + 1)) (nI_add _ 1) ?_
  refine va_sld hx hb hX hbl hbA hS (vp_in_nI (by omega) (by omega)) dL_law_651 ?_
  refine vg_tp a1 e1.symm ?_
  refine vj_calli (va_runV (As := [.int a1]) (rest := []) ⟨hx, hb, hml, hown, hts⟩ (kX5_delete l D cy H.size mo ad μ a1 f1 f2 f3 f4) (cwV 1 hts gL_law_X5_delete rfl rfl rfl (by decide +kernel) ⟨Nat.le_of_ble_eq_true rfl, Nat.le_of_ble_eq_true rfl⟩) (vg_P.preV hE hP 0 rfl rfl (vp_app.mp hP).1 (vd_app.mp hD).1) rfl rfl hl.1 rfl (lv_room (Nat.le_of_ble_eq_true rfl)) dL_law_652 ⟨hc, hs⟩) hP hD hS hA (List.Perm.refl _) (fun r2 _ H locs hk2 hP hD hS => ?_)
  have hP : va_P D vwCl (wJ (Mw cy mo ad (mDel μ a1)) (wJ (uOut cy oa u.1) u.2)) H := hP
  have hD : va_D A0 (wJ (Mw cy mo ad (mDel μ a1)) (wJ (uOut cy oa u.1) u.2)) := hD
  refine lv_istore (lv' := [(6, .int r2), (5, .int r), (0, .ref b), (1, .ref vo), (2, .ref mo), (3, .ref oa), (4, .int (nI (5 * n)))]) hx hb dL_law_655 hl (by decide) rfl (fun ls hl => ?_)
  refine lv_aload_n hx hb dL_law_657 rfl (lv_at hl 4 rfl) ?_
  refine vj_calli (va_runV (As := []) (rest := []) ⟨hx, hb, hml, hown, hts⟩ (kX5_thrown l D cy H.size mo ad (mDel μ a1)) (cwV 0 hts gL_law_X5_thrown rfl rfl rfl (by decide +kernel) ⟨Nat.le_of_ble_eq_true rfl, Nat.le_of_ble_eq_true rfl⟩) (vg_P.preV hE hP 0 rfl rfl (vp_app.mp hP).1 (vd_app.mp hD).1) rfl rfl hl.1 rfl (lv_room (Nat.le_of_ble_eq_true rfl)) dL_law_658 ⟨hc, hs⟩) hP hD hS hA (List.Perm.refl _) (fun r3 _ H locs hk3 hP hD hS => ?_)
  have hp6 : (wJ (Mw cy mo ad (mDel μ a1)) (wJ (uOut cy oa u.1) u.2) : va_W).Perm (wJ (uOut cy oa u.1) (wJ (Mw cy mo ad (mDel μ a1)) u.2)) := vp_pc (fun n9 hn9 h90 => by simp only [wJ, hn9, h90, Nat.add_zero, Nat.zero_add] <;> ac_rfl)
  have hP : va_P D vwCl (wJ (uOut cy oa u.1) (wJ (Mw cy mo ad (mDel μ a1)) u.2)) H := vp_perm hP hp6
  have hD : va_D A0 (wJ (uOut cy oa u.1) (wJ (Mw cy mo ad (mDel μ a1)) u.2)) := vd_perm hp6 hD
  refine lv_iload hx hb dL_law_661 (lv_at hl 1 rfl) ?_
  refine lv_icmp_eq (tgt := 668) hx hb dL_law_663 (by decide) (fun _ => ?_) (fun z => absurd (hk3.trans hk.1.symm) z)
  refine lv_iload hx hb dL_law_668 (lv_at hl 1 rfl) ?_
  refine lv_if_ne (tgt := 685) hx hb dL_law_670 (by decide) (fun _ => ?_) (fun hr0 => ?_)
  · refine lv_goto (tgt := 1214) hx hb dL_law_685 (by decide) ?_
    exact kk (mDel μ a1) u.1 u.2 H locs ls ⟨hP, hD, hS, hk.2.2.2⟩ (lv_sub hl [2, 3, 4, 5, 6] rfl)
  · refine lv_aload_n hx hb dL_law_673 rfl (lv_at hl 5 rfl) ?_
    refine lv_iconst (v := 0) hx hb dL_law_674 (by decide) ?_
    refine vg_tp (nI 0) rfl ?_
    refine vg_lald hx hb hE.1 hP 0 1 rfl rfl (f := u.1) (j := 0) (by decide) (by decide) dL_law_675 ?_
    refine vg_tpl (r2.toInt64) (by rw [hk.2.1 hr0, hk2]; exact if_pos rfl) ?_
    refine lv_iload hx hb dL_law_676 (lv_at hl 0 rfl) ?_
    refine lv_i2l (v := r2.toInt64) hx hb dL_law_678 rfl ?_
    refine W.lcmp hx hb dL_law_679 ?_
    refine vg_tp 0 (lg_cmp_0 _) ?_
    refine lv_if_eq (tgt := 685) hx hb dL_law_680 (by decide) (fun _ => ?_) (fun z => absurd rfl z)
    refine lv_goto (tgt := 1214) hx hb dL_law_685 (by decide) ?_
    exact kk (mDel μ a1) u.1 u.2 H locs ls ⟨hP, hD, hS, hk.2.2.2⟩ (lv_sub hl [2, 3, 4, 5, 6] rfl)
