/-! the law's cases -/
set_option maxHeartbeats 4000000 in
set_option maxRecDepth 100000 in
theorem kC_leave {p : Program} {l : Launch} {e : Env} {s : State} {m : MethodId} {below : List Frame} {meth : Method} {c : Code} {b L : Nat} {xs : Nat → Int32} {A0 : Nat → Prop} {D : va_G} {cy : Nat → ClassId} {e0 mi vo mo oa n cells slots : Nat} {ad : Nat → Nat} {μ : Nat → Nat → Int32} {f : Nat → Int64} {w : va_W} {H : Heap} {locs : List Loc} {ls : Array Slot} {Q : State → Prop} (hLE : LE p l s m c b L xs A0 D cy e0 mi) (hLW : LW s A0 D cy e0 vo mo oa n ad μ f w H locs) (hn : n < 512) (h5 : 5 * n + 5 ≤ L) (hl : lv_has ls 7 [(0, .ref b), (1, .ref vo), (2, .ref mo), (3, .ref oa), (4, .int (nI (5 * n)))]) (hc : cells + 12 ≤ room_1.cells) (hs : slots + 12351 ≤ room_1.slots) (kk : ∀ (μ' : Nat → Nat → Int32) (f' : Nat → Int64) (w' : va_W) (H' : Heap) (locs' : List Loc) (ls' : Array Slot), LW s A0 D cy e0 vo mo oa (n + 1) ad μ' f' w' H' locs' → lv_has ls' 7 [(0, .ref b), (1, .ref vo), (2, .ref mo), (3, .ref oa), (4, .int (nI (5 * n)))] → W p l e room_1 s m #[Value.ref b] below meth c H' locs' (cells + 12) (slots + 12351) Q (F0 m 1214 ls' [])) : W p l e room_1 s m #[Value.ref b] below meth c H locs cells slots Q (F0 m 300 ls []) := by
  obtain ⟨⟨hx, hb, hml, hown, hts⟩, ⟨hX, hbl, hL, hfl, hA, hbA⟩, hE, hF, hZ, hN⟩ := hLE
  obtain ⟨hP, hD, hS, hI⟩ := hLW
  obtain ⟨f1, f2, f3, f4, f5, f6⟩ := CI_ref hI hn
  obtain ⟨a1, e1⟩ : ∃ y, y = xs (nI (5 * n + 1)).toNatClampNeg := ⟨_, rfl⟩
  obtain ⟨a2, e2⟩ : ∃ y, y = xs (nI (5 * n + 2)).toNatClampNeg := ⟨_, rfl⟩
  refine lv_aload_n hx hb dL_law_300 rfl (lv_at hl 1 rfl) ?_
  refine lv_aload_n hx hb dL_law_301 rfl (lv_at hl 0 rfl) ?_
  refine lv_iload hx hb dL_law_302 (lv_at hl 4 rfl) ?_
  refine lv_iconst (v := 1) hx hb dL_law_304 (by decide) ?_
  refine lv_iadd hx hb dL_law_305 ?_
  refine vg_tp (nI (5 * n + 1)) (nI_add _ 1) ?_
  refine va_sld hx hb hX hbl hbA hS (vp_in_nI (by omega) (by omega)) dL_law_306 ?_
  refine vg_tp a1 e1.symm ?_
  refine lv_aload_n hx hb dL_law_307 rfl (lv_at hl 0 rfl) ?_
  refine lv_iload hx hb dL_law_308 (lv_at hl 4 rfl) ?_
  refine lv_iconst (v := 2) hx hb dL_law_310 (by decide) ?_
  refine lv_iadd hx hb dL_law_311 ?_
  refine vg_tp (nI (5 * n + 2)) (nI_add _ 2) ?_
  refine va_sld hx hb hX hbl hbA hS (vp_in_nI (by omega) (by omega)) dL_law_312 ?_
  refine vg_tp a2 e2.symm ?_
  have hp9 : (wJ (uOut cy oa f) (wJ (Mw cy mo ad μ) w) : va_W).Perm (wJ w (wJ (uOut cy oa f) (Mw cy mo ad μ))) := vp_pc (fun n9 hn9 h90 => by simp only [wJ, hn9, h90, Nat.add_zero, Nat.zero_add] <;> ac_rfl)
  refine vj_calli (vx_runSW (As := [.ref vo, .int a1, .int a2]) (rest := []) ⟨hx, hb, hml, hown, hts⟩ (kM_leave l hfl D cy H.size e0 mi vo n μ w a1 a2 hI hn) (vx_cwSW 3 hts gL_law_L_leave rfl rfl rfl (by decide +kernel) ⟨Nat.le_of_ble_eq_true rfl, Nat.le_of_ble_eq_true rfl⟩) (vk_P.preS hE hF hZ hN hS (vj_free (vd_perm hp9 hD) hS hA) (vp_app.mp (vp_perm hP hp9)).1 (vd_app.mp (vd_perm hp9 hD)).1) rfl rfl hl.1 rfl (lv_room (Nat.le_of_ble_eq_true rfl)) dL_law_313 ⟨hc, hs⟩) hP hD hS hA hp9 (fun r u H locs hk hP hD hS => ?_)
  have hp8 : (wJ u (wJ (uOut cy oa f) (Mw cy mo ad μ)) : va_W).Perm (wJ (Mw cy mo ad μ) (wJ (uOut cy oa f) u)) := vp_pc (fun n9 hn9 h90 => by simp only [wJ, hn9, h90, Nat.add_zero, Nat.zero_add] <;> ac_rfl)
  have hP : va_P D vwCl (wJ (Mw cy mo ad μ) (wJ (uOut cy oa f) u)) H := vp_perm hP hp8
  have hD : va_D A0 (wJ (Mw cy mo ad μ) (wJ (uOut cy oa f) u)) := vd_perm hp8 hD
  refine lv_istore (lv' := [(5, .int r), (0, .ref b), (1, .ref vo), (2, .ref mo), (3, .ref oa), (4, .int (nI (5 * n)))]) hx hb dL_law_316 hl (by decide) rfl (fun ls hl => ?_)
  refine lv_aload_n hx hb dL_law_318 rfl (lv_at hl 3 rfl) ?_
  refine lv_aload_n hx hb dL_law_319 rfl (lv_at hl 1 rfl) ?_
  refine lv_iload hx hb dL_law_320 (lv_at hl 5 rfl) ?_
  refine lv_iconst (v := 1) hx hb dL_law_322 (by decide) ?_
  refine lv_iadd hx hb dL_law_323 ?_
  refine vg_tp (nI (5 * n + 1)) (nI_add _ 1) ?_
  refine va_sld hx hb hX hbl hbA hS (vp_in_nI (by omega) (by omega)) dL_law_324 ?_
  refine vg_tp a1 e1.symm ?_
  refine lv_aload_n hx hb dL_law_325 rfl (lv_at hl 1 rfl) ?_
  refine lv_iload hx hb dL_law_326 (lv_at hl 5 rfl) ?_
  refine lv_iconst (v := 2) hx hb dL_law_328 (by decide) ?_
  refine lv_iadd hx hb dL_law_329 ?_
  refine vg_tp (nI (5 * n + 2)) (nI_add _ 2) ?_
  refine va_sld hx hb hX hbl hbA hS (vp_in_nI (by omega) (by omega)) dL_law_330 ?_
  refine vg_tp a2 e2.symm ?_
  refine vj_callv (va_runV (As := [.int a1, .int a2]) (rest := []) ⟨hx, hb, hml, hown, hts⟩ (kX5_leave l D cy H.size mo ad μ a1 a2 f1 f2 f3) (cwV 2 hts gL_law_X5_leave rfl rfl rfl (by decide +kernel) ⟨Nat.le_of_ble_eq_true rfl, Nat.le_of_ble_eq_true rfl⟩) (vg_P.preV hE hP 0 rfl rfl (vp_app.mp hP).1 (vd_app.mp hD).1) rfl rfl hl.1 rfl (lv_room (Nat.le_of_ble_eq_true rfl)) dL_law_331 ⟨hc, hs⟩) hP hD hS hA (List.Perm.refl _) (fun _ H locs _ hP hD hS => ?_)
  have hP : va_P D vwCl (wJ (Mw cy mo ad (mLea μ a1 a2)) (wJ (uOut cy oa f) u)) H := hP
  have hD : va_D A0 (wJ (Mw cy mo ad (mLea μ a1 a2)) (wJ (uOut cy oa f) u)) := hD
  refine lv_aload_n hx hb dL_law_334 rfl (lv_at hl 3 rfl) ?_
  refine vj_calli (va_runV (As := []) (rest := []) ⟨hx, hb, hml, hown, hts⟩ (kX5_thrown l D cy H.size mo ad (mLea μ a1 a2)) (cwV 0 hts gL_law_X5_thrown rfl rfl rfl (by decide +kernel) ⟨Nat.le_of_ble_eq_true rfl, Nat.le_of_ble_eq_true rfl⟩) (vg_P.preV hE hP 0 rfl rfl (vp_app.mp hP).1 (vd_app.mp hD).1) rfl rfl hl.1 rfl (lv_room (Nat.le_of_ble_eq_true rfl)) dL_law_335 ⟨hc, hs⟩) hP hD hS hA (List.Perm.refl _) (fun r3 _ H locs hk3 hP hD hS => ?_)
  have hp6 : (wJ (Mw cy mo ad (mLea μ a1 a2)) (wJ (uOut cy oa f) u) : va_W).Perm (wJ (uOut cy oa f) (wJ (Mw cy mo ad (mLea μ a1 a2)) u)) := vp_pc (fun n9 hn9 h90 => by simp only [wJ, hn9, h90, Nat.add_zero, Nat.zero_add] <;> ac_rfl)
  have hP : va_P D vwCl (wJ (uOut cy oa f) (wJ (Mw cy mo ad (mLea μ a1 a2)) u)) H := vp_perm hP hp6
  have hD : va_D A0 (wJ (uOut cy oa f) (wJ (Mw cy mo ad (mLea μ a1 a2)) u)) := vd_perm hp6 hD
  refine lv_iload hx hb dL_law_338 (lv_at hl 0 rfl) ?_
  refine lv_icmp_eq (tgt := 345) hx hb dL_law_340 (by decide) (fun _ => ?_) (fun z => absurd (hk3.trans hk.1.symm) z)
  refine lv_goto (tgt := 1214) hx hb dL_law_345 (by decide) ?_
  exact kk (mLea μ a1 a2) f u H locs ls ⟨hP, hD, hS, hk.2⟩ (lv_sub hl [1, 2, 3, 4, 5] rfl)

set_option maxHeartbeats 4000000 in
set_option maxRecDepth 100000 in
theorem kC_block {p : Program} {l : Launch} {e : Env} {s : State} {m : MethodId} {below : List Frame} {meth : Method} {c : Code} {b L : Nat} {xs : Nat → Int32} {A0 : Nat → Prop} {D : va_G} {cy : Nat → ClassId} {e0 mi vo mo oa n cells slots : Nat} {ad : Nat → Nat} {μ : Nat → Nat → Int32} {f : Nat → Int64} {w : va_W} {H : Heap} {locs : List Loc} {ls : Array Slot} {Q : State → Prop} (hLE : LE p l s m c b L xs A0 D cy e0 mi) (hLW : LW s A0 D cy e0 vo mo oa n ad μ f w H locs) (hn : n < 512) (h5 : 5 * n + 5 ≤ L) (hl : lv_has ls 7 [(0, .ref b), (1, .ref vo), (2, .ref mo), (3, .ref oa), (4, .int (nI (5 * n)))]) (hc : cells + 12 ≤ room_1.cells) (hs : slots + 12351 ≤ room_1.slots) (kk : ∀ (μ' : Nat → Nat → Int32) (f' : Nat → Int64) (w' : va_W) (H' : Heap) (locs' : List Loc) (ls' : Array Slot), LW s A0 D cy e0 vo mo oa (n + 1) ad μ' f' w' H' locs' → lv_has ls' 7 [(0, .ref b), (1, .ref vo), (2, .ref mo), (3, .ref oa), (4, .int (nI (5 * n)))] → W p l e room_1 s m #[Value.ref b] below meth c H' locs' (cells + 12) (slots + 12351) Q (F0 m 1214 ls' [])) : W p l e room_1 s m #[Value.ref b] below meth c H locs cells slots Q (F0 m 348 ls []) := by
  obtain ⟨⟨hx, hb, hml, hown, hts⟩, ⟨hX, hbl, hL, hfl, hA, hbA⟩, hE, hF, hZ, hN⟩ := hLE
  obtain ⟨hP, hD, hS, hI⟩ := hLW
  obtain ⟨f1, f2, f3, f4, f5, f6⟩ := CI_ref hI hn
  obtain ⟨a1, e1⟩ : ∃ y, y = xs (nI (5 * n + 1)).toNatClampNeg := ⟨_, rfl⟩
  obtain ⟨a2, e2⟩ : ∃ y, y = xs (nI (5 * n + 2)).toNatClampNeg := ⟨_, rfl⟩
  obtain ⟨a3, e3⟩ : ∃ y, y = xs (nI (5 * n + 3)).toNatClampNeg := ⟨_, rfl⟩
  refine lv_aload_n hx hb dL_law_348 rfl (lv_at hl 1 rfl) ?_
  refine lv_aload_n hx hb dL_law_349 rfl (lv_at hl 0 rfl) ?_
  refine lv_iload hx hb dL_law_350 (lv_at hl 4 rfl) ?_
  refine lv_iconst (v := 1) hx hb dL_law_352 (by decide) ?_
  refine lv_iadd hx hb dL_law_353 ?_
  refine vg_tp (nI (5 * n + 1)) (nI_add _ 1) ?_
  refine va_sld hx hb hX hbl hbA hS (vp_in_nI (by omega) (by omega)) dL_law_354 ?_
  refine vg_tp a1 e1.symm ?_
  refine lv_aload_n hx hb dL_law_355 rfl (lv_at hl 0 rfl) ?_
  refine lv_iload hx hb dL_law_356 (lv_at hl 4 rfl) ?_
  refine lv_iconst (v := 2) hx hb dL_law_358 (by decide) ?_
  refine lv_iadd hx hb dL_law_359 ?_
  refine vg_tp (nI (5 * n + 2)) (nI_add _ 2) ?_
  refine va_sld hx hb hX hbl hbA hS (vp_in_nI (by omega) (by omega)) dL_law_360 ?_
  refine vg_tp a2 e2.symm ?_
  refine lv_aload_n hx hb dL_law_361 rfl (lv_at hl 0 rfl) ?_
  refine lv_iload hx hb dL_law_362 (lv_at hl 4 rfl) ?_
  refine lv_iconst (v := 3) hx hb dL_law_364 (by decide) ?_
  refine lv_iadd hx hb dL_law_365 ?_
  refine vg_tp (nI (5 * n + 3)) (nI_add _ 3) ?_
  refine va_sld hx hb hX hbl hbA hS (vp_in_nI (by omega) (by omega)) dL_law_366 ?_
  refine vg_tp a3 e3.symm ?_
  refine lv_if_eq (tgt := 374) hx hb dL_law_367 (by decide) (fun c3 => ?_) (fun c3 => ?_)
  · refine lv_iconst (v := 0) hx hb dL_law_374 (by decide) ?_
    refine vg_tp (bI false) rfl ?_
    have hp9 : (wJ (uOut cy oa f) (wJ (Mw cy mo ad μ) w) : va_W).Perm (wJ w (wJ (uOut cy oa f) (Mw cy mo ad μ))) := vp_pc (fun n9 hn9 h90 => by simp only [wJ, hn9, h90, Nat.add_zero, Nat.zero_add] <;> ac_rfl)
    refine vj_calli (vx_runSW (As := [.ref vo, .int a1, .int a2, .int (bI false)]) (rest := []) ⟨hx, hb, hml, hown, hts⟩ (kM_block l hfl D cy H.size e0 mi vo n μ w a1 a2 false hI hn) (vx_cwSW 4 hts gL_law_L_block rfl rfl rfl (by decide +kernel) ⟨Nat.le_of_ble_eq_true rfl, Nat.le_of_ble_eq_true rfl⟩) (vk_P.preS hE hF hZ hN hS (vj_free (vd_perm hp9 hD) hS hA) (vp_app.mp (vp_perm hP hp9)).1 (vd_app.mp (vd_perm hp9 hD)).1) rfl rfl hl.1 rfl (lv_room (Nat.le_of_ble_eq_true rfl)) dL_law_375 ⟨hc, hs⟩) hP hD hS hA hp9 (fun r u H locs hk hP hD hS => ?_)
    have hp8 : (wJ u (wJ (uOut cy oa f) (Mw cy mo ad μ)) : va_W).Perm (wJ (Mw cy mo ad μ) (wJ (uOut cy oa f) u)) := vp_pc (fun n9 hn9 h90 => by simp only [wJ, hn9, h90, Nat.add_zero, Nat.zero_add] <;> ac_rfl)
    have hP : va_P D vwCl (wJ (Mw cy mo ad μ) (wJ (uOut cy oa f) u)) H := vp_perm hP hp8
    have hD : va_D A0 (wJ (Mw cy mo ad μ) (wJ (uOut cy oa f) u)) := vd_perm hp8 hD
    refine lv_istore (lv' := [(5, .int r), (0, .ref b), (1, .ref vo), (2, .ref mo), (3, .ref oa), (4, .int (nI (5 * n)))]) hx hb dL_law_378 hl (by decide) rfl (fun ls hl => ?_)
    refine lv_aload_n hx hb dL_law_380 rfl (lv_at hl 3 rfl) ?_
    refine lv_aload_n hx hb dL_law_381 rfl (lv_at hl 1 rfl) ?_
    refine lv_iload hx hb dL_law_382 (lv_at hl 5 rfl) ?_
    refine lv_iconst (v := 1) hx hb dL_law_384 (by decide) ?_
    refine lv_iadd hx hb dL_law_385 ?_
    refine vg_tp (nI (5 * n + 1)) (nI_add _ 1) ?_
    refine va_sld hx hb hX hbl hbA hS (vp_in_nI (by omega) (by omega)) dL_law_386 ?_
    refine vg_tp a1 e1.symm ?_
    refine lv_aload_n hx hb dL_law_387 rfl (lv_at hl 1 rfl) ?_
    refine lv_iload hx hb dL_law_388 (lv_at hl 5 rfl) ?_
    refine lv_iconst (v := 2) hx hb dL_law_390 (by decide) ?_
    refine lv_iadd hx hb dL_law_391 ?_
    refine vg_tp (nI (5 * n + 2)) (nI_add _ 2) ?_
    refine va_sld hx hb hX hbl hbA hS (vp_in_nI (by omega) (by omega)) dL_law_392 ?_
    refine vg_tp a2 e2.symm ?_
    refine lv_aload_n hx hb dL_law_393 rfl (lv_at hl 1 rfl) ?_
    refine lv_iload hx hb dL_law_394 (lv_at hl 5 rfl) ?_
    refine lv_iconst (v := 3) hx hb dL_law_396 (by decide) ?_
    refine lv_iadd hx hb dL_law_397 ?_
    refine vg_tp (nI (5 * n + 3)) (nI_add _ 3) ?_
    refine va_sld hx hb hX hbl hbA hS (vp_in_nI (by omega) (by omega)) dL_law_398 ?_
    refine vg_tp a3 e3.symm ?_
    refine lv_if_eq (tgt := 406) hx hb dL_law_399 (by decide) (fun _ => ?_) (fun z => absurd c3 z)
    refine lv_iconst (v := 0) hx hb dL_law_406 (by decide) ?_
    refine vg_tp (bI false) rfl ?_
    refine vj_callv (va_runV (As := [.int a1, .int a2, .int (bI false)]) (rest := []) ⟨hx, hb, hml, hown, hts⟩ (kX5_block l D cy H.size mo ad μ a1 a2 false f1 f2 f3) (cwV 3 hts gL_law_X5_block rfl rfl rfl (by decide +kernel) ⟨Nat.le_of_ble_eq_true rfl, Nat.le_of_ble_eq_true rfl⟩) (vg_P.preV hE hP 0 rfl rfl (vp_app.mp hP).1 (vd_app.mp hD).1) rfl rfl hl.1 rfl (lv_room (Nat.le_of_ble_eq_true rfl)) dL_law_407 ⟨hc, hs⟩) hP hD hS hA (List.Perm.refl _) (fun _ H locs _ hP hD hS => ?_)
    have hP : va_P D vwCl (wJ (Mw cy mo ad (mBlo μ a1 a2 false)) (wJ (uOut cy oa f) u)) H := hP
    have hD : va_D A0 (wJ (Mw cy mo ad (mBlo μ a1 a2 false)) (wJ (uOut cy oa f) u)) := hD
    refine lv_aload_n hx hb dL_law_410 rfl (lv_at hl 3 rfl) ?_
    refine vj_calli (va_runV (As := []) (rest := []) ⟨hx, hb, hml, hown, hts⟩ (kX5_thrown l D cy H.size mo ad (mBlo μ a1 a2 false)) (cwV 0 hts gL_law_X5_thrown rfl rfl rfl (by decide +kernel) ⟨Nat.le_of_ble_eq_true rfl, Nat.le_of_ble_eq_true rfl⟩) (vg_P.preV hE hP 0 rfl rfl (vp_app.mp hP).1 (vd_app.mp hD).1) rfl rfl hl.1 rfl (lv_room (Nat.le_of_ble_eq_true rfl)) dL_law_411 ⟨hc, hs⟩) hP hD hS hA (List.Perm.refl _) (fun r3 _ H locs hk3 hP hD hS => ?_)
    have hp6 : (wJ (Mw cy mo ad (mBlo μ a1 a2 false)) (wJ (uOut cy oa f) u) : va_W).Perm (wJ (uOut cy oa f) (wJ (Mw cy mo ad (mBlo μ a1 a2 false)) u)) := vp_pc (fun n9 hn9 h90 => by simp only [wJ, hn9, h90, Nat.add_zero, Nat.zero_add] <;> ac_rfl)
    have hP : va_P D vwCl (wJ (uOut cy oa f) (wJ (Mw cy mo ad (mBlo μ a1 a2 false)) u)) H := vp_perm hP hp6
    have hD : va_D A0 (wJ (uOut cy oa f) (wJ (Mw cy mo ad (mBlo μ a1 a2 false)) u)) := vd_perm hp6 hD
    refine lv_iload hx hb dL_law_414 (lv_at hl 0 rfl) ?_
    refine lv_icmp_eq (tgt := 421) hx hb dL_law_416 (by decide) (fun _ => ?_) (fun z => absurd (hk3.trans hk.1.symm) z)
    refine lv_goto (tgt := 1214) hx hb dL_law_421 (by decide) ?_
    exact kk (mBlo μ a1 a2 false) f u H locs ls ⟨hP, hD, hS, hk.2⟩ (lv_sub hl [1, 2, 3, 4, 5] rfl)
  · refine lv_iconst (v := 1) hx hb dL_law_370 (by decide) ?_
    refine lv_goto (tgt := 375) hx hb dL_law_371 (by decide) ?_
    refine vg_tp (bI true) rfl ?_
    have hp9 : (wJ (uOut cy oa f) (wJ (Mw cy mo ad μ) w) : va_W).Perm (wJ w (wJ (uOut cy oa f) (Mw cy mo ad μ))) := vp_pc (fun n9 hn9 h90 => by simp only [wJ, hn9, h90, Nat.add_zero, Nat.zero_add] <;> ac_rfl)
    refine vj_calli (vx_runSW (As := [.ref vo, .int a1, .int a2, .int (bI true)]) (rest := []) ⟨hx, hb, hml, hown, hts⟩ (kM_block l hfl D cy H.size e0 mi vo n μ w a1 a2 true hI hn) (vx_cwSW 4 hts gL_law_L_block rfl rfl rfl (by decide +kernel) ⟨Nat.le_of_ble_eq_true rfl, Nat.le_of_ble_eq_true rfl⟩) (vk_P.preS hE hF hZ hN hS (vj_free (vd_perm hp9 hD) hS hA) (vp_app.mp (vp_perm hP hp9)).1 (vd_app.mp (vd_perm hp9 hD)).1) rfl rfl hl.1 rfl (lv_room (Nat.le_of_ble_eq_true rfl)) dL_law_375 ⟨hc, hs⟩) hP hD hS hA hp9 (fun r u H locs hk hP hD hS => ?_)
    have hp8 : (wJ u (wJ (uOut cy oa f) (Mw cy mo ad μ)) : va_W).Perm (wJ (Mw cy mo ad μ) (wJ (uOut cy oa f) u)) := vp_pc (fun n9 hn9 h90 => by simp only [wJ, hn9, h90, Nat.add_zero, Nat.zero_add] <;> ac_rfl)
    have hP : va_P D vwCl (wJ (Mw cy mo ad μ) (wJ (uOut cy oa f) u)) H := vp_perm hP hp8
    have hD : va_D A0 (wJ (Mw cy mo ad μ) (wJ (uOut cy oa f) u)) := vd_perm hp8 hD
    refine lv_istore (lv' := [(5, .int r), (0, .ref b), (1, .ref vo), (2, .ref mo), (3, .ref oa), (4, .int (nI (5 * n)))]) hx hb dL_law_378 hl (by decide) rfl (fun ls hl => ?_)
    refine lv_aload_n hx hb dL_law_380 rfl (lv_at hl 3 rfl) ?_
    refine lv_aload_n hx hb dL_law_381 rfl (lv_at hl 1 rfl) ?_
    refine lv_iload hx hb dL_law_382 (lv_at hl 5 rfl) ?_
    refine lv_iconst (v := 1) hx hb dL_law_384 (by decide) ?_
    refine lv_iadd hx hb dL_law_385 ?_
    refine vg_tp (nI (5 * n + 1)) (nI_add _ 1) ?_
    refine va_sld hx hb hX hbl hbA hS (vp_in_nI (by omega) (by omega)) dL_law_386 ?_
    refine vg_tp a1 e1.symm ?_
    refine lv_aload_n hx hb dL_law_387 rfl (lv_at hl 1 rfl) ?_
    refine lv_iload hx hb dL_law_388 (lv_at hl 5 rfl) ?_
    refine lv_iconst (v := 2) hx hb dL_law_390 (by decide) ?_
    refine lv_iadd hx hb dL_law_391 ?_
    refine vg_tp (nI (5 * n + 2)) (nI_add _ 2) ?_
    refine va_sld hx hb hX hbl hbA hS (vp_in_nI (by omega) (by omega)) dL_law_392 ?_
    refine vg_tp a2 e2.symm ?_
    refine lv_aload_n hx hb dL_law_393 rfl (lv_at hl 1 rfl) ?_
    refine lv_iload hx hb dL_law_394 (lv_at hl 5 rfl) ?_
    refine lv_iconst (v := 3) hx hb dL_law_396 (by decide) ?_
    refine lv_iadd hx hb dL_law_397 ?_
    refine vg_tp (nI (5 * n + 3)) (nI_add _ 3) ?_
    refine va_sld hx hb hX hbl hbA hS (vp_in_nI (by omega) (by omega)) dL_law_398 ?_
    refine vg_tp a3 e3.symm ?_
    refine lv_if_eq (tgt := 406) hx hb dL_law_399 (by decide) (fun z => absurd z c3) (fun _ => ?_)
    refine lv_iconst (v := 1) hx hb dL_law_402 (by decide) ?_
    refine lv_goto (tgt := 407) hx hb dL_law_403 (by decide) ?_
    refine vg_tp (bI true) rfl ?_
    refine vj_callv (va_runV (As := [.int a1, .int a2, .int (bI true)]) (rest := []) ⟨hx, hb, hml, hown, hts⟩ (kX5_block l D cy H.size mo ad μ a1 a2 true f1 f2 f3) (cwV 3 hts gL_law_X5_block rfl rfl rfl (by decide +kernel) ⟨Nat.le_of_ble_eq_true rfl, Nat.le_of_ble_eq_true rfl⟩) (vg_P.preV hE hP 0 rfl rfl (vp_app.mp hP).1 (vd_app.mp hD).1) rfl rfl hl.1 rfl (lv_room (Nat.le_of_ble_eq_true rfl)) dL_law_407 ⟨hc, hs⟩) hP hD hS hA (List.Perm.refl _) (fun _ H locs _ hP hD hS => ?_)
    have hP : va_P D vwCl (wJ (Mw cy mo ad (mBlo μ a1 a2 true)) (wJ (uOut cy oa f) u)) H := hP
    have hD : va_D A0 (wJ (Mw cy mo ad (mBlo μ a1 a2 true)) (wJ (uOut cy oa f) u)) := hD
    refine lv_aload_n hx hb dL_law_410 rfl (lv_at hl 3 rfl) ?_
    refine vj_calli (va_runV (As := []) (rest := []) ⟨hx, hb, hml, hown, hts⟩ (kX5_thrown l D cy H.size mo ad (mBlo μ a1 a2 true)) (cwV 0 hts gL_law_X5_thrown rfl rfl rfl (by decide +kernel) ⟨Nat.le_of_ble_eq_true rfl, Nat.le_of_ble_eq_true rfl⟩) (vg_P.preV hE hP 0 rfl rfl (vp_app.mp hP).1 (vd_app.mp hD).1) rfl rfl hl.1 rfl (lv_room (Nat.le_of_ble_eq_true rfl)) dL_law_411 ⟨hc, hs⟩) hP hD hS hA (List.Perm.refl _) (fun r3 _ H locs hk3 hP hD hS => ?_)
    have hp6 : (wJ (Mw cy mo ad (mBlo μ a1 a2 true)) (wJ (uOut cy oa f) u) : va_W).Perm (wJ (uOut cy oa f) (wJ (Mw cy mo ad (mBlo μ a1 a2 true)) u)) := vp_pc (fun n9 hn9 h90 => by simp only [wJ, hn9, h90, Nat.add_zero, Nat.zero_add] <;> ac_rfl)
    have hP : va_P D vwCl (wJ (uOut cy oa f) (wJ (Mw cy mo ad (mBlo μ a1 a2 true)) u)) H := vp_perm hP hp6
    have hD : va_D A0 (wJ (uOut cy oa f) (wJ (Mw cy mo ad (mBlo μ a1 a2 true)) u)) := vd_perm hp6 hD
    refine lv_iload hx hb dL_law_414 (lv_at hl 0 rfl) ?_
    refine lv_icmp_eq (tgt := 421) hx hb dL_law_416 (by decide) (fun _ => ?_) (fun z => absurd (hk3.trans hk.1.symm) z)
    refine lv_goto (tgt := 1214) hx hb dL_law_421 (by decide) ?_
    exact kk (mBlo μ a1 a2 true) f u H locs ls ⟨hP, hD, hS, hk.2⟩ (lv_sub hl [1, 2, 3, 4, 5] rfl)

set_option maxHeartbeats 4000000 in
set_option maxRecDepth 100000 in
theorem kC_alias {p : Program} {l : Launch} {e : Env} {s : State} {m : MethodId} {below : List Frame} {meth : Method} {c : Code} {b L : Nat} {xs : Nat → Int32} {A0 : Nat → Prop} {D : va_G} {cy : Nat → ClassId} {e0 mi vo mo oa n cells slots : Nat} {ad : Nat → Nat} {μ : Nat → Nat → Int32} {f : Nat → Int64} {w : va_W} {H : Heap} {locs : List Loc} {ls : Array Slot} {Q : State → Prop} (hLE : LE p l s m c b L xs A0 D cy e0 mi) (hLW : LW s A0 D cy e0 vo mo oa n ad μ f w H locs) (hn : n < 512) (h5 : 5 * n + 5 ≤ L) (hl : lv_has ls 7 [(0, .ref b), (1, .ref vo), (2, .ref mo), (3, .ref oa), (4, .int (nI (5 * n)))]) (hc : cells + 12 ≤ room_1.cells) (hs : slots + 12351 ≤ room_1.slots) (kk : ∀ (μ' : Nat → Nat → Int32) (f' : Nat → Int64) (w' : va_W) (H' : Heap) (locs' : List Loc) (ls' : Array Slot), LW s A0 D cy e0 vo mo oa (n + 1) ad μ' f' w' H' locs' → lv_has ls' 7 [(0, .ref b), (1, .ref vo), (2, .ref mo), (3, .ref oa), (4, .int (nI (5 * n)))] → W p l e room_1 s m #[Value.ref b] below meth c H' locs' (cells + 12) (slots + 12351) Q (F0 m 1214 ls' [])) : W p l e room_1 s m #[Value.ref b] below meth c H locs cells slots Q (F0 m 424 ls []) := by
  obtain ⟨⟨hx, hb, hml, hown, hts⟩, ⟨hX, hbl, hL, hfl, hA, hbA⟩, hE, hF, hZ, hN⟩ := hLE
  obtain ⟨hP, hD, hS, hI⟩ := hLW
  obtain ⟨f1, f2, f3, f4, f5, f6⟩ := CI_ref hI hn
  obtain ⟨a1, e1⟩ : ∃ y, y = xs (nI (5 * n + 1)).toNatClampNeg := ⟨_, rfl⟩
  obtain ⟨a2, e2⟩ : ∃ y, y = xs (nI (5 * n + 2)).toNatClampNeg := ⟨_, rfl⟩
  refine lv_aload_n hx hb dL_law_424 rfl (lv_at hl 1 rfl) ?_
  refine lv_aload_n hx hb dL_law_425 rfl (lv_at hl 0 rfl) ?_
  refine lv_iload hx hb dL_law_426 (lv_at hl 4 rfl) ?_
  refine lv_iconst (v := 1) hx hb dL_law_428 (by decide) ?_
  refine lv_iadd hx hb dL_law_429 ?_
  refine vg_tp (nI (5 * n + 1)) (nI_add _ 1) ?_
  refine va_sld hx hb hX hbl hbA hS (vp_in_nI (by omega) (by omega)) dL_law_430 ?_
  refine vg_tp a1 e1.symm ?_
  refine lv_aload_n hx hb dL_law_431 rfl (lv_at hl 0 rfl) ?_
  refine lv_iload hx hb dL_law_432 (lv_at hl 4 rfl) ?_
  refine lv_iconst (v := 2) hx hb dL_law_434 (by decide) ?_
  refine lv_iadd hx hb dL_law_435 ?_
  refine vg_tp (nI (5 * n + 2)) (nI_add _ 2) ?_
  refine va_sld hx hb hX hbl hbA hS (vp_in_nI (by omega) (by omega)) dL_law_436 ?_
  refine vg_tp a2 e2.symm ?_
  have hp9 : (wJ (uOut cy oa f) (wJ (Mw cy mo ad μ) w) : va_W).Perm (wJ w (wJ (uOut cy oa f) (Mw cy mo ad μ))) := vp_pc (fun n9 hn9 h90 => by simp only [wJ, hn9, h90, Nat.add_zero, Nat.zero_add] <;> ac_rfl)
  refine vj_calli (vx_runSW (As := [.ref vo, .int a1, .int a2]) (rest := []) ⟨hx, hb, hml, hown, hts⟩ (kM_alias l hfl D cy H.size e0 mi vo n μ w a1 a2 hI hn) (vx_cwSW 3 hts gL_law_L_alias rfl rfl rfl (by decide +kernel) ⟨Nat.le_of_ble_eq_true rfl, Nat.le_of_ble_eq_true rfl⟩) (vk_P.preS hE hF hZ hN hS (vj_free (vd_perm hp9 hD) hS hA) (vp_app.mp (vp_perm hP hp9)).1 (vd_app.mp (vd_perm hp9 hD)).1) rfl rfl hl.1 rfl (lv_room (Nat.le_of_ble_eq_true rfl)) dL_law_437 ⟨hc, hs⟩) hP hD hS hA hp9 (fun r u H locs hk hP hD hS => ?_)
  have hp8 : (wJ u (wJ (uOut cy oa f) (Mw cy mo ad μ)) : va_W).Perm (wJ (Mw cy mo ad μ) (wJ (uOut cy oa f) u)) := vp_pc (fun n9 hn9 h90 => by simp only [wJ, hn9, h90, Nat.add_zero, Nat.zero_add] <;> ac_rfl)
  have hP : va_P D vwCl (wJ (Mw cy mo ad μ) (wJ (uOut cy oa f) u)) H := vp_perm hP hp8
  have hD : va_D A0 (wJ (Mw cy mo ad μ) (wJ (uOut cy oa f) u)) := vd_perm hp8 hD
  refine lv_istore (lv' := [(5, .int r), (0, .ref b), (1, .ref vo), (2, .ref mo), (3, .ref oa), (4, .int (nI (5 * n)))]) hx hb dL_law_440 hl (by decide) rfl (fun ls hl => ?_)
  refine lv_aload_n hx hb dL_law_442 rfl (lv_at hl 3 rfl) ?_
  refine lv_aload_n hx hb dL_law_443 rfl (lv_at hl 1 rfl) ?_
  refine lv_iload hx hb dL_law_444 (lv_at hl 5 rfl) ?_
  refine lv_iconst (v := 1) hx hb dL_law_446 (by decide) ?_
  refine lv_iadd hx hb dL_law_447 ?_
  refine vg_tp (nI (5 * n + 1)) (nI_add _ 1) ?_
  refine va_sld hx hb hX hbl hbA hS (vp_in_nI (by omega) (by omega)) dL_law_448 ?_
  refine vg_tp a1 e1.symm ?_
  refine lv_aload_n hx hb dL_law_449 rfl (lv_at hl 1 rfl) ?_
  refine lv_iload hx hb dL_law_450 (lv_at hl 5 rfl) ?_
  refine lv_iconst (v := 2) hx hb dL_law_452 (by decide) ?_
  refine lv_iadd hx hb dL_law_453 ?_
  refine vg_tp (nI (5 * n + 2)) (nI_add _ 2) ?_
  refine va_sld hx hb hX hbl hbA hS (vp_in_nI (by omega) (by omega)) dL_law_454 ?_
  refine vg_tp a2 e2.symm ?_
  refine vj_callv (va_runV (As := [.int a1, .int a2]) (rest := []) ⟨hx, hb, hml, hown, hts⟩ (kX5_alias l D cy H.size mo ad μ a1 a2 f1 f2 f3) (cwV 2 hts gL_law_X5_alias rfl rfl rfl (by decide +kernel) ⟨Nat.le_of_ble_eq_true rfl, Nat.le_of_ble_eq_true rfl⟩) (vg_P.preV hE hP 0 rfl rfl (vp_app.mp hP).1 (vd_app.mp hD).1) rfl rfl hl.1 rfl (lv_room (Nat.le_of_ble_eq_true rfl)) dL_law_455 ⟨hc, hs⟩) hP hD hS hA (List.Perm.refl _) (fun _ H locs _ hP hD hS => ?_)
  have hP : va_P D vwCl (wJ (Mw cy mo ad (mAli μ a1 a2)) (wJ (uOut cy oa f) u)) H := hP
  have hD : va_D A0 (wJ (Mw cy mo ad (mAli μ a1 a2)) (wJ (uOut cy oa f) u)) := hD
  refine lv_aload_n hx hb dL_law_458 rfl (lv_at hl 3 rfl) ?_
  refine vj_calli (va_runV (As := []) (rest := []) ⟨hx, hb, hml, hown, hts⟩ (kX5_thrown l D cy H.size mo ad (mAli μ a1 a2)) (cwV 0 hts gL_law_X5_thrown rfl rfl rfl (by decide +kernel) ⟨Nat.le_of_ble_eq_true rfl, Nat.le_of_ble_eq_true rfl⟩) (vg_P.preV hE hP 0 rfl rfl (vp_app.mp hP).1 (vd_app.mp hD).1) rfl rfl hl.1 rfl (lv_room (Nat.le_of_ble_eq_true rfl)) dL_law_459 ⟨hc, hs⟩) hP hD hS hA (List.Perm.refl _) (fun r3 _ H locs hk3 hP hD hS => ?_)
  have hp6 : (wJ (Mw cy mo ad (mAli μ a1 a2)) (wJ (uOut cy oa f) u) : va_W).Perm (wJ (uOut cy oa f) (wJ (Mw cy mo ad (mAli μ a1 a2)) u)) := vp_pc (fun n9 hn9 h90 => by simp only [wJ, hn9, h90, Nat.add_zero, Nat.zero_add] <;> ac_rfl)
  have hP : va_P D vwCl (wJ (uOut cy oa f) (wJ (Mw cy mo ad (mAli μ a1 a2)) u)) H := vp_perm hP hp6
  have hD : va_D A0 (wJ (uOut cy oa f) (wJ (Mw cy mo ad (mAli μ a1 a2)) u)) := vd_perm hp6 hD
  refine lv_iload hx hb dL_law_462 (lv_at hl 0 rfl) ?_
  refine lv_icmp_eq (tgt := 469) hx hb dL_law_464 (by decide) (fun _ => ?_) (fun z => absurd (hk3.trans hk.1.symm) z)
  refine lv_goto (tgt := 1214) hx hb dL_law_469 (by decide) ?_
  exact kk (mAli μ a1 a2) f u H locs ls ⟨hP, hD, hS, hk.2⟩ (lv_sub hl [1, 2, 3, 4, 5] rfl)
