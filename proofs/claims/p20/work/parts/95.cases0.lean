/-! p20: the law's cases -/

set_option maxHeartbeats 4000000 in
set_option maxRecDepth 100000 in
theorem kC_follow {p : Program} {l : Launch} {e : Env} {s : State} {m : MethodId} {below : List Frame} {meth : Method} {c : Code} {b L : Nat} {xs : Nat → Int32} {A0 : Nat → Prop} {D : va_G} {cy : Nat → ClassId} {e0 mi vo ha ra ga nn nc cells slots : Nat} {hf af gf : Nat → Int32} {μ : Nat → Nat → Int32} {w : va_W} {H : Heap} {locs : List Loc} {ls : Array Slot} {Q : State → Prop} (hLE : LE p l s m c b L xs A0 D cy e0 mi) (hLW : LW s A0 D cy e0 vo ha ra ga hf af gf μ nn nc w H locs) (hn : nn ≤ 20) (hc : nc < 60) {k1 kw p1 v1 q1 n1 s1 : Nat} (hk1 : k1 < 60) (hp : p1 < 6) (hq : q1 < 6) (hpq : p1 ≠ q1) (hv : v1 < 960) (hn1 : 0 < nn → n1 < nn) (hs1 : s1 < 3) (hkw : kw < 22) (hcl : cells + 24 ≤ 600104) (hsl : slots + 24702 ≤ 7301314) (hl : lv_has ls 23 [(0, .ref b), (1, .ref vo), (2, .ref ha), (3, .ref ra), (4, .ref ga), (5, .int (nI 6)), (6, .int (nI nn)), (7, .int (nI 1)), (8, .int (nI k1)), (9, .int (nI kw)), (10, .int (nI p1)), (11, .int (nI v1)), (12, .int (nI q1)), (13, .int (nI n1)), (14, .int (nI s1)), (15, .int (nI (cD μ (tn (μ 2 p1)) nc))), (16, .int (nI (bt μ (tn (μ 2 p1)) p1 q1))), (17, .int (nI (bt μ (tn (μ 2 p1)) q1 p1)))]) (kk : ∀ (μ' : Nat → Nat → Int32) (nn' nc' : Nat) (w' : va_W) (af' gf' : Nat → Int32) (H' : Heap) (locs' : List Loc) (ls' : Array Slot), LW s A0 D cy e0 vo ha ra ga hf af' gf' μ' nn' nc' w' H' locs' → nn' ≤ 20 → nn ≤ nn' → nc' ≤ nc + 1 → lv_has ls' 23 [(0, .ref b), (1, .ref vo), (2, .ref ha), (3, .ref ra), (4, .ref ga), (5, .int (nI 6)), (6, .int (nI nn')), (7, .int (nI 1)), (8, .int (nI k1)), (10, .int (nI p1)), (12, .int (nI q1)), (13, .int (nI n1))] → W p l e room_1 s m #[Value.ref b] below meth c H' locs' (cells + 24) (slots + 24702) Q (F0 m 1129 ls' [])) : W p l e room_1 s m #[Value.ref b] below meth c H locs cells slots Q (F0 m 228 ls []) := by
  obtain ⟨⟨hx, hb, hml, hown, hts⟩, ⟨hX, hbl, hL, hfl, hA, hbA⟩, hE, hF, hZ⟩ := hLE
  obtain ⟨hP, hD, hS, hK, hA3⟩ := hLW
  have hh := hA3.1
  have haf := hA3.2.1
  have hgf := hA3.2.2
  have hh1 := hK.2.1.2.1 p1 hp
  have bw := bt_well (KK_I4 hK (tn (μ 2 p1)) (by omega)) (hK.2.2.2.2.1 (tn (μ 2 p1)) (by omega)) hp hq
  have bl1 := bt_lt μ (tn (μ 2 p1)) p1 q1
  have bl2 := bt_lt μ (tn (μ 2 p1)) q1 p1
  have bc1 := cD_le μ (tn (μ 2 p1)) nc
  refine lv_iload hx hb dL_law_228 (lv_at hl 16 rfl) ?_
  have Jf : ¬ (bt μ (tn (μ 2 p1)) p1 q1 = 0 ∧ bt μ (tn (μ 2 p1)) q1 p1 < 4) → W p l e room_1 s m #[Value.ref b] below meth c H locs cells slots Q (F0 m 244 ls [.int (nI 0)]) := by
    intro hm
    refine lv_istore (lv' := [(18, .int (nI 0)), (0, .ref b), (1, .ref vo), (2, .ref ha), (3, .ref ra), (4, .ref ga), (5, .int (nI 6)), (6, .int (nI nn)), (7, .int (nI 1)), (8, .int (nI k1)), (9, .int (nI kw)), (10, .int (nI p1)), (11, .int (nI v1)), (12, .int (nI q1)), (13, .int (nI n1)), (14, .int (nI s1)), (15, .int (nI (cD μ (tn (μ 2 p1)) nc))), (16, .int (nI (bt μ (tn (μ 2 p1)) p1 q1))), (17, .int (nI (bt μ (tn (μ 2 p1)) q1 p1)))]) hx hb dL_law_244 hl (by decide) rfl (fun ls hl => ?_)
    refine lv_aload_n hx hb dL_law_246 rfl (lv_at hl 2 rfl) ?_
    refine lv_iload hx hb dL_law_247 (lv_at hl 11 rfl) ?_
    refine lv_iload hx hb dL_law_249 (lv_at hl 13 rfl) ?_
    refine vQ_i (vx_runSW (As := [.ref vo, .int (nI p1), .int (nI q1)]) (rest := []) ⟨hx, hb, hml, hown, hts⟩ (kN_isFollow l hfl D cy H.size e0 mi vo 130 μ w hK.1 (by omega) hK.2.1.1 hp hq hpq) (vx_cwSW 3 hts gL_law_L_isFollow rfl rfl rfl (by decide +kernel) ⟨Nat.le_of_ble_eq_true rfl, Nat.le_of_ble_eq_true rfl⟩) (vQ_pS hE hF hZ hS hA hP hD) rfl rfl hl.1 rfl (lv_room (Nat.le_of_ble_eq_true rfl)) dL_law_251 ⟨by show cells + 12 ≤ 600104; omega, by show slots + 12351 ≤ 7301314; omega⟩) hP hD hS hA (fun r u H locs hk hP hD hS => ?_)
    obtain ⟨hk1a, hk2⟩ := hk
    obtain ⟨nc2, a1, hK2, hSM, a2, a3, a4⟩ := c_follow hK hn hc hp hq hpq hk2 false ((decide_eq_false hm).symm)
    rw [a2] at hk1a
    subst hk1a
    rw [if_neg (by decide)] at a3 a4
    have bc2 := cD_le (mFlw μ (nI p1) (nI q1)) (tn (μ 2 p1)) nc2
    have bl3 := bt_lt (mFlw μ (nI p1) (nI q1)) (tn (μ 2 p1)) p1 q1
    refine lv_iload hx hb dL_law_254 (lv_at hl 0 rfl) ?_
    refine lv_icmp_ne (tgt := 315) hx hb dL_law_256 (by decide) (fun z9 => absurd (show bI false = nI 0 from rfl) z9) (fun _ => ?_)
    refine lv_aload_n hx hb dL_law_259 rfl (lv_at hl 2 rfl) ?_
    refine lv_aload_n hx hb dL_law_260 rfl (lv_at hl 3 rfl) ?_
    refine lv_iload hx hb dL_law_261 (lv_at hl 11 rfl) ?_
    refine vg_iald hx hb hE.1 hP 0 0 rfl rfl (f := hf) (j := p1) (by omega) (by decide) dL_law_263 ?_
    refine vg_tp (nI (tn (μ 2 p1))) (hh p1 (by omega)) ?_
    refine lv_iconst (v := 1) hx hb dL_law_264 (by decide) ?_
    refine vg_tp (nI 1) (by decide) ?_
    refine vQ_r (va_runV (As := [.int (nI (tn (μ 2 p1))), .int (nI 1)]) (rest := []) ⟨hx, hb, hml, hown, hts⟩ (kN_ofServer l hfl D cy H.size e0 mi vo 130 (mFlw μ (nI p1) (nI q1)) u hK2.1 (by omega) hK2.2.1.1 (show tn (μ 2 p1) < 4 by omega) (show 1 < 6 by omega)) (cwV 2 hts gL_law_X4_ofServer rfl rfl rfl (by decide +kernel) ⟨Nat.le_of_ble_eq_true rfl, Nat.le_of_ble_eq_true rfl⟩) (vQ_pV hK2.1 hE hF hZ hS hA hP hD) rfl rfl hl.1 rfl (lv_room (Nat.le_of_ble_eq_true rfl)) dL_law_265 ⟨by show cells + 12 + 0 ≤ 600104; omega, by show slots + 12351 + 0 ≤ 7301314; omega⟩) hP hD hS hA (fun r _ H locs hk hP hD hS => ?_)
    rw [ofs_1 (show tn (μ 2 p1) < 4 by omega) hK2.2.1.2.2.1 (by omega)] at hk
    subst hk
    refine lv_iload hx hb dL_law_268 (lv_at hl 0 rfl) ?_
    refine lv_if_eq (tgt := 280) hx hb dL_law_270 (by decide) (fun _ => ?_) (fun z9 => absurd ((nI_eq (a := 0) (b := 0) (by omega) (by omega)).mpr (by omega)) z9)
    refine lv_iload hx hb dL_law_280 (lv_at hl 16 rfl) ?_
    refine lv_icmp_ne (tgt := 315) hx hb dL_law_282 (by decide) (fun z9 => absurd ((nI_eq (a := cD (mFlw μ (nI p1) (nI q1)) (tn (μ 2 p1)) nc2) (b := cD μ (tn (μ 2 p1)) nc) (by omega) (by omega)).mpr (by omega)) z9) (fun _ => ?_)
    refine lv_aload_n hx hb dL_law_285 rfl (lv_at hl 2 rfl) ?_
    refine lv_aload_n hx hb dL_law_286 rfl (lv_at hl 3 rfl) ?_
    refine lv_iload hx hb dL_law_287 (lv_at hl 11 rfl) ?_
    refine vg_iald hx hb hE.1 hP 0 0 rfl rfl (f := hf) (j := p1) (by omega) (by decide) dL_law_289 ?_
    refine vg_tp (nI (tn (μ 2 p1))) (hh p1 (by omega)) ?_
    refine lv_iload hx hb dL_law_290 (lv_at hl 11 rfl) ?_
    refine lv_iload hx hb dL_law_292 (lv_at hl 13 rfl) ?_
    refine vQ_r (va_runV (As := [.int (nI (tn (μ 2 p1))), .int (nI p1), .int (nI q1)]) (rest := []) ⟨hx, hb, hml, hown, hts⟩ (kN_between l hfl D cy H.size e0 mi vo 130 (mFlw μ (nI p1) (nI q1)) u hK2.1 (by omega) hK2.2.1.1 (show tn (μ 2 p1) < 4 by omega) hp hq) (cwV 3 hts gL_law_X4_between rfl rfl rfl (by decide +kernel) ⟨Nat.le_of_ble_eq_true rfl, Nat.le_of_ble_eq_true rfl⟩) (vQ_pV hK2.1 hE hF hZ hS hA hP hD) rfl rfl hl.1 rfl (lv_room (Nat.le_of_ble_eq_true rfl)) dL_law_294 ⟨by show cells + 12 + 0 ≤ 600104; omega, by show slots + 12351 + 0 ≤ 7301314; omega⟩) hP hD hS hA (fun r _ H locs hk hP hD hS => ?_)
    rw [bt_R hK2.2.1.1 (show tn (μ 2 p1) < 4 by omega) hp hq] at hk
    subst hk
    refine lv_iload hx hb dL_law_297 (lv_at hl 0 rfl) ?_
    refine lv_if_eq (tgt := 306) hx hb dL_law_299 (by decide) (fun _ => ?_) (fun z9 => absurd ((nI_eq (a := 0) (b := 0) (by omega) (by omega)).mpr (by omega)) z9)
    refine lv_iload hx hb dL_law_306 (lv_at hl 17 rfl) ?_
    refine lv_icmp_ne (tgt := 315) hx hb dL_law_308 (by decide) (fun z9 => absurd ((nI_eq (a := bt (mFlw μ (nI p1) (nI q1)) (tn (μ 2 p1)) p1 q1) (b := bt μ (tn (μ 2 p1)) p1 q1) (by omega) (by omega)).mpr (by omega)) z9) (fun _ => ?_)
    refine lv_iconst (v := 1) hx hb dL_law_311 (by decide) ?_
    refine vg_tp (nI 1) (by decide) ?_
    refine lv_goto (tgt := 316) hx hb dL_law_312 (by decide) ?_
    refine lv_istore (lv' := [(7, .int (nI 1)), (18, .int (nI 0)), (0, .ref b), (1, .ref vo), (2, .ref ha), (3, .ref ra), (4, .ref ga), (5, .int (nI 6)), (6, .int (nI nn)), (8, .int (nI k1)), (9, .int (nI kw)), (10, .int (nI p1)), (11, .int (nI v1)), (12, .int (nI q1)), (13, .int (nI n1)), (14, .int (nI s1)), (15, .int (nI (cD μ (tn (μ 2 p1)) nc))), (16, .int (nI (bt μ (tn (μ 2 p1)) p1 q1))), (17, .int (nI (bt μ (tn (μ 2 p1)) q1 p1)))]) hx hb dL_law_316 hl (by decide) rfl (fun ls hl => ?_)
    refine lv_goto (tgt := 1129) hx hb dL_law_318 (by decide) ?_
    refine W.widen (k := cells + 24) (n := slots + 24702) (by omega) (by omega) ?_
    exact kk (mFlw μ (nI p1) (nI q1)) nn nc2 u af gf H locs ls ⟨hP, hD, hS, hK2, LA3_SM hA3 hSM⟩ (by omega) (by omega) (by omega) (lv_sub hl [2, 3, 4, 5, 6, 7, 8, 0, 9, 11, 13, 14] rfl)
  refine lv_if_ne (tgt := 243) hx hb dL_law_230 (by decide) (fun c1 => ?_) (fun c1 => ?_)
  · have c1 : ¬ (bt μ (tn (μ 2 p1)) p1 q1 = 0) := fun q9 => c1 ((nI_eq (a := bt μ (tn (μ 2 p1)) p1 q1) (b := 0) (by omega) (by omega)).mpr q9)
    refine lv_iconst (v := 0) hx hb dL_law_243 (by decide) ?_
    refine vg_tp (nI 0) (by decide) ?_
    exact Jf (fun z => c1 z.1)
  · have c1 : bt μ (tn (μ 2 p1)) p1 q1 = 0 := (nI_eq (a := bt μ (tn (μ 2 p1)) p1 q1) (b := 0) (by omega) (by omega)).mp c1
    refine lv_iload hx hb dL_law_233 (lv_at hl 17 rfl) ?_
    refine lv_iconst (v := 4) hx hb dL_law_235 (by decide) ?_
    refine vg_tp (nI 4) (by decide) ?_
    refine lv_icmp_ge (tgt := 243) hx hb dL_law_236 (by decide) (fun c2 => ?_) (fun c2 => ?_)
    · have c2 : 4 ≤ bt μ (tn (μ 2 p1)) q1 p1 := (nI_leI (a := 4) (b := bt μ (tn (μ 2 p1)) q1 p1) (by omega) (by omega)).mp c2
      refine lv_iconst (v := 0) hx hb dL_law_243 (by decide) ?_
      refine vg_tp (nI 0) (by decide) ?_
      exact Jf (fun z => by omega)
    · have c2 : ¬ (4 ≤ bt μ (tn (μ 2 p1)) q1 p1) := fun q9 => c2 ((nI_leI (a := 4) (b := bt μ (tn (μ 2 p1)) q1 p1) (by omega) (by omega)).mpr q9)
      refine lv_iconst (v := 1) hx hb dL_law_239 (by decide) ?_
      refine vg_tp (nI 1) (by decide) ?_
      refine lv_goto (tgt := 244) hx hb dL_law_240 (by decide) ?_
      have hm : bt μ (tn (μ 2 p1)) p1 q1 = 0 ∧ bt μ (tn (μ 2 p1)) q1 p1 < 4 := ⟨c1, by omega⟩
      refine lv_istore (lv' := [(18, .int (nI 1)), (0, .ref b), (1, .ref vo), (2, .ref ha), (3, .ref ra), (4, .ref ga), (5, .int (nI 6)), (6, .int (nI nn)), (7, .int (nI 1)), (8, .int (nI k1)), (9, .int (nI kw)), (10, .int (nI p1)), (11, .int (nI v1)), (12, .int (nI q1)), (13, .int (nI n1)), (14, .int (nI s1)), (15, .int (nI (cD μ (tn (μ 2 p1)) nc))), (16, .int (nI (bt μ (tn (μ 2 p1)) p1 q1))), (17, .int (nI (bt μ (tn (μ 2 p1)) q1 p1)))]) hx hb dL_law_244 hl (by decide) rfl (fun ls hl => ?_)
      refine lv_aload_n hx hb dL_law_246 rfl (lv_at hl 2 rfl) ?_
      refine lv_iload hx hb dL_law_247 (lv_at hl 11 rfl) ?_
      refine lv_iload hx hb dL_law_249 (lv_at hl 13 rfl) ?_
      refine vQ_i (vx_runSW (As := [.ref vo, .int (nI p1), .int (nI q1)]) (rest := []) ⟨hx, hb, hml, hown, hts⟩ (kN_isFollow l hfl D cy H.size e0 mi vo 130 μ w hK.1 (by omega) hK.2.1.1 hp hq hpq) (vx_cwSW 3 hts gL_law_L_isFollow rfl rfl rfl (by decide +kernel) ⟨Nat.le_of_ble_eq_true rfl, Nat.le_of_ble_eq_true rfl⟩) (vQ_pS hE hF hZ hS hA hP hD) rfl rfl hl.1 rfl (lv_room (Nat.le_of_ble_eq_true rfl)) dL_law_251 ⟨by show cells + 12 ≤ 600104; omega, by show slots + 12351 ≤ 7301314; omega⟩) hP hD hS hA (fun r u H locs hk hP hD hS => ?_)
      obtain ⟨hk1a, hk2⟩ := hk
      obtain ⟨nc2, a1, hK2, hSM, a2, a3, a4⟩ := c_follow hK hn hc hp hq hpq hk2 true ((decide_eq_true hm).symm)
      rw [a2] at hk1a
      subst hk1a
      rw [if_pos rfl] at a3 a4
      have bc2 := cD_le (mFlw μ (nI p1) (nI q1)) (tn (μ 2 p1)) nc2
      have bl3 := bt_lt (mFlw μ (nI p1) (nI q1)) (tn (μ 2 p1)) p1 q1
      refine lv_iload hx hb dL_law_254 (lv_at hl 0 rfl) ?_
      refine lv_icmp_ne (tgt := 315) hx hb dL_law_256 (by decide) (fun z9 => absurd (show bI true = nI 1 from rfl) z9) (fun _ => ?_)
      refine lv_aload_n hx hb dL_law_259 rfl (lv_at hl 2 rfl) ?_
      refine lv_aload_n hx hb dL_law_260 rfl (lv_at hl 3 rfl) ?_
      refine lv_iload hx hb dL_law_261 (lv_at hl 11 rfl) ?_
      refine vg_iald hx hb hE.1 hP 0 0 rfl rfl (f := hf) (j := p1) (by omega) (by decide) dL_law_263 ?_
      refine vg_tp (nI (tn (μ 2 p1))) (hh p1 (by omega)) ?_
      refine lv_iconst (v := 1) hx hb dL_law_264 (by decide) ?_
      refine vg_tp (nI 1) (by decide) ?_
      refine vQ_r (va_runV (As := [.int (nI (tn (μ 2 p1))), .int (nI 1)]) (rest := []) ⟨hx, hb, hml, hown, hts⟩ (kN_ofServer l hfl D cy H.size e0 mi vo 130 (mFlw μ (nI p1) (nI q1)) u hK2.1 (by omega) hK2.2.1.1 (show tn (μ 2 p1) < 4 by omega) (show 1 < 6 by omega)) (cwV 2 hts gL_law_X4_ofServer rfl rfl rfl (by decide +kernel) ⟨Nat.le_of_ble_eq_true rfl, Nat.le_of_ble_eq_true rfl⟩) (vQ_pV hK2.1 hE hF hZ hS hA hP hD) rfl rfl hl.1 rfl (lv_room (Nat.le_of_ble_eq_true rfl)) dL_law_265 ⟨by show cells + 12 + 0 ≤ 600104; omega, by show slots + 12351 + 0 ≤ 7301314; omega⟩) hP hD hS hA (fun r _ H locs hk hP hD hS => ?_)
      rw [ofs_1 (show tn (μ 2 p1) < 4 by omega) hK2.2.1.2.2.1 (by omega)] at hk
      subst hk
      refine lv_iload hx hb dL_law_268 (lv_at hl 0 rfl) ?_
      refine lv_if_eq (tgt := 280) hx hb dL_law_270 (by decide) (fun z9 => absurd z9 (fun q9 => absurd ((nI_eq (a := 1) (b := 0) (by omega) (by omega)).mp q9) (by omega))) (fun _ => ?_)
      refine lv_iload hx hb dL_law_273 (lv_at hl 16 rfl) ?_
      refine lv_iconst (v := 1) hx hb dL_law_275 (by decide) ?_
      refine vg_tp (nI 1) (by decide) ?_
      refine lv_iadd hx hb dL_law_276 ?_
      refine vg_tp (nI (cD μ (tn (μ 2 p1)) nc + 1)) (nI_add _ _) ?_
      refine lv_goto (tgt := 282) hx hb dL_law_277 (by decide) ?_
      refine lv_icmp_ne (tgt := 315) hx hb dL_law_282 (by decide) (fun z9 => absurd ((nI_eq (a := cD (mFlw μ (nI p1) (nI q1)) (tn (μ 2 p1)) nc2) (b := cD μ (tn (μ 2 p1)) nc + 1) (by omega) (by omega)).mpr (by omega)) z9) (fun _ => ?_)
      refine lv_aload_n hx hb dL_law_285 rfl (lv_at hl 2 rfl) ?_
      refine lv_aload_n hx hb dL_law_286 rfl (lv_at hl 3 rfl) ?_
      refine lv_iload hx hb dL_law_287 (lv_at hl 11 rfl) ?_
      refine vg_iald hx hb hE.1 hP 0 0 rfl rfl (f := hf) (j := p1) (by omega) (by decide) dL_law_289 ?_
      refine vg_tp (nI (tn (μ 2 p1))) (hh p1 (by omega)) ?_
      refine lv_iload hx hb dL_law_290 (lv_at hl 11 rfl) ?_
      refine lv_iload hx hb dL_law_292 (lv_at hl 13 rfl) ?_
      refine vQ_r (va_runV (As := [.int (nI (tn (μ 2 p1))), .int (nI p1), .int (nI q1)]) (rest := []) ⟨hx, hb, hml, hown, hts⟩ (kN_between l hfl D cy H.size e0 mi vo 130 (mFlw μ (nI p1) (nI q1)) u hK2.1 (by omega) hK2.2.1.1 (show tn (μ 2 p1) < 4 by omega) hp hq) (cwV 3 hts gL_law_X4_between rfl rfl rfl (by decide +kernel) ⟨Nat.le_of_ble_eq_true rfl, Nat.le_of_ble_eq_true rfl⟩) (vQ_pV hK2.1 hE hF hZ hS hA hP hD) rfl rfl hl.1 rfl (lv_room (Nat.le_of_ble_eq_true rfl)) dL_law_294 ⟨by show cells + 12 + 0 ≤ 600104; omega, by show slots + 12351 + 0 ≤ 7301314; omega⟩) hP hD hS hA (fun r _ H locs hk hP hD hS => ?_)
      rw [bt_R hK2.2.1.1 (show tn (μ 2 p1) < 4 by omega) hp hq] at hk
      subst hk
      refine lv_iload hx hb dL_law_297 (lv_at hl 0 rfl) ?_
      refine lv_if_eq (tgt := 306) hx hb dL_law_299 (by decide) (fun z9 => absurd z9 (fun q9 => absurd ((nI_eq (a := 1) (b := 0) (by omega) (by omega)).mp q9) (by omega))) (fun _ => ?_)
      refine lv_iconst (v := 1) hx hb dL_law_302 (by decide) ?_
      refine vg_tp (nI 1) (by decide) ?_
      refine lv_goto (tgt := 308) hx hb dL_law_303 (by decide) ?_
      refine lv_icmp_ne (tgt := 315) hx hb dL_law_308 (by decide) (fun z9 => absurd ((nI_eq (a := bt (mFlw μ (nI p1) (nI q1)) (tn (μ 2 p1)) p1 q1) (b := 1) (by omega) (by omega)).mpr (by omega)) z9) (fun _ => ?_)
      refine lv_iconst (v := 1) hx hb dL_law_311 (by decide) ?_
      refine vg_tp (nI 1) (by decide) ?_
      refine lv_goto (tgt := 316) hx hb dL_law_312 (by decide) ?_
      refine lv_istore (lv' := [(7, .int (nI 1)), (18, .int (nI 1)), (0, .ref b), (1, .ref vo), (2, .ref ha), (3, .ref ra), (4, .ref ga), (5, .int (nI 6)), (6, .int (nI nn)), (8, .int (nI k1)), (9, .int (nI kw)), (10, .int (nI p1)), (11, .int (nI v1)), (12, .int (nI q1)), (13, .int (nI n1)), (14, .int (nI s1)), (15, .int (nI (cD μ (tn (μ 2 p1)) nc))), (16, .int (nI (bt μ (tn (μ 2 p1)) p1 q1))), (17, .int (nI (bt μ (tn (μ 2 p1)) q1 p1)))]) hx hb dL_law_316 hl (by decide) rfl (fun ls hl => ?_)
      refine lv_goto (tgt := 1129) hx hb dL_law_318 (by decide) ?_
      refine W.widen (k := cells + 24) (n := slots + 24702) (by omega) (by omega) ?_
      exact kk (mFlw μ (nI p1) (nI q1)) nn nc2 u af gf H locs ls ⟨hP, hD, hS, hK2, LA3_SM hA3 hSM⟩ (by omega) (by omega) (by omega) (lv_sub hl [2, 3, 4, 5, 6, 7, 8, 0, 9, 11, 13, 14] rfl)

set_option maxHeartbeats 4000000 in
set_option maxRecDepth 100000 in
theorem kC_answer {p : Program} {l : Launch} {e : Env} {s : State} {m : MethodId} {below : List Frame} {meth : Method} {c : Code} {b L : Nat} {xs : Nat → Int32} {A0 : Nat → Prop} {D : va_G} {cy : Nat → ClassId} {e0 mi vo ha ra ga nn nc cells slots : Nat} {hf af gf : Nat → Int32} {μ : Nat → Nat → Int32} {w : va_W} {H : Heap} {locs : List Loc} {ls : Array Slot} {Q : State → Prop} (hLE : LE p l s m c b L xs A0 D cy e0 mi) (hLW : LW s A0 D cy e0 vo ha ra ga hf af gf μ nn nc w H locs) (hn : nn ≤ 20) (hc : nc < 60) {k1 kw p1 v1 q1 n1 s1 : Nat} (hk1 : k1 < 60) (hp : p1 < 6) (hq : q1 < 6) (hpq : p1 ≠ q1) (hv : v1 < 960) (hn1 : 0 < nn → n1 < nn) (hs1 : s1 < 3) (hkw : kw < 22) (hcl : cells + 24 ≤ 600104) (hsl : slots + 24702 ≤ 7301314) (hl : lv_has ls 23 [(0, .ref b), (1, .ref vo), (2, .ref ha), (3, .ref ra), (4, .ref ga), (5, .int (nI 6)), (6, .int (nI nn)), (7, .int (nI 1)), (8, .int (nI k1)), (9, .int (nI kw)), (10, .int (nI p1)), (11, .int (nI v1)), (12, .int (nI q1)), (13, .int (nI n1)), (14, .int (nI s1)), (15, .int (nI (cD μ (tn (μ 2 p1)) nc))), (16, .int (nI (bt μ (tn (μ 2 p1)) p1 q1))), (17, .int (nI (bt μ (tn (μ 2 p1)) q1 p1)))]) (kk : ∀ (μ' : Nat → Nat → Int32) (nn' nc' : Nat) (w' : va_W) (af' gf' : Nat → Int32) (H' : Heap) (locs' : List Loc) (ls' : Array Slot), LW s A0 D cy e0 vo ha ra ga hf af' gf' μ' nn' nc' w' H' locs' → nn' ≤ 20 → nn ≤ nn' → nc' ≤ nc + 1 → lv_has ls' 23 [(0, .ref b), (1, .ref vo), (2, .ref ha), (3, .ref ra), (4, .ref ga), (5, .int (nI 6)), (6, .int (nI nn')), (7, .int (nI 1)), (8, .int (nI k1)), (10, .int (nI p1)), (12, .int (nI q1)), (13, .int (nI n1))] → W p l e room_1 s m #[Value.ref b] below meth c H' locs' (cells + 24) (slots + 24702) Q (F0 m 1129 ls' [])) : W p l e room_1 s m #[Value.ref b] below meth c H locs cells slots Q (F0 m 328 ls []) := by
  obtain ⟨⟨hx, hb, hml, hown, hts⟩, ⟨hX, hbl, hL, hfl, hA, hbA⟩, hE, hF, hZ⟩ := hLE
  obtain ⟨hP, hD, hS, hK, hA3⟩ := hLW
  have hh := hA3.1
  have haf := hA3.2.1
  have hgf := hA3.2.2
  have hh1 := hK.2.1.2.1 p1 hp
  have bw := bt_well (KK_I4 hK (tn (μ 2 p1)) (by omega)) (hK.2.2.2.2.1 (tn (μ 2 p1)) (by omega)) hp hq
  have bl1 := bt_lt μ (tn (μ 2 p1)) p1 q1
  have bl2 := bt_lt μ (tn (μ 2 p1)) q1 p1
  have bc1 := cD_le μ (tn (μ 2 p1)) nc
  refine lv_iload hx hb dL_law_328 (lv_at hl 17 rfl) ?_
  refine lv_iconst (v := 4) hx hb dL_law_330 (by decide) ?_
  refine vg_tp (nI 4) (by decide) ?_
  refine lv_irem hx hb dL_law_331 (by decide) ?_
  refine vg_tp (nI ((bt μ (tn (μ 2 p1)) q1 p1) % 4)) (pk_rem (by omega) (by omega) (by omega)) ?_
  refine lv_iconst (v := 1) hx hb dL_law_332 (by decide) ?_
  refine vg_tp (nI 1) (by decide) ?_
  refine lv_icmp_ne (tgt := 340) hx hb dL_law_333 (by decide) (fun c1 => ?_) (fun c1 => ?_)
  · have c1 : ¬ ((bt μ (tn (μ 2 p1)) q1 p1) % 4 = 1) := fun q9 => c1 ((nI_eq (a := (bt μ (tn (μ 2 p1)) q1 p1) % 4) (b := 1) (by omega) (by omega)).mpr q9)
    refine lv_iconst (v := 0) hx hb dL_law_340 (by decide) ?_
    refine vg_tp (nI 0) (by decide) ?_
    have hm : ¬ bt μ (tn (μ 2 p1)) q1 p1 % 4 = 1 := c1
    refine lv_istore (lv' := [(18, .int (nI 0)), (0, .ref b), (1, .ref vo), (2, .ref ha), (3, .ref ra), (4, .ref ga), (5, .int (nI 6)), (6, .int (nI nn)), (7, .int (nI 1)), (8, .int (nI k1)), (9, .int (nI kw)), (10, .int (nI p1)), (11, .int (nI v1)), (12, .int (nI q1)), (13, .int (nI n1)), (14, .int (nI s1)), (15, .int (nI (cD μ (tn (μ 2 p1)) nc))), (16, .int (nI (bt μ (tn (μ 2 p1)) p1 q1))), (17, .int (nI (bt μ (tn (μ 2 p1)) q1 p1)))]) hx hb dL_law_341 hl (by decide) rfl (fun ls hl => ?_)
    refine lv_aload_n hx hb dL_law_343 rfl (lv_at hl 2 rfl) ?_
    refine lv_iload hx hb dL_law_344 (lv_at hl 11 rfl) ?_
    refine lv_iload hx hb dL_law_346 (lv_at hl 13 rfl) ?_
    refine lv_iload hx hb dL_law_348 (lv_at hl 12 rfl) ?_
    refine lv_sipush (v := 200) hx hb dL_law_350 (by decide) ?_
    refine vg_tp (nI 200) (by decide) ?_
    refine lv_icmp_le (tgt := 360) hx hb dL_law_353 (by decide) (fun cx => ?_) (fun cx => ?_)
    · have cx : v1 ≤ 200 := (nI_leI (a := v1) (b := 200) (by omega) (by omega)).mp cx
      refine lv_iconst (v := 0) hx hb dL_law_360 (by decide) ?_
      refine vg_tp (nI 0) (by decide) ?_
      refine vg_tp (bI false) rfl ?_
      refine vQ_i (vx_runSW (As := [.ref vo, .int (nI p1), .int (nI q1), .int (bI false)]) (rest := []) ⟨hx, hb, hml, hown, hts⟩ (kN_isAnswer l hfl D cy H.size e0 mi vo 130 μ w hK.1 (by omega) hK.2.1.1 false hp hq) (vx_cwSW 4 hts gL_law_L_isAnswer rfl rfl rfl (by decide +kernel) ⟨Nat.le_of_ble_eq_true rfl, Nat.le_of_ble_eq_true rfl⟩) (vQ_pS hE hF hZ hS hA hP hD) rfl rfl hl.1 rfl (lv_room (Nat.le_of_ble_eq_true rfl)) dL_law_361 ⟨by show cells + 12 ≤ 600104; omega, by show slots + 12351 ≤ 7301314; omega⟩) hP hD hS hA (fun r u H locs hk hP hD hS => ?_)
      obtain ⟨hk1a, hk2⟩ := hk
      obtain ⟨nc2, a1, hK2, hSM, a2, a4⟩ := c_answer false hK hn hc hp hq hpq hk2 false ((decide_eq_false hm).symm)
      rw [a2] at hk1a
      subst hk1a
      rw [if_neg (by decide)] at a4
      have bl3 := bt_lt (mAns μ (nI p1) (nI q1) false) (tn (μ 2 p1)) q1 p1
      refine lv_iload hx hb dL_law_364 (lv_at hl 0 rfl) ?_
      refine lv_icmp_ne (tgt := 411) hx hb dL_law_366 (by decide) (fun z9 => absurd (show bI false = nI 0 from rfl) z9) (fun _ => ?_)
      refine lv_aload_n hx hb dL_law_369 rfl (lv_at hl 2 rfl) ?_
      refine lv_aload_n hx hb dL_law_370 rfl (lv_at hl 3 rfl) ?_
      refine lv_iload hx hb dL_law_371 (lv_at hl 11 rfl) ?_
      refine vg_iald hx hb hE.1 hP 0 0 rfl rfl (f := hf) (j := p1) (by omega) (by decide) dL_law_373 ?_
      refine vg_tp (nI (tn (μ 2 p1))) (hh p1 (by omega)) ?_
      refine lv_iload hx hb dL_law_374 (lv_at hl 13 rfl) ?_
      refine lv_iload hx hb dL_law_376 (lv_at hl 11 rfl) ?_
      refine vQ_r (va_runV (As := [.int (nI (tn (μ 2 p1))), .int (nI q1), .int (nI p1)]) (rest := []) ⟨hx, hb, hml, hown, hts⟩ (kN_between l hfl D cy H.size e0 mi vo 130 (mAns μ (nI p1) (nI q1) false) u hK2.1 (by omega) hK2.2.1.1 (show tn (μ 2 p1) < 4 by omega) hq hp) (cwV 3 hts gL_law_X4_between rfl rfl rfl (by decide +kernel) ⟨Nat.le_of_ble_eq_true rfl, Nat.le_of_ble_eq_true rfl⟩) (vQ_pV hK2.1 hE hF hZ hS hA hP hD) rfl rfl hl.1 rfl (lv_room (Nat.le_of_ble_eq_true rfl)) dL_law_378 ⟨by show cells + 12 + 0 ≤ 600104; omega, by show slots + 12351 + 0 ≤ 7301314; omega⟩) hP hD hS hA (fun r _ H locs hk hP hD hS => ?_)
      rw [bt_R hK2.2.1.1 (show tn (μ 2 p1) < 4 by omega) hq hp] at hk
      subst hk
      refine lv_iload hx hb dL_law_381 (lv_at hl 0 rfl) ?_
      refine lv_if_eq (tgt := 402) hx hb dL_law_383 (by decide) (fun _ => ?_) (fun z9 => absurd ((nI_eq (a := 0) (b := 0) (by omega) (by omega)).mpr (by omega)) z9)
      refine lv_iload hx hb dL_law_402 (lv_at hl 18 rfl) ?_
      refine lv_icmp_ne (tgt := 411) hx hb dL_law_404 (by decide) (fun z9 => absurd ((nI_eq (a := bt (mAns μ (nI p1) (nI q1) false) (tn (μ 2 p1)) q1 p1) (b := bt μ (tn (μ 2 p1)) q1 p1) (by omega) (by omega)).mpr (by omega)) z9) (fun _ => ?_)
      refine lv_iconst (v := 1) hx hb dL_law_407 (by decide) ?_
      refine vg_tp (nI 1) (by decide) ?_
      refine lv_goto (tgt := 412) hx hb dL_law_408 (by decide) ?_
      refine lv_istore (lv' := [(7, .int (nI 1)), (18, .int (nI 0)), (0, .ref b), (1, .ref vo), (2, .ref ha), (3, .ref ra), (4, .ref ga), (5, .int (nI 6)), (6, .int (nI nn)), (8, .int (nI k1)), (9, .int (nI kw)), (10, .int (nI p1)), (11, .int (nI v1)), (12, .int (nI q1)), (13, .int (nI n1)), (14, .int (nI s1)), (15, .int (nI (cD μ (tn (μ 2 p1)) nc))), (16, .int (nI (bt μ (tn (μ 2 p1)) p1 q1))), (17, .int (nI (bt μ (tn (μ 2 p1)) q1 p1)))]) hx hb dL_law_412 hl (by decide) rfl (fun ls hl => ?_)
      refine lv_goto (tgt := 1129) hx hb dL_law_414 (by decide) ?_
      refine W.widen (k := cells + 24) (n := slots + 24702) (by omega) (by omega) ?_
      exact kk (mAns μ (nI p1) (nI q1) false) nn nc2 u af gf H locs ls ⟨hP, hD, hS, hK2, LA3_SM hA3 hSM⟩ (by omega) (by omega) (by omega) (lv_sub hl [2, 3, 4, 5, 6, 7, 8, 0, 9, 11, 13, 14] rfl)
    · have cx : ¬ (v1 ≤ 200) := fun q9 => cx ((nI_leI (a := v1) (b := 200) (by omega) (by omega)).mpr q9)
      refine lv_iconst (v := 1) hx hb dL_law_356 (by decide) ?_
      refine vg_tp (nI 1) (by decide) ?_
      refine lv_goto (tgt := 361) hx hb dL_law_357 (by decide) ?_
      refine vg_tp (bI true) rfl ?_
      refine vQ_i (vx_runSW (As := [.ref vo, .int (nI p1), .int (nI q1), .int (bI true)]) (rest := []) ⟨hx, hb, hml, hown, hts⟩ (kN_isAnswer l hfl D cy H.size e0 mi vo 130 μ w hK.1 (by omega) hK.2.1.1 true hp hq) (vx_cwSW 4 hts gL_law_L_isAnswer rfl rfl rfl (by decide +kernel) ⟨Nat.le_of_ble_eq_true rfl, Nat.le_of_ble_eq_true rfl⟩) (vQ_pS hE hF hZ hS hA hP hD) rfl rfl hl.1 rfl (lv_room (Nat.le_of_ble_eq_true rfl)) dL_law_361 ⟨by show cells + 12 ≤ 600104; omega, by show slots + 12351 ≤ 7301314; omega⟩) hP hD hS hA (fun r u H locs hk hP hD hS => ?_)
      obtain ⟨hk1a, hk2⟩ := hk
      obtain ⟨nc2, a1, hK2, hSM, a2, a4⟩ := c_answer true hK hn hc hp hq hpq hk2 false ((decide_eq_false hm).symm)
      rw [a2] at hk1a
      subst hk1a
      rw [if_neg (by decide)] at a4
      have bl3 := bt_lt (mAns μ (nI p1) (nI q1) true) (tn (μ 2 p1)) q1 p1
      refine lv_iload hx hb dL_law_364 (lv_at hl 0 rfl) ?_
      refine lv_icmp_ne (tgt := 411) hx hb dL_law_366 (by decide) (fun z9 => absurd (show bI false = nI 0 from rfl) z9) (fun _ => ?_)
      refine lv_aload_n hx hb dL_law_369 rfl (lv_at hl 2 rfl) ?_
      refine lv_aload_n hx hb dL_law_370 rfl (lv_at hl 3 rfl) ?_
      refine lv_iload hx hb dL_law_371 (lv_at hl 11 rfl) ?_
      refine vg_iald hx hb hE.1 hP 0 0 rfl rfl (f := hf) (j := p1) (by omega) (by decide) dL_law_373 ?_
      refine vg_tp (nI (tn (μ 2 p1))) (hh p1 (by omega)) ?_
      refine lv_iload hx hb dL_law_374 (lv_at hl 13 rfl) ?_
      refine lv_iload hx hb dL_law_376 (lv_at hl 11 rfl) ?_
      refine vQ_r (va_runV (As := [.int (nI (tn (μ 2 p1))), .int (nI q1), .int (nI p1)]) (rest := []) ⟨hx, hb, hml, hown, hts⟩ (kN_between l hfl D cy H.size e0 mi vo 130 (mAns μ (nI p1) (nI q1) true) u hK2.1 (by omega) hK2.2.1.1 (show tn (μ 2 p1) < 4 by omega) hq hp) (cwV 3 hts gL_law_X4_between rfl rfl rfl (by decide +kernel) ⟨Nat.le_of_ble_eq_true rfl, Nat.le_of_ble_eq_true rfl⟩) (vQ_pV hK2.1 hE hF hZ hS hA hP hD) rfl rfl hl.1 rfl (lv_room (Nat.le_of_ble_eq_true rfl)) dL_law_378 ⟨by show cells + 12 + 0 ≤ 600104; omega, by show slots + 12351 + 0 ≤ 7301314; omega⟩) hP hD hS hA (fun r _ H locs hk hP hD hS => ?_)
      rw [bt_R hK2.2.1.1 (show tn (μ 2 p1) < 4 by omega) hq hp] at hk
      subst hk
      refine lv_iload hx hb dL_law_381 (lv_at hl 0 rfl) ?_
      refine lv_if_eq (tgt := 402) hx hb dL_law_383 (by decide) (fun _ => ?_) (fun z9 => absurd ((nI_eq (a := 0) (b := 0) (by omega) (by omega)).mpr (by omega)) z9)
      refine lv_iload hx hb dL_law_402 (lv_at hl 18 rfl) ?_
      refine lv_icmp_ne (tgt := 411) hx hb dL_law_404 (by decide) (fun z9 => absurd ((nI_eq (a := bt (mAns μ (nI p1) (nI q1) true) (tn (μ 2 p1)) q1 p1) (b := bt μ (tn (μ 2 p1)) q1 p1) (by omega) (by omega)).mpr (by omega)) z9) (fun _ => ?_)
      refine lv_iconst (v := 1) hx hb dL_law_407 (by decide) ?_
      refine vg_tp (nI 1) (by decide) ?_
      refine lv_goto (tgt := 412) hx hb dL_law_408 (by decide) ?_
      refine lv_istore (lv' := [(7, .int (nI 1)), (18, .int (nI 0)), (0, .ref b), (1, .ref vo), (2, .ref ha), (3, .ref ra), (4, .ref ga), (5, .int (nI 6)), (6, .int (nI nn)), (8, .int (nI k1)), (9, .int (nI kw)), (10, .int (nI p1)), (11, .int (nI v1)), (12, .int (nI q1)), (13, .int (nI n1)), (14, .int (nI s1)), (15, .int (nI (cD μ (tn (μ 2 p1)) nc))), (16, .int (nI (bt μ (tn (μ 2 p1)) p1 q1))), (17, .int (nI (bt μ (tn (μ 2 p1)) q1 p1)))]) hx hb dL_law_412 hl (by decide) rfl (fun ls hl => ?_)
      refine lv_goto (tgt := 1129) hx hb dL_law_414 (by decide) ?_
      refine W.widen (k := cells + 24) (n := slots + 24702) (by omega) (by omega) ?_
      exact kk (mAns μ (nI p1) (nI q1) true) nn nc2 u af gf H locs ls ⟨hP, hD, hS, hK2, LA3_SM hA3 hSM⟩ (by omega) (by omega) (by omega) (lv_sub hl [2, 3, 4, 5, 6, 7, 8, 0, 9, 11, 13, 14] rfl)
  · have c1 : (bt μ (tn (μ 2 p1)) q1 p1) % 4 = 1 := (nI_eq (a := (bt μ (tn (μ 2 p1)) q1 p1) % 4) (b := 1) (by omega) (by omega)).mp c1
    refine lv_iconst (v := 1) hx hb dL_law_336 (by decide) ?_
    refine vg_tp (nI 1) (by decide) ?_
    refine lv_goto (tgt := 341) hx hb dL_law_337 (by decide) ?_
    have hm : bt μ (tn (μ 2 p1)) q1 p1 % 4 = 1 := c1
    refine lv_istore (lv' := [(18, .int (nI 1)), (0, .ref b), (1, .ref vo), (2, .ref ha), (3, .ref ra), (4, .ref ga), (5, .int (nI 6)), (6, .int (nI nn)), (7, .int (nI 1)), (8, .int (nI k1)), (9, .int (nI kw)), (10, .int (nI p1)), (11, .int (nI v1)), (12, .int (nI q1)), (13, .int (nI n1)), (14, .int (nI s1)), (15, .int (nI (cD μ (tn (μ 2 p1)) nc))), (16, .int (nI (bt μ (tn (μ 2 p1)) p1 q1))), (17, .int (nI (bt μ (tn (μ 2 p1)) q1 p1)))]) hx hb dL_law_341 hl (by decide) rfl (fun ls hl => ?_)
    refine lv_aload_n hx hb dL_law_343 rfl (lv_at hl 2 rfl) ?_
    refine lv_iload hx hb dL_law_344 (lv_at hl 11 rfl) ?_
    refine lv_iload hx hb dL_law_346 (lv_at hl 13 rfl) ?_
    refine lv_iload hx hb dL_law_348 (lv_at hl 12 rfl) ?_
    refine lv_sipush (v := 200) hx hb dL_law_350 (by decide) ?_
    refine vg_tp (nI 200) (by decide) ?_
    refine lv_icmp_le (tgt := 360) hx hb dL_law_353 (by decide) (fun cx => ?_) (fun cx => ?_)
    · have cx : v1 ≤ 200 := (nI_leI (a := v1) (b := 200) (by omega) (by omega)).mp cx
      refine lv_iconst (v := 0) hx hb dL_law_360 (by decide) ?_
      refine vg_tp (nI 0) (by decide) ?_
      refine vg_tp (bI false) rfl ?_
      refine vQ_i (vx_runSW (As := [.ref vo, .int (nI p1), .int (nI q1), .int (bI false)]) (rest := []) ⟨hx, hb, hml, hown, hts⟩ (kN_isAnswer l hfl D cy H.size e0 mi vo 130 μ w hK.1 (by omega) hK.2.1.1 false hp hq) (vx_cwSW 4 hts gL_law_L_isAnswer rfl rfl rfl (by decide +kernel) ⟨Nat.le_of_ble_eq_true rfl, Nat.le_of_ble_eq_true rfl⟩) (vQ_pS hE hF hZ hS hA hP hD) rfl rfl hl.1 rfl (lv_room (Nat.le_of_ble_eq_true rfl)) dL_law_361 ⟨by show cells + 12 ≤ 600104; omega, by show slots + 12351 ≤ 7301314; omega⟩) hP hD hS hA (fun r u H locs hk hP hD hS => ?_)
      obtain ⟨hk1a, hk2⟩ := hk
      obtain ⟨nc2, a1, hK2, hSM, a2, a4⟩ := c_answer false hK hn hc hp hq hpq hk2 true ((decide_eq_true hm).symm)
      rw [a2] at hk1a
      subst hk1a
      rw [if_pos rfl, if_neg (by decide)] at a4
      have bl3 := bt_lt (mAns μ (nI p1) (nI q1) false) (tn (μ 2 p1)) q1 p1
      refine lv_iload hx hb dL_law_364 (lv_at hl 0 rfl) ?_
      refine lv_icmp_ne (tgt := 411) hx hb dL_law_366 (by decide) (fun z9 => absurd (show bI true = nI 1 from rfl) z9) (fun _ => ?_)
      refine lv_aload_n hx hb dL_law_369 rfl (lv_at hl 2 rfl) ?_
      refine lv_aload_n hx hb dL_law_370 rfl (lv_at hl 3 rfl) ?_
      refine lv_iload hx hb dL_law_371 (lv_at hl 11 rfl) ?_
      refine vg_iald hx hb hE.1 hP 0 0 rfl rfl (f := hf) (j := p1) (by omega) (by decide) dL_law_373 ?_
      refine vg_tp (nI (tn (μ 2 p1))) (hh p1 (by omega)) ?_
      refine lv_iload hx hb dL_law_374 (lv_at hl 13 rfl) ?_
      refine lv_iload hx hb dL_law_376 (lv_at hl 11 rfl) ?_
      refine vQ_r (va_runV (As := [.int (nI (tn (μ 2 p1))), .int (nI q1), .int (nI p1)]) (rest := []) ⟨hx, hb, hml, hown, hts⟩ (kN_between l hfl D cy H.size e0 mi vo 130 (mAns μ (nI p1) (nI q1) false) u hK2.1 (by omega) hK2.2.1.1 (show tn (μ 2 p1) < 4 by omega) hq hp) (cwV 3 hts gL_law_X4_between rfl rfl rfl (by decide +kernel) ⟨Nat.le_of_ble_eq_true rfl, Nat.le_of_ble_eq_true rfl⟩) (vQ_pV hK2.1 hE hF hZ hS hA hP hD) rfl rfl hl.1 rfl (lv_room (Nat.le_of_ble_eq_true rfl)) dL_law_378 ⟨by show cells + 12 + 0 ≤ 600104; omega, by show slots + 12351 + 0 ≤ 7301314; omega⟩) hP hD hS hA (fun r _ H locs hk hP hD hS => ?_)
      rw [bt_R hK2.2.1.1 (show tn (μ 2 p1) < 4 by omega) hq hp] at hk
      subst hk
      refine lv_iload hx hb dL_law_381 (lv_at hl 0 rfl) ?_
      refine lv_if_eq (tgt := 402) hx hb dL_law_383 (by decide) (fun z9 => absurd z9 (fun q9 => absurd ((nI_eq (a := 1) (b := 0) (by omega) (by omega)).mp q9) (by omega))) (fun _ => ?_)
      refine lv_iload hx hb dL_law_386 (lv_at hl 12 rfl) ?_
      refine lv_sipush (v := 200) hx hb dL_law_388 (by decide) ?_
      refine vg_tp (nI 200) (by decide) ?_
      refine lv_icmp_le (tgt := 398) hx hb dL_law_391 (by decide) (fun _ => ?_) (fun z9 => absurd ((nI_leI (a := v1) (b := 200) (by omega) (by omega)).mpr (by omega)) z9)
      refine lv_iconst (v := 0) hx hb dL_law_398 (by decide) ?_
      refine vg_tp (nI 0) (by decide) ?_
      refine lv_goto (tgt := 404) hx hb dL_law_399 (by decide) ?_
      refine lv_icmp_ne (tgt := 411) hx hb dL_law_404 (by decide) (fun z9 => absurd ((nI_eq (a := bt (mAns μ (nI p1) (nI q1) false) (tn (μ 2 p1)) q1 p1) (b := 0) (by omega) (by omega)).mpr (by omega)) z9) (fun _ => ?_)
      refine lv_iconst (v := 1) hx hb dL_law_407 (by decide) ?_
      refine vg_tp (nI 1) (by decide) ?_
      refine lv_goto (tgt := 412) hx hb dL_law_408 (by decide) ?_
      refine lv_istore (lv' := [(7, .int (nI 1)), (18, .int (nI 1)), (0, .ref b), (1, .ref vo), (2, .ref ha), (3, .ref ra), (4, .ref ga), (5, .int (nI 6)), (6, .int (nI nn)), (8, .int (nI k1)), (9, .int (nI kw)), (10, .int (nI p1)), (11, .int (nI v1)), (12, .int (nI q1)), (13, .int (nI n1)), (14, .int (nI s1)), (15, .int (nI (cD μ (tn (μ 2 p1)) nc))), (16, .int (nI (bt μ (tn (μ 2 p1)) p1 q1))), (17, .int (nI (bt μ (tn (μ 2 p1)) q1 p1)))]) hx hb dL_law_412 hl (by decide) rfl (fun ls hl => ?_)
      refine lv_goto (tgt := 1129) hx hb dL_law_414 (by decide) ?_
      refine W.widen (k := cells + 24) (n := slots + 24702) (by omega) (by omega) ?_
      exact kk (mAns μ (nI p1) (nI q1) false) nn nc2 u af gf H locs ls ⟨hP, hD, hS, hK2, LA3_SM hA3 hSM⟩ (by omega) (by omega) (by omega) (lv_sub hl [2, 3, 4, 5, 6, 7, 8, 0, 9, 11, 13, 14] rfl)
    · have cx : ¬ (v1 ≤ 200) := fun q9 => cx ((nI_leI (a := v1) (b := 200) (by omega) (by omega)).mpr q9)
      refine lv_iconst (v := 1) hx hb dL_law_356 (by decide) ?_
      refine vg_tp (nI 1) (by decide) ?_
      refine lv_goto (tgt := 361) hx hb dL_law_357 (by decide) ?_
      refine vg_tp (bI true) rfl ?_
      refine vQ_i (vx_runSW (As := [.ref vo, .int (nI p1), .int (nI q1), .int (bI true)]) (rest := []) ⟨hx, hb, hml, hown, hts⟩ (kN_isAnswer l hfl D cy H.size e0 mi vo 130 μ w hK.1 (by omega) hK.2.1.1 true hp hq) (vx_cwSW 4 hts gL_law_L_isAnswer rfl rfl rfl (by decide +kernel) ⟨Nat.le_of_ble_eq_true rfl, Nat.le_of_ble_eq_true rfl⟩) (vQ_pS hE hF hZ hS hA hP hD) rfl rfl hl.1 rfl (lv_room (Nat.le_of_ble_eq_true rfl)) dL_law_361 ⟨by show cells + 12 ≤ 600104; omega, by show slots + 12351 ≤ 7301314; omega⟩) hP hD hS hA (fun r u H locs hk hP hD hS => ?_)
      obtain ⟨hk1a, hk2⟩ := hk
      obtain ⟨nc2, a1, hK2, hSM, a2, a4⟩ := c_answer true hK hn hc hp hq hpq hk2 true ((decide_eq_true hm).symm)
      rw [a2] at hk1a
      subst hk1a
      rw [if_pos rfl, if_pos rfl] at a4
      have bl3 := bt_lt (mAns μ (nI p1) (nI q1) true) (tn (μ 2 p1)) q1 p1
      refine lv_iload hx hb dL_law_364 (lv_at hl 0 rfl) ?_
      refine lv_icmp_ne (tgt := 411) hx hb dL_law_366 (by decide) (fun z9 => absurd (show bI true = nI 1 from rfl) z9) (fun _ => ?_)
      refine lv_aload_n hx hb dL_law_369 rfl (lv_at hl 2 rfl) ?_
      refine lv_aload_n hx hb dL_law_370 rfl (lv_at hl 3 rfl) ?_
      refine lv_iload hx hb dL_law_371 (lv_at hl 11 rfl) ?_
      refine vg_iald hx hb hE.1 hP 0 0 rfl rfl (f := hf) (j := p1) (by omega) (by decide) dL_law_373 ?_
      refine vg_tp (nI (tn (μ 2 p1))) (hh p1 (by omega)) ?_
      refine lv_iload hx hb dL_law_374 (lv_at hl 13 rfl) ?_
      refine lv_iload hx hb dL_law_376 (lv_at hl 11 rfl) ?_
      refine vQ_r (va_runV (As := [.int (nI (tn (μ 2 p1))), .int (nI q1), .int (nI p1)]) (rest := []) ⟨hx, hb, hml, hown, hts⟩ (kN_between l hfl D cy H.size e0 mi vo 130 (mAns μ (nI p1) (nI q1) true) u hK2.1 (by omega) hK2.2.1.1 (show tn (μ 2 p1) < 4 by omega) hq hp) (cwV 3 hts gL_law_X4_between rfl rfl rfl (by decide +kernel) ⟨Nat.le_of_ble_eq_true rfl, Nat.le_of_ble_eq_true rfl⟩) (vQ_pV hK2.1 hE hF hZ hS hA hP hD) rfl rfl hl.1 rfl (lv_room (Nat.le_of_ble_eq_true rfl)) dL_law_378 ⟨by show cells + 12 + 0 ≤ 600104; omega, by show slots + 12351 + 0 ≤ 7301314; omega⟩) hP hD hS hA (fun r _ H locs hk hP hD hS => ?_)
      rw [bt_R hK2.2.1.1 (show tn (μ 2 p1) < 4 by omega) hq hp] at hk
      subst hk
      refine lv_iload hx hb dL_law_381 (lv_at hl 0 rfl) ?_
      refine lv_if_eq (tgt := 402) hx hb dL_law_383 (by decide) (fun z9 => absurd z9 (fun q9 => absurd ((nI_eq (a := 1) (b := 0) (by omega) (by omega)).mp q9) (by omega))) (fun _ => ?_)
      refine lv_iload hx hb dL_law_386 (lv_at hl 12 rfl) ?_
      refine lv_sipush (v := 200) hx hb dL_law_388 (by decide) ?_
      refine vg_tp (nI 200) (by decide) ?_
      refine lv_icmp_le (tgt := 398) hx hb dL_law_391 (by decide) (fun z9 => absurd z9 (fun q9 => absurd ((nI_leI (a := v1) (b := 200) (by omega) (by omega)).mp q9) (by omega))) (fun _ => ?_)
      refine lv_iconst (v := 2) hx hb dL_law_394 (by decide) ?_
      refine vg_tp (nI 2) (by decide) ?_
      refine lv_goto (tgt := 404) hx hb dL_law_395 (by decide) ?_
      refine lv_icmp_ne (tgt := 411) hx hb dL_law_404 (by decide) (fun z9 => absurd ((nI_eq (a := bt (mAns μ (nI p1) (nI q1) true) (tn (μ 2 p1)) q1 p1) (b := 2) (by omega) (by omega)).mpr (by omega)) z9) (fun _ => ?_)
      refine lv_iconst (v := 1) hx hb dL_law_407 (by decide) ?_
      refine vg_tp (nI 1) (by decide) ?_
      refine lv_goto (tgt := 412) hx hb dL_law_408 (by decide) ?_
      refine lv_istore (lv' := [(7, .int (nI 1)), (18, .int (nI 1)), (0, .ref b), (1, .ref vo), (2, .ref ha), (3, .ref ra), (4, .ref ga), (5, .int (nI 6)), (6, .int (nI nn)), (8, .int (nI k1)), (9, .int (nI kw)), (10, .int (nI p1)), (11, .int (nI v1)), (12, .int (nI q1)), (13, .int (nI n1)), (14, .int (nI s1)), (15, .int (nI (cD μ (tn (μ 2 p1)) nc))), (16, .int (nI (bt μ (tn (μ 2 p1)) p1 q1))), (17, .int (nI (bt μ (tn (μ 2 p1)) q1 p1)))]) hx hb dL_law_412 hl (by decide) rfl (fun ls hl => ?_)
      refine lv_goto (tgt := 1129) hx hb dL_law_414 (by decide) ?_
      refine W.widen (k := cells + 24) (n := slots + 24702) (by omega) (by omega) ?_
      exact kk (mAns μ (nI p1) (nI q1) true) nn nc2 u af gf H locs ls ⟨hP, hD, hS, hK2, LA3_SM hA3 hSM⟩ (by omega) (by omega) (by omega) (lv_sub hl [2, 3, 4, 5, 6, 7, 8, 0, 9, 11, 13, 14] rfl)

set_option maxHeartbeats 4000000 in
set_option maxRecDepth 100000 in
theorem kC_leave {p : Program} {l : Launch} {e : Env} {s : State} {m : MethodId} {below : List Frame} {meth : Method} {c : Code} {b L : Nat} {xs : Nat → Int32} {A0 : Nat → Prop} {D : va_G} {cy : Nat → ClassId} {e0 mi vo ha ra ga nn nc cells slots : Nat} {hf af gf : Nat → Int32} {μ : Nat → Nat → Int32} {w : va_W} {H : Heap} {locs : List Loc} {ls : Array Slot} {Q : State → Prop} (hLE : LE p l s m c b L xs A0 D cy e0 mi) (hLW : LW s A0 D cy e0 vo ha ra ga hf af gf μ nn nc w H locs) (hn : nn ≤ 20) (hc : nc < 60) {k1 kw p1 v1 q1 n1 s1 : Nat} (hk1 : k1 < 60) (hp : p1 < 6) (hq : q1 < 6) (hpq : p1 ≠ q1) (hv : v1 < 960) (hn1 : 0 < nn → n1 < nn) (hs1 : s1 < 3) (hkw : kw < 22) (hcl : cells + 24 ≤ 600104) (hsl : slots + 24702 ≤ 7301314) (hl : lv_has ls 23 [(0, .ref b), (1, .ref vo), (2, .ref ha), (3, .ref ra), (4, .ref ga), (5, .int (nI 6)), (6, .int (nI nn)), (7, .int (nI 1)), (8, .int (nI k1)), (9, .int (nI kw)), (10, .int (nI p1)), (11, .int (nI v1)), (12, .int (nI q1)), (13, .int (nI n1)), (14, .int (nI s1)), (15, .int (nI (cD μ (tn (μ 2 p1)) nc))), (16, .int (nI (bt μ (tn (μ 2 p1)) p1 q1))), (17, .int (nI (bt μ (tn (μ 2 p1)) q1 p1)))]) (kk : ∀ (μ' : Nat → Nat → Int32) (nn' nc' : Nat) (w' : va_W) (af' gf' : Nat → Int32) (H' : Heap) (locs' : List Loc) (ls' : Array Slot), LW s A0 D cy e0 vo ha ra ga hf af' gf' μ' nn' nc' w' H' locs' → nn' ≤ 20 → nn ≤ nn' → nc' ≤ nc + 1 → lv_has ls' 23 [(0, .ref b), (1, .ref vo), (2, .ref ha), (3, .ref ra), (4, .ref ga), (5, .int (nI 6)), (6, .int (nI nn')), (7, .int (nI 1)), (8, .int (nI k1)), (10, .int (nI p1)), (12, .int (nI q1)), (13, .int (nI n1))] → W p l e room_1 s m #[Value.ref b] below meth c H' locs' (cells + 24) (slots + 24702) Q (F0 m 1129 ls' [])) : W p l e room_1 s m #[Value.ref b] below meth c H locs cells slots Q (F0 m 424 ls []) := by
  obtain ⟨⟨hx, hb, hml, hown, hts⟩, ⟨hX, hbl, hL, hfl, hA, hbA⟩, hE, hF, hZ⟩ := hLE
  obtain ⟨hP, hD, hS, hK, hA3⟩ := hLW
  have hh := hA3.1
  have haf := hA3.2.1
  have hgf := hA3.2.2
  have hh1 := hK.2.1.2.1 p1 hp
  have bw := bt_well (KK_I4 hK (tn (μ 2 p1)) (by omega)) (hK.2.2.2.2.1 (tn (μ 2 p1)) (by omega)) hp hq
  have bl1 := bt_lt μ (tn (μ 2 p1)) p1 q1
  have bl2 := bt_lt μ (tn (μ 2 p1)) q1 p1
  have bc1 := cD_le μ (tn (μ 2 p1)) nc
  refine lv_aload_n hx hb dL_law_424 rfl (lv_at hl 1 rfl) ?_
  refine lv_iload hx hb dL_law_425 (lv_at hl 10 rfl) ?_
  refine lv_iload hx hb dL_law_427 (lv_at hl 12 rfl) ?_
  refine vQ_i (vx_runSW (As := [.ref vo, .int (nI p1), .int (nI q1)]) (rest := []) ⟨hx, hb, hml, hown, hts⟩ (kN_isLeave l hfl D cy H.size e0 mi vo 130 μ w hK.1 (by omega) hK.2.1.1 hp hq) (vx_cwSW 3 hts gL_law_L_isLeave rfl rfl rfl (by decide +kernel) ⟨Nat.le_of_ble_eq_true rfl, Nat.le_of_ble_eq_true rfl⟩) (vQ_pS hE hF hZ hS hA hP hD) rfl rfl hl.1 rfl (lv_room (Nat.le_of_ble_eq_true rfl)) dL_law_429 ⟨by show cells + 12 ≤ 600104; omega, by show slots + 12351 ≤ 7301314; omega⟩) hP hD hS hA (fun r u H locs hk hP hD hS => ?_)
  obtain ⟨hk1a, hk2⟩ := hk
  obtain ⟨nc2, a1, hK2, hSM, a2, a4⟩ := c_leave hK hn hc hp hq hpq hk2
  rw [a2] at hk1a
  subst hk1a
  have bl3 := bt_lt (mLea μ (nI p1) (nI q1)) (tn (μ 2 p1)) p1 q1
  refine lv_iload hx hb dL_law_432 (lv_at hl 16 rfl) ?_
  refine lv_iconst (v := 4) hx hb dL_law_434 (by decide) ?_
  refine vg_tp (nI 4) (by decide) ?_
  refine lv_irem hx hb dL_law_435 (by decide) ?_
  refine vg_tp (nI ((bt μ (tn (μ 2 p1)) p1 q1) % 4)) (pk_rem (by omega) (by omega) (by omega)) ?_
  refine lv_if_le (tgt := 443) hx hb dL_law_436 (by decide) (fun c1 => ?_) (fun c1 => ?_)
  · have c1 : (bt μ (tn (μ 2 p1)) p1 q1) % 4 ≤ 0 := (nI_leI (a := (bt μ (tn (μ 2 p1)) p1 q1) % 4) (b := 0) (by omega) (by omega)).mp c1
    refine lv_iconst (v := 0) hx hb dL_law_443 (by decide) ?_
    refine vg_tp (nI 0) (by decide) ?_
    refine lv_icmp_ne (tgt := 468) hx hb dL_law_444 (by decide) (fun z9 => absurd (by rw [decide_eq_false (show ¬ 0 < bt μ (tn (μ 2 p1)) p1 q1 % 4 by omega)]; rfl) z9) (fun _ => ?_)
    refine lv_aload_n hx hb dL_law_447 rfl (lv_at hl 1 rfl) ?_
    refine lv_aload_n hx hb dL_law_448 rfl (lv_at hl 2 rfl) ?_
    refine lv_iload hx hb dL_law_449 (lv_at hl 10 rfl) ?_
    refine vg_iald hx hb hE.1 hP 0 0 rfl rfl (f := hf) (j := p1) (by omega) (by decide) dL_law_451 ?_
    refine vg_tp (nI (tn (μ 2 p1))) (hh p1 (by omega)) ?_
    refine lv_iload hx hb dL_law_452 (lv_at hl 10 rfl) ?_
    refine lv_iload hx hb dL_law_454 (lv_at hl 12 rfl) ?_
    refine vQ_r (va_runV (As := [.int (nI (tn (μ 2 p1))), .int (nI p1), .int (nI q1)]) (rest := []) ⟨hx, hb, hml, hown, hts⟩ (kN_between l hfl D cy H.size e0 mi vo 130 (mLea μ (nI p1) (nI q1)) u hK2.1 (by omega) hK2.2.1.1 (show tn (μ 2 p1) < 4 by omega) hp hq) (cwV 3 hts gL_law_X4_between rfl rfl rfl (by decide +kernel) ⟨Nat.le_of_ble_eq_true rfl, Nat.le_of_ble_eq_true rfl⟩) (vQ_pV hK2.1 hE hF hZ hS hA hP hD) rfl rfl hl.1 rfl (lv_room (Nat.le_of_ble_eq_true rfl)) dL_law_456 ⟨by show cells + 12 + 0 ≤ 600104; omega, by show slots + 12351 + 0 ≤ 7301314; omega⟩) hP hD hS hA (fun r _ H locs hk hP hD hS => ?_)
    rw [bt_R hK2.2.1.1 (show tn (μ 2 p1) < 4 by omega) hp hq] at hk
    subst hk
    refine lv_iconst (v := 4) hx hb dL_law_459 (by decide) ?_
    refine vg_tp (nI 4) (by decide) ?_
    refine lv_irem hx hb dL_law_460 (by decide) ?_
    refine vg_tp (nI ((bt (mLea μ (nI p1) (nI q1)) (tn (μ 2 p1)) p1 q1) % 4)) (pk_rem (by omega) (by omega) (by omega)) ?_
    refine lv_if_ne (tgt := 468) hx hb dL_law_461 (by decide) (fun z9 => absurd ((nI_eq (a := (bt (mLea μ (nI p1) (nI q1)) (tn (μ 2 p1)) p1 q1) % 4) (b := 0) (by omega) (by omega)).mpr (by omega)) z9) (fun _ => ?_)
    refine lv_iconst (v := 1) hx hb dL_law_464 (by decide) ?_
    refine vg_tp (nI 1) (by decide) ?_
    refine lv_goto (tgt := 469) hx hb dL_law_465 (by decide) ?_
    refine lv_istore (lv' := [(7, .int (nI 1)), (0, .ref b), (1, .ref vo), (2, .ref ha), (3, .ref ra), (4, .ref ga), (5, .int (nI 6)), (6, .int (nI nn)), (8, .int (nI k1)), (9, .int (nI kw)), (10, .int (nI p1)), (11, .int (nI v1)), (12, .int (nI q1)), (13, .int (nI n1)), (14, .int (nI s1)), (15, .int (nI (cD μ (tn (μ 2 p1)) nc))), (16, .int (nI (bt μ (tn (μ 2 p1)) p1 q1))), (17, .int (nI (bt μ (tn (μ 2 p1)) q1 p1)))]) hx hb dL_law_469 hl (by decide) rfl (fun ls hl => ?_)
    refine lv_goto (tgt := 1129) hx hb dL_law_471 (by decide) ?_
    refine W.widen (k := cells + 24) (n := slots + 24702) (by omega) (by omega) ?_
    exact kk (mLea μ (nI p1) (nI q1)) nn nc2 u af gf H locs ls ⟨hP, hD, hS, hK2, LA3_SM hA3 hSM⟩ (by omega) (by omega) (by omega) (lv_sub hl [1, 2, 3, 4, 5, 6, 7, 0, 8, 10, 12, 13] rfl)
  · have c1 : ¬ ((bt μ (tn (μ 2 p1)) p1 q1) % 4 ≤ 0) := fun q9 => c1 ((nI_leI (a := (bt μ (tn (μ 2 p1)) p1 q1) % 4) (b := 0) (by omega) (by omega)).mpr q9)
    refine lv_iconst (v := 1) hx hb dL_law_439 (by decide) ?_
    refine vg_tp (nI 1) (by decide) ?_
    refine lv_goto (tgt := 444) hx hb dL_law_440 (by decide) ?_
    refine lv_icmp_ne (tgt := 468) hx hb dL_law_444 (by decide) (fun z9 => absurd (by rw [decide_eq_true (show 0 < bt μ (tn (μ 2 p1)) p1 q1 % 4 by omega)]; rfl) z9) (fun _ => ?_)
    refine lv_aload_n hx hb dL_law_447 rfl (lv_at hl 1 rfl) ?_
    refine lv_aload_n hx hb dL_law_448 rfl (lv_at hl 2 rfl) ?_
    refine lv_iload hx hb dL_law_449 (lv_at hl 10 rfl) ?_
    refine vg_iald hx hb hE.1 hP 0 0 rfl rfl (f := hf) (j := p1) (by omega) (by decide) dL_law_451 ?_
    refine vg_tp (nI (tn (μ 2 p1))) (hh p1 (by omega)) ?_
    refine lv_iload hx hb dL_law_452 (lv_at hl 10 rfl) ?_
    refine lv_iload hx hb dL_law_454 (lv_at hl 12 rfl) ?_
    refine vQ_r (va_runV (As := [.int (nI (tn (μ 2 p1))), .int (nI p1), .int (nI q1)]) (rest := []) ⟨hx, hb, hml, hown, hts⟩ (kN_between l hfl D cy H.size e0 mi vo 130 (mLea μ (nI p1) (nI q1)) u hK2.1 (by omega) hK2.2.1.1 (show tn (μ 2 p1) < 4 by omega) hp hq) (cwV 3 hts gL_law_X4_between rfl rfl rfl (by decide +kernel) ⟨Nat.le_of_ble_eq_true rfl, Nat.le_of_ble_eq_true rfl⟩) (vQ_pV hK2.1 hE hF hZ hS hA hP hD) rfl rfl hl.1 rfl (lv_room (Nat.le_of_ble_eq_true rfl)) dL_law_456 ⟨by show cells + 12 + 0 ≤ 600104; omega, by show slots + 12351 + 0 ≤ 7301314; omega⟩) hP hD hS hA (fun r _ H locs hk hP hD hS => ?_)
    rw [bt_R hK2.2.1.1 (show tn (μ 2 p1) < 4 by omega) hp hq] at hk
    subst hk
    refine lv_iconst (v := 4) hx hb dL_law_459 (by decide) ?_
    refine vg_tp (nI 4) (by decide) ?_
    refine lv_irem hx hb dL_law_460 (by decide) ?_
    refine vg_tp (nI ((bt (mLea μ (nI p1) (nI q1)) (tn (μ 2 p1)) p1 q1) % 4)) (pk_rem (by omega) (by omega) (by omega)) ?_
    refine lv_if_ne (tgt := 468) hx hb dL_law_461 (by decide) (fun z9 => absurd ((nI_eq (a := (bt (mLea μ (nI p1) (nI q1)) (tn (μ 2 p1)) p1 q1) % 4) (b := 0) (by omega) (by omega)).mpr (by omega)) z9) (fun _ => ?_)
    refine lv_iconst (v := 1) hx hb dL_law_464 (by decide) ?_
    refine vg_tp (nI 1) (by decide) ?_
    refine lv_goto (tgt := 469) hx hb dL_law_465 (by decide) ?_
    refine lv_istore (lv' := [(7, .int (nI 1)), (0, .ref b), (1, .ref vo), (2, .ref ha), (3, .ref ra), (4, .ref ga), (5, .int (nI 6)), (6, .int (nI nn)), (8, .int (nI k1)), (9, .int (nI kw)), (10, .int (nI p1)), (11, .int (nI v1)), (12, .int (nI q1)), (13, .int (nI n1)), (14, .int (nI s1)), (15, .int (nI (cD μ (tn (μ 2 p1)) nc))), (16, .int (nI (bt μ (tn (μ 2 p1)) p1 q1))), (17, .int (nI (bt μ (tn (μ 2 p1)) q1 p1)))]) hx hb dL_law_469 hl (by decide) rfl (fun ls hl => ?_)
    refine lv_goto (tgt := 1129) hx hb dL_law_471 (by decide) ?_
    refine W.widen (k := cells + 24) (n := slots + 24702) (by omega) (by omega) ?_
    exact kk (mLea μ (nI p1) (nI q1)) nn nc2 u af gf H locs ls ⟨hP, hD, hS, hK2, LA3_SM hA3 hSM⟩ (by omega) (by omega) (by omega) (lv_sub hl [1, 2, 3, 4, 5, 6, 7, 0, 8, 10, 12, 13] rfl)

set_option maxHeartbeats 4000000 in
set_option maxRecDepth 100000 in
theorem kC_block {p : Program} {l : Launch} {e : Env} {s : State} {m : MethodId} {below : List Frame} {meth : Method} {c : Code} {b L : Nat} {xs : Nat → Int32} {A0 : Nat → Prop} {D : va_G} {cy : Nat → ClassId} {e0 mi vo ha ra ga nn nc cells slots : Nat} {hf af gf : Nat → Int32} {μ : Nat → Nat → Int32} {w : va_W} {H : Heap} {locs : List Loc} {ls : Array Slot} {Q : State → Prop} (hLE : LE p l s m c b L xs A0 D cy e0 mi) (hLW : LW s A0 D cy e0 vo ha ra ga hf af gf μ nn nc w H locs) (hn : nn ≤ 20) (hc : nc < 60) {k1 kw p1 v1 q1 n1 s1 : Nat} (hk1 : k1 < 60) (hp : p1 < 6) (hq : q1 < 6) (hpq : p1 ≠ q1) (hv : v1 < 960) (hn1 : 0 < nn → n1 < nn) (hs1 : s1 < 3) (hkw : kw < 22) (hcl : cells + 24 ≤ 600104) (hsl : slots + 24702 ≤ 7301314) (hl : lv_has ls 23 [(0, .ref b), (1, .ref vo), (2, .ref ha), (3, .ref ra), (4, .ref ga), (5, .int (nI 6)), (6, .int (nI nn)), (7, .int (nI 1)), (8, .int (nI k1)), (9, .int (nI kw)), (10, .int (nI p1)), (11, .int (nI v1)), (12, .int (nI q1)), (13, .int (nI n1)), (14, .int (nI s1)), (15, .int (nI (cD μ (tn (μ 2 p1)) nc))), (16, .int (nI (bt μ (tn (μ 2 p1)) p1 q1))), (17, .int (nI (bt μ (tn (μ 2 p1)) q1 p1)))]) (kk : ∀ (μ' : Nat → Nat → Int32) (nn' nc' : Nat) (w' : va_W) (af' gf' : Nat → Int32) (H' : Heap) (locs' : List Loc) (ls' : Array Slot), LW s A0 D cy e0 vo ha ra ga hf af' gf' μ' nn' nc' w' H' locs' → nn' ≤ 20 → nn ≤ nn' → nc' ≤ nc + 1 → lv_has ls' 23 [(0, .ref b), (1, .ref vo), (2, .ref ha), (3, .ref ra), (4, .ref ga), (5, .int (nI 6)), (6, .int (nI nn')), (7, .int (nI 1)), (8, .int (nI k1)), (10, .int (nI p1)), (12, .int (nI q1)), (13, .int (nI n1))] → W p l e room_1 s m #[Value.ref b] below meth c H' locs' (cells + 24) (slots + 24702) Q (F0 m 1129 ls' [])) : W p l e room_1 s m #[Value.ref b] below meth c H locs cells slots Q (F0 m 481 ls []) := by
  obtain ⟨⟨hx, hb, hml, hown, hts⟩, ⟨hX, hbl, hL, hfl, hA, hbA⟩, hE, hF, hZ⟩ := hLE
  obtain ⟨hP, hD, hS, hK, hA3⟩ := hLW
  have hh := hA3.1
  have haf := hA3.2.1
  have hgf := hA3.2.2
  have hh1 := hK.2.1.2.1 p1 hp
  have bw := bt_well (KK_I4 hK (tn (μ 2 p1)) (by omega)) (hK.2.2.2.2.1 (tn (μ 2 p1)) (by omega)) hp hq
  have bl1 := bt_lt μ (tn (μ 2 p1)) p1 q1
  have bl2 := bt_lt μ (tn (μ 2 p1)) q1 p1
  have bc1 := cD_le μ (tn (μ 2 p1)) nc
  refine lv_aload_n hx hb dL_law_481 rfl (lv_at hl 1 rfl) ?_
  refine lv_iload hx hb dL_law_482 (lv_at hl 10 rfl) ?_
  refine lv_iload hx hb dL_law_484 (lv_at hl 12 rfl) ?_
  refine lv_iload hx hb dL_law_486 (lv_at hl 16 rfl) ?_
  refine lv_iconst (v := 4) hx hb dL_law_488 (by decide) ?_
  refine vg_tp (nI 4) (by decide) ?_
  refine lv_icmp_ge (tgt := 496) hx hb dL_law_489 (by decide) (fun c1 => ?_) (fun c1 => ?_)
  · have c1 : 4 ≤ bt μ (tn (μ 2 p1)) p1 q1 := (nI_leI (a := 4) (b := bt μ (tn (μ 2 p1)) p1 q1) (by omega) (by omega)).mp c1
    have w7 := bw.1.resolve_left (by omega)
    refine lv_iconst (v := 0) hx hb dL_law_496 (by decide) ?_
    refine vg_tp (nI 0) (by decide) ?_
    have hx0 : ¬ μ 5 (100 * tn (μ 2 p1) + 10 * p1 + q1) = bI false := fun z => absurd (bt_4.mpr z) (by omega)
    refine vg_tp 0 rfl ?_
    refine vQ_v (va_runV (As := [.int (nI p1), .int (nI q1), .int 0]) (rest := []) ⟨hx, hb, hml, hown, hts⟩ (kN_block_0 l hfl D cy H.size e0 mi vo 130 μ w hK.1 (by omega) hK.2.1.1 hp hq hpq hx0) (cwV 3 hts gL_law_X4_block rfl rfl rfl (by decide +kernel) ⟨Nat.le_of_ble_eq_true rfl, Nat.le_of_ble_eq_true rfl⟩) (vQ_pV hK.1 hE hF hZ hS hA hP hD) rfl rfl hl.1 rfl (lv_room (Nat.le_of_ble_eq_true rfl)) dL_law_497 ⟨by show cells + 10 ≤ 600104; omega, by show slots + 11111 ≤ 7301314; omega⟩) hP hD hS hA (fun u H locs hk hP hD hS => ?_)
    obtain ⟨hK2, hSM, a4⟩ := c_block false hK hn hc hp hq hpq hk hx0
    rw [if_neg (by decide)] at a4
    have bl3 := bt_lt (mBlo μ (nI p1) (nI q1) false) (tn (μ 2 p1)) p1 q1
    refine lv_aload_n hx hb dL_law_500 rfl (lv_at hl 1 rfl) ?_
    refine lv_aload_n hx hb dL_law_501 rfl (lv_at hl 2 rfl) ?_
    refine lv_iload hx hb dL_law_502 (lv_at hl 10 rfl) ?_
    refine vg_iald hx hb hE.1 hP 0 0 rfl rfl (f := hf) (j := p1) (by omega) (by decide) dL_law_504 ?_
    refine vg_tp (nI (tn (μ 2 p1))) (hh p1 (by omega)) ?_
    refine lv_iload hx hb dL_law_505 (lv_at hl 10 rfl) ?_
    refine lv_iload hx hb dL_law_507 (lv_at hl 12 rfl) ?_
    refine vQ_r (va_runV (As := [.int (nI (tn (μ 2 p1))), .int (nI p1), .int (nI q1)]) (rest := []) ⟨hx, hb, hml, hown, hts⟩ (kN_between l hfl D cy H.size e0 mi vo 130 (mBlo μ (nI p1) (nI q1) false) u hK2.1 (by omega) hK2.2.1.1 (show tn (μ 2 p1) < 4 by omega) hp hq) (cwV 3 hts gL_law_X4_between rfl rfl rfl (by decide +kernel) ⟨Nat.le_of_ble_eq_true rfl, Nat.le_of_ble_eq_true rfl⟩) (vQ_pV hK2.1 hE hF hZ hS hA hP hD) rfl rfl hl.1 rfl (lv_room (Nat.le_of_ble_eq_true rfl)) dL_law_509 ⟨by show cells + 10 + 0 ≤ 600104; omega, by show slots + 11111 + 0 ≤ 7301314; omega⟩) hP hD hS hA (fun r _ H locs hk hP hD hS => ?_)
    rw [bt_R hK2.2.1.1 (show tn (μ 2 p1) < 4 by omega) hp hq] at hk
    subst hk
    refine lv_iload hx hb dL_law_512 (lv_at hl 16 rfl) ?_
    refine lv_iconst (v := 4) hx hb dL_law_514 (by decide) ?_
    refine vg_tp (nI 4) (by decide) ?_
    refine lv_icmp_ge (tgt := 522) hx hb dL_law_515 (by decide) (fun _ => ?_) (fun z9 => absurd ((nI_leI (a := 4) (b := bt μ (tn (μ 2 p1)) p1 q1) (by omega) (by omega)).mpr (by omega)) z9)
    refine lv_iload hx hb dL_law_522 (lv_at hl 16 rfl) ?_
    refine lv_iconst (v := 4) hx hb dL_law_524 (by decide) ?_
    refine vg_tp (nI 4) (by decide) ?_
    refine lv_isub hx hb dL_law_525 ?_
    refine vg_tp (nI ((bt μ (tn (μ 2 p1)) p1 q1) - 4)) (pk_sub (by omega)) ?_
    refine lv_icmp_ne (tgt := 533) hx hb dL_law_526 (by decide) (fun z9 => absurd ((nI_eq (a := bt (mBlo μ (nI p1) (nI q1) false) (tn (μ 2 p1)) p1 q1) (b := (bt μ (tn (μ 2 p1)) p1 q1) - 4) (by omega) (by omega)).mpr (by omega)) z9) (fun _ => ?_)
    refine lv_iconst (v := 1) hx hb dL_law_529 (by decide) ?_
    refine vg_tp (nI 1) (by decide) ?_
    refine lv_goto (tgt := 534) hx hb dL_law_530 (by decide) ?_
    refine lv_istore (lv' := [(7, .int (nI 1)), (0, .ref b), (1, .ref vo), (2, .ref ha), (3, .ref ra), (4, .ref ga), (5, .int (nI 6)), (6, .int (nI nn)), (8, .int (nI k1)), (9, .int (nI kw)), (10, .int (nI p1)), (11, .int (nI v1)), (12, .int (nI q1)), (13, .int (nI n1)), (14, .int (nI s1)), (15, .int (nI (cD μ (tn (μ 2 p1)) nc))), (16, .int (nI (bt μ (tn (μ 2 p1)) p1 q1))), (17, .int (nI (bt μ (tn (μ 2 p1)) q1 p1)))]) hx hb dL_law_534 hl (by decide) rfl (fun ls hl => ?_)
    refine lv_goto (tgt := 1129) hx hb dL_law_536 (by decide) ?_
    refine W.widen (k := cells + 24) (n := slots + 24702) (by omega) (by omega) ?_
    exact kk (mBlo μ (nI p1) (nI q1) false) nn (nc + 1) u af gf H locs ls ⟨hP, hD, hS, hK2, LA3_SM hA3 hSM⟩ (by omega) (by omega) (by omega) (lv_sub hl [1, 2, 3, 4, 5, 6, 7, 0, 8, 10, 12, 13] rfl)
  · have c1 : ¬ (4 ≤ bt μ (tn (μ 2 p1)) p1 q1) := fun q9 => c1 ((nI_leI (a := 4) (b := bt μ (tn (μ 2 p1)) p1 q1) (by omega) (by omega)).mpr q9)
    refine lv_iconst (v := 1) hx hb dL_law_492 (by decide) ?_
    refine vg_tp (nI 1) (by decide) ?_
    refine lv_goto (tgt := 497) hx hb dL_law_493 (by decide) ?_
    have hx0 : ¬ μ 5 (100 * tn (μ 2 p1) + 10 * p1 + q1) = bI true := fun z => absurd ((bt_4.mp (show bt μ (tn (μ 2 p1)) p1 q1 < 4 by omega)).symm.trans z) (by decide)
    refine vg_tp 1 rfl ?_
    refine vQ_v (va_runV (As := [.int (nI p1), .int (nI q1), .int 1]) (rest := []) ⟨hx, hb, hml, hown, hts⟩ (kN_block_1 l hfl D cy H.size e0 mi vo 130 μ w hK.1 (by omega) hK.2.1.1 hp hq hpq hx0) (cwV 3 hts gL_law_X4_block rfl rfl rfl (by decide +kernel) ⟨Nat.le_of_ble_eq_true rfl, Nat.le_of_ble_eq_true rfl⟩) (vQ_pV hK.1 hE hF hZ hS hA hP hD) rfl rfl hl.1 rfl (lv_room (Nat.le_of_ble_eq_true rfl)) dL_law_497 ⟨by show cells + 10 ≤ 600104; omega, by show slots + 11111 ≤ 7301314; omega⟩) hP hD hS hA (fun u H locs hk hP hD hS => ?_)
    obtain ⟨hK2, hSM, a4⟩ := c_block true hK hn hc hp hq hpq hk hx0
    rw [if_pos rfl] at a4
    have bl3 := bt_lt (mBlo μ (nI p1) (nI q1) true) (tn (μ 2 p1)) p1 q1
    refine lv_aload_n hx hb dL_law_500 rfl (lv_at hl 1 rfl) ?_
    refine lv_aload_n hx hb dL_law_501 rfl (lv_at hl 2 rfl) ?_
    refine lv_iload hx hb dL_law_502 (lv_at hl 10 rfl) ?_
    refine vg_iald hx hb hE.1 hP 0 0 rfl rfl (f := hf) (j := p1) (by omega) (by decide) dL_law_504 ?_
    refine vg_tp (nI (tn (μ 2 p1))) (hh p1 (by omega)) ?_
    refine lv_iload hx hb dL_law_505 (lv_at hl 10 rfl) ?_
    refine lv_iload hx hb dL_law_507 (lv_at hl 12 rfl) ?_
    refine vQ_r (va_runV (As := [.int (nI (tn (μ 2 p1))), .int (nI p1), .int (nI q1)]) (rest := []) ⟨hx, hb, hml, hown, hts⟩ (kN_between l hfl D cy H.size e0 mi vo 130 (mBlo μ (nI p1) (nI q1) true) u hK2.1 (by omega) hK2.2.1.1 (show tn (μ 2 p1) < 4 by omega) hp hq) (cwV 3 hts gL_law_X4_between rfl rfl rfl (by decide +kernel) ⟨Nat.le_of_ble_eq_true rfl, Nat.le_of_ble_eq_true rfl⟩) (vQ_pV hK2.1 hE hF hZ hS hA hP hD) rfl rfl hl.1 rfl (lv_room (Nat.le_of_ble_eq_true rfl)) dL_law_509 ⟨by show cells + 10 + 0 ≤ 600104; omega, by show slots + 11111 + 0 ≤ 7301314; omega⟩) hP hD hS hA (fun r _ H locs hk hP hD hS => ?_)
    rw [bt_R hK2.2.1.1 (show tn (μ 2 p1) < 4 by omega) hp hq] at hk
    subst hk
    refine lv_iload hx hb dL_law_512 (lv_at hl 16 rfl) ?_
    refine lv_iconst (v := 4) hx hb dL_law_514 (by decide) ?_
    refine vg_tp (nI 4) (by decide) ?_
    refine lv_icmp_ge (tgt := 522) hx hb dL_law_515 (by decide) (fun z9 => absurd z9 (fun q9 => absurd ((nI_leI (a := 4) (b := bt μ (tn (μ 2 p1)) p1 q1) (by omega) (by omega)).mp q9) (by omega))) (fun _ => ?_)
    refine lv_iconst (v := 4) hx hb dL_law_518 (by decide) ?_
    refine vg_tp (nI 4) (by decide) ?_
    refine lv_goto (tgt := 526) hx hb dL_law_519 (by decide) ?_
    refine lv_icmp_ne (tgt := 533) hx hb dL_law_526 (by decide) (fun z9 => absurd ((nI_eq (a := bt (mBlo μ (nI p1) (nI q1) true) (tn (μ 2 p1)) p1 q1) (b := 4) (by omega) (by omega)).mpr (by omega)) z9) (fun _ => ?_)
    refine lv_iconst (v := 1) hx hb dL_law_529 (by decide) ?_
    refine vg_tp (nI 1) (by decide) ?_
    refine lv_goto (tgt := 534) hx hb dL_law_530 (by decide) ?_
    refine lv_istore (lv' := [(7, .int (nI 1)), (0, .ref b), (1, .ref vo), (2, .ref ha), (3, .ref ra), (4, .ref ga), (5, .int (nI 6)), (6, .int (nI nn)), (8, .int (nI k1)), (9, .int (nI kw)), (10, .int (nI p1)), (11, .int (nI v1)), (12, .int (nI q1)), (13, .int (nI n1)), (14, .int (nI s1)), (15, .int (nI (cD μ (tn (μ 2 p1)) nc))), (16, .int (nI (bt μ (tn (μ 2 p1)) p1 q1))), (17, .int (nI (bt μ (tn (μ 2 p1)) q1 p1)))]) hx hb dL_law_534 hl (by decide) rfl (fun ls hl => ?_)
    refine lv_goto (tgt := 1129) hx hb dL_law_536 (by decide) ?_
    refine W.widen (k := cells + 24) (n := slots + 24702) (by omega) (by omega) ?_
    exact kk (mBlo μ (nI p1) (nI q1) true) nn (nc + 1) u af gf H locs ls ⟨hP, hD, hS, hK2, LA3_SM hA3 hSM⟩ (by omega) (by omega) (by omega) (lv_sub hl [1, 2, 3, 4, 5, 6, 7, 0, 8, 10, 12, 13] rfl)

set_option maxHeartbeats 4000000 in
set_option maxRecDepth 100000 in
theorem kC_alias {p : Program} {l : Launch} {e : Env} {s : State} {m : MethodId} {below : List Frame} {meth : Method} {c : Code} {b L : Nat} {xs : Nat → Int32} {A0 : Nat → Prop} {D : va_G} {cy : Nat → ClassId} {e0 mi vo ha ra ga nn nc cells slots : Nat} {hf af gf : Nat → Int32} {μ : Nat → Nat → Int32} {w : va_W} {H : Heap} {locs : List Loc} {ls : Array Slot} {Q : State → Prop} (hLE : LE p l s m c b L xs A0 D cy e0 mi) (hLW : LW s A0 D cy e0 vo ha ra ga hf af gf μ nn nc w H locs) (hn : nn ≤ 20) (hc : nc < 60) {k1 kw p1 v1 q1 n1 s1 : Nat} (hk1 : k1 < 60) (hp : p1 < 6) (hq : q1 < 6) (hpq : p1 ≠ q1) (hv : v1 < 960) (hn1 : 0 < nn → n1 < nn) (hs1 : s1 < 3) (hkw : kw < 22) (hcl : cells + 24 ≤ 600104) (hsl : slots + 24702 ≤ 7301314) (hl : lv_has ls 23 [(0, .ref b), (1, .ref vo), (2, .ref ha), (3, .ref ra), (4, .ref ga), (5, .int (nI 6)), (6, .int (nI nn)), (7, .int (nI 1)), (8, .int (nI k1)), (9, .int (nI kw)), (10, .int (nI p1)), (11, .int (nI v1)), (12, .int (nI q1)), (13, .int (nI n1)), (14, .int (nI s1)), (15, .int (nI (cD μ (tn (μ 2 p1)) nc))), (16, .int (nI (bt μ (tn (μ 2 p1)) p1 q1))), (17, .int (nI (bt μ (tn (μ 2 p1)) q1 p1)))]) (kk : ∀ (μ' : Nat → Nat → Int32) (nn' nc' : Nat) (w' : va_W) (af' gf' : Nat → Int32) (H' : Heap) (locs' : List Loc) (ls' : Array Slot), LW s A0 D cy e0 vo ha ra ga hf af' gf' μ' nn' nc' w' H' locs' → nn' ≤ 20 → nn ≤ nn' → nc' ≤ nc + 1 → lv_has ls' 23 [(0, .ref b), (1, .ref vo), (2, .ref ha), (3, .ref ra), (4, .ref ga), (5, .int (nI 6)), (6, .int (nI nn')), (7, .int (nI 1)), (8, .int (nI k1)), (10, .int (nI p1)), (12, .int (nI q1)), (13, .int (nI n1))] → W p l e room_1 s m #[Value.ref b] below meth c H' locs' (cells + 24) (slots + 24702) Q (F0 m 1129 ls' [])) : W p l e room_1 s m #[Value.ref b] below meth c H locs cells slots Q (F0 m 546 ls []) := by
  obtain ⟨⟨hx, hb, hml, hown, hts⟩, ⟨hX, hbl, hL, hfl, hA, hbA⟩, hE, hF, hZ⟩ := hLE
  obtain ⟨hP, hD, hS, hK, hA3⟩ := hLW
  have hh := hA3.1
  have haf := hA3.2.1
  have hgf := hA3.2.2
  have hh1 := hK.2.1.2.1 p1 hp
  have bw := bt_well (KK_I4 hK (tn (μ 2 p1)) (by omega)) (hK.2.2.2.2.1 (tn (μ 2 p1)) (by omega)) hp hq
  have bl1 := bt_lt μ (tn (μ 2 p1)) p1 q1
  have bl2 := bt_lt μ (tn (μ 2 p1)) q1 p1
  have bc1 := cD_le μ (tn (μ 2 p1)) nc
  refine lv_aload_n hx hb dL_law_546 rfl (lv_at hl 1 rfl) ?_
  refine lv_iload hx hb dL_law_547 (lv_at hl 10 rfl) ?_
  refine lv_iload hx hb dL_law_549 (lv_at hl 12 rfl) ?_
  refine vQ_v (va_runV (As := [.int (nI p1), .int (nI q1)]) (rest := []) ⟨hx, hb, hml, hown, hts⟩ (kN_alias l hfl D cy H.size e0 mi vo 130 μ w hK.1 (by omega) hK.2.1.1 hp hq hpq) (cwV 2 hts gL_law_X4_alias rfl rfl rfl (by decide +kernel) ⟨Nat.le_of_ble_eq_true rfl, Nat.le_of_ble_eq_true rfl⟩) (vQ_pV hK.1 hE hF hZ hS hA hP hD) rfl rfl hl.1 rfl (lv_room (Nat.le_of_ble_eq_true rfl)) dL_law_551 ⟨by show cells + 10 ≤ 600104; omega, by show slots + 11111 ≤ 7301314; omega⟩) hP hD hS hA (fun u H locs hk hP hD hS => ?_)
  obtain ⟨hK2, hSM, a3⟩ := c_alias hK hn hc hp hq hpq hk
  have bc2 := cD_le (mAli μ (nI p1) (nI q1)) (tn (μ 2 p1)) (nc + 1)
  refine lv_aload_n hx hb dL_law_554 rfl (lv_at hl 1 rfl) ?_
  refine lv_aload_n hx hb dL_law_555 rfl (lv_at hl 2 rfl) ?_
  refine lv_iload hx hb dL_law_556 (lv_at hl 10 rfl) ?_
  refine vg_iald hx hb hE.1 hP 0 0 rfl rfl (f := hf) (j := p1) (by omega) (by decide) dL_law_558 ?_
  refine vg_tp (nI (tn (μ 2 p1))) (hh p1 (by omega)) ?_
  refine lv_iconst (v := 1) hx hb dL_law_559 (by decide) ?_
  refine vg_tp (nI 1) (by decide) ?_
  refine vQ_r (va_runV (As := [.int (nI (tn (μ 2 p1))), .int (nI 1)]) (rest := []) ⟨hx, hb, hml, hown, hts⟩ (kN_ofServer l hfl D cy H.size e0 mi vo 130 (mAli μ (nI p1) (nI q1)) u hK2.1 (by omega) hK2.2.1.1 (show tn (μ 2 p1) < 4 by omega) (show 1 < 6 by omega)) (cwV 2 hts gL_law_X4_ofServer rfl rfl rfl (by decide +kernel) ⟨Nat.le_of_ble_eq_true rfl, Nat.le_of_ble_eq_true rfl⟩) (vQ_pV hK2.1 hE hF hZ hS hA hP hD) rfl rfl hl.1 rfl (lv_room (Nat.le_of_ble_eq_true rfl)) dL_law_560 ⟨by show cells + 10 + 0 ≤ 600104; omega, by show slots + 11111 + 0 ≤ 7301314; omega⟩) hP hD hS hA (fun r _ H locs hk hP hD hS => ?_)
  rw [ofs_1 (show tn (μ 2 p1) < 4 by omega) hK2.2.1.2.2.1 (by omega)] at hk
  subst hk
  refine lv_iload hx hb dL_law_563 (lv_at hl 15 rfl) ?_
  refine lv_iconst (v := 1) hx hb dL_law_565 (by decide) ?_
  refine vg_tp (nI 1) (by decide) ?_
  refine lv_iadd hx hb dL_law_566 ?_
  refine vg_tp (nI (cD μ (tn (μ 2 p1)) nc + 1)) (nI_add _ _) ?_
  refine lv_icmp_ne (tgt := 574) hx hb dL_law_567 (by decide) (fun z9 => absurd ((nI_eq (a := cD (mAli μ (nI p1) (nI q1)) (tn (μ 2 p1)) (nc + 1)) (b := cD μ (tn (μ 2 p1)) nc + 1) (by omega) (by omega)).mpr (by omega)) z9) (fun _ => ?_)
  refine lv_iconst (v := 1) hx hb dL_law_570 (by decide) ?_
  refine vg_tp (nI 1) (by decide) ?_
  refine lv_goto (tgt := 575) hx hb dL_law_571 (by decide) ?_
  refine lv_istore (lv' := [(7, .int (nI 1)), (0, .ref b), (1, .ref vo), (2, .ref ha), (3, .ref ra), (4, .ref ga), (5, .int (nI 6)), (6, .int (nI nn)), (8, .int (nI k1)), (9, .int (nI kw)), (10, .int (nI p1)), (11, .int (nI v1)), (12, .int (nI q1)), (13, .int (nI n1)), (14, .int (nI s1)), (15, .int (nI (cD μ (tn (μ 2 p1)) nc))), (16, .int (nI (bt μ (tn (μ 2 p1)) p1 q1))), (17, .int (nI (bt μ (tn (μ 2 p1)) q1 p1)))]) hx hb dL_law_575 hl (by decide) rfl (fun ls hl => ?_)
  refine lv_goto (tgt := 1129) hx hb dL_law_577 (by decide) ?_
  refine W.widen (k := cells + 24) (n := slots + 24702) (by omega) (by omega) ?_
  exact kk (mAli μ (nI p1) (nI q1)) nn (nc + 1) u af gf H locs ls ⟨hP, hD, hS, hK2, LA3_SM hA3 hSM⟩ (by omega) (by omega) (by omega) (lv_sub hl [1, 2, 3, 4, 5, 6, 7, 0, 8, 10, 12, 13] rfl)

set_option maxHeartbeats 4000000 in
set_option maxRecDepth 100000 in
theorem kC_move {p : Program} {l : Launch} {e : Env} {s : State} {m : MethodId} {below : List Frame} {meth : Method} {c : Code} {b L : Nat} {xs : Nat → Int32} {A0 : Nat → Prop} {D : va_G} {cy : Nat → ClassId} {e0 mi vo ha ra ga nn nc cells slots : Nat} {hf af gf : Nat → Int32} {μ : Nat → Nat → Int32} {w : va_W} {H : Heap} {locs : List Loc} {ls : Array Slot} {Q : State → Prop} (hLE : LE p l s m c b L xs A0 D cy e0 mi) (hLW : LW s A0 D cy e0 vo ha ra ga hf af gf μ nn nc w H locs) (hn : nn ≤ 20) (hc : nc < 60) {k1 kw p1 v1 q1 n1 s1 : Nat} (hk1 : k1 < 60) (hp : p1 < 6) (hq : q1 < 6) (hpq : p1 ≠ q1) (hv : v1 < 960) (hn1 : 0 < nn → n1 < nn) (hs1 : s1 < 3) (hkw : kw < 22) (hcl : cells + 24 ≤ 600104) (hsl : slots + 24702 ≤ 7301314) (hl : lv_has ls 23 [(0, .ref b), (1, .ref vo), (2, .ref ha), (3, .ref ra), (4, .ref ga), (5, .int (nI 6)), (6, .int (nI nn)), (7, .int (nI 1)), (8, .int (nI k1)), (9, .int (nI kw)), (10, .int (nI p1)), (11, .int (nI v1)), (12, .int (nI q1)), (13, .int (nI n1)), (14, .int (nI s1)), (15, .int (nI (cD μ (tn (μ 2 p1)) nc))), (16, .int (nI (bt μ (tn (μ 2 p1)) p1 q1))), (17, .int (nI (bt μ (tn (μ 2 p1)) q1 p1)))]) (kk : ∀ (μ' : Nat → Nat → Int32) (nn' nc' : Nat) (w' : va_W) (af' gf' : Nat → Int32) (H' : Heap) (locs' : List Loc) (ls' : Array Slot), LW s A0 D cy e0 vo ha ra ga hf af' gf' μ' nn' nc' w' H' locs' → nn' ≤ 20 → nn ≤ nn' → nc' ≤ nc + 1 → lv_has ls' 23 [(0, .ref b), (1, .ref vo), (2, .ref ha), (3, .ref ra), (4, .ref ga), (5, .int (nI 6)), (6, .int (nI nn')), (7, .int (nI 1)), (8, .int (nI k1)), (10, .int (nI p1)), (12, .int (nI q1)), (13, .int (nI n1))] → W p l e room_1 s m #[Value.ref b] below meth c H' locs' (cells + 24) (slots + 24702) Q (F0 m 1129 ls' [])) : W p l e room_1 s m #[Value.ref b] below meth c H locs cells slots Q (F0 m 587 ls []) := by
  obtain ⟨⟨hx, hb, hml, hown, hts⟩, ⟨hX, hbl, hL, hfl, hA, hbA⟩, hE, hF, hZ⟩ := hLE
  obtain ⟨hP, hD, hS, hK, hA3⟩ := hLW
  have hh := hA3.1
  have haf := hA3.2.1
  have hgf := hA3.2.2
  have hh1 := hK.2.1.2.1 p1 hp
  have bw := bt_well (KK_I4 hK (tn (μ 2 p1)) (by omega)) (hK.2.2.2.2.1 (tn (μ 2 p1)) (by omega)) hp hq
  have bl1 := bt_lt μ (tn (μ 2 p1)) p1 q1
  have bl2 := bt_lt μ (tn (μ 2 p1)) q1 p1
  have bc1 := cD_le μ (tn (μ 2 p1)) nc
  refine lv_aload_n hx hb dL_law_587 rfl (lv_at hl 1 rfl) ?_
  refine lv_iload hx hb dL_law_588 (lv_at hl 10 rfl) ?_
  refine lv_iload hx hb dL_law_590 (lv_at hl 12 rfl) ?_
  refine vQ_i (vx_runSW (As := [.ref vo, .int (nI p1), .int (nI q1)]) (rest := []) ⟨hx, hb, hml, hown, hts⟩ (kN_isMove l hfl D cy H.size e0 mi vo 130 μ w hK.1 (by omega) hK.2.1.1 hp hq) (vx_cwSW 3 hts gL_law_L_isMove rfl rfl rfl (by decide +kernel) ⟨Nat.le_of_ble_eq_true rfl, Nat.le_of_ble_eq_true rfl⟩) (vQ_pS hE hF hZ hS hA hP hD) rfl rfl hl.1 rfl (lv_room (Nat.le_of_ble_eq_true rfl)) dL_law_592 ⟨by show cells + 12 ≤ 600104; omega, by show slots + 12351 ≤ 7301314; omega⟩) hP hD hS hA (fun r u H locs hk hP hD hS => ?_)
  obtain ⟨hk1a, hk2⟩ := hk
  obtain ⟨mb, hmb⟩ : ∃ mb, mb = decide (mMve μ (nI p1) (nI q1) 0 0 = 0) := ⟨_, rfl⟩
  obtain ⟨nc2, a1, hK2, hSM, a3, a5⟩ := c_move hK hn hc hp hq hpq hk2 mb hmb
  rw [← hmb] at hk1a
  subst hk1a
  have bc2 := cD_le (mMve μ (nI p1) (nI q1)) (tn (μ 2 p1)) nc2
  refine lv_istore (lv' := [(18, .int (bI mb)), (0, .ref b), (1, .ref vo), (2, .ref ha), (3, .ref ra), (4, .ref ga), (5, .int (nI 6)), (6, .int (nI nn)), (7, .int (nI 1)), (8, .int (nI k1)), (9, .int (nI kw)), (10, .int (nI p1)), (11, .int (nI v1)), (12, .int (nI q1)), (13, .int (nI n1)), (14, .int (nI s1)), (15, .int (nI (cD μ (tn (μ 2 p1)) nc))), (16, .int (nI (bt μ (tn (μ 2 p1)) p1 q1))), (17, .int (nI (bt μ (tn (μ 2 p1)) q1 p1)))]) hx hb dL_law_595 hl (by decide) rfl (fun ls hl => ?_)
  refine lv_aload_n hx hb dL_law_597 rfl (lv_at hl 2 rfl) ?_
  refine lv_aload_n hx hb dL_law_598 rfl (lv_at hl 3 rfl) ?_
  refine lv_iload hx hb dL_law_599 (lv_at hl 11 rfl) ?_
  refine vg_iald hx hb hE.1 hP 0 0 rfl rfl (f := hf) (j := p1) (by omega) (by decide) dL_law_601 ?_
  refine vg_tp (nI (tn (μ 2 p1))) (hh p1 (by omega)) ?_
  refine lv_iconst (v := 1) hx hb dL_law_602 (by decide) ?_
  refine vg_tp (nI 1) (by decide) ?_
  refine vQ_r (va_runV (As := [.int (nI (tn (μ 2 p1))), .int (nI 1)]) (rest := []) ⟨hx, hb, hml, hown, hts⟩ (kN_ofServer l hfl D cy H.size e0 mi vo 130 (mMve μ (nI p1) (nI q1)) u hK2.1 (by omega) hK2.2.1.1 (show tn (μ 2 p1) < 4 by omega) (show 1 < 6 by omega)) (cwV 2 hts gL_law_X4_ofServer rfl rfl rfl (by decide +kernel) ⟨Nat.le_of_ble_eq_true rfl, Nat.le_of_ble_eq_true rfl⟩) (vQ_pV hK2.1 hE hF hZ hS hA hP hD) rfl rfl hl.1 rfl (lv_room (Nat.le_of_ble_eq_true rfl)) dL_law_603 ⟨by show cells + 12 + 0 ≤ 600104; omega, by show slots + 12351 + 0 ≤ 7301314; omega⟩) hP hD hS hA (fun r _ H locs hk hP hD hS => ?_)
  rw [ofs_1 (show tn (μ 2 p1) < 4 by omega) hK2.2.1.2.2.1 (by omega)] at hk
  subst hk
  refine lv_iload hx hb dL_law_606 (lv_at hl 0 rfl) ?_
  cases mb
  · rw [if_neg (by decide)] at a3
    refine lv_if_eq (tgt := 618) hx hb dL_law_608 (by decide) (fun _ => ?_) (fun z9 => absurd (by rfl) z9)
    refine lv_iload hx hb dL_law_618 (lv_at hl 16 rfl) ?_
    refine lv_icmp_ne (tgt := 627) hx hb dL_law_620 (by decide) (fun z9 => absurd ((nI_eq (a := cD (mMve μ (nI p1) (nI q1)) (tn (μ 2 p1)) nc2) (b := cD μ (tn (μ 2 p1)) nc) (by omega) (by omega)).mpr (by omega)) z9) (fun _ => ?_)
    refine lv_iconst (v := 1) hx hb dL_law_623 (by decide) ?_
    refine vg_tp (nI 1) (by decide) ?_
    refine lv_goto (tgt := 628) hx hb dL_law_624 (by decide) ?_
    refine lv_istore (lv' := [(7, .int (nI 1)), (18, .int (bI false)), (0, .ref b), (1, .ref vo), (2, .ref ha), (3, .ref ra), (4, .ref ga), (5, .int (nI 6)), (6, .int (nI nn)), (8, .int (nI k1)), (9, .int (nI kw)), (10, .int (nI p1)), (11, .int (nI v1)), (12, .int (nI q1)), (13, .int (nI n1)), (14, .int (nI s1)), (15, .int (nI (cD μ (tn (μ 2 p1)) nc))), (16, .int (nI (bt μ (tn (μ 2 p1)) p1 q1))), (17, .int (nI (bt μ (tn (μ 2 p1)) q1 p1)))]) hx hb dL_law_628 hl (by decide) rfl (fun ls hl => ?_)
    refine lv_iconst (v := 0) hx hb dL_law_630 (by decide) ?_
    refine vg_tp (nI 0) (by decide) ?_
    refine lv_istore (lv' := [(19, .int (nI 0)), (7, .int (nI 1)), (18, .int (bI false)), (0, .ref b), (1, .ref vo), (2, .ref ha), (3, .ref ra), (4, .ref ga), (5, .int (nI 6)), (6, .int (nI nn)), (8, .int (nI k1)), (9, .int (nI kw)), (10, .int (nI p1)), (11, .int (nI v1)), (12, .int (nI q1)), (13, .int (nI n1)), (14, .int (nI s1)), (15, .int (nI (cD μ (tn (μ 2 p1)) nc))), (16, .int (nI (bt μ (tn (μ 2 p1)) p1 q1))), (17, .int (nI (bt μ (tn (μ 2 p1)) q1 p1)))]) hx hb dL_law_631 hl (by decide) rfl (fun ls hl => ?_)
    have loop : ∀ (d f1 : Nat), f1 + d = 6 → ∀ (H : Heap) (locs : List Loc) (ls : Array Slot), va_P D vwCl (wJ (uA cy ha ra ga hf af gf) u) H → va_D A0 (wJ (uA cy ha ra ga hf af gf) u) → va_S A0 s.heap H locs → lv_has ls 23 [(0, .ref b), (1, .ref vo), (2, .ref ha), (3, .ref ra), (4, .ref ga), (5, .int (nI 6)), (6, .int (nI nn)), (7, .int (nI 1)), (8, .int (nI k1)), (10, .int (nI p1)), (12, .int (nI q1)), (13, .int (nI n1)), (18, .int (bI false)), (19, .int (nI f1))] → W p l e room_1 s m #[Value.ref b] below meth c H locs (cells + 12) (slots + 12351) Q (F0 m 633 ls []) := by
      intro d
      induction d with
      | zero =>
        intro f1 hf1 H locs ls hP hD hS hl
        have e6 : f1 = 6 := by omega
        subst e6
        refine lv_iload hx hb dL_law_633 (lv_at hl 13 rfl) ?_
        refine lv_iload hx hb dL_law_635 (lv_at hl 5 rfl) ?_
        refine lv_icmp_ge (tgt := 681) hx hb dL_law_637 (by decide) (fun _ => ?_) (fun z9 => absurd ((nI_leI (a := 6) (b := 6) (by omega) (by omega)).mpr (by omega)) z9)
        refine lv_goto (tgt := 1129) hx hb dL_law_681 (by decide) ?_
        refine W.widen (k := cells + 24) (n := slots + 24702) (by omega) (by omega) ?_
        exact kk (mMve μ (nI p1) (nI q1)) nn nc2 u af gf H locs ls ⟨hP, hD, hS, hK2, LA3_SM hA3 hSM⟩ (by omega) (by omega) (by omega) (lv_sub hl [0, 1, 2, 3, 4, 5, 6, 7, 8, 9, 10, 11] rfl)
      | succ d ih =>
        intro f1 hf1 H locs ls hP hD hS hl
        refine lv_iload hx hb dL_law_633 (lv_at hl 13 rfl) ?_
        refine lv_iload hx hb dL_law_635 (lv_at hl 5 rfl) ?_
        refine lv_icmp_ge (tgt := 681) hx hb dL_law_637 (by decide) (fun z9 => absurd z9 (fun q9 => absurd ((nI_leI (a := 6) (b := f1) (by omega) (by omega)).mp q9) (by omega))) (fun _ => ?_)
        refine lv_iload hx hb dL_law_640 (lv_at hl 7 rfl) ?_
        refine lv_if_eq (tgt := 672) hx hb dL_law_642 (by decide) (fun z9 => absurd z9 (fun q9 => absurd ((nI_eq (a := 1) (b := 0) (by omega) (by omega)).mp q9) (by omega))) (fun _ => ?_)
        refine lv_iload hx hb dL_law_645 (lv_at hl 12 rfl) ?_
        refine lv_if_eq (tgt := 668) hx hb dL_law_647 (by decide) (fun _ => ?_) (fun z9 => absurd (by rfl) z9)
        refine lv_iconst (v := 1) hx hb dL_law_668 (by decide) ?_
        refine vg_tp (nI 1) (by decide) ?_
        refine lv_goto (tgt := 673) hx hb dL_law_669 (by decide) ?_
        refine lv_istore (lv' := [(7, .int (nI 1)), (0, .ref b), (1, .ref vo), (2, .ref ha), (3, .ref ra), (4, .ref ga), (5, .int (nI 6)), (6, .int (nI nn)), (8, .int (nI k1)), (10, .int (nI p1)), (12, .int (nI q1)), (13, .int (nI n1)), (18, .int (bI false)), (19, .int (nI f1))]) hx hb dL_law_673 hl (by decide) rfl (fun ls hl => ?_)
        refine lv_iinc (v := nI (f1 + 1)) (lv' := [(19, .int (nI (f1 + 1))), (7, .int (nI 1)), (0, .ref b), (1, .ref vo), (2, .ref ha), (3, .ref ra), (4, .ref ga), (5, .int (nI 6)), (6, .int (nI nn)), (8, .int (nI k1)), (10, .int (nI p1)), (12, .int (nI q1)), (13, .int (nI n1)), (18, .int (bI false))]) hx hb dL_law_675 hl (k := 13) rfl (by rw [show Int32.ofInt 1 = nI 1 from by decide, nI_add]) (by decide) rfl (fun ls hl => ?_)
        refine lv_goto (tgt := 633) hx hb dL_law_678 (by decide) ?_
        exact ih (f1 + 1) (by omega) H locs ls hP hD hS (lv_sub hl [2, 3, 4, 5, 6, 7, 8, 1, 9, 10, 11, 12, 13, 0] rfl)
    exact loop 6 0 (by omega) H locs ls hP hD hS (lv_sub hl [3, 4, 5, 6, 7, 8, 9, 1, 10, 12, 14, 15, 2, 0] rfl)
  · rw [if_pos rfl] at a3
    refine lv_if_eq (tgt := 618) hx hb dL_law_608 (by decide) (fun z9 => absurd z9 (by decide)) (fun _ => ?_)
    refine lv_iload hx hb dL_law_611 (lv_at hl 16 rfl) ?_
    refine lv_iconst (v := 1) hx hb dL_law_613 (by decide) ?_
    refine vg_tp (nI 1) (by decide) ?_
    refine lv_iadd hx hb dL_law_614 ?_
    refine vg_tp (nI (cD μ (tn (μ 2 p1)) nc + 1)) (nI_add _ _) ?_
    refine lv_goto (tgt := 620) hx hb dL_law_615 (by decide) ?_
    refine lv_icmp_ne (tgt := 627) hx hb dL_law_620 (by decide) (fun z9 => absurd ((nI_eq (a := cD (mMve μ (nI p1) (nI q1)) (tn (μ 2 p1)) nc2) (b := cD μ (tn (μ 2 p1)) nc + 1) (by omega) (by omega)).mpr (by omega)) z9) (fun _ => ?_)
    refine lv_iconst (v := 1) hx hb dL_law_623 (by decide) ?_
    refine vg_tp (nI 1) (by decide) ?_
    refine lv_goto (tgt := 628) hx hb dL_law_624 (by decide) ?_
    refine lv_istore (lv' := [(7, .int (nI 1)), (18, .int (bI true)), (0, .ref b), (1, .ref vo), (2, .ref ha), (3, .ref ra), (4, .ref ga), (5, .int (nI 6)), (6, .int (nI nn)), (8, .int (nI k1)), (9, .int (nI kw)), (10, .int (nI p1)), (11, .int (nI v1)), (12, .int (nI q1)), (13, .int (nI n1)), (14, .int (nI s1)), (15, .int (nI (cD μ (tn (μ 2 p1)) nc))), (16, .int (nI (bt μ (tn (μ 2 p1)) p1 q1))), (17, .int (nI (bt μ (tn (μ 2 p1)) q1 p1)))]) hx hb dL_law_628 hl (by decide) rfl (fun ls hl => ?_)
    refine lv_iconst (v := 0) hx hb dL_law_630 (by decide) ?_
    refine vg_tp (nI 0) (by decide) ?_
    refine lv_istore (lv' := [(19, .int (nI 0)), (7, .int (nI 1)), (18, .int (bI true)), (0, .ref b), (1, .ref vo), (2, .ref ha), (3, .ref ra), (4, .ref ga), (5, .int (nI 6)), (6, .int (nI nn)), (8, .int (nI k1)), (9, .int (nI kw)), (10, .int (nI p1)), (11, .int (nI v1)), (12, .int (nI q1)), (13, .int (nI n1)), (14, .int (nI s1)), (15, .int (nI (cD μ (tn (μ 2 p1)) nc))), (16, .int (nI (bt μ (tn (μ 2 p1)) p1 q1))), (17, .int (nI (bt μ (tn (μ 2 p1)) q1 p1)))]) hx hb dL_law_631 hl (by decide) rfl (fun ls hl => ?_)
    have loop : ∀ (d f1 : Nat), f1 + d = 6 → ∀ (H : Heap) (locs : List Loc) (ls : Array Slot), va_P D vwCl (wJ (uA cy ha ra ga hf af gf) u) H → va_D A0 (wJ (uA cy ha ra ga hf af gf) u) → va_S A0 s.heap H locs → lv_has ls 23 [(0, .ref b), (1, .ref vo), (2, .ref ha), (3, .ref ra), (4, .ref ga), (5, .int (nI 6)), (6, .int (nI nn)), (7, .int (nI 1)), (8, .int (nI k1)), (10, .int (nI p1)), (12, .int (nI q1)), (13, .int (nI n1)), (18, .int (bI true)), (19, .int (nI f1))] → W p l e room_1 s m #[Value.ref b] below meth c H locs (cells + 12) (slots + 12351) Q (F0 m 633 ls []) := by
      intro d
      induction d with
      | zero =>
        intro f1 hf1 H locs ls hP hD hS hl
        have e6 : f1 = 6 := by omega
        subst e6
        refine lv_iload hx hb dL_law_633 (lv_at hl 13 rfl) ?_
        refine lv_iload hx hb dL_law_635 (lv_at hl 5 rfl) ?_
        refine lv_icmp_ge (tgt := 681) hx hb dL_law_637 (by decide) (fun _ => ?_) (fun z9 => absurd ((nI_leI (a := 6) (b := 6) (by omega) (by omega)).mpr (by omega)) z9)
        refine lv_goto (tgt := 1129) hx hb dL_law_681 (by decide) ?_
        refine W.widen (k := cells + 24) (n := slots + 24702) (by omega) (by omega) ?_
        exact kk (mMve μ (nI p1) (nI q1)) nn nc2 u af gf H locs ls ⟨hP, hD, hS, hK2, LA3_SM hA3 hSM⟩ (by omega) (by omega) (by omega) (lv_sub hl [0, 1, 2, 3, 4, 5, 6, 7, 8, 9, 10, 11] rfl)
      | succ d ih =>
        intro f1 hf1 H locs ls hP hD hS hl
        refine lv_iload hx hb dL_law_633 (lv_at hl 13 rfl) ?_
        refine lv_iload hx hb dL_law_635 (lv_at hl 5 rfl) ?_
        refine lv_icmp_ge (tgt := 681) hx hb dL_law_637 (by decide) (fun z9 => absurd z9 (fun q9 => absurd ((nI_leI (a := 6) (b := f1) (by omega) (by omega)).mp q9) (by omega))) (fun _ => ?_)
        refine lv_iload hx hb dL_law_640 (lv_at hl 7 rfl) ?_
        refine lv_if_eq (tgt := 672) hx hb dL_law_642 (by decide) (fun z9 => absurd z9 (fun q9 => absurd ((nI_eq (a := 1) (b := 0) (by omega) (by omega)).mp q9) (by omega))) (fun _ => ?_)
        refine lv_iload hx hb dL_law_645 (lv_at hl 12 rfl) ?_
        have bf := a5 rfl f1 (by omega)
        have bl4 := bt_lt (mMve μ (nI p1) (nI q1)) (tn (μ 2 p1)) f1 p1
        refine lv_if_eq (tgt := 668) hx hb dL_law_647 (by decide) (fun z9 => absurd z9 (by decide)) (fun _ => ?_)
        refine lv_aload_n hx hb dL_law_650 rfl (lv_at hl 1 rfl) ?_
        refine lv_aload_n hx hb dL_law_651 rfl (lv_at hl 2 rfl) ?_
        refine lv_iload hx hb dL_law_652 (lv_at hl 9 rfl) ?_
        refine vg_iald hx hb hE.1 hP 0 0 rfl rfl (f := hf) (j := p1) (by omega) (by decide) dL_law_654 ?_
        refine vg_tp (nI (tn (μ 2 p1))) (hh p1 (by omega)) ?_
        refine lv_iload hx hb dL_law_655 (lv_at hl 13 rfl) ?_
        refine lv_iload hx hb dL_law_657 (lv_at hl 9 rfl) ?_
        refine vQ_r (va_runV (As := [.int (nI (tn (μ 2 p1))), .int (nI f1), .int (nI p1)]) (rest := []) ⟨hx, hb, hml, hown, hts⟩ (kN_between l hfl D cy H.size e0 mi vo 130 (mMve μ (nI p1) (nI q1)) u hK2.1 (by omega) hK2.2.1.1 (show tn (μ 2 p1) < 4 by omega) (show f1 < 6 by omega) hp) (cwV 3 hts gL_law_X4_between rfl rfl rfl (by decide +kernel) ⟨Nat.le_of_ble_eq_true rfl, Nat.le_of_ble_eq_true rfl⟩) (vQ_pV hK2.1 hE hF hZ hS hA hP hD) rfl rfl hl.1 rfl (lv_room (Nat.le_of_ble_eq_true rfl)) dL_law_659 ⟨by show cells + 12 + 0 ≤ 600104; omega, by show slots + 12351 + 0 ≤ 7301314; omega⟩) hP hD hS hA (fun r _ H locs hk hP hD hS => ?_)
        rw [bt_R hK2.2.1.1 (show tn (μ 2 p1) < 4 by omega) (show f1 < 6 by omega) hp] at hk
        subst hk
        refine lv_iconst (v := 4) hx hb dL_law_662 (by decide) ?_
        refine vg_tp (nI 4) (by decide) ?_
        refine lv_irem hx hb dL_law_663 (by decide) ?_
        refine vg_tp (nI ((bt (mMve μ (nI p1) (nI q1)) (tn (μ 2 p1)) f1 p1) % 4)) (pk_rem (by omega) (by omega) (by omega)) ?_
        refine lv_iconst (v := 2) hx hb dL_law_664 (by decide) ?_
        refine vg_tp (nI 2) (by decide) ?_
        refine lv_icmp_eq (tgt := 672) hx hb dL_law_665 (by decide) (fun z9 => absurd z9 (fun q9 => absurd ((nI_eq (a := (bt (mMve μ (nI p1) (nI q1)) (tn (μ 2 p1)) f1 p1) % 4) (b := 2) (by omega) (by omega)).mp q9) (by omega))) (fun _ => ?_)
        refine lv_iconst (v := 1) hx hb dL_law_668 (by decide) ?_
        refine vg_tp (nI 1) (by decide) ?_
        refine lv_goto (tgt := 673) hx hb dL_law_669 (by decide) ?_
        refine lv_istore (lv' := [(7, .int (nI 1)), (0, .ref b), (1, .ref vo), (2, .ref ha), (3, .ref ra), (4, .ref ga), (5, .int (nI 6)), (6, .int (nI nn)), (8, .int (nI k1)), (10, .int (nI p1)), (12, .int (nI q1)), (13, .int (nI n1)), (18, .int (bI true)), (19, .int (nI f1))]) hx hb dL_law_673 hl (by decide) rfl (fun ls hl => ?_)
        refine lv_iinc (v := nI (f1 + 1)) (lv' := [(19, .int (nI (f1 + 1))), (7, .int (nI 1)), (0, .ref b), (1, .ref vo), (2, .ref ha), (3, .ref ra), (4, .ref ga), (5, .int (nI 6)), (6, .int (nI nn)), (8, .int (nI k1)), (10, .int (nI p1)), (12, .int (nI q1)), (13, .int (nI n1)), (18, .int (bI true))]) hx hb dL_law_675 hl (k := 13) rfl (by rw [show Int32.ofInt 1 = nI 1 from by decide, nI_add]) (by decide) rfl (fun ls hl => ?_)
        refine lv_goto (tgt := 633) hx hb dL_law_678 (by decide) ?_
        exact ih (f1 + 1) (by omega) H locs ls hP hD hS (lv_sub hl [2, 3, 4, 5, 6, 7, 8, 1, 9, 10, 11, 12, 13, 0] rfl)
    exact loop 6 0 (by omega) H locs ls hP hD hS (lv_sub hl [3, 4, 5, 6, 7, 8, 9, 1, 10, 12, 14, 15, 2, 0] rfl)
