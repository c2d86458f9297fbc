/-! the law's cases -/
set_option maxHeartbeats 4000000 in
set_option maxRecDepth 100000 in
theorem kC_person {p : Program} {l : Launch} {e : Env} {s : State} {m : MethodId} {below : List Frame} {meth : Method} {c : Code} {b L : Nat} {xs : Nat → Int32} {A0 : Nat → Prop} {D : va_G} {cy : Nat → ClassId} {e0 mi vo mo oa n cells slots : Nat} {ad : Nat → Nat} {μ : Nat → Nat → Int32} {f : Nat → Int64} {w : va_W} {H : Heap} {locs : List Loc} {ls : Array Slot} {Q : State → Prop} (hLE : LE p l s m c b L xs A0 D cy e0 mi) (hLW : LW s A0 D cy e0 vo mo oa n ad μ f w H locs) (hn : n < 512) (h5 : 5 * n + 5 ≤ L) (hl : lv_has ls 7 [(0, .ref b), (1, .ref vo), (2, .ref mo), (3, .ref oa), (4, .int (nI (5 * n)))]) (hc : cells + 12 ≤ room_1.cells) (hs : slots + 12351 ≤ room_1.slots) (kk : ∀ (μ' : Nat → Nat → Int32) (f' : Nat → Int64) (w' : va_W) (H' : Heap) (locs' : List Loc) (ls' : Array Slot), LW s A0 D cy e0 vo mo oa (n + 1) ad μ' f' w' H' locs' → lv_has ls' 7 [(0, .ref b), (1, .ref vo), (2, .ref mo), (3, .ref oa), (4, .int (nI (5 * n)))] → W p l e room_1 s m #[Value.ref b] below meth c H' locs' (cells + 12) (slots + 12351) Q (F0 m 1214 ls' [])) : W p l e room_1 s m #[Value.ref b] below meth c H locs cells slots Q (F0 m 120 ls []) := by
  obtain ⟨⟨hx, hb, hml, hown, hts⟩, ⟨hX, hbl, hL, hfl, hA, hbA⟩, hE, hF, hZ, hN⟩ := hLE
  obtain ⟨hP, hD, hS, hI⟩ := hLW
  obtain ⟨f1, f2, f3, f4, f5, f6⟩ := CI_ref hI hn
  obtain ⟨a1, e1⟩ : ∃ y, y = xs (nI (5 * n + 1)).toNatClampNeg := ⟨_, rfl⟩
  refine lv_aload_n hx hb dL_law_120 rfl (lv_at hl 1 rfl) ?_
  refine lv_aload_n hx hb dL_law_121 rfl (lv_at hl 0 rfl) ?_
  refine lv_iload hx hb dL_law_122 (lv_at hl 4 rfl) ?_
  refine lv_iconst (v := 1) hx hb dL_law_124 (by decide) ?_
  refine lv_iadd hx hb dL_law_125 ?_
  refine vg_tp (nI (5 * n + 1)) (nI_add _ 1) ?_
  refine va_sld hx hb hX hbl hbA hS (vp_in_nI (by omega) (by omega)) dL_law_126 ?_
  refine vg_tp a1 e1.symm ?_
  refine lv_aload_n hx hb dL_law_127 rfl (lv_at hl 3 rfl) ?_
  have hp9 : (wJ (uOut cy oa f) (wJ (Mw cy mo ad μ) w) : va_W).Perm (wJ (wJ (uOut cy oa f) w) (Mw cy mo ad μ)) := vp_pc (fun n9 hn9 h90 => by simp only [wJ, hn9, h90, Nat.add_zero, Nat.zero_add] <;> ac_rfl)
  refine vj_calli (vx_runSW (As := [.ref vo, .int a1, .ref oa]) (rest := []) ⟨hx, hb, hml, hown, hts⟩ (kM_person l hfl D cy H.size e0 mi vo n μ w a1 oa f hI hn) (vx_cwSW 3 hts gL_law_L_person rfl rfl rfl (by decide +kernel) ⟨Nat.le_of_ble_eq_true rfl, Nat.le_of_ble_eq_true rfl⟩) (vk_P.preS hE hF hZ hN hS (vj_free (vd_perm hp9 hD) hS hA) (vp_app.mp (vp_perm hP hp9)).1 (vd_app.mp (vd_perm hp9 hD)).1) rfl rfl hl.1 rfl (lv_room (Nat.le_of_ble_eq_true rfl)) dL_law_128 ⟨hc, hs⟩) hP hD hS hA hp9 (fun r u H locs hk hP hD hS => ?_)
  have hp8 : (wJ (wJ (uOut cy oa u.1) u.2) (Mw cy mo ad μ) : va_W).Perm (wJ (Mw cy mo ad μ) (wJ (uOut cy oa u.1) u.2)) := vp_pc (fun n9 hn9 h90 => by simp only [wJ, hn9, h90, Nat.add_zero, Nat.zero_add] <;> ac_rfl)
  have hP : va_P D vwCl (wJ (Mw cy mo ad μ) (wJ (uOut cy oa u.1) u.2)) H := vp_perm hP hp8
  have hD : va_D A0 (wJ (Mw cy mo ad μ) (wJ (uOut cy oa u.1) u.2)) := vd_perm hp8 hD
  refine lv_istore (lv' := [(5, .int r), (0, .ref b), (1, .ref vo), (2, .ref mo), (3, .ref oa), (4, .int (nI (5 * n)))]) hx hb dL_law_131 hl (by decide) rfl (fun ls hl => ?_)
  refine lv_aload_n hx hb dL_law_133 rfl (lv_at hl 3 rfl) ?_
  refine lv_aload_n hx hb dL_law_134 rfl (lv_at hl 1 rfl) ?_
  refine lv_iload hx hb dL_law_135 (lv_at hl 5 rfl) ?_
  refine lv_iconst (v := 1) hx hb dL_law_137 (by decide) ?_
  refine lv_iadd hx hb dL_law_138 ?_
  refine vg_tp (nI (5 * n + 1)) (nI_add _ 1) ?_
  refine va_sld hx hb hX hbl hbA hS (vp_in_nI (by omega) (by omega)) dL_law_139 ?_
  refine vg_tp a1 e1.symm ?_
  refine vj_calli (va_runV (As := [.int a1]) (rest := []) ⟨hx, hb, hml, hown, hts⟩ (kX5_person l D cy H.size mo ad μ a1 f1) (cwV 1 hts gL_law_X5_person rfl rfl rfl (by decide +kernel) ⟨Nat.le_of_ble_eq_true rfl, Nat.le_of_ble_eq_true rfl⟩) (vg_P.preV hE hP 0 rfl rfl (vp_app.mp hP).1 (vd_app.mp hD).1) rfl rfl hl.1 rfl (lv_room (Nat.le_of_ble_eq_true rfl)) dL_law_140 ⟨hc, hs⟩) hP hD hS hA (List.Perm.refl _) (fun r2 _ H locs hk2 hP hD hS => ?_)
  have hP : va_P D vwCl (wJ (Mw cy mo ad (mPer μ a1)) (wJ (uOut cy oa u.1) u.2)) H := hP
  have hD : va_D A0 (wJ (Mw cy mo ad (mPer μ a1)) (wJ (uOut cy oa u.1) u.2)) := hD
  refine lv_istore (lv' := [(6, .int r2), (5, .int r), (0, .ref b), (1, .ref vo), (2, .ref mo), (3, .ref oa), (4, .int (nI (5 * n)))]) hx hb dL_law_143 hl (by decide) rfl (fun ls hl => ?_)
  refine lv_aload_n hx hb dL_law_145 rfl (lv_at hl 4 rfl) ?_
  refine vj_calli (va_runV (As := []) (rest := []) ⟨hx, hb, hml, hown, hts⟩ (kX5_thrown l D cy H.size mo ad (mPer μ a1)) (cwV 0 hts gL_law_X5_thrown rfl rfl rfl (by decide +kernel) ⟨Nat.le_of_ble_eq_true rfl, Nat.le_of_ble_eq_true rfl⟩) (vg_P.preV hE hP 0 rfl rfl (vp_app.mp hP).1 (vd_app.mp hD).1) rfl rfl hl.1 rfl (lv_room (Nat.le_of_ble_eq_true rfl)) dL_law_146 ⟨hc, hs⟩) hP hD hS hA (List.Perm.refl _) (fun r3 _ H locs hk3 hP hD hS => ?_)
  have hp6 : (wJ (Mw cy mo ad (mPer μ a1)) (wJ (uOut cy oa u.1) u.2) : va_W).Perm (wJ (uOut cy oa u.1) (wJ (Mw cy mo ad (mPer μ a1)) u.2)) := vp_pc (fun n9 hn9 h90 => by simp only [wJ, hn9, h90, Nat.add_zero, Nat.zero_add] <;> ac_rfl)
  have hP : va_P D vwCl (wJ (uOut cy oa u.1) (wJ (Mw cy mo ad (mPer μ a1)) u.2)) H := vp_perm hP hp6
  have hD : va_D A0 (wJ (uOut cy oa u.1) (wJ (Mw cy mo ad (mPer μ a1)) u.2)) := vd_perm hp6 hD
  refine lv_iload hx hb dL_law_149 (lv_at hl 1 rfl) ?_
  refine lv_icmp_eq (tgt := 156) hx hb dL_law_151 (by decide) (fun _ => ?_) (fun z => absurd (hk3.trans hk.1.symm) z)
  refine lv_iload hx hb dL_law_156 (lv_at hl 1 rfl) ?_
  refine lv_if_ne (tgt := 173) hx hb dL_law_158 (by decide) (fun _ => ?_) (fun hr0 => ?_)
  · refine lv_goto (tgt := 1214) hx hb dL_law_173 (by decide) ?_
    exact kk (mPer μ a1) u.1 u.2 H locs ls ⟨hP, hD, hS, hk.2.2.2⟩ (lv_sub hl [2, 3, 4, 5, 6] rfl)
  · refine lv_aload_n hx hb dL_law_161 rfl (lv_at hl 5 rfl) ?_
    refine lv_iconst (v := 0) hx hb dL_law_162 (by decide) ?_
    refine vg_tp (nI 0) rfl ?_
    refine vg_lald hx hb hE.1 hP 0 1 rfl rfl (f := u.1) (j := 0) (by decide) (by decide) dL_law_163 ?_
    refine vg_tpl (r2.toInt64) (by rw [hk.2.1 hr0, hk2]; exact if_pos rfl) ?_
    refine lv_iload hx hb dL_law_164 (lv_at hl 0 rfl) ?_
    refine lv_i2l (v := r2.toInt64) hx hb dL_law_166 rfl ?_
    refine W.lcmp hx hb dL_law_167 ?_
    refine vg_tp 0 (lg_cmp_0 _) ?_
    refine lv_if_eq (tgt := 173) hx hb dL_law_168 (by decide) (fun _ => ?_) (fun z => absurd rfl z)
    refine lv_goto (tgt := 1214) hx hb dL_law_173 (by decide) ?_
    exact kk (mPer μ a1) u.1 u.2 H locs ls ⟨hP, hD, hS, hk.2.2.2⟩ (lv_sub hl [2, 3, 4, 5, 6] rfl)

set_option maxHeartbeats 4000000 in
set_option maxRecDepth 100000 in
theorem kC_follow {p : Program} {l : Launch} {e : Env} {s : State} {m : MethodId} {below : List Frame} {meth : Method} {c : Code} {b L : Nat} {xs : Nat → Int32} {A0 : Nat → Prop} {D : va_G} {cy : Nat → ClassId} {e0 mi vo mo oa n cells slots : Nat} {ad : Nat → Nat} {μ : Nat → Nat → Int32} {f : Nat → Int64} {w : va_W} {H : Heap} {locs : List Loc} {ls : Array Slot} {Q : State → Prop} (hLE : LE p l s m c b L xs A0 D cy e0 mi) (hLW : LW s A0 D cy e0 vo mo oa n ad μ f w H locs) (hn : n < 512) (h5 : 5 * n + 5 ≤ L) (hl : lv_has ls 7 [(0, .ref b), (1, .ref vo), (2, .ref mo), (3, .ref oa), (4, .int (nI (5 * n)))]) (hc : cells + 12 ≤ room_1.cells) (hs : slots + 12351 ≤ room_1.slots) (kk : ∀ (μ' : Nat → Nat → Int32) (f' : Nat → Int64) (w' : va_W) (H' : Heap) (locs' : List Loc) (ls' : Array Slot), LW s A0 D cy e0 vo mo oa (n + 1) ad μ' f' w' H' locs' → lv_has ls' 7 [(0, .ref b), (1, .ref vo), (2, .ref mo), (3, .ref oa), (4, .int (nI (5 * n)))] → W p l e room_1 s m #[Value.ref b] below meth c H' locs' (cells + 12) (slots + 12351) Q (F0 m 1214 ls' [])) : W p l e room_1 s m #[Value.ref b] below meth c H locs cells slots Q (F0 m 176 ls []) := by
  obtain ⟨⟨hx, hb, hml, hown, hts⟩, ⟨hX, hbl, hL, hfl, hA, hbA⟩, hE, hF, hZ, hN⟩ := hLE
  obtain ⟨hP, hD, hS, hI⟩ := hLW
  obtain ⟨f1, f2, f3, f4, f5, f6⟩ := CI_ref hI hn
  obtain ⟨a1, e1⟩ : ∃ y, y = xs (nI (5 * n + 1)).toNatClampNeg := ⟨_, rfl⟩
  obtain ⟨a2, e2⟩ : ∃ y, y = xs (nI (5 * n + 2)).toNatClampNeg := ⟨_, rfl⟩
  refine lv_aload_n hx hb dL_law_176 rfl (lv_at hl 1 rfl) ?_
  refine lv_aload_n hx hb dL_law_177 rfl (lv_at hl 0 rfl) ?_
  refine lv_iload hx hb dL_law_178 (lv_at hl 4 rfl) ?_
  refine lv_iconst (v := 1) hx hb dL_law_180 (by decide) ?_
  refine lv_iadd hx hb dL_law_181 ?_
  refine vg_tp (nI (5 * n + 1)) (nI_add _ 1) ?_
  refine va_sld hx hb hX hbl hbA hS (vp_in_nI (by omega) (by omega)) dL_law_182 ?_
  refine vg_tp a1 e1.symm ?_
  refine lv_aload_n hx hb dL_law_183 rfl (lv_at hl 0 rfl) ?_
  refine lv_iload hx hb dL_law_184 (lv_at hl 4 rfl) ?_
  refine lv_iconst (v := 2) hx hb dL_law_186 (by decide) ?_
  refine lv_iadd hx hb dL_law_187 ?_
  refine vg_tp (nI (5 * n + 2)) (nI_add _ 2) ?_
  refine va_sld hx hb hX hbl hbA hS (vp_in_nI (by omega) (by omega)) dL_law_188 ?_
  refine vg_tp a2 e2.symm ?_
  have hp9 : (wJ (uOut cy oa f) (wJ (Mw cy mo ad μ) w) : va_W).Perm (wJ w (wJ (uOut cy oa f) (Mw cy mo ad μ))) := vp_pc (fun n9 hn9 h90 => by simp only [wJ, hn9, h90, Nat.add_zero, Nat.zero_add] <;> ac_rfl)
  refine vj_calli (vx_runSW (As := [.ref vo, .int a1, .int a2]) (rest := []) ⟨hx, hb, hml, hown, hts⟩ (kM_follow l hfl D cy H.size e0 mi vo n μ w a1 a2 hI hn) (vx_cwSW 3 hts gL_law_L_follow rfl rfl rfl (by decide +kernel) ⟨Nat.le_of_ble_eq_true rfl, Nat.le_of_ble_eq_true rfl⟩) (vk_P.preS hE hF hZ hN hS (vj_free (vd_perm hp9 hD) hS hA) (vp_app.mp (vp_perm hP hp9)).1 (vd_app.mp (vd_perm hp9 hD)).1) rfl rfl hl.1 rfl (lv_room (Nat.le_of_ble_eq_true rfl)) dL_law_189 ⟨hc, hs⟩) hP hD hS hA hp9 (fun r u H locs hk hP hD hS => ?_)
  have hp8 : (wJ u (wJ (uOut cy oa f) (Mw cy mo ad μ)) : va_W).Perm (wJ (Mw cy mo ad μ) (wJ (uOut cy oa f) u)) := vp_pc (fun n9 hn9 h90 => by simp only [wJ, hn9, h90, Nat.add_zero, Nat.zero_add] <;> ac_rfl)
  have hP : va_P D vwCl (wJ (Mw cy mo ad μ) (wJ (uOut cy oa f) u)) H := vp_perm hP hp8
  have hD : va_D A0 (wJ (Mw cy mo ad μ) (wJ (uOut cy oa f) u)) := vd_perm hp8 hD
  refine lv_istore (lv' := [(5, .int r), (0, .ref b), (1, .ref vo), (2, .ref mo), (3, .ref oa), (4, .int (nI (5 * n)))]) hx hb dL_law_192 hl (by decide) rfl (fun ls hl => ?_)
  refine lv_aload_n hx hb dL_law_194 rfl (lv_at hl 3 rfl) ?_
  refine lv_aload_n hx hb dL_law_195 rfl (lv_at hl 1 rfl) ?_
  refine lv_iload hx hb dL_law_196 (lv_at hl 5 rfl) ?_
  refine lv_iconst (v := 1) hx hb dL_law_198 (by decide) ?_
  refine lv_iadd hx hb dL_law_199 ?_
  refine vg_tp (nI (5 * n + 1)) (nI_add _ 1) ?_
  refine va_sld hx hb hX hbl hbA hS (vp_in_nI (by omega) (by omega)) dL_law_200 ?_
  refine vg_tp a1 e1.symm ?_
  refine lv_aload_n hx hb dL_law_201 rfl (lv_at hl 1 rfl) ?_
  refine lv_iload hx hb dL_law_202 (lv_at hl 5 rfl) ?_
  refine lv_iconst (v := 2) hx hb dL_law_204 (by decide) ?_
  refine lv_iadd hx hb dL_law_205 ?_
  refine vg_tp (nI (5 * n + 2)) (nI_add _ 2) ?_
  refine va_sld hx hb hX hbl hbA hS (vp_in_nI (by omega) (by omega)) dL_law_206 ?_
  refine vg_tp a2 e2.symm ?_
  refine vj_callv (va_runV (As := [.int a1, .int a2]) (rest := []) ⟨hx, hb, hml, hown, hts⟩ (kX5_follow l D cy H.size mo ad μ a1 a2 f1 f2 f3) (cwV 2 hts gL_law_X5_follow rfl rfl rfl (by decide +kernel) ⟨Nat.le_of_ble_eq_true rfl, Nat.le_of_ble_eq_true rfl⟩) (vg_P.preV hE hP 0 rfl rfl (vp_app.mp hP).1 (vd_app.mp hD).1) rfl rfl hl.1 rfl (lv_room (Nat.le_of_ble_eq_true rfl)) dL_law_207 ⟨hc, hs⟩) hP hD hS hA (List.Perm.refl _) (fun _ H locs _ hP hD hS => ?_)
  have hP : va_P D vwCl (wJ (Mw cy mo ad (mFlw μ a1 a2)) (wJ (uOut cy oa f) u)) H := hP
  have hD : va_D A0 (wJ (Mw cy mo ad (mFlw μ a1 a2)) (wJ (uOut cy oa f) u)) := hD
  refine lv_aload_n hx hb dL_law_210 rfl (lv_at hl 3 rfl) ?_
  refine vj_calli (va_runV (As := []) (rest := []) ⟨hx, hb, hml, hown, hts⟩ (kX5_thrown l D cy H.size mo ad (mFlw μ a1 a2)) (cwV 0 hts gL_law_X5_thrown rfl rfl rfl (by decide +kernel) ⟨Nat.le_of_ble_eq_true rfl, Nat.le_of_ble_eq_true rfl⟩) (vg_P.preV hE hP 0 rfl rfl (vp_app.mp hP).1 (vd_app.mp hD).1) rfl rfl hl.1 rfl (lv_room (Nat.le_of_ble_eq_true rfl)) dL_law_211 ⟨hc, hs⟩) hP hD hS hA (List.Perm.refl _) (fun r3 _ H locs hk3 hP hD hS => ?_)
  have hp6 : (wJ (Mw cy mo ad (mFlw μ a1 a2)) (wJ (uOut cy oa f) u) : va_W).Perm (wJ (uOut cy oa f) (wJ (Mw cy mo ad (mFlw μ a1 a2)) u)) := vp_pc (fun n9 hn9 h90 => by simp only [wJ, hn9, h90, Nat.add_zero, Nat.zero_add] <;> ac_rfl)
  have hP : va_P D vwCl (wJ (uOut cy oa f) (wJ (Mw cy mo ad (mFlw μ a1 a2)) u)) H := vp_perm hP hp6
  have hD : va_D A0 (wJ (uOut cy oa f) (wJ (Mw cy mo ad (mFlw μ a1 a2)) u)) := vd_perm hp6 hD
  refine lv_iload hx hb dL_law_214 (lv_at hl 0 rfl) ?_
  refine lv_icmp_eq (tgt := 221) hx hb dL_law_216 (by decide) (fun _ => ?_) (fun z => absurd (hk3.trans hk.1.symm) z)
  refine lv_goto (tgt := 1214) hx hb dL_law_221 (by decide) ?_
  exact kk (mFlw μ a1 a2) f u H locs ls ⟨hP, hD, hS, hk.2⟩ (lv_sub hl [1, 2, 3, 4, 5] rfl)

set_option maxHeartbeats 4000000 in
set_option maxRecDepth 100000 in
theorem kC_answer {p : Program} {l : Launch} {e : Env} {s : State} {m : MethodId} {below : List Frame} {meth : Method} {c : Code} {b L : Nat} {xs : Nat → Int32} {A0 : Nat → Prop} {D : va_G} {cy : Nat → ClassId} {e0 mi vo mo oa n cells slots : Nat} {ad : Nat → Nat} {μ : Nat → Nat → Int32} {f : Nat → Int64} {w : va_W} {H : Heap} {locs : List Loc} {ls : Array Slot} {Q : State → Prop} (hLE : LE p l s m c b L xs A0 D cy e0 mi) (hLW : LW s A0 D cy e0 vo mo oa n ad μ f w H locs) (hn : n < 512) (h5 : 5 * n + 5 ≤ L) (hl : lv_has ls 7 [(0, .ref b), (1, .ref vo), (2, .ref mo), (3, .ref oa), (4, .int (nI (5 * n)))]) (hc : cells + 12 ≤ room_1.cells) (hs : slots + 12351 ≤ room_1.slots) (kk : ∀ (μ' : Nat → Nat → Int32) (f' : Nat → Int64) (w' : va_W) (H' : Heap) (locs' : List Loc) (ls' : Array Slot), LW s A0 D cy e0 vo mo oa (n + 1) ad μ' f' w' H' locs' → lv_has ls' 7 [(0, .ref b), (1, .ref vo), (2, .ref mo), (3, .ref oa), (4, .int (nI (5 * n)))] → W p l e room_1 s m #[Value.ref b] below meth c H' locs' (cells + 12) (slots + 12351) Q (F0 m 1214 ls' [])) : W p l e room_1 s m #[Value.ref b] below meth c H locs cells slots Q (F0 m 224 ls []) := by
  obtain ⟨⟨hx, hb, hml, hown, hts⟩, ⟨hX, hbl, hL, hfl, hA, hbA⟩, hE, hF, hZ, hN⟩ := hLE
  obtain ⟨hP, hD, hS, hI⟩ := hLW
  obtain ⟨f1, f2, f3, f4, f5, f6⟩ := CI_ref hI hn
  obtain ⟨a1, e1⟩ : ∃ y, y = xs (nI (5 * n + 1)).toNatClampNeg := ⟨_, rfl⟩
  obtain ⟨a2, e2⟩ : ∃ y, y = xs (nI (5 * n + 2)).toNatClampNeg := ⟨_, rfl⟩
  obtain ⟨a3, e3⟩ : ∃ y, y = xs (nI (5 * n + 3)).toNatClampNeg := ⟨_, rfl⟩
  refine lv_aload_n hx hb dL_law_224 rfl (lv_at hl 1 rfl) ?_
  refine lv_aload_n hx hb dL_law_225 rfl (lv_at hl 0 rfl) ?_
  refine lv_iload hx hb dL_law_226 (lv_at hl 4 rfl) ?_
  refine lv_iconst (v := 1) hx hb dL_law_228 (by decide) ?_
  refine lv_iadd hx hb dL_law_229 ?_
  refine vg_tp (nI (5 * n + 1)) (nI_add _ 1) ?_
  refine va_sld hx hb hX hbl hbA hS (vp_in_nI (by omega) (by omega)) dL_law_230 ?_
  refine vg_tp a1 e1.symm ?_
  refine lv_aload_n hx hb dL_law_231 rfl (lv_at hl 0 rfl) ?_
  refine lv_iload hx hb dL_law_232 (lv_at hl 4 rfl) ?_
  refine lv_iconst (v := 2) hx hb dL_law_234 (by decide) ?_
  refine lv_iadd hx hb dL_law_235 ?_
  refine vg_tp (nI (5 * n + 2)) (nI_add _ 2) ?_
  refine va_sld hx hb hX hbl hbA hS (vp_in_nI (by omega) (by omega)) dL_law_236 ?_
  refine vg_tp a2 e2.symm ?_
  refine lv_aload_n hx hb dL_law_237 rfl (lv_at hl 0 rfl) ?_
  refine lv_iload hx hb dL_law_238 (lv_at hl 4 rfl) ?_
  refine lv_iconst (v := 3) hx hb dL_law_240 (by decide) ?_
  refine lv_iadd hx hb dL_law_241 ?_
  refine vg_tp (nI (5 * n + 3)) (nI_add _ 3) ?_
  refine va_sld hx hb hX hbl hbA hS (vp_in_nI (by omega) (by omega)) dL_law_242 ?_
  refine vg_tp a3 e3.symm ?_
  refine lv_if_eq (tgt := 250) hx hb dL_law_243 (by decide) (fun c3 => ?_) (fun c3 => ?_)
  · refine lv_iconst (v := 0) hx hb dL_law_250 (by decide) ?_
    refine vg_tp (bI false) rfl ?_
    have hp9 : (wJ (uOut cy oa f) (wJ (Mw cy mo ad μ) w) : va_W).Perm (wJ w (wJ (uOut cy oa f) (Mw cy mo ad μ))) := vp_pc (fun n9 hn9 h90 => by simp only [wJ, hn9, h90, Nat.add_zero, Nat.zero_add] <;> ac_rfl)
    refine vj_calli (vx_runSW (As := [.ref vo, .int a1, .int a2, .int (bI false)]) (rest := []) ⟨hx, hb, hml, hown, hts⟩ (kM_answer l hfl D cy H.size e0 mi vo n μ w a1 a2 false hI hn) (vx_cwSW 4 hts gL_law_L_answer rfl rfl rfl (by decide +kernel) ⟨Nat.le_of_ble_eq_true rfl, Nat.le_of_ble_eq_true rfl⟩) (vk_P.preS hE hF hZ hN hS (vj_free (vd_perm hp9 hD) hS hA) (vp_app.mp (vp_perm hP hp9)).1 (vd_app.mp (vd_perm hp9 hD)).1) rfl rfl hl.1 rfl (lv_room (Nat.le_of_ble_eq_true rfl)) dL_law_251 ⟨hc, hs⟩) hP hD hS hA hp9 (fun r u H locs hk hP hD hS => ?_)
    have hp8 : (wJ u (wJ (uOut cy oa f) (Mw cy mo ad μ)) : va_W).Perm (wJ (Mw cy mo ad μ) (wJ (uOut cy oa f) u)) := vp_pc (fun n9 hn9 h90 => by simp only [wJ, hn9, h90, Nat.add_zero, Nat.zero_add] <;> ac_rfl)
    have hP : va_P D vwCl (wJ (Mw cy mo ad μ) (wJ (uOut cy oa f) u)) H := vp_perm hP hp8
    have hD : va_D A0 (wJ (Mw cy mo ad μ) (wJ (uOut cy oa f) u)) := vd_perm hp8 hD
    refine lv_istore (lv' := [(5, .int r), (0, .ref b), (1, .ref vo), (2, .ref mo), (3, .ref oa), (4, .int (nI (5 * n)))]) hx hb dL_law_254 hl (by decide) rfl (fun ls hl => ?_)
    refine lv_aload_n hx hb dL_law_256 rfl (lv_at hl 3 rfl) ?_
    refine lv_aload_n hx hb dL_law_257 rfl (lv_at hl 1 rfl) ?_
    refine lv_iload hx hb dL_law_258 (lv_at hl 5 rfl) ?_
    refine lv_iconst (v := 1) hx hb dL_law_260 (by decide) ?_
    refine lv_iadd hx hb dL_law_261 ?_
    refine vg_tp (nI (5 * n + 1)) (nI_add _ 1) ?_
    refine va_sld hx hb hX hbl hbA hS (vp_in_nI (by omega) (by omega)) dL_law_262 ?_
    refine vg_tp a1 e1.symm ?_
    refine lv_aload_n hx hb dL_law_263 rfl (lv_at hl 1 rfl) ?_
    refine lv_iload hx hb dL_law_264 (lv_at hl 5 rfl) ?_
    refine lv_iconst (v := 2) hx hb dL_law_266 (by decide) ?_
    refine lv_iadd hx hb dL_law_267 ?_
    refine vg_tp (nI (5 * n + 2)) (nI_add _ 2) ?_
    refine va_sld hx hb hX hbl hbA hS (vp_in_nI (by omega) (by omega)) dL_law_268 ?_
    refine vg_tp a2 e2.symm ?_
    refine lv_aload_n hx hb dL_law_269 rfl (lv_at hl 1 rfl) ?_
    refine lv_iload hx hb dL_law_270 (lv_at hl 5 rfl) ?_
    refine lv_iconst (v := 3) hx hb dL_law_272 (by decide) ?_
    refine lv_iadd hx hb dL_law_273 ?_
    refine vg_tp (nI (5 * n + 3)) (nI_add _ 3) ?_
    refine va_sld hx hb hX hbl hbA hS (vp_in_nI (by omega) (by omega)) dL_law_274 ?_
    refine vg_tp a3 e3.symm ?_
    refine lv_if_eq (tgt := 282) hx hb dL_law_275 (by decide) (fun _ => ?_) (fun z => absurd c3 z)
    refine lv_iconst (v := 0) hx hb dL_law_282 (by decide) ?_
    refine vg_tp (bI false) rfl ?_
    refine vj_callv (va_runV (As := [.int a1, .int a2, .int (bI false)]) (rest := []) ⟨hx, hb, hml, hown, hts⟩ (kX5_answer l D cy H.size mo ad μ a1 a2 false f1 f2 f3) (cwV 3 hts gL_law_X5_answer rfl rfl rfl (by decide +kernel) ⟨Nat.le_of_ble_eq_true rfl, Nat.le_of_ble_eq_true rfl⟩) (vg_P.preV hE hP 0 rfl rfl (vp_app.mp hP).1 (vd_app.mp hD).1) rfl rfl hl.1 rfl (lv_room (Nat.le_of_ble_eq_true rfl)) dL_law_283 ⟨hc, hs⟩) hP hD hS hA (List.Perm.refl _) (fun _ H locs _ hP hD hS => ?_)
    have hP : va_P D vwCl (wJ (Mw cy mo ad (mAns μ a1 a2 false)) (wJ (uOut cy oa f) u)) H := hP
    have hD : va_D A0 (wJ (Mw cy mo ad (mAns μ a1 a2 false)) (wJ (uOut cy oa f) u)) := hD
    refine lv_aload_n hx hb dL_law_286 rfl (lv_at hl 3 rfl) ?_
    refine vj_calli (va_runV (As := []) (rest := []) ⟨hx, hb, hml, hown, hts⟩ (kX5_thrown l D cy H.size mo ad (mAns μ a1 a2 false)) (cwV 0 hts gL_law_X5_thrown rfl rfl rfl (by decide +kernel) ⟨Nat.le_of_ble_eq_true rfl, Nat.le_of_ble_eq_true rfl⟩) (vg_P.preV hE hP 0 rfl rfl (vp_app.mp hP).1 (vd_app.mp hD).1) rfl rfl hl.1 rfl (lv_room (Nat.le_of_ble_eq_true rfl)) dL_law_287 ⟨hc, hs⟩) hP hD hS hA (List.Perm.refl _) (fun r3 _ H locs hk3 hP hD hS => ?_)
    have hp6 : (wJ (Mw cy mo ad (mAns μ a1 a2 false)) (wJ (uOut cy oa f) u) : va_W).Perm (wJ (uOut cy oa f) (wJ (Mw cy mo ad (mAns μ a1 a2 false)) u)) := vp_pc (fun n9 hn9 h90 => by simp only [wJ, hn9, h90, Nat.add_zero, Nat.zero_add] <;> ac_rfl)
    have hP : va_P D vwCl (wJ (uOut cy oa f) (wJ (Mw cy mo ad (mAns μ a1 a2 false)) u)) H := vp_perm hP hp6
    have hD : va_D A0 (wJ (uOut cy oa f) (wJ (Mw cy mo ad (mAns μ a1 a2 false)) u)) := vd_perm hp6 hD
    refine lv_iload hx hb dL_law_290 (lv_at hl 0 rfl) ?_
    refine lv_icmp_eq (tgt := 297) hx hb dL_law_292 (by decide) (fun _ => ?_) (fun z => absurd (hk3.trans hk.1.symm) z)
    refine lv_goto (tgt := 1214) hx hb dL_law_297 (by decide) ?_
    exact kk (mAns μ a1 a2 false) f u H locs ls ⟨hP, hD, hS, hk.2⟩ (lv_sub hl [1, 2, 3, 4, 5] rfl)
  · refine lv_iconst (v := 1) hx hb dL_law_246 (by decide) ?_
    refine lv_goto (tgt := 251) hx hb dL_law_247 (by decide) ?_
    refine vg_tp (bI true) rfl ?_
    have hp9 : (wJ (uOut cy oa f) (wJ (Mw cy mo ad μ) w) : va_W).Perm (wJ w (wJ (uOut cy oa f) (Mw cy mo ad μ))) := vp_pc (fun n9 hn9 h90 => by simp only [wJ, hn9, h90, Nat.add_zero, Nat.zero_add] <;> ac_rfl)
    refine vj_calli (vx_runSW (As := [.ref vo, .int a1, .int a2, .int (bI true)]) (rest := []) ⟨hx, hb, hml, hown, hts⟩ (kM_answer l hfl D cy H.size e0 mi vo n μ w a1 a2 true hI hn) (vx_cwSW 4 hts gL_law_L_answer rfl rfl rfl (by decide +kernel) ⟨Nat.le_of_ble_eq_true rfl, Nat.le_of_ble_eq_true rfl⟩) (vk_P.preS hE hF hZ hN hS (vj_free (vd_perm hp9 hD) hS hA) (vp_app.mp (vp_perm hP hp9)).1 (vd_app.mp (vd_perm hp9 hD)).1) rfl rfl hl.1 rfl (lv_room (Nat.le_of_ble_eq_true rfl)) dL_law_251 ⟨hc, hs⟩) hP hD hS hA hp9 (fun r u H locs hk hP hD hS => ?_)
    have hp8 : (wJ u (wJ (uOut cy oa f) (Mw cy mo ad μ)) : va_W).Perm (wJ (Mw cy mo ad μ) (wJ (uOut cy oa f) u)) := vp_pc (fun n9 hn9 h90 => by simp only [wJ, hn9, h90, Nat.add_zero, Nat.zero_add] <;> ac_rfl)
    have hP : va_P D vwCl (wJ (Mw cy mo ad μ) (wJ (uOut cy oa f) u)) H := vp_perm hP hp8
    have hD : va_D A0 (wJ (Mw cy mo ad μ) (wJ (uOut cy oa f) u)) := vd_perm hp8 hD
    refine lv_istore (lv' := [(5, .int r), (0, .ref b), (1, .ref vo), (2, .ref mo), (3, .ref oa), (4, .int (nI (5 * n)))]) hx hb dL_law_254 hl (by decide) rfl (fun ls hl => ?_)
    refine lv_aload_n hx hb dL_law_256 rfl (lv_at hl 3 rfl) ?_
    refine lv_aload_n hx hb dL_law_257 rfl (lv_at hl 1 rfl) ?_
    refine lv_iload hx hb dL_law_258 (lv_at hl 5 rfl) ?_
    refine lv_iconst (v := 1) hx hb dL_law_260 (by decide) ?_
    refine lv_iadd hx hb dL_law_261 ?_
    refine vg_tp (nI (5 * n + 1)) (nI_add _ 1) ?_
    refine va_sld hx hb hX hbl hbA hS (vp_in_nI (by omega) (by omega)) dL_law_262 ?_
    refine vg_tp a1 e1.symm ?_
    refine lv_aload_n hx hb dL_law_263 rfl (lv_at hl 1 rfl) ?_
    refine lv_iload hx hb dL_law_264 (lv_at hl 5 rfl) ?_
    refine lv_iconst (v := 2) hx hb dL_law_266 (by decide) ?_
    refine lv_iadd hx hb dL_law_267 ?_
    refine vg_tp (nI (5 * n + 2)) (nI_add _ 2) ?_
    refine va_sld hx hb hX hbl hbA hS (vp_in_nI (by omega) (by omega)) dL_law_268 ?_
    refine vg_tp a2 e2.symm ?_
    refine lv_aload_n hx hb dL_law_269 rfl (lv_at hl 1 rfl) ?_
    refine lv_iload hx hb dL_law_270 (lv_at hl 5 rfl) ?_
    refine lv_iconst (v := 3) hx hb dL_law_272 (by decide) ?_
    refine lv_iadd hx hb dL_law_273 ?_
    refine vg_tp (nI (5 * n + 3)) (nI_add _ 3) ?_
    refine va_sld hx hb hX hbl hbA hS (vp_in_nI (by omega) (by omega)) dL_law_274 ?_
    refine vg_tp a3 e3.symm ?_
    refine lv_if_eq (tgt := 282) hx hb dL_law_275 (by decide) (fun z => absurd z c3) (fun _ => ?_)
    refine lv_iconst (v := 1) hx hb dL_law_278 (by decide) ?_
    refine lv_goto (tgt := 283) hx hb dL_law_279 (by decide) ?_
    refine vg_tp (bI true) rfl ?_
    refine vj_callv (va_runV (As := [.int a1, .int a2, .int (bI true)]) (rest := []) ⟨hx, hb, hml, hown, hts⟩ (kX5_answer l D cy H.size mo ad μ a1 a2 true f1 f2 f3) (cwV 3 hts gL_law_X5_answer rfl rfl rfl (by decide +kernel) ⟨Nat.le_of_ble_eq_true rfl, Nat.le_of_ble_eq_true rfl⟩) (vg_P.preV hE hP 0 rfl rfl (vp_app.mp hP).1 (vd_app.mp hD).1) rfl rfl hl.1 rfl (lv_room (Nat.le_of_ble_eq_true rfl)) dL_law_283 ⟨hc, hs⟩) hP hD hS hA (List.Perm.refl _) (fun _ H locs _ hP hD hS => ?_)
    have hP : va_P D vwCl (wJ (Mw cy mo ad (mAns μ a1 a2 true)) (wJ (uOut cy oa f) u)) H := hP
    have hD : va_D A0 (wJ (Mw cy mo ad (mAns μ a1 a2 true)) (wJ (uOut cy oa f) u)) := hD
    refine lv_aload_n hx hb dL_law_286 rfl (lv_at hl 3 rfl) ?_
    refine vj_calli (va_runV (As := []) (rest := []) ⟨hx, hb, hml, hown, hts⟩ (kX5_thrown l D cy H.size mo ad (mAns μ a1 a2 true)) (cwV 0 hts gL_law_X5_thrown rfl rfl rfl (by decide +kernel) ⟨Nat.le_of_ble_eq_true rfl, Nat.le_of_ble_eq_true rfl⟩) (vg_P.preV hE hP 0 rfl rfl (vp_app.mp hP).1 (vd_app.mp hD).1) rfl rfl hl.1 rfl (lv_room (Nat.le_of_ble_eq_true rfl)) dL_law_287 ⟨hc, hs⟩) hP hD hS hA (List.Perm.refl _) (fun r3 _ H locs hk3 hP hD hS => ?_)
    have hp6 : (wJ (Mw cy mo ad (mAns μ a1 a2 true)) (wJ (uOut cy oa f) u) : va_W).Perm (wJ (uOut cy oa f) (wJ (Mw cy mo ad (mAns μ a1 a2 true)) u)) := vp_pc (fun n9 hn9 h90 => by simp only [wJ, hn9, h90, Nat.add_zero, Nat.zero_add] <;> ac_rfl)
    have hP : va_P D vwCl (wJ (uOut cy oa f) (wJ (Mw cy mo ad (mAns μ a1 a2 true)) u)) H := vp_perm hP hp6
    have hD : va_D A0 (wJ (uOut cy oa f) (wJ (Mw cy mo ad (mAns μ a1 a2 true)) u)) := vd_perm hp6 hD
    refine lv_iload hx hb dL_law_290 (lv_at hl 0 rfl) ?_
    refine lv_icmp_eq (tgt := 297) hx hb dL_law_292 (by decide) (fun _ => ?_) (fun z => absurd (hk3.trans hk.1.symm) z)
    refine lv_goto (tgt := 1214) hx hb dL_law_297 (by decide) ?_
    exact kk (mAns μ a1 a2 true) f u H locs ls ⟨hP, hD, hS, hk.2⟩ (lv_sub hl [1, 2, 3, 4, 5] rfl)
