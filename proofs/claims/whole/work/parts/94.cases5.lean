/-! the law's cases -/
set_option maxHeartbeats 4000000 in
set_option maxRecDepth 100000 in
theorem kC_seesAnew {p : Program} {l : Launch} {e : Env} {s : State} {m : MethodId} {below : List Frame} {meth : Method} {c : Code} {b L : Nat} {xs : Nat → Int32} {A0 : Nat → Prop} {D : va_G} {cy : Nat → ClassId} {e0 mi vo mo oa n cells slots : Nat} {ad : Nat → Nat} {μ : Nat → Nat → Int32} {f : Nat → Int64} {w : va_W} {H : Heap} {locs : List Loc} {ls : Array Slot} {Q : State → Prop} (hLE : LE p l s m c b L xs A0 D cy e0 mi) (hLW : LW s A0 D cy e0 vo mo oa n ad μ f w H locs) (hn : n < 512) (h5 : 5 * n + 5 ≤ L) (hl : lv_has ls 7 [(0, .ref b), (1, .ref vo), (2, .ref mo), (3, .ref oa), (4, .int (nI (5 * n)))]) (hc : cells + 12 ≤ room_1.cells) (hs : slots + 12351 ≤ room_1.slots) (kk : ∀ (μ' : Nat → Nat → Int32) (f' : Nat → Int64) (w' : va_W) (H' : Heap) (locs' : List Loc) (ls' : Array Slot), LW s A0 D cy e0 vo mo oa (n + 1) ad μ' f' w' H' locs' → lv_has ls' 7 [(0, .ref b), (1, .ref vo), (2, .ref mo), (3, .ref oa), (4, .int (nI (5 * n)))] → W p l e room_1 s m #[Value.ref b] below meth c H' locs' (cells + 12) (slots + 12351) Q (F0 m 1214 ls' [])) : W p l e room_1 s m #[Value.ref b] below meth c H locs cells slots Q (F0 m 1071 ls []) := by
  obtain ⟨⟨hx, hb, hml, hown, hts⟩, ⟨hX, hbl, hL, hfl, hA, hbA⟩, hE, hF, hZ, hN⟩ := hLE
  obtain ⟨hP, hD, hS, hI⟩ := hLW
  obtain ⟨f1, f2, f3, f4, f5, f6⟩ := CI_ref hI hn
  obtain ⟨a1, e1⟩ : ∃ y, y = xs (nI (5 * n + 1)).toNatClampNeg := ⟨_, rfl⟩
  obtain ⟨a2, e2⟩ : ∃ y, y = xs (nI (5 * n + 2)).toNatClampNeg := ⟨_, rfl⟩
  refine lv_aload_n hx hb dL_law_1071 rfl (lv_at hl 1 rfl) ?_
  refine lv_aload_n hx hb dL_law_1072 rfl (lv_at hl 0 rfl) ?_
  refine lv_iload hx hb dL_law_1073 (lv_at hl 4 rfl) ?_
  refine lv_iconst (v := 1) hx hb dL_law_1075 (by decide) ?_
  refine lv_iadd hx hb dL_law_1076 ?_
  refine vg_tp (nI (5 * n + 1)) (nI_add _ 1) ?_
  refine va_sld hx hb hX hbl hbA hS (vp_in_nI (by omega) (by omega)) dL_law_1077 ?_
  refine vg_tp a1 e1.symm ?_
  refine lv_aload_n hx hb dL_law_1078 rfl (lv_at hl 0 rfl) ?_
  refine lv_iload hx hb dL_law_1079 (lv_at hl 4 rfl) ?_
  refine lv_iconst (v := 2) hx hb dL_law_1081 (by decide) ?_
  refine lv_iadd hx hb dL_law_1082 ?_
  refine vg_tp (nI (5 * n + 2)) (nI_add _ 2) ?_
  refine va_sld hx hb hX hbl hbA hS (vp_in_nI (by omega) (by omega)) dL_law_1083 ?_
  refine vg_tp a2 e2.symm ?_
  refine lv_aload_n hx hb dL_law_1084 rfl (lv_at hl 3 rfl) ?_
  have hp9 : (wJ (uOut cy oa f) (wJ (Mw cy mo ad μ) w) : va_W).Perm (wJ (wJ (uOut cy oa f) w) (Mw cy mo ad μ)) := vp_pc (fun n9 hn9 h90 => by simp only [wJ, hn9, h90, Nat.add_zero, Nat.zero_add] <;> ac_rfl)
  refine vj_calli (vx_runSW (As := [.ref vo, .int a1, .int a2, .ref oa]) (rest := []) ⟨hx, hb, hml, hown, hts⟩ (kM_seesAnew l hfl D cy H.size e0 mi vo n μ w a1 a2 oa f hI hn) (vx_cwSW 4 hts gL_law_L_seesAnew rfl rfl rfl (by decide +kernel) ⟨Nat.le_of_ble_eq_true rfl, Nat.le_of_ble_eq_true rfl⟩) (vk_P.preS hE hF hZ hN hS (vj_free (vd_perm hp9 hD) hS hA) (vp_app.mp (vp_perm hP hp9)).1 (vd_app.mp (vd_perm hp9 hD)).1) rfl rfl hl.1 rfl (lv_room (Nat.le_of_ble_eq_true rfl)) dL_law_1085 ⟨hc, hs⟩) hP hD hS hA hp9 (fun r u H locs hk hP hD hS => ?_)
  have hp8 : (wJ (wJ (uOut cy oa u.1) u.2) (Mw cy mo ad μ) : va_W).Perm (wJ (Mw cy mo ad μ) (wJ (uOut cy oa u.1) u.2)) := vp_pc (fun n9 hn9 h90 => by simp only [wJ, hn9, h90, Nat.add_zero, Nat.zero_add] <;> ac_rfl)
  have hP : va_P D vwCl (wJ (Mw cy mo ad μ) (wJ (uOut cy oa u.1) u.2)) H := vp_perm hP hp8
  have hD : va_D A0 (wJ (Mw cy mo ad μ) (wJ (uOut cy oa u.1) u.2)) := vd_perm hp8 hD
  refine lv_istore (lv' := [(5, .int r), (0, .ref b), (1, .ref vo), (2, .ref mo), (3, .ref oa), (4, .int (nI (5 * n)))]) hx hb dL_law_1088 hl (by decide) rfl (fun ls hl => ?_)
  refine lv_aload_n hx hb dL_law_1090 rfl (lv_at hl 3 rfl) ?_
  refine lv_aload_n hx hb dL_law_1091 rfl (lv_at hl 1 rfl) ?_
  refine lv_iload hx hb dL_law_1092 (lv_at hl 5 rfl) ?_
  refine lv_iconst (v := 1) hx hb dL_law_1094 (by decide) ?_
  refine lv_iadd hx hb dL_law_1095 ?_
  refine vg_tp (nI (5 * n + 1)) (nI_add _ 1) ?_
  refine va_sld hx hb hX hbl hbA hS (vp_in_nI (by omega) (by omega)) dL_law_1096 ?_
  refine vg_tp a1 e1.symm ?_
  refine lv_aload_n hx hb dL_law_1097 rfl (lv_at hl 1 rfl) ?_
  refine lv_iload hx hb dL_law_1098 (lv_at hl 5 rfl) ?_
  refine lv_iconst (v := 2) hx hb dL_law_1100 (by decide) ?_
  refine lv_iadd hx hb dL_law_1101 ?_
  refine vg_tp (nI (5 * n + 2)) (nI_add _ 2) ?_
  refine va_sld hx hb hX hbl hbA hS (vp_in_nI (by omega) (by omega)) dL_law_1102 ?_
  refine vg_tp a2 e2.symm ?_
  refine vj_calli (va_runV (As := [.int a1, .int a2]) (rest := []) ⟨hx, hb, hml, hown, hts⟩ (kX5_seesAnew l D cy H.size mo ad μ a1 a2 f1 f4) (cwV 2 hts gL_law_X5_seesAnew rfl rfl rfl (by decide +kernel) ⟨Nat.le_of_ble_eq_true rfl, Nat.le_of_ble_eq_true rfl⟩) (vg_P.preV hE hP 0 rfl rfl (vp_app.mp hP).1 (vd_app.mp hD).1) rfl rfl hl.1 rfl (lv_room (Nat.le_of_ble_eq_true rfl)) dL_law_1103 ⟨hc, hs⟩) hP hD hS hA (List.Perm.refl _) (fun r2 _ H locs hk2 hP hD hS => ?_)
  have hP : va_P D vwCl (wJ (Mw cy mo ad (mSee μ a1 a2)) (wJ (uOut cy oa u.1) u.2)) H := hP
  have hD : va_D A0 (wJ (Mw cy mo ad (mSee μ a1 a2)) (wJ (uOut cy oa u.1) u.2)) := hD
  refine lv_istore (lv' := [(6, .int r2), (5, .int r), (0, .ref b), (1, .ref vo), (2, .ref mo), (3, .ref oa), (4, .int (nI (5 * n)))]) hx hb dL_law_1106 hl (by decide) rfl (fun ls hl => ?_)
  refine lv_aload_n hx hb dL_law_1108 rfl (lv_at hl 4 rfl) ?_
  refine vj_calli (va_runV (As := []) (rest := []) ⟨hx, hb, hml, hown, hts⟩ (kX5_thrown l D cy H.size mo ad (mSee μ a1 a2)) (cwV 0 hts gL_law_X5_thrown rfl rfl rfl (by decide +kernel) ⟨Nat.le_of_ble_eq_true rfl, Nat.le_of_ble_eq_true rfl⟩) (vg_P.preV hE hP 0 rfl rfl (vp_app.mp hP).1 (vd_app.mp hD).1) rfl rfl hl.1 rfl (lv_room (Nat.le_of_ble_eq_true rfl)) dL_law_1109 ⟨hc, hs⟩) hP hD hS hA (List.Perm.refl _) (fun r3 _ H locs hk3 hP hD hS => ?_)
  have hp6 : (wJ (Mw cy mo ad (mSee μ a1 a2)) (wJ (uOut cy oa u.1) u.2) : va_W).Perm (wJ (uOut cy oa u.1) (wJ (Mw cy mo ad (mSee μ a1 a2)) u.2)) := vp_pc (fun n9 hn9 h90 => by simp only [wJ, hn9, h90, Nat.add_zero, Nat.zero_add] <;> ac_rfl)
  have hP : va_P D vwCl (wJ (uOut cy oa u.1) (wJ (Mw cy mo ad (mSee μ a1 a2)) u.2)) H := vp_perm hP hp6
  have hD : va_D A0 (wJ (uOut cy oa u.1) (wJ (Mw cy mo ad (mSee μ a1 a2)) u.2)) := vd_perm hp6 hD
  refine lv_iload hx hb dL_law_1112 (lv_at hl 1 rfl) ?_
  refine lv_icmp_eq (tgt := 1119) hx hb dL_law_1114 (by decide) (fun _ => ?_) (fun z => absurd (hk3.trans hk.1.symm) z)
  refine lv_iload hx hb dL_law_1119 (lv_at hl 1 rfl) ?_
  refine lv_if_ne (tgt := 1143) hx hb dL_law_1121 (by decide) (fun _ => ?_) (fun hr0 => ?_)
  · refine lv_goto (tgt := 1214) hx hb dL_law_1143 (by decide) ?_
    exact kk (mSee μ a1 a2) u.1 u.2 H locs ls ⟨hP, hD, hS, hk.2.2.2⟩ (lv_sub hl [2, 3, 4, 5, 6] rfl)
  · refine lv_aload_n hx hb dL_law_1124 rfl (lv_at hl 5 rfl) ?_
    refine lv_iconst (v := 0) hx hb dL_law_1125 (by decide) ?_
    refine vg_tp (nI 0) rfl ?_
    refine vg_lald hx hb hE.1 hP 0 1 rfl rfl (f := u.1) (j := 0) (by decide) (by decide) dL_law_1126 ?_
    refine vg_tpl ((bI (mSeeR μ a1 a2)).toInt64) (by rw [hk.2.1 hr0]; exact if_pos rfl) ?_
    refine lv_iload hx hb dL_law_1127 (lv_at hl 0 rfl) ?_
    refine vg_tp (bI (mSeeR μ a1 a2)) hk2 ?_
    refine lv_if_eq (tgt := 1136) hx hb dL_law_1129 (by decide) (fun hz => ?_) (fun hz => ?_)
    · have hz : mSeeR μ a1 a2 = false := by cases q : mSeeR μ a1 a2; rfl; rw [q] at hz; exact absurd hz (by decide)
      refine lv_lconst (v := 0) hx hb dL_law_1136 (by decide) ?_
      refine W.lcmp hx hb dL_law_1137 ?_
      refine vg_tp 0 (by rw [hz]; decide) ?_
      refine lv_if_eq (tgt := 1143) hx hb dL_law_1138 (by decide) (fun _ => ?_) (fun z => absurd rfl z)
      refine lv_goto (tgt := 1214) hx hb dL_law_1143 (by decide) ?_
      exact kk (mSee μ a1 a2) u.1 u.2 H locs ls ⟨hP, hD, hS, hk.2.2.2⟩ (lv_sub hl [2, 3, 4, 5, 6] rfl)
    · have hz : mSeeR μ a1 a2 = true := by cases q : mSeeR μ a1 a2; rw [q] at hz; exact absurd rfl hz; rfl
      refine lv_lconst (v := 1) hx hb dL_law_1132 (by decide) ?_
      refine lv_goto (tgt := 1137) hx hb dL_law_1133 (by decide) ?_
      refine W.lcmp hx hb dL_law_1137 ?_
      refine vg_tp 0 (by rw [hz]; decide) ?_
      refine lv_if_eq (tgt := 1143) hx hb dL_law_1138 (by decide) (fun _ => ?_) (fun z => absurd rfl z)
      refine lv_goto (tgt := 1214) hx hb dL_law_1143 (by decide) ?_
      exact kk (mSee μ a1 a2) u.1 u.2 H locs ls ⟨hP, hD, hS, hk.2.2.2⟩ (lv_sub hl [2, 3, 4, 5, 6] rfl)

set_option maxHeartbeats 4000000 in
set_option maxRecDepth 100000 in
theorem kC_home {p : Program} {l : Launch} {e : Env} {s : State} {m : MethodId} {below : List Frame} {meth : Method} {c : Code} {b L : Nat} {xs : Nat → Int32} {A0 : Nat → Prop} {D : va_G} {cy : Nat → ClassId} {e0 mi vo mo oa n cells slots : Nat} {ad : Nat → Nat} {μ : Nat → Nat → Int32} {f : Nat → Int64} {w : va_W} {H : Heap} {locs : List Loc} {ls : Array Slot} {Q : State → Prop} (hLE : LE p l s m c b L xs A0 D cy e0 mi) (hLW : LW s A0 D cy e0 vo mo oa n ad μ f w H locs) (hn : n < 512) (h5 : 5 * n + 5 ≤ L) (hl : lv_has ls 7 [(0, .ref b), (1, .ref vo), (2, .ref mo), (3, .ref oa), (4, .int (nI (5 * n)))]) (hc : cells + 12 ≤ room_1.cells) (hs : slots + 12351 ≤ room_1.slots) (kk : ∀ (μ' : Nat → Nat → Int32) (f' : Nat → Int64) (w' : va_W) (H' : Heap) (locs' : List Loc) (ls' : Array Slot), LW s A0 D cy e0 vo mo oa (n + 1) ad μ' f' w' H' locs' → lv_has ls' 7 [(0, .ref b), (1, .ref vo), (2, .ref mo), (3, .ref oa), (4, .int (nI (5 * n)))] → W p l e room_1 s m #[Value.ref b] below meth c H' locs' (cells + 12) (slots + 12351) Q (F0 m 1214 ls' [])) : W p l e room_1 s m #[Value.ref b] below meth c H locs cells slots Q (F0 m 1146 ls []) := by
  obtain ⟨⟨hx, hb, hml, hown, hts⟩, ⟨hX, hbl, hL, hfl, hA, hbA⟩, hE, hF, hZ, hN⟩ := hLE
  obtain ⟨hP, hD, hS, hI⟩ := hLW
  obtain ⟨f1, f2, f3, f4, f5, f6⟩ := CI_ref hI hn
  obtain ⟨a1, e1⟩ : ∃ y, y = xs (nI (5 * n + 1)).toNatClampNeg := ⟨_, rfl⟩
  obtain ⟨a2, e2⟩ : ∃ y, y = xs (nI (5 * n + 2)).toNatClampNeg := ⟨_, rfl⟩
  refine lv_aload_n hx hb dL_law_1146 rfl (lv_at hl 1 rfl) ?_
  refine lv_aload_n hx hb dL_law_1147 rfl (lv_at hl 0 rfl) ?_
  refine lv_iload hx hb dL_law_1148 (lv_at hl 4 rfl) ?_
  refine lv_iconst (v := 1) hx hb dL_law_1150 (by decide) ?_
  refine lv_iadd hx hb dL_law_1151 ?_
  refine vg_tp (nI (5 * n + 1)) (nI_add _ 1) ?_
  refine va_sld hx hb hX hbl hbA hS (vp_in_nI (by omega) (by omega)) dL_law_1152 ?_
  refine vg_tp a1 e1.symm ?_
  refine lv_aload_n hx hb dL_law_1153 rfl (lv_at hl 0 rfl) ?_
  refine lv_iload hx hb dL_law_1154 (lv_at hl 4 rfl) ?_
  refine lv_iconst (v := 2) hx hb dL_law_1156 (by decide) ?_
  refine lv_iadd hx hb dL_law_1157 ?_
  refine vg_tp (nI (5 * n + 2)) (nI_add _ 2) ?_
  refine va_sld hx hb hX hbl hbA hS (vp_in_nI (by omega) (by omega)) dL_law_1158 ?_
  refine vg_tp a2 e2.symm ?_
  refine lv_aload_n hx hb dL_law_1159 rfl (lv_at hl 3 rfl) ?_
  have hp9 : (wJ (uOut cy oa f) (wJ (Mw cy mo ad μ) w) : va_W).Perm (wJ (wJ (uOut cy oa f) w) (Mw cy mo ad μ)) := vp_pc (fun n9 hn9 h90 => by simp only [wJ, hn9, h90, Nat.add_zero, Nat.zero_add] <;> ac_rfl)
  refine vj_calli (vx_runSW (As := [.ref vo, .int a1, .int a2, .ref oa]) (rest := []) ⟨hx, hb, hml, hown, hts⟩ (kM_home l hfl D cy H.size e0 mi vo n μ w a1 a2 oa f hI hn) (vx_cwSW 4 hts gL_law_L_home rfl rfl rfl (by decide +kernel) ⟨Nat.le_of_ble_eq_true rfl, Nat.le_of_ble_eq_true rfl⟩) (vk_P.preS hE hF hZ hN hS (vj_free (vd_perm hp9 hD) hS hA) (vp_app.mp (vp_perm hP hp9)).1 (vd_app.mp (vd_perm hp9 hD)).1) rfl rfl hl.1 rfl (lv_room (Nat.le_of_ble_eq_true rfl)) dL_law_1160 ⟨hc, hs⟩) hP hD hS hA hp9 (fun r u H locs hk hP hD hS => ?_)
  have hp8 : (wJ (wJ (uOut cy oa u.1) u.2) (Mw cy mo ad μ) : va_W).Perm (wJ (Mw cy mo ad μ) (wJ (uOut cy oa u.1) u.2)) := vp_pc (fun n9 hn9 h90 => by simp only [wJ, hn9, h90, Nat.add_zero, Nat.zero_add] <;> ac_rfl)
  have hP : va_P D vwCl (wJ (Mw cy mo ad μ) (wJ (uOut cy oa u.1) u.2)) H := vp_perm hP hp8
  have hD : va_D A0 (wJ (Mw cy mo ad μ) (wJ (uOut cy oa u.1) u.2)) := vd_perm hp8 hD
  refine lv_istore (lv' := [(5, .int r), (0, .ref b), (1, .ref vo), (2, .ref mo), (3, .ref oa), (4, .int (nI (5 * n)))]) hx hb dL_law_1163 hl (by decide) rfl (fun ls hl => ?_)
  refine lv_aload_n hx hb dL_law_1165 rfl (lv_at hl 3 rfl) ?_
  refine lv_aload_n hx hb dL_law_1166 rfl (lv_at hl 1 rfl) ?_
  refine lv_iload hx hb dL_law_1167 (lv_at hl 5 rfl) ?_
  refine lv_iconst (v := 1) hx hb dL_law_1169 (by decide) ?_
  refine lv_iadd hx hb dL_law_1170 ?_
  refine vg_tp (nI (5 * n + 1)) (nI_add _ 1) ?_
  refine va_sld hx hb hX hbl hbA hS (vp_in_nI (by omega) (by omega)) dL_law_1171 ?_
  refine vg_tp a1 e1.symm ?_
  refine lv_aload_n hx hb dL_law_1172 rfl (lv_at hl 1 rfl) ?_
  refine lv_iload hx hb dL_law_1173 (lv_at hl 5 rfl) ?_
  refine lv_iconst (v := 2) hx hb dL_law_1175 (by decide) ?_
  refine lv_iadd hx hb dL_law_1176 ?_
  refine vg_tp (nI (5 * n + 2)) (nI_add _ 2) ?_
  refine va_sld hx hb hX hbl hbA hS (vp_in_nI (by omega) (by omega)) dL_law_1177 ?_
  refine vg_tp a2 e2.symm ?_
  refine vj_calli (va_runV (As := [.int a1, .int a2]) (rest := []) ⟨hx, hb, hml, hown, hts⟩ (kX5_home l D cy H.size mo ad μ a1 a2 f1 f4) (cwV 2 hts gL_law_X5_home rfl rfl rfl (by decide +kernel) ⟨Nat.le_of_ble_eq_true rfl, Nat.le_of_ble_eq_true rfl⟩) (vg_P.preV hE hP 0 rfl rfl (vp_app.mp hP).1 (vd_app.mp hD).1) rfl rfl hl.1 rfl (lv_room (Nat.le_of_ble_eq_true rfl)) dL_law_1178 ⟨hc, hs⟩) hP hD hS hA (List.Perm.refl _) (fun r2 _ H locs hk2 hP hD hS => ?_)
  have hP : va_P D vwCl (wJ (Mw cy mo ad (va_up μ 0 (fun _ => mHomT μ a1 a2))) (wJ (uOut cy oa u.1) u.2)) H := hP
  have hD : va_D A0 (wJ (Mw cy mo ad (va_up μ 0 (fun _ => mHomT μ a1 a2))) (wJ (uOut cy oa u.1) u.2)) := hD
  refine lv_istore (lv' := [(6, .int r2), (5, .int r), (0, .ref b), (1, .ref vo), (2, .ref mo), (3, .ref oa), (4, .int (nI (5 * n)))]) hx hb dL_law_1181 hl (by decide) rfl (fun ls hl => ?_)
  refine lv_aload_n hx hb dL_law_1183 rfl (lv_at hl 4 rfl) ?_
  refine vj_calli (va_runV (As := []) (rest := []) ⟨hx, hb, hml, hown, hts⟩ (kX5_thrown l D cy H.size mo ad (va_up μ 0 (fun _ => mHomT μ a1 a2))) (cwV 0 hts gL_law_X5_thrown rfl rfl rfl (by decide +kernel) ⟨Nat.le_of_ble_eq_true rfl, Nat.le_of_ble_eq_true rfl⟩) (vg_P.preV hE hP 0 rfl rfl (vp_app.mp hP).1 (vd_app.mp hD).1) rfl rfl hl.1 rfl (lv_room (Nat.le_of_ble_eq_true rfl)) dL_law_1184 ⟨hc, hs⟩) hP hD hS hA (List.Perm.refl _) (fun r3 _ H locs hk3 hP hD hS => ?_)
  have hp6 : (wJ (Mw cy mo ad (va_up μ 0 (fun _ => mHomT μ a1 a2))) (wJ (uOut cy oa u.1) u.2) : va_W).Perm (wJ (uOut cy oa u.1) (wJ (Mw cy mo ad (va_up μ 0 (fun _ => mHomT μ a1 a2))) u.2)) := vp_pc (fun n9 hn9 h90 => by simp only [wJ, hn9, h90, Nat.add_zero, Nat.zero_add] <;> ac_rfl)
  have hP : va_P D vwCl (wJ (uOut cy oa u.1) (wJ (Mw cy mo ad (va_up μ 0 (fun _ => mHomT μ a1 a2))) u.2)) H := vp_perm hP hp6
  have hD : va_D A0 (wJ (uOut cy oa u.1) (wJ (Mw cy mo ad (va_up μ 0 (fun _ => mHomT μ a1 a2))) u.2)) := vd_perm hp6 hD
  refine lv_iload hx hb dL_law_1187 (lv_at hl 1 rfl) ?_
  refine lv_icmp_eq (tgt := 1194) hx hb dL_law_1189 (by decide) (fun _ => ?_) (fun z => absurd (hk3.trans hk.1.symm) z)
  refine lv_iload hx hb dL_law_1194 (lv_at hl 1 rfl) ?_
  refine lv_if_ne (tgt := 1211) hx hb dL_law_1196 (by decide) (fun _ => ?_) (fun hr0 => ?_)
  · refine lv_goto (tgt := 1214) hx hb dL_law_1211 (by decide) ?_
    exact kk (va_up μ 0 (fun _ => mHomT μ a1 a2)) u.1 u.2 H locs ls ⟨hP, hD, hS, hk.2.2.2⟩ (lv_sub hl [2, 3, 4, 5, 6] rfl)
  · refine lv_aload_n hx hb dL_law_1199 rfl (lv_at hl 5 rfl) ?_
    refine lv_iconst (v := 0) hx hb dL_law_1200 (by decide) ?_
    refine vg_tp (nI 0) rfl ?_
    refine vg_lald hx hb hE.1 hP 0 1 rfl rfl (f := u.1) (j := 0) (by decide) (by decide) dL_law_1201 ?_
    refine vg_tpl (r2.toInt64) (by rw [hk.2.1 hr0, hk2]; exact if_pos rfl) ?_
    refine lv_iload hx hb dL_law_1202 (lv_at hl 0 rfl) ?_
    refine lv_i2l (v := r2.toInt64) hx hb dL_law_1204 rfl ?_
    refine W.lcmp hx hb dL_law_1205 ?_
    refine vg_tp 0 (lg_cmp_0 _) ?_
    refine lv_if_eq (tgt := 1211) hx hb dL_law_1206 (by decide) (fun _ => ?_) (fun z => absurd rfl z)
    refine lv_goto (tgt := 1214) hx hb dL_law_1211 (by decide) ?_
    exact kk (va_up μ 0 (fun _ => mHomT μ a1 a2)) u.1 u.2 H locs ls ⟨hP, hD, hS, hk.2.2.2⟩ (lv_sub hl [2, 3, 4, 5, 6] rfl)
