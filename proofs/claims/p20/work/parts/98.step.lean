/-! p20: a step of the law's loop -/
theorem ior4 : ∀ a b : Fin 4, ¬ nI 4 ≤ nI a.val ||| nI b.val := by decide
theorem ior_4 {a b : Nat} (ha : a < 4) (hb : b < 4) : ¬ nI 4 ≤ nI a ||| nI b := ior4 ⟨a, ha⟩ ⟨b, hb⟩
theorem nI_nlm {n : Nat} (h : n < 2 ^ 31) : ¬ nI n ≤ (-1) := fun z => by
  rw [Int32.le_iff_toInt_le, nI_toInt h, show (-1 : Int32).toInt = -1 from by decide] at z
  omega
theorem cD_3 {μ : Nat → Nat → Int32} (h : J3 μ) : ∀ k, k ≤ 600 → cD μ 3 k = 0
  | 0, _ => rfl
  | k + 1, hk => by rw [cD, cD_3 h k (by omega), if_pos (h k (by omega))]

set_option maxHeartbeats 4000000 in
set_option maxRecDepth 100000 in
theorem kS_1 {p : Program} {l : Launch} {e : Env} {s : State} {m : MethodId} {below : List Frame} {meth : Method} {c : Code} {b L : Nat} {xs : Nat → Int32} {A0 : Nat → Prop} {D : va_G} {cy : Nat → ClassId} {e0 mi vo ha ra ga nn nc cells slots : Nat} {hf af gf : Nat → Int32} {μ : Nat → Nat → Int32} {w : va_W} {H : Heap} {locs : List Loc} {ls : Array Slot} {Q : State → Prop} (hLE : LE p l s m c b L xs A0 D cy e0 mi) (hLW : LW s A0 D cy e0 vo ha ra ga hf af gf μ nn nc w H locs) (hn : nn ≤ 20) (hc : nc ≤ 60) {k1 p1 q1 n1 : Nat} (hk1 : k1 < 60) (hp : p1 < 6) (hq : q1 < 6) (hn1 : 0 < nn → n1 < nn) (hcl : cells ≤ 600104) (hsl : slots ≤ 7301314) (hl : lv_has ls 23 [(0, .ref b), (1, .ref vo), (2, .ref ha), (3, .ref ra), (4, .ref ga), (5, .int (nI 6)), (6, .int (nI nn)), (7, .int (nI 1)), (8, .int (nI k1)), (10, .int (nI p1)), (12, .int (nI q1)), (13, .int (nI n1))]) (kk : ∀ (w' : va_W) (H' : Heap) (locs' : List Loc) (ls' : Array Slot), LW s A0 D cy e0 vo ha ra ga hf af gf μ nn nc w' H' locs' → lv_has ls' 23 [(0, .ref b), (1, .ref vo), (2, .ref ha), (3, .ref ra), (4, .ref ga), (5, .int (nI 6)), (6, .int (nI nn)), (7, .int (nI 1)), (8, .int (nI k1)), (10, .int (nI p1)), (12, .int (nI q1)), (13, .int (nI n1))] → W p l e room_1 s m #[Value.ref b] below meth c H' locs' cells slots Q (F0 m 1180 ls' [])) : W p l e room_1 s m #[Value.ref b] below meth c H locs cells slots Q (F0 m 1129 ls []) := by
  obtain ⟨⟨hx, hb, hml, hown, hts⟩, ⟨hX, hbl, hL, hfl, hA, hbA⟩, hE, hF, hZ⟩ := hLE
  obtain ⟨hP, hD, hS, hK, hA3⟩ := hLW
  have hh := hA3.1
  have haf := hA3.2.1
  have hgf := hA3.2.2
  refine lv_iload hx hb dL_law_1129 (lv_at hl 7 rfl) ?_
  refine lv_if_eq (tgt := 1177) hx hb dL_law_1131 (by decide) (fun z9 => absurd z9 (fun q9 => absurd ((nI_eq (a := 1) (b := 0) (by omega) (by omega)).mp q9) (by omega))) (fun _ => ?_)
  refine lv_aload_n hx hb dL_law_1134 rfl (lv_at hl 1 rfl) ?_
  refine lv_iconst (v := 0) hx hb dL_law_1135 (by decide) ?_
  refine vg_tp (nI 0) (by decide) ?_
  refine lv_iload hx hb dL_law_1136 (lv_at hl 5 rfl) ?_
  refine vQ_r (va_runS (As := [.ref vo, .int (nI 0), .int (nI 6)]) (rest := []) ⟨hx, hb, hml, hown, hts⟩ (kD_isWell l hfl D cy H.size e0 mi vo nn nc μ w hK (show 0 < 4 by omega)) (va_cwS 3 hts gL_law_L_isWell rfl rfl rfl (by decide +kernel) ⟨Nat.le_of_ble_eq_true rfl, Nat.le_of_ble_eq_true rfl⟩) (vQ_pS hE hF hZ hS hA hP hD) rfl rfl hl.1 rfl (lv_room (Nat.le_of_ble_eq_true rfl)) dL_law_1138 ⟨by show cells + 0 ≤ 600104; omega, by show slots + 0 ≤ 7301314; omega⟩) hP hD hS hA (fun r _ H locs hk hP hD hS => ?_)
  subst hk
  refine lv_if_eq (tgt := 1177) hx hb dL_law_1141 (by decide) (fun z9 => absurd z9 (show ¬ (1 : Int32) = 0 by decide)) (fun _ => ?_)
  refine lv_aload_n hx hb dL_law_1144 rfl (lv_at hl 1 rfl) ?_
  refine lv_iconst (v := 1) hx hb dL_law_1145 (by decide) ?_
  refine vg_tp (nI 1) (by decide) ?_
  refine lv_iload hx hb dL_law_1146 (lv_at hl 5 rfl) ?_
  refine vQ_r (va_runS (As := [.ref vo, .int (nI 1), .int (nI 6)]) (rest := []) ⟨hx, hb, hml, hown, hts⟩ (kD_isWell l hfl D cy H.size e0 mi vo nn nc μ w hK (show 1 < 4 by omega)) (va_cwS 3 hts gL_law_L_isWell rfl rfl rfl (by decide +kernel) ⟨Nat.le_of_ble_eq_true rfl, Nat.le_of_ble_eq_true rfl⟩) (vQ_pS hE hF hZ hS hA hP hD) rfl rfl hl.1 rfl (lv_room (Nat.le_of_ble_eq_true rfl)) dL_law_1148 ⟨by show cells + 0 ≤ 600104; omega, by show slots + 0 ≤ 7301314; omega⟩) hP hD hS hA (fun r _ H locs hk hP hD hS => ?_)
  subst hk
  refine lv_if_eq (tgt := 1177) hx hb dL_law_1151 (by decide) (fun z9 => absurd z9 (show ¬ (1 : Int32) = 0 by decide)) (fun _ => ?_)
  refine lv_aload_n hx hb dL_law_1154 rfl (lv_at hl 1 rfl) ?_
  refine lv_iconst (v := 2) hx hb dL_law_1155 (by decide) ?_
  refine vg_tp (nI 2) (by decide) ?_
  refine lv_iload hx hb dL_law_1156 (lv_at hl 5 rfl) ?_
  refine vQ_r (va_runS (As := [.ref vo, .int (nI 2), .int (nI 6)]) (rest := []) ⟨hx, hb, hml, hown, hts⟩ (kD_isWell l hfl D cy H.size e0 mi vo nn nc μ w hK (show 2 < 4 by omega)) (va_cwS 3 hts gL_law_L_isWell rfl rfl rfl (by decide +kernel) ⟨Nat.le_of_ble_eq_true rfl, Nat.le_of_ble_eq_true rfl⟩) (vQ_pS hE hF hZ hS hA hP hD) rfl rfl hl.1 rfl (lv_room (Nat.le_of_ble_eq_true rfl)) dL_law_1158 ⟨by show cells + 0 ≤ 600104; omega, by show slots + 0 ≤ 7301314; omega⟩) hP hD hS hA (fun r _ H locs hk hP hD hS => ?_)
  subst hk
  refine lv_if_eq (tgt := 1177) hx hb dL_law_1161 (by decide) (fun z9 => absurd z9 (show ¬ (1 : Int32) = 0 by decide)) (fun _ => ?_)
  refine lv_aload_n hx hb dL_law_1164 rfl (lv_at hl 1 rfl) ?_
  refine lv_iconst (v := 3) hx hb dL_law_1165 (by decide) ?_
  refine vg_tp (nI 3) (by decide) ?_
  refine lv_iconst (v := 1) hx hb dL_law_1166 (by decide) ?_
  refine vg_tp (nI 1) (by decide) ?_
  refine vQ_r (va_runV (As := [.int (nI 3), .int (nI 1)]) (rest := []) ⟨hx, hb, hml, hown, hts⟩ (kN_ofServer l hfl D cy H.size e0 mi vo 130 μ w hK.1 (by omega) hK.2.1.1 (show 3 < 4 by omega) (show 1 < 6 by omega)) (cwV 2 hts gL_law_X4_ofServer rfl rfl rfl (by decide +kernel) ⟨Nat.le_of_ble_eq_true rfl, Nat.le_of_ble_eq_true rfl⟩) (vQ_pV hK.1 hE hF hZ hS hA hP hD) rfl rfl hl.1 rfl (lv_room (Nat.le_of_ble_eq_true rfl)) dL_law_1167 ⟨by show cells + 0 ≤ 600104; omega, by show slots + 0 ≤ 7301314; omega⟩) hP hD hS hA (fun r _ H locs hk hP hD hS => ?_)
  rw [ofs_1 (show 3 < 4 by omega) hK.2.1.2.2.1 (by omega)] at hk
  subst hk
  have z3 := cD_3 hK.2.2.2.2.2.2.2.2.2.1 nc (by omega)
  refine lv_if_ne (tgt := 1177) hx hb dL_law_1170 (by decide) (fun z9 => absurd ((nI_eq (a := cD μ 3 nc) (b := 0) (by omega) (by omega)).mpr (by omega)) z9) (fun _ => ?_)
  refine lv_iconst (v := 1) hx hb dL_law_1173 (by decide) ?_
  refine vg_tp (nI 1) (by decide) ?_
  refine lv_goto (tgt := 1178) hx hb dL_law_1174 (by decide) ?_
  refine lv_istore (lv' := [(7, .int (nI 1)), (0, .ref b), (1, .ref vo), (2, .ref ha), (3, .ref ra), (4, .ref ga), (5, .int (nI 6)), (6, .int (nI nn)), (8, .int (nI k1)), (10, .int (nI p1)), (12, .int (nI q1)), (13, .int (nI n1))]) hx hb dL_law_1178 hl (by decide) rfl (fun ls hl => ?_)
  exact kk w H locs ls ⟨hP, hD, hS, hK, hA3⟩ (lv_sub hl [1, 2, 3, 4, 5, 6, 7, 0, 8, 9, 10, 11] rfl)

set_option maxHeartbeats 4000000 in
set_option maxRecDepth 100000 in
theorem kS_2 {p : Program} {l : Launch} {e : Env} {s : State} {m : MethodId} {below : List Frame} {meth : Method} {c : Code} {b L : Nat} {xs : Nat → Int32} {A0 : Nat → Prop} {D : va_G} {cy : Nat → ClassId} {e0 mi vo ha ra ga nn nc cells slots : Nat} {hf af gf : Nat → Int32} {μ : Nat → Nat → Int32} {w : va_W} {H : Heap} {locs : List Loc} {ls : Array Slot} {Q : State → Prop} (hLE : LE p l s m c b L xs A0 D cy e0 mi) (hLW : LW s A0 D cy e0 vo ha ra ga hf af gf μ nn nc w H locs) (hn : nn ≤ 20) (hc : nc ≤ 60) {k1 p1 q1 n1 : Nat} (hk1 : k1 < 60) (hp : p1 < 6) (hq : q1 < 6) (hn1 : 0 < nn → n1 < nn) (hcl : cells ≤ 600104) (hsl : slots ≤ 7301314) (hl : lv_has ls 23 [(0, .ref b), (1, .ref vo), (2, .ref ha), (3, .ref ra), (4, .ref ga), (5, .int (nI 6)), (6, .int (nI nn)), (7, .int (nI 1)), (8, .int (nI k1)), (10, .int (nI p1)), (12, .int (nI q1)), (13, .int (nI n1))]) (kk : ∀ (w' : va_W) (H' : Heap) (locs' : List Loc) (ls' : Array Slot), LW s A0 D cy e0 vo ha ra ga hf af gf μ nn nc w' H' locs' → lv_has ls' 23 [(0, .ref b), (1, .ref vo), (2, .ref ha), (3, .ref ra), (4, .ref ga), (5, .int (nI 6)), (6, .int (nI nn)), (7, .int (nI 1)), (8, .int (nI k1)), (10, .int (nI p1)), (12, .int (nI q1)), (13, .int (nI n1))] → W p l e room_1 s m #[Value.ref b] below meth c H' locs' cells slots Q (F0 m 1295 ls' [])) : W p l e room_1 s m #[Value.ref b] below meth c H locs cells slots Q (F0 m 1180 ls []) := by
  obtain ⟨⟨hx, hb, hml, hown, hts⟩, ⟨hX, hbl, hL, hfl, hA, hbA⟩, hE, hF, hZ⟩ := hLE
  obtain ⟨hP, hD, hS, hK, hA3⟩ := hLW
  have hh := hA3.1
  have haf := hA3.2.1
  have hgf := hA3.2.2
  refine lv_iload hx hb dL_law_1180 (lv_at hl 6 rfl) ?_
  refine lv_if_le (tgt := 1295) hx hb dL_law_1182 (by decide) (fun c1 => ?_) (fun c1 => ?_)
  · have c1 : nn ≤ 0 := (nI_leI (a := nn) (b := 0) (by omega) (by omega)).mp c1
    exact kk w H locs ls ⟨hP, hD, hS, hK, hA3⟩ (lv_sub hl [0, 1, 2, 3, 4, 5, 6, 7, 8, 9, 10, 11] rfl)
  · have c1 : ¬ (nn ≤ 0) := fun q9 => c1 ((nI_leI (a := nn) (b := 0) (by omega) (by omega)).mpr q9)
    have hi := hn1 (by omega)
    have hau := (hK.2.2.2.2.2.2.2.2.1 n1 hi).1
    have hah := J_home hK.2.1 hK.2.2.2.2.2.2.2.2.1 hi
    have hqh := hK.2.1.2.1 q1 hq
    refine lv_aload_n hx hb dL_law_1185 rfl (lv_at hl 1 rfl) ?_
    refine lv_iload hx hb dL_law_1186 (lv_at hl 10 rfl) ?_
    refine lv_iload hx hb dL_law_1188 (lv_at hl 11 rfl) ?_
    refine vQ_r (va_runV (As := [.int (nI q1), .int (nI n1)]) (rest := []) ⟨hx, hb, hml, hown, hts⟩ (kN_sees l hfl D cy H.size e0 mi vo 130 μ w hK.1 (by omega) hK.2.1.1 ⟨hK.2.1.2.2.2, by omega⟩ hq hi) (cwV 2 hts gL_law_X4_sees rfl rfl rfl (by decide +kernel) ⟨Nat.le_of_ble_eq_true rfl, Nat.le_of_ble_eq_true rfl⟩) (vQ_pV hK.1 hE hF hZ hS hA hP hD) rfl rfl hl.1 rfl (lv_room (Nat.le_of_ble_eq_true rfl)) dL_law_1190 ⟨by show cells + 0 ≤ 600104; omega, by show slots + 0 ≤ 7301314; omega⟩) hP hD hS hA (fun r _ H locs hk hP hD hS => ?_)
    subst hk
    refine lv_istore (lv' := [(18, .int (bI (mSeen μ q1 n1))), (0, .ref b), (1, .ref vo), (2, .ref ha), (3, .ref ra), (4, .ref ga), (5, .int (nI 6)), (6, .int (nI nn)), (7, .int (nI 1)), (8, .int (nI k1)), (10, .int (nI p1)), (12, .int (nI q1)), (13, .int (nI n1))]) hx hb dL_law_1193 hl (by decide) rfl (fun ls hl => ?_)
    refine lv_aload_n hx hb dL_law_1195 rfl (lv_at hl 2 rfl) ?_
    refine lv_aload_n hx hb dL_law_1196 rfl (lv_at hl 3 rfl) ?_
    refine lv_iload hx hb dL_law_1197 (lv_at hl 11 rfl) ?_
    refine vg_iald hx hb hE.1 hP 0 0 rfl rfl (f := hf) (j := q1) (by omega) (by decide) dL_law_1199 ?_
    refine vg_tp (nI (tn (μ 2 q1))) (hh q1 (by omega)) ?_
    refine lv_iload hx hb dL_law_1200 (lv_at hl 11 rfl) ?_
    refine lv_aload_n hx hb dL_law_1202 rfl (lv_at hl 4 rfl) ?_
    refine lv_iload hx hb dL_law_1203 (lv_at hl 12 rfl) ?_
    refine vg_iald hx hb hE.1 hP 1 0 rfl rfl (f := af) (j := n1) (by omega) (by decide) dL_law_1205 ?_
    refine vg_tp (nI (tn (μ 12 n1))) (haf n1 (by omega)) ?_
    refine vQ_r (va_runV (As := [.int (nI (tn (μ 2 q1))), .int (nI q1), .int (nI (tn (μ 12 n1)))]) (rest := []) ⟨hx, hb, hml, hown, hts⟩ (kN_between l hfl D cy H.size e0 mi vo 130 μ w hK.1 (by omega) hK.2.1.1 (show tn (μ 2 q1) < 4 by omega) hq hau) (cwV 3 hts gL_law_X4_between rfl rfl rfl (by decide +kernel) ⟨Nat.le_of_ble_eq_true rfl, Nat.le_of_ble_eq_true rfl⟩) (vQ_pV hK.1 hE hF hZ hS hA hP hD) rfl rfl hl.1 rfl (lv_room (Nat.le_of_ble_eq_true rfl)) dL_law_1206 ⟨by show cells + 0 ≤ 600104; omega, by show slots + 0 ≤ 7301314; omega⟩) hP hD hS hA (fun r _ H locs hk hP hD hS => ?_)
    rw [bt_R hK.2.1.1 (show tn (μ 2 q1) < 4 by omega) hq hau] at hk
    subst hk
    refine lv_aload_n hx hb dL_law_1209 rfl (lv_at hl 2 rfl) ?_
    refine lv_aload_n hx hb dL_law_1210 rfl (lv_at hl 3 rfl) ?_
    refine lv_iload hx hb dL_law_1211 (lv_at hl 11 rfl) ?_
    refine vg_iald hx hb hE.1 hP 0 0 rfl rfl (f := hf) (j := q1) (by omega) (by decide) dL_law_1213 ?_
    refine vg_tp (nI (tn (μ 2 q1))) (hh q1 (by omega)) ?_
    refine lv_aload_n hx hb dL_law_1214 rfl (lv_at hl 4 rfl) ?_
    refine lv_iload hx hb dL_law_1215 (lv_at hl 12 rfl) ?_
    refine vg_iald hx hb hE.1 hP 1 0 rfl rfl (f := af) (j := n1) (by omega) (by decide) dL_law_1217 ?_
    refine vg_tp (nI (tn (μ 12 n1))) (haf n1 (by omega)) ?_
    refine lv_iload hx hb dL_law_1218 (lv_at hl 11 rfl) ?_
    refine vQ_r (va_runV (As := [.int (nI (tn (μ 2 q1))), .int (nI (tn (μ 12 n1))), .int (nI q1)]) (rest := [.int (nI (bt μ (tn (μ 2 q1)) q1 (tn (μ 12 n1))))]) ⟨hx, hb, hml, hown, hts⟩ (kN_between l hfl D cy H.size e0 mi vo 130 μ w hK.1 (by omega) hK.2.1.1 (show tn (μ 2 q1) < 4 by omega) hau hq) (cwV 3 hts gL_law_X4_between rfl rfl rfl (by decide +kernel) ⟨Nat.le_of_ble_eq_true rfl, Nat.le_of_ble_eq_true rfl⟩) (vQ_pV hK.1 hE hF hZ hS hA hP hD) rfl rfl hl.1 rfl (lv_room (Nat.le_of_ble_eq_true rfl)) dL_law_1220 ⟨by show cells + 0 ≤ 600104; omega, by show slots + 0 ≤ 7301314; omega⟩) hP hD hS hA (fun r _ H locs hk hP hD hS => ?_)
    rw [bt_R hK.2.1.1 (show tn (μ 2 q1) < 4 by omega) hau hq] at hk
    subst hk
    refine lv_ior hx hb dL_law_1223 ?_
    refine lv_istore (lv' := [(19, .int ((nI (bt μ (tn (μ 2 q1)) q1 (tn (μ 12 n1)))) ||| (nI (bt μ (tn (μ 2 q1)) (tn (μ 12 n1)) q1)))), (18, .int (bI (mSeen μ q1 n1))), (0, .ref b), (1, .ref vo), (2, .ref ha), (3, .ref ra), (4, .ref ga), (5, .int (nI 6)), (6, .int (nI nn)), (7, .int (nI 1)), (8, .int (nI k1)), (10, .int (nI p1)), (12, .int (nI q1)), (13, .int (nI n1))]) hx hb dL_law_1224 hl (by decide) rfl (fun ls hl => ?_)
    have J : ∀ (u : va_W) (H : Heap) (locs : List Loc), KK cy e0 vo μ nn nc u → va_P D vwCl (wJ (uA cy ha ra ga hf af gf) u) H → va_D A0 (wJ (uA cy ha ra ga hf af gf) u) → va_S A0 s.heap H locs → W p l e room_1 s m #[Value.ref b] below meth c H locs cells slots Q (F0 m 1251 ls []) := by
      intro u H locs hK hP hD hS
      have J62 : W p l e room_1 s m #[Value.ref b] below meth c H locs cells slots Q (F0 m 1262 ls []) := by
        refine lv_aload hx hb dL_law_1262 (lv_at hl 6 rfl) ?_
        refine lv_iload hx hb dL_law_1264 (lv_at hl 13 rfl) ?_
        refine vg_iald hx hb hE.1 hP 2 0 rfl rfl (f := gf) (j := n1) (by omega) (by decide) dL_law_1266 ?_
        refine lv_if_eq (tgt := 1288) hx hb dL_law_1267 (by decide) (fun c4 => ?_) (fun c4 => ?_)
        · refine lv_iconst (v := 1) hx hb dL_law_1288 (by decide) ?_
          refine vg_tp (nI 1) (by decide) ?_
          refine lv_goto (tgt := 1293) hx hb dL_law_1289 (by decide) ?_
          refine lv_istore (lv' := [(7, .int (nI 1)), (19, .int ((nI (bt μ (tn (μ 2 q1)) q1 (tn (μ 12 n1)))) ||| (nI (bt μ (tn (μ 2 q1)) (tn (μ 12 n1)) q1)))), (18, .int (bI (mSeen μ q1 n1))), (0, .ref b), (1, .ref vo), (2, .ref ha), (3, .ref ra), (4, .ref ga), (5, .int (nI 6)), (6, .int (nI nn)), (8, .int (nI k1)), (10, .int (nI p1)), (12, .int (nI q1)), (13, .int (nI n1))]) hx hb dL_law_1293 hl (by decide) rfl (fun ls hl => ?_)
          exact kk u H locs ls ⟨hP, hD, hS, hK, hA3⟩ (lv_sub hl [3, 4, 5, 6, 7, 8, 9, 0, 10, 11, 12, 13] rfl)
        · refine lv_aload_n hx hb dL_law_1270 rfl (lv_at hl 4 rfl) ?_
          refine lv_iload hx hb dL_law_1271 (lv_at hl 12 rfl) ?_
          refine vg_iald hx hb hE.1 hP 0 0 rfl rfl (f := hf) (j := q1) (by omega) (by decide) dL_law_1273 ?_
          refine vg_tp (nI (tn (μ 2 q1))) (hh q1 (by omega)) ?_
          refine lv_aload_n hx hb dL_law_1274 rfl (lv_at hl 4 rfl) ?_
          refine lv_aload_n hx hb dL_law_1275 rfl (lv_at hl 5 rfl) ?_
          refine lv_iload hx hb dL_law_1276 (lv_at hl 13 rfl) ?_
          refine vg_iald hx hb hE.1 hP 1 0 rfl rfl (f := af) (j := n1) (by omega) (by decide) dL_law_1278 ?_
          refine vg_tp (nI (tn (μ 12 n1))) (haf n1 (by omega)) ?_
          refine vg_iald hx hb hE.1 hP 0 0 rfl rfl (f := hf) (j := (tn (μ 12 n1))) (by omega) (by decide) dL_law_1279 ?_
          refine vg_tp (nI (tn (μ 2 (tn (μ 12 n1))))) (hh (tn (μ 12 n1)) (by omega)) ?_
          refine lv_icmp_ne (tgt := 1288) hx hb dL_law_1280 (by decide) (fun c5 => ?_) (fun c5 => ?_)
          · have c5 : ¬ (tn (μ 2 q1) = tn (μ 2 (tn (μ 12 n1)))) := fun q9 => c5 ((nI_eq (a := tn (μ 2 q1)) (b := tn (μ 2 (tn (μ 12 n1)))) (by omega) (by omega)).mpr q9)
            refine lv_iconst (v := 1) hx hb dL_law_1288 (by decide) ?_
            refine vg_tp (nI 1) (by decide) ?_
            refine lv_goto (tgt := 1293) hx hb dL_law_1289 (by decide) ?_
            refine lv_istore (lv' := [(7, .int (nI 1)), (19, .int ((nI (bt μ (tn (μ 2 q1)) q1 (tn (μ 12 n1)))) ||| (nI (bt μ (tn (μ 2 q1)) (tn (μ 12 n1)) q1)))), (18, .int (bI (mSeen μ q1 n1))), (0, .ref b), (1, .ref vo), (2, .ref ha), (3, .ref ra), (4, .ref ga), (5, .int (nI 6)), (6, .int (nI nn)), (8, .int (nI k1)), (10, .int (nI p1)), (12, .int (nI q1)), (13, .int (nI n1))]) hx hb dL_law_1293 hl (by decide) rfl (fun ls hl => ?_)
            exact kk u H locs ls ⟨hP, hD, hS, hK, hA3⟩ (lv_sub hl [3, 4, 5, 6, 7, 8, 9, 0, 10, 11, 12, 13] rfl)
          · have c5 : tn (μ 2 q1) = tn (μ 2 (tn (μ 12 n1))) := (nI_eq (a := tn (μ 2 q1)) (b := tn (μ 2 (tn (μ 12 n1)))) (by omega) (by omega)).mp c5
            have hg9 : GN μ n1 := Classical.byContradiction (fun z => c4 ((hgf n1 (by omega)).mpr z))
            refine lv_iload hx hb dL_law_1283 (lv_at hl 1 rfl) ?_
            refine lv_if_ne (tgt := 1292) hx hb dL_law_1285 (by decide) (fun z9 => absurd (bI_0.mpr (seen_gone hK.2.2.2.2.2.1 (by omega) (by omega) hg9 c5)) z9) (fun _ => ?_)
            refine lv_iconst (v := 1) hx hb dL_law_1288 (by decide) ?_
            refine vg_tp (nI 1) (by decide) ?_
            refine lv_goto (tgt := 1293) hx hb dL_law_1289 (by decide) ?_
            refine lv_istore (lv' := [(7, .int (nI 1)), (19, .int ((nI (bt μ (tn (μ 2 q1)) q1 (tn (μ 12 n1)))) ||| (nI (bt μ (tn (μ 2 q1)) (tn (μ 12 n1)) q1)))), (18, .int (bI (mSeen μ q1 n1))), (0, .ref b), (1, .ref vo), (2, .ref ha), (3, .ref ra), (4, .ref ga), (5, .int (nI 6)), (6, .int (nI nn)), (8, .int (nI k1)), (10, .int (nI p1)), (12, .int (nI q1)), (13, .int (nI n1))]) hx hb dL_law_1293 hl (by decide) rfl (fun ls hl => ?_)
            exact kk u H locs ls ⟨hP, hD, hS, hK, hA3⟩ (lv_sub hl [3, 4, 5, 6, 7, 8, 9, 0, 10, 11, 12, 13] rfl)
      refine lv_iload hx hb dL_law_1251 (lv_at hl 1 rfl) ?_
      refine lv_if_eq (tgt := 1262) hx hb dL_law_1253 (by decide) (fun c3 => ?_) (fun c3 => ?_)
      · exact J62
      · obtain ⟨s8, s9⟩ := seen_apart (bI_n0.mp c3)
        refine lv_iload hx hb dL_law_1256 (lv_at hl 0 rfl) ?_
        refine lv_iconst (v := 4) hx hb dL_law_1258 (by decide) ?_
        refine vg_tp (nI 4) (by decide) ?_
        refine lv_icmp_ge (tgt := 1292) hx hb dL_law_1259 (by decide) (fun z9 => absurd z9 (ior_4 s8 s9)) (fun _ => ?_)
        exact J62
    refine lv_iload hx hb dL_law_1226 (lv_at hl 9 rfl) ?_
    refine lv_if_eq (tgt := 1292) hx hb dL_law_1228 (by decide) (fun z9 => absurd z9 (fun q9 => absurd ((nI_eq (a := 1) (b := 0) (by omega) (by omega)).mp q9) (by omega))) (fun _ => ?_)
    refine lv_iload hx hb dL_law_1231 (lv_at hl 10 rfl) ?_
    refine lv_iconst (v := 3) hx hb dL_law_1233 (by decide) ?_
    refine vg_tp (nI 3) (by decide) ?_
    refine lv_irem hx hb dL_law_1234 (by decide) ?_
    refine vg_tp (nI (k1 % 3)) (pk_rem (by omega) (by omega) (by omega)) ?_
    refine lv_if_gt (tgt := 1251) hx hb dL_law_1235 (by decide) (fun c2 => ?_) (fun c2 => ?_)
    · have c2 : 0 < k1 % 3 := (nI_ltI (a := 0) (b := k1 % 3) (by omega) (by omega)).mp c2
      exact J w H locs hK hP hD hS
    · have c2 : ¬ (0 < k1 % 3) := fun q9 => c2 ((nI_ltI (a := 0) (b := k1 % 3) (by omega) (by omega)).mpr q9)
      refine lv_iload hx hb dL_law_1238 (lv_at hl 1 rfl) ?_
      refine lv_aload_n hx hb dL_law_1240 rfl (lv_at hl 3 rfl) ?_
      refine lv_iload hx hb dL_law_1241 (lv_at hl 12 rfl) ?_
      refine lv_iload hx hb dL_law_1243 (lv_at hl 13 rfl) ?_
      refine vQ_r (va_runV (As := [.int (nI q1), .int (nI n1)]) (rest := [.int (bI (mSeen μ q1 n1))]) ⟨hx, hb, hml, hown, hts⟩ (kN_seesAnew l hfl D cy H.size e0 mi vo 130 μ w hK.1 (by omega) hK.2.1.1 ⟨hK.2.1.2.2.2, by omega⟩ hq hi) (cwV 2 hts gL_law_X4_seesAnew rfl rfl rfl (by decide +kernel) ⟨Nat.le_of_ble_eq_true rfl, Nat.le_of_ble_eq_true rfl⟩) (vQ_pV hK.1 hE hF hZ hS hA hP hD) rfl rfl hl.1 rfl (lv_room (Nat.le_of_ble_eq_true rfl)) dL_law_1245 ⟨by show cells + 0 ≤ 600104; omega, by show slots + 0 ≤ 7301314; omega⟩) hP hD hS hA (fun r u H locs hk hP hD hS => ?_)
      obtain ⟨hk1a, hk2⟩ := hk
      subst hk1a
      refine lv_icmp_ne (tgt := 1292) hx hb dL_law_1248 (by decide) (fun z9 => absurd (show bI (mSeen μ q1 n1) = bI (mSeen μ q1 n1) from rfl) z9) (fun _ => ?_)
      exact J u H locs ⟨hk2, hK.2⟩ hP hD hS

set_option maxHeartbeats 4000000 in
set_option maxRecDepth 100000 in
theorem kS_3 {p : Program} {l : Launch} {e : Env} {s : State} {m : MethodId} {below : List Frame} {meth : Method} {c : Code} {b L : Nat} {xs : Nat → Int32} {A0 : Nat → Prop} {D : va_G} {cy : Nat → ClassId} {e0 mi vo ha ra ga nn nc cells slots : Nat} {hf af gf : Nat → Int32} {μ : Nat → Nat → Int32} {w : va_W} {H : Heap} {locs : List Loc} {ls : Array Slot} {Q : State → Prop} (hLE : LE p l s m c b L xs A0 D cy e0 mi) (hLW : LW s A0 D cy e0 vo ha ra ga hf af gf μ nn nc w H locs) (hn : nn ≤ 20) (hc : nc ≤ 60) {k1 p1 q1 n1 : Nat} (hk1 : k1 < 60) (hp : p1 < 6) (hq : q1 < 6) (hn1 : 0 < nn → n1 < nn) (hcl : cells ≤ 600104) (hsl : slots ≤ 7301314) (hl : lv_has ls 23 [(0, .ref b), (1, .ref vo), (2, .ref ha), (3, .ref ra), (4, .ref ga), (5, .int (nI 6)), (6, .int (nI nn)), (7, .int (nI 1)), (8, .int (nI k1)), (10, .int (nI p1)), (12, .int (nI q1)), (13, .int (nI n1))]) (kk : ∀ (w' : va_W) (H' : Heap) (locs' : List Loc) (ls' : Array Slot), LW s A0 D cy e0 vo ha ra ga hf af gf μ nn nc w' H' locs' → lv_has ls' 23 [(0, .ref b), (1, .ref vo), (2, .ref ha), (3, .ref ra), (4, .ref ga), (5, .int (nI 6)), (6, .int (nI nn)), (7, .int (nI 1)), (8, .int (nI (k1 + 1)))] → W p l e room_1 s m #[Value.ref b] below meth c H' locs' cells slots Q (F0 m 89 ls' [])) : W p l e room_1 s m #[Value.ref b] below meth c H locs cells slots Q (F0 m 1295 ls []) := by
  obtain ⟨⟨hx, hb, hml, hown, hts⟩, ⟨hX, hbl, hL, hfl, hA, hbA⟩, hE, hF, hZ⟩ := hLE
  obtain ⟨hP, hD, hS, hK, hA3⟩ := hLW
  have hh := hA3.1
  have haf := hA3.2.1
  have hgf := hA3.2.2
  rcases hom_1 μ p1 nn with ⟨e1, e2⟩ | ⟨j, hj, hja, e1, e2 | ⟨i, hij, hia, e2⟩⟩
  · refine lv_aload_n hx hb dL_law_1295 rfl (lv_at hl 1 rfl) ?_
    refine lv_iload hx hb dL_law_1296 (lv_at hl 9 rfl) ?_
    refine lv_iconst (v := 0) hx hb dL_law_1298 (by decide) ?_
    refine vg_tp (nI 0) (by decide) ?_
    refine vQ_r (va_runV (As := [.int (nI p1), .int (nI 0)]) (rest := []) ⟨hx, hb, hml, hown, hts⟩ (kN_home l hfl D cy H.size e0 mi vo 130 μ w hK.1 (by omega) hK.2.1.1 ⟨hK.2.1.2.2.2, by omega⟩ hp (show 0 < 2 ^ 31 by decide)) (cwV 2 hts gL_law_X4_home rfl rfl rfl (by decide +kernel) ⟨Nat.le_of_ble_eq_true rfl, Nat.le_of_ble_eq_true rfl⟩) (vQ_pV hK.1 hE hF hZ hS hA hP hD) rfl rfl hl.1 rfl (lv_room (Nat.le_of_ble_eq_true rfl)) dL_law_1299 ⟨by show cells + 0 ≤ 600104; omega, by show slots + 0 ≤ 7301314; omega⟩) hP hD hS hA (fun r _ H locs hk hP hD hS => ?_)
    have hk9 := hk
    rw [e1] at hk9
    subst hk9
    refine lv_istore (lv' := [(18, .int ((-1))), (0, .ref b), (1, .ref vo), (2, .ref ha), (3, .ref ra), (4, .ref ga), (5, .int (nI 6)), (6, .int (nI nn)), (7, .int (nI 1)), (8, .int (nI k1)), (10, .int (nI p1)), (12, .int (nI q1)), (13, .int (nI n1))]) hx hb dL_law_1302 hl (by decide) rfl (fun ls hl => ?_)
    refine lv_aload_n hx hb dL_law_1304 rfl (lv_at hl 2 rfl) ?_
    refine lv_iload hx hb dL_law_1305 (lv_at hl 10 rfl) ?_
    refine lv_iconst (v := 1) hx hb dL_law_1307 (by decide) ?_
    refine vg_tp (nI 1) (by decide) ?_
    refine vQ_r (va_runV (As := [.int (nI p1), .int (nI 1)]) (rest := []) ⟨hx, hb, hml, hown, hts⟩ (kN_home l hfl D cy H.size e0 mi vo 130 μ w hK.1 (by omega) hK.2.1.1 ⟨hK.2.1.2.2.2, by omega⟩ hp (show 1 < 2 ^ 31 by decide)) (cwV 2 hts gL_law_X4_home rfl rfl rfl (by decide +kernel) ⟨Nat.le_of_ble_eq_true rfl, Nat.le_of_ble_eq_true rfl⟩) (vQ_pV hK.1 hE hF hZ hS hA hP hD) rfl rfl hl.1 rfl (lv_room (Nat.le_of_ble_eq_true rfl)) dL_law_1308 ⟨by show cells + 0 ≤ 600104; omega, by show slots + 0 ≤ 7301314; omega⟩) hP hD hS hA (fun r _ H locs hk hP hD hS => ?_)
    have hk9 := hk
    rw [e2] at hk9
    subst hk9
    refine lv_istore (lv' := [(19, .int ((-1))), (18, .int ((-1))), (0, .ref b), (1, .ref vo), (2, .ref ha), (3, .ref ra), (4, .ref ga), (5, .int (nI 6)), (6, .int (nI nn)), (7, .int (nI 1)), (8, .int (nI k1)), (10, .int (nI p1)), (12, .int (nI q1)), (13, .int (nI n1))]) hx hb dL_law_1311 hl (by decide) rfl (fun ls hl => ?_)
    refine lv_iload hx hb dL_law_1313 (lv_at hl 9 rfl) ?_
    refine lv_if_eq (tgt := 1369) hx hb dL_law_1315 (by decide) (fun z9 => absurd z9 (fun q9 => absurd ((nI_eq (a := 1) (b := 0) (by omega) (by omega)).mp q9) (by omega))) (fun _ => ?_)
    refine lv_iload hx hb dL_law_1318 (lv_at hl 1 rfl) ?_
    refine lv_if_ge (tgt := 1331) hx hb dL_law_1320 (by decide) (fun z9 => absurd z9 (show ¬ (0 : Int32) ≤ -1 by decide)) (fun _ => ?_)
    refine lv_iload hx hb dL_law_1323 (lv_at hl 0 rfl) ?_
    refine lv_if_ge (tgt := 1369) hx hb dL_law_1325 (by decide) (fun z9 => absurd z9 (show ¬ (0 : Int32) ≤ -1 by decide)) (fun _ => ?_)
    refine lv_goto (tgt := 1349) hx hb dL_law_1328 (by decide) ?_
    refine lv_iload hx hb dL_law_1349 (lv_at hl 0 rfl) ?_
    refine lv_if_lt (tgt := 1365) hx hb dL_law_1351 (by decide) (fun _ => ?_) (fun z9 => absurd (show (-1 : Int32) < 0 by decide) z9)
    refine lv_iconst (v := 1) hx hb dL_law_1365 (by decide) ?_
    refine vg_tp (nI 1) (by decide) ?_
    refine lv_goto (tgt := 1370) hx hb dL_law_1366 (by decide) ?_
    refine lv_istore (lv' := [(7, .int (nI 1)), (19, .int ((-1))), (18, .int ((-1))), (0, .ref b), (1, .ref vo), (2, .ref ha), (3, .ref ra), (4, .ref ga), (5, .int (nI 6)), (6, .int (nI nn)), (8, .int (nI k1)), (10, .int (nI p1)), (12, .int (nI q1)), (13, .int (nI n1))]) hx hb dL_law_1370 hl (by decide) rfl (fun ls hl => ?_)
    refine lv_iinc (v := nI (k1 + 1)) (lv' := [(8, .int (nI (k1 + 1))), (7, .int (nI 1)), (19, .int ((-1))), (18, .int ((-1))), (0, .ref b), (1, .ref vo), (2, .ref ha), (3, .ref ra), (4, .ref ga), (5, .int (nI 6)), (6, .int (nI nn)), (10, .int (nI p1)), (12, .int (nI q1)), (13, .int (nI n1))]) hx hb dL_law_1372 hl (k := 10) rfl (by rw [show Int32.ofInt 1 = nI 1 from by decide, nI_add]) (by decide) rfl (fun ls hl => ?_)
    refine lv_goto (tgt := 89) hx hb dL_law_1375 (by decide) ?_
    exact kk w H locs ls ⟨hP, hD, hS, hK, hA3⟩ (lv_sub hl [4, 5, 6, 7, 8, 9, 10, 1, 0] rfl)
  · refine lv_aload_n hx hb dL_law_1295 rfl (lv_at hl 1 rfl) ?_
    refine lv_iload hx hb dL_law_1296 (lv_at hl 9 rfl) ?_
    refine lv_iconst (v := 0) hx hb dL_law_1298 (by decide) ?_
    refine vg_tp (nI 0) (by decide) ?_
    refine vQ_r (va_runV (As := [.int (nI p1), .int (nI 0)]) (rest := []) ⟨hx, hb, hml, hown, hts⟩ (kN_home l hfl D cy H.size e0 mi vo 130 μ w hK.1 (by omega) hK.2.1.1 ⟨hK.2.1.2.2.2, by omega⟩ hp (show 0 < 2 ^ 31 by decide)) (cwV 2 hts gL_law_X4_home rfl rfl rfl (by decide +kernel) ⟨Nat.le_of_ble_eq_true rfl, Nat.le_of_ble_eq_true rfl⟩) (vQ_pV hK.1 hE hF hZ hS hA hP hD) rfl rfl hl.1 rfl (lv_room (Nat.le_of_ble_eq_true rfl)) dL_law_1299 ⟨by show cells + 0 ≤ 600104; omega, by show slots + 0 ≤ 7301314; omega⟩) hP hD hS hA (fun r _ H locs hk hP hD hS => ?_)
    have hk9 := hk
    rw [e1] at hk9
    subst hk9
    refine lv_istore (lv' := [(18, .int (nI j)), (0, .ref b), (1, .ref vo), (2, .ref ha), (3, .ref ra), (4, .ref ga), (5, .int (nI 6)), (6, .int (nI nn)), (7, .int (nI 1)), (8, .int (nI k1)), (10, .int (nI p1)), (12, .int (nI q1)), (13, .int (nI n1))]) hx hb dL_law_1302 hl (by decide) rfl (fun ls hl => ?_)
    refine lv_aload_n hx hb dL_law_1304 rfl (lv_at hl 2 rfl) ?_
    refine lv_iload hx hb dL_law_1305 (lv_at hl 10 rfl) ?_
    refine lv_iconst (v := 1) hx hb dL_law_1307 (by decide) ?_
    refine vg_tp (nI 1) (by decide) ?_
    refine vQ_r (va_runV (As := [.int (nI p1), .int (nI 1)]) (rest := []) ⟨hx, hb, hml, hown, hts⟩ (kN_home l hfl D cy H.size e0 mi vo 130 μ w hK.1 (by omega) hK.2.1.1 ⟨hK.2.1.2.2.2, by omega⟩ hp (show 1 < 2 ^ 31 by decide)) (cwV 2 hts gL_law_X4_home rfl rfl rfl (by decide +kernel) ⟨Nat.le_of_ble_eq_true rfl, Nat.le_of_ble_eq_true rfl⟩) (vQ_pV hK.1 hE hF hZ hS hA hP hD) rfl rfl hl.1 rfl (lv_room (Nat.le_of_ble_eq_true rfl)) dL_law_1308 ⟨by show cells + 0 ≤ 600104; omega, by show slots + 0 ≤ 7301314; omega⟩) hP hD hS hA (fun r _ H locs hk hP hD hS => ?_)
    have hk9 := hk
    rw [e2] at hk9
    subst hk9
    refine lv_istore (lv' := [(19, .int ((-1))), (18, .int (nI j)), (0, .ref b), (1, .ref vo), (2, .ref ha), (3, .ref ra), (4, .ref ga), (5, .int (nI 6)), (6, .int (nI nn)), (7, .int (nI 1)), (8, .int (nI k1)), (10, .int (nI p1)), (12, .int (nI q1)), (13, .int (nI n1))]) hx hb dL_law_1311 hl (by decide) rfl (fun ls hl => ?_)
    refine lv_iload hx hb dL_law_1313 (lv_at hl 9 rfl) ?_
    refine lv_if_eq (tgt := 1369) hx hb dL_law_1315 (by decide) (fun z9 => absurd z9 (fun q9 => absurd ((nI_eq (a := 1) (b := 0) (by omega) (by omega)).mp q9) (by omega))) (fun _ => ?_)
    refine lv_iload hx hb dL_law_1318 (lv_at hl 1 rfl) ?_
    refine lv_if_ge (tgt := 1331) hx hb dL_law_1320 (by decide) (fun _ => ?_) (fun z9 => absurd ((nI_leI (a := 0) (b := j) (by omega) (by omega)).mpr (by omega)) z9)
    refine lv_iload hx hb dL_law_1331 (lv_at hl 0 rfl) ?_
    refine lv_iload hx hb dL_law_1333 (lv_at hl 1 rfl) ?_
    refine lv_icmp_ge (tgt := 1369) hx hb dL_law_1335 (by decide) (fun z9 => absurd z9 (nI_nlm (by omega))) (fun _ => ?_)
    refine lv_aload_n hx hb dL_law_1338 rfl (lv_at hl 3 rfl) ?_
    refine lv_iload hx hb dL_law_1339 (lv_at hl 11 rfl) ?_
    refine lv_iload hx hb dL_law_1341 (lv_at hl 1 rfl) ?_
    refine vQ_r (va_runV (As := [.int (nI p1), .int (nI j)]) (rest := []) ⟨hx, hb, hml, hown, hts⟩ (kN_sees l hfl D cy H.size e0 mi vo 130 μ w hK.1 (by omega) hK.2.1.1 ⟨hK.2.1.2.2.2, by omega⟩ hp hj) (cwV 2 hts gL_law_X4_sees rfl rfl rfl (by decide +kernel) ⟨Nat.le_of_ble_eq_true rfl, Nat.le_of_ble_eq_true rfl⟩) (vQ_pV hK.1 hE hF hZ hS hA hP hD) rfl rfl hl.1 rfl (lv_room (Nat.le_of_ble_eq_true rfl)) dL_law_1343 ⟨by show cells + 0 ≤ 600104; omega, by show slots + 0 ≤ 7301314; omega⟩) hP hD hS hA (fun r _ H locs hk hP hD hS => ?_)
    subst hk
    refine lv_if_eq (tgt := 1369) hx hb dL_law_1346 (by decide) (fun z9 => absurd z9 (bI_n0.mpr (atH_seen hja))) (fun _ => ?_)
    refine lv_iload hx hb dL_law_1349 (lv_at hl 0 rfl) ?_
    refine lv_if_lt (tgt := 1365) hx hb dL_law_1351 (by decide) (fun _ => ?_) (fun z9 => absurd (show (-1 : Int32) < 0 by decide) z9)
    refine lv_iconst (v := 1) hx hb dL_law_1365 (by decide) ?_
    refine vg_tp (nI 1) (by decide) ?_
    refine lv_goto (tgt := 1370) hx hb dL_law_1366 (by decide) ?_
    refine lv_istore (lv' := [(7, .int (nI 1)), (19, .int ((-1))), (18, .int (nI j)), (0, .ref b), (1, .ref vo), (2, .ref ha), (3, .ref ra), (4, .ref ga), (5, .int (nI 6)), (6, .int (nI nn)), (8, .int (nI k1)), (10, .int (nI p1)), (12, .int (nI q1)), (13, .int (nI n1))]) hx hb dL_law_1370 hl (by decide) rfl (fun ls hl => ?_)
    refine lv_iinc (v := nI (k1 + 1)) (lv' := [(8, .int (nI (k1 + 1))), (7, .int (nI 1)), (19, .int ((-1))), (18, .int (nI j)), (0, .ref b), (1, .ref vo), (2, .ref ha), (3, .ref ra), (4, .ref ga), (5, .int (nI 6)), (6, .int (nI nn)), (10, .int (nI p1)), (12, .int (nI q1)), (13, .int (nI n1))]) hx hb dL_law_1372 hl (k := 10) rfl (by rw [show Int32.ofInt 1 = nI 1 from by decide, nI_add]) (by decide) rfl (fun ls hl => ?_)
    refine lv_goto (tgt := 89) hx hb dL_law_1375 (by decide) ?_
    exact kk w H locs ls ⟨hP, hD, hS, hK, hA3⟩ (lv_sub hl [4, 5, 6, 7, 8, 9, 10, 1, 0] rfl)
  · refine lv_aload_n hx hb dL_law_1295 rfl (lv_at hl 1 rfl) ?_
    refine lv_iload hx hb dL_law_1296 (lv_at hl 9 rfl) ?_
    refine lv_iconst (v := 0) hx hb dL_law_1298 (by decide) ?_
    refine vg_tp (nI 0) (by decide) ?_
    refine vQ_r (va_runV (As := [.int (nI p1), .int (nI 0)]) (rest := []) ⟨hx, hb, hml, hown, hts⟩ (kN_home l hfl D cy H.size e0 mi vo 130 μ w hK.1 (by omega) hK.2.1.1 ⟨hK.2.1.2.2.2, by omega⟩ hp (show 0 < 2 ^ 31 by decide)) (cwV 2 hts gL_law_X4_home rfl rfl rfl (by decide +kernel) ⟨Nat.le_of_ble_eq_true rfl, Nat.le_of_ble_eq_true rfl⟩) (vQ_pV hK.1 hE hF hZ hS hA hP hD) rfl rfl hl.1 rfl (lv_room (Nat.le_of_ble_eq_true rfl)) dL_law_1299 ⟨by show cells + 0 ≤ 600104; omega, by show slots + 0 ≤ 7301314; omega⟩) hP hD hS hA (fun r _ H locs hk hP hD hS => ?_)
    have hk9 := hk
    rw [e1] at hk9
    subst hk9
    refine lv_istore (lv' := [(18, .int (nI j)), (0, .ref b), (1, .ref vo), (2, .ref ha), (3, .ref ra), (4, .ref ga), (5, .int (nI 6)), (6, .int (nI nn)), (7, .int (nI 1)), (8, .int (nI k1)), (10, .int (nI p1)), (12, .int (nI q1)), (13, .int (nI n1))]) hx hb dL_law_1302 hl (by decide) rfl (fun ls hl => ?_)
    refine lv_aload_n hx hb dL_law_1304 rfl (lv_at hl 2 rfl) ?_
    refine lv_iload hx hb dL_law_1305 (lv_at hl 10 rfl) ?_
    refine lv_iconst (v := 1) hx hb dL_law_1307 (by decide) ?_
    refine vg_tp (nI 1) (by decide) ?_
    refine vQ_r (va_runV (As := [.int (nI p1), .int (nI 1)]) (rest := []) ⟨hx, hb, hml, hown, hts⟩ (kN_home l hfl D cy H.size e0 mi vo 130 μ w hK.1 (by omega) hK.2.1.1 ⟨hK.2.1.2.2.2, by omega⟩ hp (show 1 < 2 ^ 31 by decide)) (cwV 2 hts gL_law_X4_home rfl rfl rfl (by decide +kernel) ⟨Nat.le_of_ble_eq_true rfl, Nat.le_of_ble_eq_true rfl⟩) (vQ_pV hK.1 hE hF hZ hS hA hP hD) rfl rfl hl.1 rfl (lv_room (Nat.le_of_ble_eq_true rfl)) dL_law_1308 ⟨by show cells + 0 ≤ 600104; omega, by show slots + 0 ≤ 7301314; omega⟩) hP hD hS hA (fun r _ H locs hk hP hD hS => ?_)
    have hk9 := hk
    rw [e2] at hk9
    subst hk9
    refine lv_istore (lv' := [(19, .int (nI i)), (18, .int (nI j)), (0, .ref b), (1, .ref vo), (2, .ref ha), (3, .ref ra), (4, .ref ga), (5, .int (nI 6)), (6, .int (nI nn)), (7, .int (nI 1)), (8, .int (nI k1)), (10, .int (nI p1)), (12, .int (nI q1)), (13, .int (nI n1))]) hx hb dL_law_1311 hl (by decide) rfl (fun ls hl => ?_)
    refine lv_iload hx hb dL_law_1313 (lv_at hl 9 rfl) ?_
    refine lv_if_eq (tgt := 1369) hx hb dL_law_1315 (by decide) (fun z9 => absurd z9 (fun q9 => absurd ((nI_eq (a := 1) (b := 0) (by omega) (by omega)).mp q9) (by omega))) (fun _ => ?_)
    refine lv_iload hx hb dL_law_1318 (lv_at hl 1 rfl) ?_
    refine lv_if_ge (tgt := 1331) hx hb dL_law_1320 (by decide) (fun _ => ?_) (fun z9 => absurd ((nI_leI (a := 0) (b := j) (by omega) (by omega)).mpr (by omega)) z9)
    refine lv_iload hx hb dL_law_1331 (lv_at hl 0 rfl) ?_
    refine lv_iload hx hb dL_law_1333 (lv_at hl 1 rfl) ?_
    refine lv_icmp_ge (tgt := 1369) hx hb dL_law_1335 (by decide) (fun z9 => absurd z9 (fun q9 => absurd ((nI_leI (a := j) (b := i) (by omega) (by omega)).mp q9) (by omega))) (fun _ => ?_)
    refine lv_aload_n hx hb dL_law_1338 rfl (lv_at hl 3 rfl) ?_
    refine lv_iload hx hb dL_law_1339 (lv_at hl 11 rfl) ?_
    refine lv_iload hx hb dL_law_1341 (lv_at hl 1 rfl) ?_
    refine vQ_r (va_runV (As := [.int (nI p1), .int (nI j)]) (rest := []) ⟨hx, hb, hml, hown, hts⟩ (kN_sees l hfl D cy H.size e0 mi vo 130 μ w hK.1 (by omega) hK.2.1.1 ⟨hK.2.1.2.2.2, by omega⟩ hp hj) (cwV 2 hts gL_law_X4_sees rfl rfl rfl (by decide +kernel) ⟨Nat.le_of_ble_eq_true rfl, Nat.le_of_ble_eq_true rfl⟩) (vQ_pV hK.1 hE hF hZ hS hA hP hD) rfl rfl hl.1 rfl (lv_room (Nat.le_of_ble_eq_true rfl)) dL_law_1343 ⟨by show cells + 0 ≤ 600104; omega, by show slots + 0 ≤ 7301314; omega⟩) hP hD hS hA (fun r _ H locs hk hP hD hS => ?_)
    subst hk
    refine lv_if_eq (tgt := 1369) hx hb dL_law_1346 (by decide) (fun z9 => absurd z9 (bI_n0.mpr (atH_seen hja))) (fun _ => ?_)
    refine lv_iload hx hb dL_law_1349 (lv_at hl 0 rfl) ?_
    refine lv_if_lt (tgt := 1365) hx hb dL_law_1351 (by decide) (fun z9 => absurd z9 (fun q9 => absurd ((nI_ltI (a := i) (b := 0) (by omega) (by omega)).mp q9) (by omega))) (fun _ => ?_)
    refine lv_aload_n hx hb dL_law_1354 rfl (lv_at hl 3 rfl) ?_
    refine lv_iload hx hb dL_law_1355 (lv_at hl 11 rfl) ?_
    refine lv_iload hx hb dL_law_1357 (lv_at hl 0 rfl) ?_
    refine vQ_r (va_runV (As := [.int (nI p1), .int (nI i)]) (rest := []) ⟨hx, hb, hml, hown, hts⟩ (kN_sees l hfl D cy H.size e0 mi vo 130 μ w hK.1 (by omega) hK.2.1.1 ⟨hK.2.1.2.2.2, by omega⟩ hp (show i < nn by omega)) (cwV 2 hts gL_law_X4_sees rfl rfl rfl (by decide +kernel) ⟨Nat.le_of_ble_eq_true rfl, Nat.le_of_ble_eq_true rfl⟩) (vQ_pV hK.1 hE hF hZ hS hA hP hD) rfl rfl hl.1 rfl (lv_room (Nat.le_of_ble_eq_true rfl)) dL_law_1359 ⟨by show cells + 0 ≤ 600104; omega, by show slots + 0 ≤ 7301314; omega⟩) hP hD hS hA (fun r _ H locs hk hP hD hS => ?_)
    subst hk
    refine lv_if_eq (tgt := 1369) hx hb dL_law_1362 (by decide) (fun z9 => absurd z9 (bI_n0.mpr (atH_seen hia))) (fun _ => ?_)
    refine lv_iconst (v := 1) hx hb dL_law_1365 (by decide) ?_
    refine vg_tp (nI 1) (by decide) ?_
    refine lv_goto (tgt := 1370) hx hb dL_law_1366 (by decide) ?_
    refine lv_istore (lv' := [(7, .int (nI 1)), (19, .int (nI i)), (18, .int (nI j)), (0, .ref b), (1, .ref vo), (2, .ref ha), (3, .ref ra), (4, .ref ga), (5, .int (nI 6)), (6, .int (nI nn)), (8, .int (nI k1)), (10, .int (nI p1)), (12, .int (nI q1)), (13, .int (nI n1))]) hx hb dL_law_1370 hl (by decide) rfl (fun ls hl => ?_)
    refine lv_iinc (v := nI (k1 + 1)) (lv' := [(8, .int (nI (k1 + 1))), (7, .int (nI 1)), (19, .int (nI i)), (18, .int (nI j)), (0, .ref b), (1, .ref vo), (2, .ref ha), (3, .ref ra), (4, .ref ga), (5, .int (nI 6)), (6, .int (nI nn)), (10, .int (nI p1)), (12, .int (nI q1)), (13, .int (nI n1))]) hx hb dL_law_1372 hl (k := 10) rfl (by rw [show Int32.ofInt 1 = nI 1 from by decide, nI_add]) (by decide) rfl (fun ls hl => ?_)
    refine lv_goto (tgt := 89) hx hb dL_law_1375 (by decide) ?_
    exact kk w H locs ls ⟨hP, hD, hS, hK, hA3⟩ (lv_sub hl [4, 5, 6, 7, 8, 9, 10, 1, 0] rfl)

set_option maxHeartbeats 4000000 in
set_option maxRecDepth 100000 in
theorem kS_0 {p : Program} {l : Launch} {e : Env} {s : State} {m : MethodId} {below : List Frame} {meth : Method} {c : Code} {b L : Nat} {xs : Nat → Int32} {A0 : Nat → Prop} {D : va_G} {cy : Nat → ClassId} {e0 mi vo ha ra ga nn nc cells slots : Nat} {hf af gf : Nat → Int32} {μ : Nat → Nat → Int32} {w : va_W} {H : Heap} {locs : List Loc} {ls : Array Slot} {Q : State → Prop} (hLE : LE p l s m c b L xs A0 D cy e0 mi) (hLW : LW s A0 D cy e0 vo ha ra ga hf af gf μ nn nc w H locs) (hn : nn ≤ 20) (hc : nc ≤ 60) {k1 : Nat} (hk1 : k1 < 60) (hcl : cells ≤ 600104) (hsl : slots ≤ 7301314) (hl : lv_has ls 23 [(0, .ref b), (1, .ref vo), (2, .ref ha), (3, .ref ra), (4, .ref ga), (5, .int (nI 6)), (6, .int (nI nn)), (7, .int (nI 1)), (8, .int (nI k1))]) (kk : ∀ (kw p1 v1 q1 n1 s1 : Nat) (H' : Heap) (locs' : List Loc) (ls' : Array Slot), kw < 22 → p1 < 6 → q1 < 6 → p1 ≠ q1 → v1 < 960 → (0 < nn → n1 < nn) → (nn = 0 → n1 = 0) → s1 < 3 → LW s A0 D cy e0 vo ha ra ga hf af gf μ nn nc w H' locs' → lv_has ls' 23 [(0, .ref b), (1, .ref vo), (2, .ref ha), (3, .ref ra), (4, .ref ga), (5, .int (nI 6)), (6, .int (nI nn)), (7, .int (nI 1)), (8, .int (nI k1)), (9, .int (nI kw)), (10, .int (nI p1)), (11, .int (nI v1)), (12, .int (nI q1)), (13, .int (nI n1)), (14, .int (nI s1)), (15, .int (nI (cD μ (tn (μ 2 p1)) nc))), (16, .int (nI (bt μ (tn (μ 2 p1)) p1 q1))), (17, .int (nI (bt μ (tn (μ 2 p1)) q1 p1)))] → W p l e room_1 s m #[Value.ref b] below meth c H' locs' cells slots Q (F0 m 222 ls' [])) : W p l e room_1 s m #[Value.ref b] below meth c H locs cells slots Q (F0 m 101 ls []) := by
  obtain ⟨⟨hx, hb, hml, hown, hts⟩, ⟨hX, hbl, hL, hfl, hA, hbA⟩, hE, hF, hZ⟩ := hLE
  obtain ⟨hP, hD, hS, hK, hA3⟩ := hLW
  have hh := hA3.1
  have haf := hA3.2.1
  have hgf := hA3.2.2
  refine lv_aload_n hx hb dL_law_101 rfl (lv_at hl 0 rfl) ?_
  refine lv_iconst (v := 4) hx hb dL_law_102 (by decide) ?_
  refine vg_tp (nI 4) (by decide) ?_
  refine lv_iload hx hb dL_law_103 (lv_at hl 8 rfl) ?_
  refine lv_imul hx hb dL_law_105 ?_
  refine vg_tp (nI (4 * k1)) (pk_mul _ _) ?_
  refine lv_bipush (v := 6) hx hb dL_law_106 (by decide) ?_
  refine vg_tp (nI 6) (by decide) ?_
  refine lv_iadd hx hb dL_law_108 ?_
  refine vg_tp (nI (4 * k1 + 6)) (nI_add _ _) ?_
  refine lv_bipush (v := 22) hx hb dL_law_109 (by decide) ?_
  refine vg_tp (nI 22) (by decide) ?_
  refine vQ_d (va_runS (As := [.ref b, .int (nI (4 * k1 + 6)), .int (nI 22)]) (rest := []) ⟨hx, hb, hml, hown, hts⟩ (kD_drawn l D b L xs H.size (4 * k1 + 6) 22 hL (by omega) (by decide) (by decide)) (va_cwS 3 hts gL_law_L_drawn rfl rfl rfl (by decide +kernel) ⟨Nat.le_of_ble_eq_true rfl, Nat.le_of_ble_eq_true rfl⟩) (vd_P.preS hX hbl hbA hS) rfl rfl hl.1 rfl (lv_room (Nat.le_of_ble_eq_true rfl)) dL_law_111 ⟨by show cells + 0 ≤ 600104; omega, by show slots + 0 ≤ 7301314; omega⟩) hP hD hS hA (fun r kw H locs hk hP hD hS => ?_)
  obtain ⟨hk, hkw⟩ := hk
  subst hk
  refine lv_istore (lv' := [(9, .int (nI kw)), (0, .ref b), (1, .ref vo), (2, .ref ha), (3, .ref ra), (4, .ref ga), (5, .int (nI 6)), (6, .int (nI nn)), (7, .int (nI 1)), (8, .int (nI k1))]) hx hb dL_law_114 hl (by decide) rfl (fun ls hl => ?_)
  refine lv_aload_n hx hb dL_law_116 rfl (lv_at hl 1 rfl) ?_
  refine lv_iconst (v := 4) hx hb dL_law_117 (by decide) ?_
  refine vg_tp (nI 4) (by decide) ?_
  refine lv_iload hx hb dL_law_118 (lv_at hl 9 rfl) ?_
  refine lv_imul hx hb dL_law_120 ?_
  refine vg_tp (nI (4 * k1)) (pk_mul _ _) ?_
  refine lv_bipush (v := 7) hx hb dL_law_121 (by decide) ?_
  refine vg_tp (nI 7) (by decide) ?_
  refine lv_iadd hx hb dL_law_123 ?_
  refine vg_tp (nI (4 * k1 + 7)) (nI_add _ _) ?_
  refine lv_bipush (v := 6) hx hb dL_law_124 (by decide) ?_
  refine vg_tp (nI 6) (by decide) ?_
  refine vQ_d (va_runS (As := [.ref b, .int (nI (4 * k1 + 7)), .int (nI 6)]) (rest := []) ⟨hx, hb, hml, hown, hts⟩ (kD_drawn l D b L xs H.size (4 * k1 + 7) 6 hL (by omega) (by decide) (by decide)) (va_cwS 3 hts gL_law_L_drawn rfl rfl rfl (by decide +kernel) ⟨Nat.le_of_ble_eq_true rfl, Nat.le_of_ble_eq_true rfl⟩) (vd_P.preS hX hbl hbA hS) rfl rfl hl.1 rfl (lv_room (Nat.le_of_ble_eq_true rfl)) dL_law_126 ⟨by show cells + 0 ≤ 600104; omega, by show slots + 0 ≤ 7301314; omega⟩) hP hD hS hA (fun r p1 H locs hk hP hD hS => ?_)
  obtain ⟨hk, hp1⟩ := hk
  subst hk
  refine lv_istore (lv' := [(10, .int (nI p1)), (9, .int (nI kw)), (0, .ref b), (1, .ref vo), (2, .ref ha), (3, .ref ra), (4, .ref ga), (5, .int (nI 6)), (6, .int (nI nn)), (7, .int (nI 1)), (8, .int (nI k1))]) hx hb dL_law_129 hl (by decide) rfl (fun ls hl => ?_)
  refine lv_aload_n hx hb dL_law_131 rfl (lv_at hl 2 rfl) ?_
  refine lv_iconst (v := 4) hx hb dL_law_132 (by decide) ?_
  refine vg_tp (nI 4) (by decide) ?_
  refine lv_iload hx hb dL_law_133 (lv_at hl 10 rfl) ?_
  refine lv_imul hx hb dL_law_135 ?_
  refine vg_tp (nI (4 * k1)) (pk_mul _ _) ?_
  refine lv_bipush (v := 8) hx hb dL_law_136 (by decide) ?_
  refine vg_tp (nI 8) (by decide) ?_
  refine lv_iadd hx hb dL_law_138 ?_
  refine vg_tp (nI (4 * k1 + 8)) (nI_add _ _) ?_
  refine lv_sipush (v := 960) hx hb dL_law_139 (by decide) ?_
  refine vg_tp (nI 960) (by decide) ?_
  refine vQ_d (va_runS (As := [.ref b, .int (nI (4 * k1 + 8)), .int (nI 960)]) (rest := []) ⟨hx, hb, hml, hown, hts⟩ (kD_drawn l D b L xs H.size (4 * k1 + 8) 960 hL (by omega) (by decide) (by decide)) (va_cwS 3 hts gL_law_L_drawn rfl rfl rfl (by decide +kernel) ⟨Nat.le_of_ble_eq_true rfl, Nat.le_of_ble_eq_true rfl⟩) (vd_P.preS hX hbl hbA hS) rfl rfl hl.1 rfl (lv_room (Nat.le_of_ble_eq_true rfl)) dL_law_142 ⟨by show cells + 0 ≤ 600104; omega, by show slots + 0 ≤ 7301314; omega⟩) hP hD hS hA (fun r v1 H locs hk hP hD hS => ?_)
  obtain ⟨hk, hv1⟩ := hk
  subst hk
  refine lv_istore (lv' := [(11, .int (nI v1)), (10, .int (nI p1)), (9, .int (nI kw)), (0, .ref b), (1, .ref vo), (2, .ref ha), (3, .ref ra), (4, .ref ga), (5, .int (nI 6)), (6, .int (nI nn)), (7, .int (nI 1)), (8, .int (nI k1))]) hx hb dL_law_145 hl (by decide) rfl (fun ls hl => ?_)
  refine lv_iload hx hb dL_law_147 (lv_at hl 1 rfl) ?_
  refine lv_iconst (v := 1) hx hb dL_law_149 (by decide) ?_
  refine vg_tp (nI 1) (by decide) ?_
  refine lv_iadd hx hb dL_law_150 ?_
  refine vg_tp (nI (p1 + 1)) (nI_add _ _) ?_
  refine lv_iload hx hb dL_law_151 (lv_at hl 0 rfl) ?_
  refine lv_iconst (v := 5) hx hb dL_law_153 (by decide) ?_
  refine vg_tp (nI 5) (by decide) ?_
  refine lv_irem hx hb dL_law_154 (by decide) ?_
  refine vg_tp (nI (v1 % 5)) (pk_rem (by omega) (by omega) (by omega)) ?_
  refine lv_iadd hx hb dL_law_155 ?_
  refine vg_tp (nI (p1 + 1 + (v1 % 5))) (nI_add _ _) ?_
  refine lv_bipush (v := 6) hx hb dL_law_156 (by decide) ?_
  refine vg_tp (nI 6) (by decide) ?_
  refine lv_irem hx hb dL_law_158 (by decide) ?_
  refine vg_tp (nI ((p1 + 1 + (v1 % 5)) % 6)) (pk_rem (by omega) (by omega) (by omega)) ?_
  obtain ⟨q1, eq1⟩ : ∃ q, q = (p1 + 1 + (v1 % 5)) % 6 := ⟨_, rfl⟩
  refine vg_tp (nI q1) (by rw [eq1]) ?_
  have hq1 : q1 < 6 := by omega
  have hpq : p1 ≠ q1 := by omega
  refine lv_istore (lv' := [(12, .int (nI q1)), (11, .int (nI v1)), (10, .int (nI p1)), (9, .int (nI kw)), (0, .ref b), (1, .ref vo), (2, .ref ha), (3, .ref ra), (4, .ref ga), (5, .int (nI 6)), (6, .int (nI nn)), (7, .int (nI 1)), (8, .int (nI k1))]) hx hb dL_law_159 hl (by decide) rfl (fun ls hl => ?_)
  refine lv_iload hx hb dL_law_161 (lv_at hl 10 rfl) ?_
  have J : ∀ n1, (0 < nn → n1 < nn) → (nn = 0 → n1 = 0) → W p l e room_1 s m #[Value.ref b] below meth c H locs cells slots Q (F0 m 175 ls [.int (nI n1)]) := by
    intro n1 hn1 hn0
    refine lv_istore (lv' := [(13, .int (nI n1)), (12, .int (nI q1)), (11, .int (nI v1)), (10, .int (nI p1)), (9, .int (nI kw)), (0, .ref b), (1, .ref vo), (2, .ref ha), (3, .ref ra), (4, .ref ga), (5, .int (nI 6)), (6, .int (nI nn)), (7, .int (nI 1)), (8, .int (nI k1))]) hx hb dL_law_175 hl (by decide) rfl (fun ls hl => ?_)
    refine lv_iload hx hb dL_law_177 (lv_at hl 2 rfl) ?_
    refine lv_iconst (v := 3) hx hb dL_law_179 (by decide) ?_
    refine vg_tp (nI 3) (by decide) ?_
    refine lv_irem hx hb dL_law_180 (by decide) ?_
    refine vg_tp (nI (v1 % 3)) (pk_rem (by omega) (by omega) (by omega)) ?_
    obtain ⟨s1, es1⟩ : ∃ q, q = v1 % 3 := ⟨_, rfl⟩
    refine vg_tp (nI s1) (by rw [es1]) ?_
    have hs1 : s1 < 3 := by omega
    have hh1 := hK.2.1.2.1 p1 hp1
    refine lv_istore (lv' := [(14, .int (nI s1)), (13, .int (nI n1)), (12, .int (nI q1)), (11, .int (nI v1)), (10, .int (nI p1)), (9, .int (nI kw)), (0, .ref b), (1, .ref vo), (2, .ref ha), (3, .ref ra), (4, .ref ga), (5, .int (nI 6)), (6, .int (nI nn)), (7, .int (nI 1)), (8, .int (nI k1))]) hx hb dL_law_181 hl (by decide) rfl (fun ls hl => ?_)
    refine lv_aload_n hx hb dL_law_183 rfl (lv_at hl 7 rfl) ?_
    refine lv_aload_n hx hb dL_law_184 rfl (lv_at hl 8 rfl) ?_
    refine lv_iload hx hb dL_law_185 (lv_at hl 4 rfl) ?_
    refine vg_iald hx hb hE.1 hP 0 0 rfl rfl (f := hf) (j := p1) (by omega) (by decide) dL_law_187 ?_
    refine vg_tp (nI (tn (μ 2 p1))) (hh p1 (by omega)) ?_
    refine lv_iconst (v := 1) hx hb dL_law_188 (by decide) ?_
    refine vg_tp (nI 1) (by decide) ?_
    refine vQ_r (va_runV (As := [.int (nI (tn (μ 2 p1))), .int (nI 1)]) (rest := []) ⟨hx, hb, hml, hown, hts⟩ (kN_ofServer l hfl D cy H.size e0 mi vo 130 μ w hK.1 (by omega) hK.2.1.1 (show tn (μ 2 p1) < 4 by omega) (show 1 < 6 by omega)) (cwV 2 hts gL_law_X4_ofServer rfl rfl rfl (by decide +kernel) ⟨Nat.le_of_ble_eq_true rfl, Nat.le_of_ble_eq_true rfl⟩) (vQ_pV hK.1 hE hF hZ hS hA hP hD) rfl rfl hl.1 rfl (lv_room (Nat.le_of_ble_eq_true rfl)) dL_law_189 ⟨by show cells + 0 ≤ 600104; omega, by show slots + 0 ≤ 7301314; omega⟩) hP hD hS hA (fun r _ H locs hk hP hD hS => ?_)
    rw [ofs_1 (show tn (μ 2 p1) < 4 by omega) hK.2.1.2.2.1 (by omega)] at hk
    subst hk
    refine lv_istore (lv' := [(15, .int (nI (cD μ (tn (μ 2 p1)) nc))), (14, .int (nI s1)), (13, .int (nI n1)), (12, .int (nI q1)), (11, .int (nI v1)), (10, .int (nI p1)), (9, .int (nI kw)), (0, .ref b), (1, .ref vo), (2, .ref ha), (3, .ref ra), (4, .ref ga), (5, .int (nI 6)), (6, .int (nI nn)), (7, .int (nI 1)), (8, .int (nI k1))]) hx hb dL_law_192 hl (by decide) rfl (fun ls hl => ?_)
    refine lv_aload_n hx hb dL_law_194 rfl (lv_at hl 8 rfl) ?_
    refine lv_aload_n hx hb dL_law_195 rfl (lv_at hl 9 rfl) ?_
    refine lv_iload hx hb dL_law_196 (lv_at hl 5 rfl) ?_
    refine vg_iald hx hb hE.1 hP 0 0 rfl rfl (f := hf) (j := p1) (by omega) (by decide) dL_law_198 ?_
    refine vg_tp (nI (tn (μ 2 p1))) (hh p1 (by omega)) ?_
    refine lv_iload hx hb dL_law_199 (lv_at hl 5 rfl) ?_
    refine lv_iload hx hb dL_law_201 (lv_at hl 3 rfl) ?_
    refine vQ_r (va_runV (As := [.int (nI (tn (μ 2 p1))), .int (nI p1), .int (nI q1)]) (rest := []) ⟨hx, hb, hml, hown, hts⟩ (kN_between l hfl D cy H.size e0 mi vo 130 μ w hK.1 (by omega) hK.2.1.1 (show tn (μ 2 p1) < 4 by omega) hp1 hq1) (cwV 3 hts gL_law_X4_between rfl rfl rfl (by decide +kernel) ⟨Nat.le_of_ble_eq_true rfl, Nat.le_of_ble_eq_true rfl⟩) (vQ_pV hK.1 hE hF hZ hS hA hP hD) rfl rfl hl.1 rfl (lv_room (Nat.le_of_ble_eq_true rfl)) dL_law_203 ⟨by show cells + 0 ≤ 600104; omega, by show slots + 0 ≤ 7301314; omega⟩) hP hD hS hA (fun r _ H locs hk hP hD hS => ?_)
    rw [bt_R hK.2.1.1 (show tn (μ 2 p1) < 4 by omega) hp1 hq1] at hk
    subst hk
    refine lv_istore (lv' := [(16, .int (nI (bt μ (tn (μ 2 p1)) p1 q1))), (15, .int (nI (cD μ (tn (μ 2 p1)) nc))), (14, .int (nI s1)), (13, .int (nI n1)), (12, .int (nI q1)), (11, .int (nI v1)), (10, .int (nI p1)), (9, .int (nI kw)), (0, .ref b), (1, .ref vo), (2, .ref ha), (3, .ref ra), (4, .ref ga), (5, .int (nI 6)), (6, .int (nI nn)), (7, .int (nI 1)), (8, .int (nI k1))]) hx hb dL_law_206 hl (by decide) rfl (fun ls hl => ?_)
    refine lv_aload_n hx hb dL_law_208 rfl (lv_at hl 9 rfl) ?_
    refine lv_aload_n hx hb dL_law_209 rfl (lv_at hl 10 rfl) ?_
    refine lv_iload hx hb dL_law_210 (lv_at hl 6 rfl) ?_
    refine vg_iald hx hb hE.1 hP 0 0 rfl rfl (f := hf) (j := p1) (by omega) (by decide) dL_law_212 ?_
    refine vg_tp (nI (tn (μ 2 p1))) (hh p1 (by omega)) ?_
    refine lv_iload hx hb dL_law_213 (lv_at hl 4 rfl) ?_
    refine lv_iload hx hb dL_law_215 (lv_at hl 6 rfl) ?_
    refine vQ_r (va_runV (As := [.int (nI (tn (μ 2 p1))), .int (nI q1), .int (nI p1)]) (rest := []) ⟨hx, hb, hml, hown, hts⟩ (kN_between l hfl D cy H.size e0 mi vo 130 μ w hK.1 (by omega) hK.2.1.1 (show tn (μ 2 p1) < 4 by omega) hq1 hp1) (cwV 3 hts gL_law_X4_between rfl rfl rfl (by decide +kernel) ⟨Nat.le_of_ble_eq_true rfl, Nat.le_of_ble_eq_true rfl⟩) (vQ_pV hK.1 hE hF hZ hS hA hP hD) rfl rfl hl.1 rfl (lv_room (Nat.le_of_ble_eq_true rfl)) dL_law_217 ⟨by show cells + 0 ≤ 600104; omega, by show slots + 0 ≤ 7301314; omega⟩) hP hD hS hA (fun r _ H locs hk hP hD hS => ?_)
    rw [bt_R hK.2.1.1 (show tn (μ 2 p1) < 4 by omega) hq1 hp1] at hk
    subst hk
    refine lv_istore (lv' := [(17, .int (nI (bt μ (tn (μ 2 p1)) q1 p1))), (16, .int (nI (bt μ (tn (μ 2 p1)) p1 q1))), (15, .int (nI (cD μ (tn (μ 2 p1)) nc))), (14, .int (nI s1)), (13, .int (nI n1)), (12, .int (nI q1)), (11, .int (nI v1)), (10, .int (nI p1)), (9, .int (nI kw)), (0, .ref b), (1, .ref vo), (2, .ref ha), (3, .ref ra), (4, .ref ga), (5, .int (nI 6)), (6, .int (nI nn)), (7, .int (nI 1)), (8, .int (nI k1))]) hx hb dL_law_220 hl (by decide) rfl (fun ls hl => ?_)
    exact kk kw p1 v1 q1 n1 s1 H locs ls hkw hp1 hq1 hpq hv1 hn1 hn0 hs1 ⟨hP, hD, hS, hK, hA3⟩ (lv_sub hl [9, 10, 11, 12, 13, 14, 15, 16, 17, 8, 7, 6, 5, 4, 3, 2, 1, 0] rfl)
  refine lv_if_le (tgt := 174) hx hb dL_law_163 (by decide) (fun c1 => ?_) (fun c1 => ?_)
  · have c1 : nn ≤ 0 := (nI_leI (a := nn) (b := 0) (by omega) (by omega)).mp c1
    refine lv_iconst (v := 0) hx hb dL_law_174 (by decide) ?_
    refine vg_tp (nI 0) (by decide) ?_
    exact J 0 (fun q => by omega) (fun _ => rfl)
  · have c1 : ¬ (nn ≤ 0) := fun q9 => c1 ((nI_leI (a := nn) (b := 0) (by omega) (by omega)).mpr q9)
    have c1 : 0 < nn := by omega
    refine lv_iload hx hb dL_law_166 (lv_at hl 1 rfl) ?_
    refine lv_iload hx hb dL_law_168 (lv_at hl 10 rfl) ?_
    refine lv_irem hx hb dL_law_170 (nI_n0 (by omega) (by omega)) ?_
    refine vg_tp (nI (v1 % nn)) (pk_rem (by omega) (by omega) (by omega)) ?_
    refine lv_goto (tgt := 175) hx hb dL_law_171 (by decide) ?_
    exact J (v1 % nn) (fun _ => Nat.mod_lt _ c1) (fun q => by omega)

set_option maxHeartbeats 4000000 in
set_option maxRecDepth 100000 in
theorem kC_disp {p : Program} {l : Launch} {e : Env} {s : State} {m : MethodId} {below : List Frame} {meth : Method} {c : Code} {b L : Nat} {xs : Nat → Int32} {A0 : Nat → Prop} {D : va_G} {cy : Nat → ClassId} {e0 mi vo ha ra ga nn nc cells slots : Nat} {hf af gf : Nat → Int32} {μ : Nat → Nat → Int32} {w : va_W} {H : Heap} {locs : List Loc} {ls : Array Slot} {Q : State → Prop} (hLE : LE p l s m c b L xs A0 D cy e0 mi) (hLW : LW s A0 D cy e0 vo ha ra ga hf af gf μ nn nc w H locs) (hn : nn ≤ 20) (hc : nc < 60) {k1 kw p1 v1 q1 n1 s1 : Nat} (hk1 : k1 < 60) (hp : p1 < 6) (hq : q1 < 6) (hpq : p1 ≠ q1) (hv : v1 < 960) (hn1 : 0 < nn → n1 < nn) (hs1 : s1 < 3) (hkw : kw < 22) (hcl : cells + 24 ≤ 600104) (hsl : slots + 24702 ≤ 7301314) (hl : lv_has ls 23 [(0, .ref b), (1, .ref vo), (2, .ref ha), (3, .ref ra), (4, .ref ga), (5, .int (nI 6)), (6, .int (nI nn)), (7, .int (nI 1)), (8, .int (nI k1)), (9, .int (nI kw)), (10, .int (nI p1)), (11, .int (nI v1)), (12, .int (nI q1)), (13, .int (nI n1)), (14, .int (nI s1)), (15, .int (nI (cD μ (tn (μ 2 p1)) nc))), (16, .int (nI (bt μ (tn (μ 2 p1)) p1 q1))), (17, .int (nI (bt μ (tn (μ 2 p1)) q1 p1)))]) (kk : ∀ (μ' : Nat → Nat → Int32) (nn' nc' : Nat) (w' : va_W) (af' gf' : Nat → Int32) (H' : Heap) (locs' : List Loc) (ls' : Array Slot), LW s A0 D cy e0 vo ha ra ga hf af' gf' μ' nn' nc' w' H' locs' → nn' ≤ 20 → nn ≤ nn' → nc' ≤ nc + 1 → lv_has ls' 23 [(0, .ref b), (1, .ref vo), (2, .ref ha), (3, .ref ra), (4, .ref ga), (5, .int (nI 6)), (6, .int (nI nn')), (7, .int (nI 1)), (8, .int (nI k1)), (10, .int (nI p1)), (12, .int (nI q1)), (13, .int (nI n1))] → W p l e room_1 s m #[Value.ref b] below meth c H' locs' (cells + 24) (slots + 24702) Q (F0 m 1129 ls' [])) : W p l e room_1 s m #[Value.ref b] below meth c H locs cells slots Q (F0 m 222 ls []) := by
  have hLE0 := hLE
  have hLW0 := hLW
  obtain ⟨⟨hx, hb, hml, hown, hts⟩, -, -, -, -⟩ := hLE
  have J922 : W p l e room_1 s m #[Value.ref b] below meth c H locs cells slots Q (F0 m 922 ls []) := by
    refine lv_iload hx hb dL_law_922 (lv_at hl 9 rfl) ?_
    refine lv_bipush (v := 20) hx hb dL_law_924 (by decide) ?_
    refine vg_tp (nI 20) (by decide) ?_
    refine lv_icmp_ge (tgt := 1129) hx hb dL_law_926 (by decide) (fun c22 => ?_) (fun c22 => ?_)
    · have c22 : 20 ≤ kw := (nI_leI (a := 20) (b := kw) (by omega) (by omega)).mp c22
      refine W.widen (k := cells + 24) (n := slots + 24702) (by omega) (by omega) ?_
      exact kk μ nn nc w af gf H locs ls hLW0 hn (Nat.le_refl _) (by omega) (lv_sub hl [0, 1, 2, 3, 4, 5, 6, 7, 8, 10, 12, 13] rfl)
    · have c22 : ¬ (20 ≤ kw) := fun q9 => c22 ((nI_leI (a := 20) (b := kw) (by omega) (by omega)).mpr q9)
      exact kC_deliver hLE0 hLW0 hn hc hk1 hp hq hpq hv hn1 hs1 hkw hcl hsl (lv_sub hl [0, 1, 2, 3, 4, 5, 6, 7, 8, 9, 10, 11, 12, 13, 14, 15, 16, 17] rfl) kk
  have J867 : W p l e room_1 s m #[Value.ref b] below meth c H locs cells slots Q (F0 m 867 ls []) := by
    refine lv_iload hx hb dL_law_867 (lv_at hl 9 rfl) ?_
    refine lv_bipush (v := 14) hx hb dL_law_869 (by decide) ?_
    refine vg_tp (nI 14) (by decide) ?_
    refine lv_icmp_ne (tgt := 922) hx hb dL_law_871 (by decide) (fun c14 => ?_) (fun c14 => ?_)
    · have c14 : ¬ (kw = 14) := fun q9 => c14 ((nI_eq (a := kw) (b := 14) (by omega) (by omega)).mpr q9)
      exact J922
    · have c14 : kw = 14 := (nI_eq (a := kw) (b := 14) (by omega) (by omega)).mp c14
      refine lv_iload hx hb dL_law_874 (lv_at hl 6 rfl) ?_
      refine lv_if_le (tgt := 922) hx hb dL_law_876 (by decide) (fun c15 => ?_) (fun c15 => ?_)
      · have c15 : nn ≤ 0 := (nI_leI (a := nn) (b := 0) (by omega) (by omega)).mp c15
        exact J922
      · have c15 : ¬ (nn ≤ 0) := fun q9 => c15 ((nI_leI (a := nn) (b := 0) (by omega) (by omega)).mpr q9)
        exact kC_boost hLE0 hLW0 hn hc hk1 hp hq hpq hv hn1 hs1 hkw hcl hsl (lv_sub hl [0, 1, 2, 3, 4, 5, 6, 7, 8, 9, 10, 11, 12, 13, 14, 15, 16, 17] rfl) (by omega) kk
  have J786 : W p l e room_1 s m #[Value.ref b] below meth c H locs cells slots Q (F0 m 786 ls []) := by
    refine lv_iload hx hb dL_law_786 (lv_at hl 9 rfl) ?_
    refine lv_bipush (v := 13) hx hb dL_law_788 (by decide) ?_
    refine vg_tp (nI 13) (by decide) ?_
    refine lv_icmp_ne (tgt := 867) hx hb dL_law_790 (by decide) (fun c13 => ?_) (fun c13 => ?_)
    · have c13 : ¬ (kw = 13) := fun q9 => c13 ((nI_eq (a := kw) (b := 13) (by omega) (by omega)).mpr q9)
      exact J867
    · have c13 : kw = 13 := (nI_eq (a := kw) (b := 13) (by omega) (by omega)).mp c13
      refine lv_iload hx hb dL_law_793 (lv_at hl 6 rfl) ?_
      refine lv_if_le (tgt := 867) hx hb dL_law_795 (by decide) (fun c16 => ?_) (fun c16 => ?_)
      · have c16 : nn ≤ 0 := (nI_leI (a := nn) (b := 0) (by omega) (by omega)).mp c16
        exact J867
      · have c16 : ¬ (nn ≤ 0) := fun q9 => c16 ((nI_leI (a := nn) (b := 0) (by omega) (by omega)).mpr q9)
        exact kC_delete hLE0 hLW0 hn hc hk1 hp hq hpq hv hn1 hs1 hkw hcl hsl (lv_sub hl [0, 1, 2, 3, 4, 5, 6, 7, 8, 9, 10, 11, 12, 13, 14, 15, 16, 17] rfl) (by omega) kk
  refine lv_iload hx hb dL_law_222 (lv_at hl 9 rfl) ?_
  refine lv_iconst (v := 3) hx hb dL_law_224 (by decide) ?_
  refine vg_tp (nI 3) (by decide) ?_
  refine lv_icmp_ge (tgt := 321) hx hb dL_law_225 (by decide) (fun d6 => ?_) (fun d6 => ?_)
  · have d6 : 3 ≤ kw := (nI_leI (a := 3) (b := kw) (by omega) (by omega)).mp d6
    refine lv_iload hx hb dL_law_321 (lv_at hl 9 rfl) ?_
    refine lv_bipush (v := 6) hx hb dL_law_323 (by decide) ?_
    refine vg_tp (nI 6) (by decide) ?_
    refine lv_icmp_ge (tgt := 417) hx hb dL_law_325 (by decide) (fun d5 => ?_) (fun d5 => ?_)
    · have d5 : 6 ≤ kw := (nI_leI (a := 6) (b := kw) (by omega) (by omega)).mp d5
      refine lv_iload hx hb dL_law_417 (lv_at hl 9 rfl) ?_
      refine lv_bipush (v := 6) hx hb dL_law_419 (by decide) ?_
      refine vg_tp (nI 6) (by decide) ?_
      refine lv_icmp_ne (tgt := 474) hx hb dL_law_421 (by decide) (fun d4 => ?_) (fun d4 => ?_)
      · have d4 : ¬ (kw = 6) := fun q9 => d4 ((nI_eq (a := kw) (b := 6) (by omega) (by omega)).mpr q9)
        refine lv_iload hx hb dL_law_474 (lv_at hl 9 rfl) ?_
        refine lv_bipush (v := 7) hx hb dL_law_476 (by decide) ?_
        refine vg_tp (nI 7) (by decide) ?_
        refine lv_icmp_ne (tgt := 539) hx hb dL_law_478 (by decide) (fun d3 => ?_) (fun d3 => ?_)
        · have d3 : ¬ (kw = 7) := fun q9 => d3 ((nI_eq (a := kw) (b := 7) (by omega) (by omega)).mpr q9)
          refine lv_iload hx hb dL_law_539 (lv_at hl 9 rfl) ?_
          refine lv_bipush (v := 8) hx hb dL_law_541 (by decide) ?_
          refine vg_tp (nI 8) (by decide) ?_
          refine lv_icmp_ne (tgt := 580) hx hb dL_law_543 (by decide) (fun d2 => ?_) (fun d2 => ?_)
          · have d2 : ¬ (kw = 8) := fun q9 => d2 ((nI_eq (a := kw) (b := 8) (by omega) (by omega)).mpr q9)
            refine lv_iload hx hb dL_law_580 (lv_at hl 9 rfl) ?_
            refine lv_bipush (v := 9) hx hb dL_law_582 (by decide) ?_
            refine vg_tp (nI 9) (by decide) ?_
            refine lv_icmp_ne (tgt := 684) hx hb dL_law_584 (by decide) (fun d1 => ?_) (fun d1 => ?_)
            · have d1 : ¬ (kw = 9) := fun q9 => d1 ((nI_eq (a := kw) (b := 9) (by omega) (by omega)).mpr q9)
              refine lv_iload hx hb dL_law_684 (lv_at hl 9 rfl) ?_
              refine lv_bipush (v := 13) hx hb dL_law_686 (by decide) ?_
              refine vg_tp (nI 13) (by decide) ?_
              refine lv_icmp_ge (tgt := 786) hx hb dL_law_688 (by decide) (fun d20 => ?_) (fun d20 => ?_)
              · have d20 : 13 ≤ kw := (nI_leI (a := 13) (b := kw) (by omega) (by omega)).mp d20
                exact J786
              · have d20 : ¬ (13 ≤ kw) := fun q9 => d20 ((nI_leI (a := 13) (b := kw) (by omega) (by omega)).mpr q9)
                refine lv_iload hx hb dL_law_691 (lv_at hl 6 rfl) ?_
                refine lv_bipush (v := 20) hx hb dL_law_693 (by decide) ?_
                refine vg_tp (nI 20) (by decide) ?_
                refine lv_icmp_ge (tgt := 786) hx hb dL_law_695 (by decide) (fun d21 => ?_) (fun d21 => ?_)
                · have d21 : 20 ≤ nn := (nI_leI (a := 20) (b := nn) (by omega) (by omega)).mp d21
                  exact J786
                · have d21 : ¬ (20 ≤ nn) := fun q9 => d21 ((nI_leI (a := 20) (b := nn) (by omega) (by omega)).mpr q9)
                  exact kC_post hLE0 hLW0 hn hc hk1 hp hq hpq hv hn1 hs1 hkw hcl hsl (lv_sub hl [0, 1, 2, 3, 4, 5, 6, 7, 8, 9, 10, 11, 12, 13, 14, 15, 16, 17] rfl) (by omega) kk
            · have d1 : kw = 9 := (nI_eq (a := kw) (b := 9) (by omega) (by omega)).mp d1
              exact kC_move hLE0 hLW0 hn hc hk1 hp hq hpq hv hn1 hs1 hkw hcl hsl (lv_sub hl [0, 1, 2, 3, 4, 5, 6, 7, 8, 9, 10, 11, 12, 13, 14, 15, 16, 17] rfl) kk
          · have d2 : kw = 8 := (nI_eq (a := kw) (b := 8) (by omega) (by omega)).mp d2
            exact kC_alias hLE0 hLW0 hn hc hk1 hp hq hpq hv hn1 hs1 hkw hcl hsl (lv_sub hl [0, 1, 2, 3, 4, 5, 6, 7, 8, 9, 10, 11, 12, 13, 14, 15, 16, 17] rfl) kk
        · have d3 : kw = 7 := (nI_eq (a := kw) (b := 7) (by omega) (by omega)).mp d3
          exact kC_block hLE0 hLW0 hn hc hk1 hp hq hpq hv hn1 hs1 hkw hcl hsl (lv_sub hl [0, 1, 2, 3, 4, 5, 6, 7, 8, 9, 10, 11, 12, 13, 14, 15, 16, 17] rfl) kk
      · have d4 : kw = 6 := (nI_eq (a := kw) (b := 6) (by omega) (by omega)).mp d4
        exact kC_leave hLE0 hLW0 hn hc hk1 hp hq hpq hv hn1 hs1 hkw hcl hsl (lv_sub hl [0, 1, 2, 3, 4, 5, 6, 7, 8, 9, 10, 11, 12, 13, 14, 15, 16, 17] rfl) kk
    · have d5 : ¬ (6 ≤ kw) := fun q9 => d5 ((nI_leI (a := 6) (b := kw) (by omega) (by omega)).mpr q9)
      exact kC_answer hLE0 hLW0 hn hc hk1 hp hq hpq hv hn1 hs1 hkw hcl hsl (lv_sub hl [0, 1, 2, 3, 4, 5, 6, 7, 8, 9, 10, 11, 12, 13, 14, 15, 16, 17] rfl) kk
  · have d6 : ¬ (3 ≤ kw) := fun q9 => d6 ((nI_leI (a := 3) (b := kw) (by omega) (by omega)).mpr q9)
    exact kC_follow hLE0 hLW0 hn hc hk1 hp hq hpq hv hn1 hs1 hkw hcl hsl (lv_sub hl [0, 1, 2, 3, 4, 5, 6, 7, 8, 9, 10, 11, 12, 13, 14, 15, 16, 17] rfl) kk
