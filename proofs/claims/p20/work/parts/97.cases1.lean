/-! p20: the law's other cases -/

set_option maxHeartbeats 4000000 in
set_option maxRecDepth 100000 in
theorem kC_post {p : Program} {l : Launch} {e : Env} {s : State} {m : MethodId} {below : List Frame} {meth : Method} {c : Code} {b L : Nat} {xs : Nat → Int32} {A0 : Nat → Prop} {D : va_G} {cy : Nat → ClassId} {e0 mi vo ha ra ga nn nc cells slots : Nat} {hf af gf : Nat → Int32} {μ : Nat → Nat → Int32} {w : va_W} {H : Heap} {locs : List Loc} {ls : Array Slot} {Q : State → Prop} (hLE : LE p l s m c b L xs A0 D cy e0 mi) (hLW : LW s A0 D cy e0 vo ha ra ga hf af gf μ nn nc w H locs) (hn : nn ≤ 20) (hc : nc < 60) {k1 kw p1 v1 q1 n1 s1 : Nat} (hk1 : k1 < 60) (hp : p1 < 6) (hq : q1 < 6) (hpq : p1 ≠ q1) (hv : v1 < 960) (hn1 : 0 < nn → n1 < nn) (hs1 : s1 < 3) (hkw : kw < 22) (hcl : cells + 24 ≤ 600104) (hsl : slots + 24702 ≤ 7301314) (hl : lv_has ls 23 [(0, .ref b), (1, .ref vo), (2, .ref ha), (3, .ref ra), (4, .ref ga), (5, .int (nI 6)), (6, .int (nI nn)), (7, .int (nI 1)), (8, .int (nI k1)), (9, .int (nI kw)), (10, .int (nI p1)), (11, .int (nI v1)), (12, .int (nI q1)), (13, .int (nI n1)), (14, .int (nI s1)), (15, .int (nI (cD μ (tn (μ 2 p1)) nc))), (16, .int (nI (bt μ (tn (μ 2 p1)) p1 q1))), (17, .int (nI (bt μ (tn (μ 2 p1)) q1 p1)))]) (hn20 : nn < 20) (kk : ∀ (μ' : Nat → Nat → Int32) (nn' nc' : Nat) (w' : va_W) (af' gf' : Nat → Int32) (H' : Heap) (locs' : List Loc) (ls' : Array Slot), LW s A0 D cy e0 vo ha ra ga hf af' gf' μ' nn' nc' w' H' locs' → nn' ≤ 20 → nn ≤ nn' → nc' ≤ nc + 1 → lv_has ls' 23 [(0, .ref b), (1, .ref vo), (2, .ref ha), (3, .ref ra), (4, .ref ga), (5, .int (nI 6)), (6, .int (nI nn')), (7, .int (nI 1)), (8, .int (nI k1)), (10, .int (nI p1)), (12, .int (nI q1)), (13, .int (nI n1))] → W p l e room_1 s m #[Value.ref b] below meth c H' locs' (cells + 24) (slots + 24702) Q (F0 m 1129 ls' [])) : W p l e room_1 s m #[Value.ref b] below meth c H locs cells slots Q (F0 m 698 ls []) := by
  obtain ⟨⟨hx, hb, hml, hown, hts⟩, ⟨hX, hbl, hL, hfl, hA, hbA⟩, hE, hF, hZ⟩ := hLE
  obtain ⟨hP, hD, hS, hK, hA3⟩ := hLW
  have hh := hA3.1
  have haf := hA3.2.1
  have hgf := hA3.2.2
  have hh1 := hK.2.1.2.1 p1 hp
  have bw := bt_well (KK_I4 hK (tn (μ 2 p1)) (by omega)) (hK.2.2.2.2.1 (tn (μ 2 p1)) (by omega)) hp hq
  have bl1 := bt_lt μ (tn (μ 2 p1)) p1 q1
  have bl2 := bt_lt μ (tn (μ 2 p1)) q1 p1
  have bc1 := cD_le μ (tn (μ 2 p1)) nc
  refine lv_iload hx hb dL_law_698 (lv_at hl 6 rfl) ?_
  have Jm : ∀ (H : Heap) (locs : List Loc), va_P D vwCl (wJ (uA cy ha ra ga hf af gf) w) H → va_D A0 (wJ (uA cy ha ra ga hf af gf) w) → va_S A0 s.heap H locs → W p l e room_1 s m #[Value.ref b] below meth c H locs cells slots Q (F0 m 720 ls [.int ((-1))]) := by
    intro H locs hP hD hS
    refine lv_istore (lv' := [(18, .int ((-1))), (0, .ref b), (1, .ref vo), (2, .ref ha), (3, .ref ra), (4, .ref ga), (5, .int (nI 6)), (6, .int (nI nn)), (7, .int (nI 1)), (8, .int (nI k1)), (9, .int (nI kw)), (10, .int (nI p1)), (11, .int (nI v1)), (12, .int (nI q1)), (13, .int (nI n1)), (14, .int (nI s1)), (15, .int (nI (cD μ (tn (μ 2 p1)) nc))), (16, .int (nI (bt μ (tn (μ 2 p1)) p1 q1))), (17, .int (nI (bt μ (tn (μ 2 p1)) q1 p1)))]) hx hb dL_law_720 hl (by decide) rfl (fun ls hl => ?_)
    refine lv_aload_n hx hb dL_law_722 rfl (lv_at hl 2 rfl) ?_
    refine lv_iload hx hb dL_law_723 (lv_at hl 11 rfl) ?_
    refine lv_iload hx hb dL_law_725 (lv_at hl 12 rfl) ?_
    refine lv_iconst (v := 3) hx hb dL_law_727 (by decide) ?_
    refine vg_tp (nI 3) (by decide) ?_
    refine lv_irem hx hb dL_law_728 (by decide) ?_
    refine vg_tp (nI (v1 % 3)) (pk_rem (by omega) (by omega) (by omega)) ?_
    refine lv_iload hx hb dL_law_729 (lv_at hl 12 rfl) ?_
    refine lv_bipush (v := 15) hx hb dL_law_731 (by decide) ?_
    refine vg_tp (nI 15) (by decide) ?_
    refine lv_idiv hx hb dL_law_733 (by decide) ?_
    refine vg_tp (nI (v1 / 15)) (pk_div (by omega) (by omega) (by omega)) ?_
    refine lv_iload hx hb dL_law_734 (lv_at hl 0 rfl) ?_
    obtain ⟨hT, hg⟩ := pT_0 (r := (-1)) hK.2.1.1 hK.2.1.2.2.2 hn20 hp hv (Or.inl rfl)
    refine vQ_i (va_runV (As := [.int (nI p1), .int (nI (v1 % 3)), .int (nI (v1 / 15)), .int ((-1))]) (rest := []) ⟨hx, hb, hml, hown, hts⟩ (kN_post_0 l hfl D cy H.size e0 mi vo 130 μ w hK.1 (by omega) hK.2.1.1 ⟨hK.2.1.2.2.2, by omega⟩ hp (by omega) hg) (cwV 4 hts gL_law_X4_post rfl rfl rfl (by decide +kernel) ⟨Nat.le_of_ble_eq_true rfl, Nat.le_of_ble_eq_true rfl⟩) (vQ_pV hK.1 hE hF hZ hS hA hP hD) rfl rfl hl.1 rfl (lv_room (Nat.le_of_ble_eq_true rfl)) dL_law_736 ⟨by show cells + 12 ≤ 600104; omega, by show slots + 12351 ≤ 7301314; omega⟩) hP hD hS hA (fun r u H locs hk hP hD hS => ?_)
    obtain ⟨hk1a, hk2⟩ := hk
    subst hk1a
    obtain ⟨hK2, f2, f12, fG, hs5, hh0⟩ := c_post hK hn20 hc hp hT hk2
    refine lv_iload hx hb dL_law_739 (lv_at hl 7 rfl) ?_
    refine lv_icmp_ne (tgt := 771) hx hb dL_law_741 (by decide) (fun z9 => absurd ((nI_eq (a := nn) (b := nn) (by omega) (by omega)).mpr (by omega)) z9) (fun _ => ?_)
    refine lv_aload_n hx hb dL_law_744 rfl (lv_at hl 2 rfl) ?_
    refine lv_iload hx hb dL_law_745 (lv_at hl 11 rfl) ?_
    refine lv_iload hx hb dL_law_747 (lv_at hl 7 rfl) ?_
    refine vQ_r (va_runV (As := [.int (nI p1), .int (nI nn)]) (rest := []) ⟨hx, hb, hml, hown, hts⟩ (kN_sees l hfl D cy H.size e0 mi vo 130 (mPos μ (nI p1) (nI (v1 % 3)) (nI (v1 / 15)) ((-1))) u hK2.1 (by omega) hK2.2.1.1 ⟨hK2.2.1.2.2.2, by omega⟩ hp (show nn < nn + 1 by omega)) (cwV 2 hts gL_law_X4_sees rfl rfl rfl (by decide +kernel) ⟨Nat.le_of_ble_eq_true rfl, Nat.le_of_ble_eq_true rfl⟩) (vQ_pV hK2.1 hE hF hZ hS hA hP hD) rfl rfl hl.1 rfl (lv_room (Nat.le_of_ble_eq_true rfl)) dL_law_749 ⟨by show cells + 12 + 0 ≤ 600104; omega, by show slots + 12351 + 0 ≤ 7301314; omega⟩) hP hD hS hA (fun r _ H locs hk hP hD hS => ?_)
    subst hk
    refine lv_if_eq (tgt := 771) hx hb dL_law_752 (by decide) (fun z9 => absurd z9 (bI_n0.mpr hs5)) (fun _ => ?_)
    refine lv_aload_n hx hb dL_law_755 rfl (lv_at hl 2 rfl) ?_
    refine lv_iload hx hb dL_law_756 (lv_at hl 11 rfl) ?_
    refine lv_iconst (v := 0) hx hb dL_law_758 (by decide) ?_
    refine vg_tp (nI 0) (by decide) ?_
    refine vQ_r (va_runV (As := [.int (nI p1), .int (nI 0)]) (rest := []) ⟨hx, hb, hml, hown, hts⟩ (kN_home l hfl D cy H.size e0 mi vo 130 (mPos μ (nI p1) (nI (v1 % 3)) (nI (v1 / 15)) ((-1))) u hK2.1 (by omega) hK2.2.1.1 ⟨hK2.2.1.2.2.2, by omega⟩ hp (show 0 < 2 ^ 31 by decide)) (cwV 2 hts gL_law_X4_home rfl rfl rfl (by decide +kernel) ⟨Nat.le_of_ble_eq_true rfl, Nat.le_of_ble_eq_true rfl⟩) (vQ_pV hK2.1 hE hF hZ hS hA hP hD) rfl rfl hl.1 rfl (lv_room (Nat.le_of_ble_eq_true rfl)) dL_law_759 ⟨by show cells + 12 + 0 ≤ 600104; omega, by show slots + 12351 + 0 ≤ 7301314; omega⟩) hP hD hS hA (fun r _ H locs hk hP hD hS => ?_)
    have hk9 := hk
    rw [hh0] at hk9
    subst hk9
    refine lv_iload hx hb dL_law_762 (lv_at hl 7 rfl) ?_
    refine lv_icmp_ne (tgt := 771) hx hb dL_law_764 (by decide) (fun z9 => absurd ((nI_eq (a := nn) (b := nn) (by omega) (by omega)).mpr (by omega)) z9) (fun _ => ?_)
    refine lv_iconst (v := 1) hx hb dL_law_767 (by decide) ?_
    refine vg_tp (nI 1) (by decide) ?_
    refine lv_goto (tgt := 772) hx hb dL_law_768 (by decide) ?_
    refine lv_istore (lv' := [(7, .int (nI 1)), (18, .int ((-1))), (0, .ref b), (1, .ref vo), (2, .ref ha), (3, .ref ra), (4, .ref ga), (5, .int (nI 6)), (6, .int (nI nn)), (8, .int (nI k1)), (9, .int (nI kw)), (10, .int (nI p1)), (11, .int (nI v1)), (12, .int (nI q1)), (13, .int (nI n1)), (14, .int (nI s1)), (15, .int (nI (cD μ (tn (μ 2 p1)) nc))), (16, .int (nI (bt μ (tn (μ 2 p1)) p1 q1))), (17, .int (nI (bt μ (tn (μ 2 p1)) q1 p1)))]) hx hb dL_law_772 hl (by decide) rfl (fun ls hl => ?_)
    refine lv_aload_n hx hb dL_law_774 rfl (lv_at hl 5 rfl) ?_
    refine lv_iload hx hb dL_law_775 (lv_at hl 8 rfl) ?_
    refine lv_iload hx hb dL_law_777 (lv_at hl 11 rfl) ?_
    refine vg_iast hx hb hE.1 hP hD hS 1 0 rfl rfl (f := af) (j := nn) (by omega) (by decide) dL_law_779 (fun H locs hP hD hS => ?_)
    have hP : va_P D vwCl (wJ (uA cy ha ra ga hf (upd af nn (nI p1)) gf) u) H := hP
    have hD : va_D A0 (wJ (uA cy ha ra ga hf (upd af nn (nI p1)) gf) u) := hD
    refine lv_iinc (v := nI (nn + 1)) (lv' := [(6, .int (nI (nn + 1))), (7, .int (nI 1)), (18, .int ((-1))), (0, .ref b), (1, .ref vo), (2, .ref ha), (3, .ref ra), (4, .ref ga), (5, .int (nI 6)), (8, .int (nI k1)), (9, .int (nI kw)), (10, .int (nI p1)), (11, .int (nI v1)), (12, .int (nI q1)), (13, .int (nI n1)), (14, .int (nI s1)), (15, .int (nI (cD μ (tn (μ 2 p1)) nc))), (16, .int (nI (bt μ (tn (μ 2 p1)) p1 q1))), (17, .int (nI (bt μ (tn (μ 2 p1)) q1 p1)))]) hx hb dL_law_780 hl (k := 8) rfl (by rw [show Int32.ofInt 1 = nI 1 from by decide, nI_add]) (by decide) rfl (fun ls hl => ?_)
    refine lv_goto (tgt := 1129) hx hb dL_law_783 (by decide) ?_
    refine W.widen (k := cells + 24) (n := slots + 24702) (by omega) (by omega) ?_
    exact kk (mPos μ (nI p1) (nI (v1 % 3)) (nI (v1 / 15)) ((-1))) (nn + 1) (nc + 1) u ((upd af nn (nI p1))) gf H locs ls ⟨hP, hD, hS, hK2, LA3_pos hA3 (by omega) f2 f12 fG⟩ (by omega) (by omega) (by omega) (lv_sub hl [3, 4, 5, 6, 7, 8, 0, 1, 9, 11, 13, 14] rfl)
  refine lv_if_le (tgt := 719) hx hb dL_law_700 (by decide) (fun c1 => ?_) (fun c1 => ?_)
  · have c1 : nn ≤ 0 := (nI_leI (a := nn) (b := 0) (by omega) (by omega)).mp c1
    refine lv_iconst (v := (-1)) hx hb dL_law_719 (by decide) ?_
    exact Jm H locs hP hD hS
  · have c1 : ¬ (nn ≤ 0) := fun q9 => c1 ((nI_leI (a := nn) (b := 0) (by omega) (by omega)).mpr q9)
    have c1 : 0 < nn := by omega
    refine lv_aload_n hx hb dL_law_703 rfl (lv_at hl 1 rfl) ?_
    refine lv_iload hx hb dL_law_704 (lv_at hl 10 rfl) ?_
    refine lv_iload hx hb dL_law_706 (lv_at hl 13 rfl) ?_
    refine vQ_r (va_runV (As := [.int (nI p1), .int (nI n1)]) (rest := []) ⟨hx, hb, hml, hown, hts⟩ (kN_sees l hfl D cy H.size e0 mi vo 130 μ w hK.1 (by omega) hK.2.1.1 ⟨hK.2.1.2.2.2, by omega⟩ hp (hn1 c1)) (cwV 2 hts gL_law_X4_sees rfl rfl rfl (by decide +kernel) ⟨Nat.le_of_ble_eq_true rfl, Nat.le_of_ble_eq_true rfl⟩) (vQ_pV hK.1 hE hF hZ hS hA hP hD) rfl rfl hl.1 rfl (lv_room (Nat.le_of_ble_eq_true rfl)) dL_law_708 ⟨by show cells + 0 ≤ 600104; omega, by show slots + 0 ≤ 7301314; omega⟩) hP hD hS hA (fun r _ H locs hk hP hD hS => ?_)
    subst hk
    refine lv_if_eq (tgt := 719) hx hb dL_law_711 (by decide) (fun c2 => ?_) (fun c2 => ?_)
    · refine lv_iconst (v := (-1)) hx hb dL_law_719 (by decide) ?_
      exact Jm H locs hP hD hS
    · have hse : mSeen μ p1 n1 = true := bI_n0.mp c2
      refine lv_iload hx hb dL_law_714 (lv_at hl 13 rfl) ?_
      refine lv_goto (tgt := 720) hx hb dL_law_716 (by decide) ?_
      refine lv_istore (lv' := [(18, .int (nI n1)), (0, .ref b), (1, .ref vo), (2, .ref ha), (3, .ref ra), (4, .ref ga), (5, .int (nI 6)), (6, .int (nI nn)), (7, .int (nI 1)), (8, .int (nI k1)), (9, .int (nI kw)), (10, .int (nI p1)), (11, .int (nI v1)), (12, .int (nI q1)), (13, .int (nI n1)), (14, .int (nI s1)), (15, .int (nI (cD μ (tn (μ 2 p1)) nc))), (16, .int (nI (bt μ (tn (μ 2 p1)) p1 q1))), (17, .int (nI (bt μ (tn (μ 2 p1)) q1 p1)))]) hx hb dL_law_720 hl (by decide) rfl (fun ls hl => ?_)
      refine lv_aload_n hx hb dL_law_722 rfl (lv_at hl 2 rfl) ?_
      refine lv_iload hx hb dL_law_723 (lv_at hl 11 rfl) ?_
      refine lv_iload hx hb dL_law_725 (lv_at hl 12 rfl) ?_
      refine lv_iconst (v := 3) hx hb dL_law_727 (by decide) ?_
      refine vg_tp (nI 3) (by decide) ?_
      refine lv_irem hx hb dL_law_728 (by decide) ?_
      refine vg_tp (nI (v1 % 3)) (pk_rem (by omega) (by omega) (by omega)) ?_
      refine lv_iload hx hb dL_law_729 (lv_at hl 12 rfl) ?_
      refine lv_bipush (v := 15) hx hb dL_law_731 (by decide) ?_
      refine vg_tp (nI 15) (by decide) ?_
      refine lv_idiv hx hb dL_law_733 (by decide) ?_
      refine vg_tp (nI (v1 / 15)) (pk_div (by omega) (by omega) (by omega)) ?_
      refine lv_iload hx hb dL_law_734 (lv_at hl 0 rfl) ?_
      obtain ⟨hT, hg⟩ := pT_0 (r := nI n1) hK.2.1.1 hK.2.1.2.2.2 hn20 hp hv (Or.inr ⟨n1, hn1 c1, rfl, hse⟩)
      refine vQ_i (va_runV (As := [.int (nI p1), .int (nI (v1 % 3)), .int (nI (v1 / 15)), .int (nI n1)]) (rest := []) ⟨hx, hb, hml, hown, hts⟩ (kN_post_r l hfl D cy H.size e0 mi vo 130 μ w hK.1 (by omega) hK.2.1.1 ⟨hK.2.1.2.2.2, by omega⟩ hp (by omega) hg (hn1 c1) hse) (cwV 4 hts gL_law_X4_post rfl rfl rfl (by decide +kernel) ⟨Nat.le_of_ble_eq_true rfl, Nat.le_of_ble_eq_true rfl⟩) (vQ_pV hK.1 hE hF hZ hS hA hP hD) rfl rfl hl.1 rfl (lv_room (Nat.le_of_ble_eq_true rfl)) dL_law_736 ⟨by show cells + 12 ≤ 600104; omega, by show slots + 12351 ≤ 7301314; omega⟩) hP hD hS hA (fun r u H locs hk hP hD hS => ?_)
      obtain ⟨hk1a, hk2⟩ := hk
      subst hk1a
      obtain ⟨hK2, f2, f12, fG, hs5, hh0⟩ := c_post hK hn20 hc hp hT hk2
      refine lv_iload hx hb dL_law_739 (lv_at hl 7 rfl) ?_
      refine lv_icmp_ne (tgt := 771) hx hb dL_law_741 (by decide) (fun z9 => absurd ((nI_eq (a := nn) (b := nn) (by omega) (by omega)).mpr (by omega)) z9) (fun _ => ?_)
      refine lv_aload_n hx hb dL_law_744 rfl (lv_at hl 2 rfl) ?_
      refine lv_iload hx hb dL_law_745 (lv_at hl 11 rfl) ?_
      refine lv_iload hx hb dL_law_747 (lv_at hl 7 rfl) ?_
      refine vQ_r (va_runV (As := [.int (nI p1), .int (nI nn)]) (rest := []) ⟨hx, hb, hml, hown, hts⟩ (kN_sees l hfl D cy H.size e0 mi vo 130 (mPos μ (nI p1) (nI (v1 % 3)) (nI (v1 / 15)) (nI n1)) u hK2.1 (by omega) hK2.2.1.1 ⟨hK2.2.1.2.2.2, by omega⟩ hp (show nn < nn + 1 by omega)) (cwV 2 hts gL_law_X4_sees rfl rfl rfl (by decide +kernel) ⟨Nat.le_of_ble_eq_true rfl, Nat.le_of_ble_eq_true rfl⟩) (vQ_pV hK2.1 hE hF hZ hS hA hP hD) rfl rfl hl.1 rfl (lv_room (Nat.le_of_ble_eq_true rfl)) dL_law_749 ⟨by show cells + 12 + 0 ≤ 600104; omega, by show slots + 12351 + 0 ≤ 7301314; omega⟩) hP hD hS hA (fun r _ H locs hk hP hD hS => ?_)
      subst hk
      refine lv_if_eq (tgt := 771) hx hb dL_law_752 (by decide) (fun z9 => absurd z9 (bI_n0.mpr hs5)) (fun _ => ?_)
      refine lv_aload_n hx hb dL_law_755 rfl (lv_at hl 2 rfl) ?_
      refine lv_iload hx hb dL_law_756 (lv_at hl 11 rfl) ?_
      refine lv_iconst (v := 0) hx hb dL_law_758 (by decide) ?_
      refine vg_tp (nI 0) (by decide) ?_
      refine vQ_r (va_runV (As := [.int (nI p1), .int (nI 0)]) (rest := []) ⟨hx, hb, hml, hown, hts⟩ (kN_home l hfl D cy H.size e0 mi vo 130 (mPos μ (nI p1) (nI (v1 % 3)) (nI (v1 / 15)) (nI n1)) u hK2.1 (by omega) hK2.2.1.1 ⟨hK2.2.1.2.2.2, by omega⟩ hp (show 0 < 2 ^ 31 by decide)) (cwV 2 hts gL_law_X4_home rfl rfl rfl (by decide +kernel) ⟨Nat.le_of_ble_eq_true rfl, Nat.le_of_ble_eq_true rfl⟩) (vQ_pV hK2.1 hE hF hZ hS hA hP hD) rfl rfl hl.1 rfl (lv_room (Nat.le_of_ble_eq_true rfl)) dL_law_759 ⟨by show cells + 12 + 0 ≤ 600104; omega, by show slots + 12351 + 0 ≤ 7301314; omega⟩) hP hD hS hA (fun r _ H locs hk hP hD hS => ?_)
      have hk9 := hk
      rw [hh0] at hk9
      subst hk9
      refine lv_iload hx hb dL_law_762 (lv_at hl 7 rfl) ?_
      refine lv_icmp_ne (tgt := 771) hx hb dL_law_764 (by decide) (fun z9 => absurd ((nI_eq (a := nn) (b := nn) (by omega) (by omega)).mpr (by omega)) z9) (fun _ => ?_)
      refine lv_iconst (v := 1) hx hb dL_law_767 (by decide) ?_
      refine vg_tp (nI 1) (by decide) ?_
      refine lv_goto (tgt := 772) hx hb dL_law_768 (by decide) ?_
      refine lv_istore (lv' := [(7, .int (nI 1)), (18, .int (nI n1)), (0, .ref b), (1, .ref vo), (2, .ref ha), (3, .ref ra), (4, .ref ga), (5, .int (nI 6)), (6, .int (nI nn)), (8, .int (nI k1)), (9, .int (nI kw)), (10, .int (nI p1)), (11, .int (nI v1)), (12, .int (nI q1)), (13, .int (nI n1)), (14, .int (nI s1)), (15, .int (nI (cD μ (tn (μ 2 p1)) nc))), (16, .int (nI (bt μ (tn (μ 2 p1)) p1 q1))), (17, .int (nI (bt μ (tn (μ 2 p1)) q1 p1)))]) hx hb dL_law_772 hl (by decide) rfl (fun ls hl => ?_)
      refine lv_aload_n hx hb dL_law_774 rfl (lv_at hl 5 rfl) ?_
      refine lv_iload hx hb dL_law_775 (lv_at hl 8 rfl) ?_
      refine lv_iload hx hb dL_law_777 (lv_at hl 11 rfl) ?_
      refine vg_iast hx hb hE.1 hP hD hS 1 0 rfl rfl (f := af) (j := nn) (by omega) (by decide) dL_law_779 (fun H locs hP hD hS => ?_)
      have hP : va_P D vwCl (wJ (uA cy ha ra ga hf (upd af nn (nI p1)) gf) u) H := hP
      have hD : va_D A0 (wJ (uA cy ha ra ga hf (upd af nn (nI p1)) gf) u) := hD
      refine lv_iinc (v := nI (nn + 1)) (lv' := [(6, .int (nI (nn + 1))), (7, .int (nI 1)), (18, .int (nI n1)), (0, .ref b), (1, .ref vo), (2, .ref ha), (3, .ref ra), (4, .ref ga), (5, .int (nI 6)), (8, .int (nI k1)), (9, .int (nI kw)), (10, .int (nI p1)), (11, .int (nI v1)), (12, .int (nI q1)), (13, .int (nI n1)), (14, .int (nI s1)), (15, .int (nI (cD μ (tn (μ 2 p1)) nc))), (16, .int (nI (bt μ (tn (μ 2 p1)) p1 q1))), (17, .int (nI (bt μ (tn (μ 2 p1)) q1 p1)))]) hx hb dL_law_780 hl (k := 8) rfl (by rw [show Int32.ofInt 1 = nI 1 from by decide, nI_add]) (by decide) rfl (fun ls hl => ?_)
      refine lv_goto (tgt := 1129) hx hb dL_law_783 (by decide) ?_
      refine W.widen (k := cells + 24) (n := slots + 24702) (by omega) (by omega) ?_
      exact kk (mPos μ (nI p1) (nI (v1 % 3)) (nI (v1 / 15)) (nI n1)) (nn + 1) (nc + 1) u ((upd af nn (nI p1))) gf H locs ls ⟨hP, hD, hS, hK2, LA3_pos hA3 (by omega) f2 f12 fG⟩ (by omega) (by omega) (by omega) (lv_sub hl [3, 4, 5, 6, 7, 8, 0, 1, 9, 11, 13, 14] rfl)

set_option maxHeartbeats 4000000 in
set_option maxRecDepth 100000 in
theorem kC_delete {p : Program} {l : Launch} {e : Env} {s : State} {m : MethodId} {below : List Frame} {meth : Method} {c : Code} {b L : Nat} {xs : Nat → Int32} {A0 : Nat → Prop} {D : va_G} {cy : Nat → ClassId} {e0 mi vo ha ra ga nn nc cells slots : Nat} {hf af gf : Nat → Int32} {μ : Nat → Nat → Int32} {w : va_W} {H : Heap} {locs : List Loc} {ls : Array Slot} {Q : State → Prop} (hLE : LE p l s m c b L xs A0 D cy e0 mi) (hLW : LW s A0 D cy e0 vo ha ra ga hf af gf μ nn nc w H locs) (hn : nn ≤ 20) (hc : nc < 60) {k1 kw p1 v1 q1 n1 s1 : Nat} (hk1 : k1 < 60) (hp : p1 < 6) (hq : q1 < 6) (hpq : p1 ≠ q1) (hv : v1 < 960) (hn1 : 0 < nn → n1 < nn) (hs1 : s1 < 3) (hkw : kw < 22) (hcl : cells + 24 ≤ 600104) (hsl : slots + 24702 ≤ 7301314) (hl : lv_has ls 23 [(0, .ref b), (1, .ref vo), (2, .ref ha), (3, .ref ra), (4, .ref ga), (5, .int (nI 6)), (6, .int (nI nn)), (7, .int (nI 1)), (8, .int (nI k1)), (9, .int (nI kw)), (10, .int (nI p1)), (11, .int (nI v1)), (12, .int (nI q1)), (13, .int (nI n1)), (14, .int (nI s1)), (15, .int (nI (cD μ (tn (μ 2 p1)) nc))), (16, .int (nI (bt μ (tn (μ 2 p1)) p1 q1))), (17, .int (nI (bt μ (tn (μ 2 p1)) q1 p1)))]) (hn0 : 0 < nn) (kk : ∀ (μ' : Nat → Nat → Int32) (nn' nc' : Nat) (w' : va_W) (af' gf' : Nat → Int32) (H' : Heap) (locs' : List Loc) (ls' : Array Slot), LW s A0 D cy e0 vo ha ra ga hf af' gf' μ' nn' nc' w' H' locs' → nn' ≤ 20 → nn ≤ nn' → nc' ≤ nc + 1 → lv_has ls' 23 [(0, .ref b), (1, .ref vo), (2, .ref ha), (3, .ref ra), (4, .ref ga), (5, .int (nI 6)), (6, .int (nI nn')), (7, .int (nI 1)), (8, .int (nI k1)), (10, .int (nI p1)), (12, .int (nI q1)), (13, .int (nI n1))] → W p l e room_1 s m #[Value.ref b] below meth c H' locs' (cells + 24) (slots + 24702) Q (F0 m 1129 ls' [])) : W p l e room_1 s m #[Value.ref b] below meth c H locs cells slots Q (F0 m 798 ls []) := by
  obtain ⟨⟨hx, hb, hml, hown, hts⟩, ⟨hX, hbl, hL, hfl, hA, hbA⟩, hE, hF, hZ⟩ := hLE
  obtain ⟨hP, hD, hS, hK, hA3⟩ := hLW
  have hh := hA3.1
  have haf := hA3.2.1
  have hgf := hA3.2.2
  have hh1 := hK.2.1.2.1 p1 hp
  have bw := bt_well (KK_I4 hK (tn (μ 2 p1)) (by omega)) (hK.2.2.2.2.1 (tn (μ 2 p1)) (by omega)) hp hq
  have bl1 := bt_lt μ (tn (μ 2 p1)) p1 q1
  have bl2 := bt_lt μ (tn (μ 2 p1)) q1 p1
  have bc1 := cD_le μ (tn (μ 2 p1)) nc
  refine lv_aload_n hx hb dL_law_798 rfl (lv_at hl 1 rfl) ?_
  refine lv_iload hx hb dL_law_799 (lv_at hl 13 rfl) ?_
  have hi := hn1 hn0
  have hau := (hK.2.2.2.2.2.2.2.2.1 n1 hi).1
  have hah := J_home hK.2.1 hK.2.2.2.2.2.2.2.2.1 hi
  refine vQ_i (vx_runSW (As := [.ref vo, .int (nI n1)]) (rest := []) ⟨hx, hb, hml, hown, hts⟩ (kN_deletes l hfl D cy H.size e0 mi vo 130 μ w hK.1 (by omega) hK.2.1.1 ⟨hK.2.1.2.2.2, by omega⟩ hi) (vx_cwSW 2 hts gL_law_L_deletes rfl rfl rfl (by decide +kernel) ⟨Nat.le_of_ble_eq_true rfl, Nat.le_of_ble_eq_true rfl⟩) (vQ_pS hE hF hZ hS hA hP hD) rfl rfl hl.1 rfl (lv_room (Nat.le_of_ble_eq_true rfl)) dL_law_801 ⟨by show cells + 12 ≤ 600104; omega, by show slots + 12351 ≤ 7301314; omega⟩) hP hD hS hA (fun r u H locs hk hP hD hS => ?_)
  obtain ⟨hk1a, hk2⟩ := hk
  obtain ⟨nc2, a1, hK2, ⟨f2, f12, fG⟩, fr⟩ := c_delete hK hn hc hi hk2 r hk1a
  clear hk1a
  rcases fr with ⟨g0, k9, hk9, ek⟩ | ⟨g0, ek⟩
  · subst ek
    refine lv_istore (lv' := [(18, .int (nI k9)), (0, .ref b), (1, .ref vo), (2, .ref ha), (3, .ref ra), (4, .ref ga), (5, .int (nI 6)), (6, .int (nI nn)), (7, .int (nI 1)), (8, .int (nI k1)), (9, .int (nI kw)), (10, .int (nI p1)), (11, .int (nI v1)), (12, .int (nI q1)), (13, .int (nI n1)), (14, .int (nI s1)), (15, .int (nI (cD μ (tn (μ 2 p1)) nc))), (16, .int (nI (bt μ (tn (μ 2 p1)) p1 q1))), (17, .int (nI (bt μ (tn (μ 2 p1)) q1 p1)))]) hx hb dL_law_804 hl (by decide) rfl (fun ls hl => ?_)
    refine lv_iload hx hb dL_law_806 (lv_at hl 0 rfl) ?_
    refine lv_if_lt (tgt := 815) hx hb dL_law_808 (by decide) (fun z9 => absurd z9 (fun q9 => absurd ((nI_ltI (a := k9) (b := 0) (by omega) (by omega)).mp q9) (by omega))) (fun _ => ?_)
    refine lv_iconst (v := 1) hx hb dL_law_811 (by decide) ?_
    refine vg_tp (nI 1) (by decide) ?_
    refine lv_goto (tgt := 816) hx hb dL_law_812 (by decide) ?_
    refine lv_aload hx hb dL_law_816 (lv_at hl 5 rfl) ?_
    refine lv_iload hx hb dL_law_818 (lv_at hl 14 rfl) ?_
    refine vg_iald hx hb hE.1 hP 2 0 rfl rfl (f := gf) (j := n1) (by omega) (by decide) dL_law_820 ?_
    refine lv_if_ne (tgt := 828) hx hb dL_law_821 (by decide) (fun z9 => absurd ((hgf n1 (by omega)).mpr g0) z9) (fun _ => ?_)
    refine lv_iconst (v := 1) hx hb dL_law_824 (by decide) ?_
    refine vg_tp (nI 1) (by decide) ?_
    refine lv_goto (tgt := 829) hx hb dL_law_825 (by decide) ?_
    refine lv_icmp_ne (tgt := 855) hx hb dL_law_829 (by decide) (fun z9 => absurd ((nI_eq (a := 1) (b := 1) (by omega) (by omega)).mpr (by omega)) z9) (fun _ => ?_)
    refine lv_iload hx hb dL_law_832 (lv_at hl 0 rfl) ?_
    refine lv_iconst (v := 3) hx hb dL_law_834 (by decide) ?_
    refine vg_tp (nI 3) (by decide) ?_
    refine lv_icmp_gt (tgt := 855) hx hb dL_law_835 (by decide) (fun z9 => absurd z9 (fun q9 => absurd ((nI_ltI (a := 3) (b := k9) (by omega) (by omega)).mp q9) (by omega))) (fun _ => ?_)
    refine lv_aload_n hx hb dL_law_838 rfl (lv_at hl 2 rfl) ?_
    refine lv_aload_n hx hb dL_law_839 rfl (lv_at hl 4 rfl) ?_
    refine lv_iload hx hb dL_law_840 (lv_at hl 14 rfl) ?_
    refine vg_iald hx hb hE.1 hP 1 0 rfl rfl (f := af) (j := n1) (by omega) (by decide) dL_law_842 ?_
    refine vg_tp (nI (tn (μ 12 n1))) (haf n1 (by omega)) ?_
    refine lv_iload hx hb dL_law_843 (lv_at hl 14 rfl) ?_
    refine vQ_r (va_runV (As := [.int (nI (tn (μ 12 n1))), .int (nI n1)]) (rest := []) ⟨hx, hb, hml, hown, hts⟩ (kN_sees l hfl D cy H.size e0 mi vo 130 (mDel μ (nI n1)) u hK2.1 (by omega) hK2.2.1.1 ⟨hK2.2.1.2.2.2, by omega⟩ hau hi) (cwV 2 hts gL_law_X4_sees rfl rfl rfl (by decide +kernel) ⟨Nat.le_of_ble_eq_true rfl, Nat.le_of_ble_eq_true rfl⟩) (vQ_pV hK2.1 hE hF hZ hS hA hP hD) rfl rfl hl.1 rfl (lv_room (Nat.le_of_ble_eq_true rfl)) dL_law_845 ⟨by show cells + 12 + 0 ≤ 600104; omega, by show slots + 12351 + 0 ≤ 7301314; omega⟩) hP hD hS hA (fun r _ H locs hk hP hD hS => ?_)
    subst hk
    have hsf : mSeen (mDel μ (nI n1)) (tn (μ 12 n1)) n1 = false := seen_gone hK2.2.2.2.2.2.1 (by omega) (by rw [f12, f2]; omega) ((fG n1 (by omega)).mpr (Or.inl rfl)) (by rw [f12])
    refine lv_if_ne (tgt := 855) hx hb dL_law_848 (by decide) (fun z9 => absurd (bI_0.mpr hsf) z9) (fun _ => ?_)
    refine lv_iconst (v := 1) hx hb dL_law_851 (by decide) ?_
    refine vg_tp (nI 1) (by decide) ?_
    refine lv_goto (tgt := 856) hx hb dL_law_852 (by decide) ?_
    refine lv_istore (lv' := [(7, .int (nI 1)), (18, .int (nI k9)), (0, .ref b), (1, .ref vo), (2, .ref ha), (3, .ref ra), (4, .ref ga), (5, .int (nI 6)), (6, .int (nI nn)), (8, .int (nI k1)), (9, .int (nI kw)), (10, .int (nI p1)), (11, .int (nI v1)), (12, .int (nI q1)), (13, .int (nI n1)), (14, .int (nI s1)), (15, .int (nI (cD μ (tn (μ 2 p1)) nc))), (16, .int (nI (bt μ (tn (μ 2 p1)) p1 q1))), (17, .int (nI (bt μ (tn (μ 2 p1)) q1 p1)))]) hx hb dL_law_856 hl (by decide) rfl (fun ls hl => ?_)
    refine lv_aload hx hb dL_law_858 (lv_at hl 6 rfl) ?_
    refine lv_iload hx hb dL_law_860 (lv_at hl 14 rfl) ?_
    refine lv_iconst (v := 1) hx hb dL_law_862 (by decide) ?_
    refine vg_tp (nI 1) (by decide) ?_
    refine vg_iast hx hb hE.1 hP hD hS 2 0 rfl rfl (f := gf) (j := n1) (by omega) (by decide) dL_law_863 (fun H locs hP hD hS => ?_)
    have hP : va_P D vwCl (wJ (uA cy ha ra ga hf af (upd gf n1 (nI 1))) u) H := hP
    have hD : va_D A0 (wJ (uA cy ha ra ga hf af (upd gf n1 (nI 1))) u) := hD
    refine lv_goto (tgt := 1129) hx hb dL_law_864 (by decide) ?_
    refine W.widen (k := cells + 24) (n := slots + 24702) (by omega) (by omega) ?_
    exact kk (mDel μ (nI n1)) nn nc2 u af ((upd gf n1 (nI 1))) H locs ls ⟨hP, hD, hS, hK2, LA3_del hA3 f2 f12 fG⟩ (by omega) (by omega) (by omega) (lv_sub hl [2, 3, 4, 5, 6, 7, 8, 0, 9, 11, 13, 14] rfl)
  · subst ek
    refine lv_istore (lv' := [(18, .int ((-1))), (0, .ref b), (1, .ref vo), (2, .ref ha), (3, .ref ra), (4, .ref ga), (5, .int (nI 6)), (6, .int (nI nn)), (7, .int (nI 1)), (8, .int (nI k1)), (9, .int (nI kw)), (10, .int (nI p1)), (11, .int (nI v1)), (12, .int (nI q1)), (13, .int (nI n1)), (14, .int (nI s1)), (15, .int (nI (cD μ (tn (μ 2 p1)) nc))), (16, .int (nI (bt μ (tn (μ 2 p1)) p1 q1))), (17, .int (nI (bt μ (tn (μ 2 p1)) q1 p1)))]) hx hb dL_law_804 hl (by decide) rfl (fun ls hl => ?_)
    refine lv_iload hx hb dL_law_806 (lv_at hl 0 rfl) ?_
    refine lv_if_lt (tgt := 815) hx hb dL_law_808 (by decide) (fun _ => ?_) (fun z9 => absurd (show (-1 : Int32) < 0 by decide) z9)
    refine lv_iconst (v := 0) hx hb dL_law_815 (by decide) ?_
    refine vg_tp (nI 0) (by decide) ?_
    refine lv_aload hx hb dL_law_816 (lv_at hl 5 rfl) ?_
    refine lv_iload hx hb dL_law_818 (lv_at hl 14 rfl) ?_
    refine vg_iald hx hb hE.1 hP 2 0 rfl rfl (f := gf) (j := n1) (by omega) (by decide) dL_law_820 ?_
    refine lv_if_ne (tgt := 828) hx hb dL_law_821 (by decide) (fun _ => ?_) (fun z9 => absurd z9 (fun z => (hgf n1 (by omega)).mp z g0))
    refine lv_iconst (v := 0) hx hb dL_law_828 (by decide) ?_
    refine vg_tp (nI 0) (by decide) ?_
    refine lv_icmp_ne (tgt := 855) hx hb dL_law_829 (by decide) (fun z9 => absurd ((nI_eq (a := 0) (b := 0) (by omega) (by omega)).mpr (by omega)) z9) (fun _ => ?_)
    refine lv_iload hx hb dL_law_832 (lv_at hl 0 rfl) ?_
    refine lv_iconst (v := 3) hx hb dL_law_834 (by decide) ?_
    refine vg_tp (nI 3) (by decide) ?_
    refine lv_icmp_gt (tgt := 855) hx hb dL_law_835 (by decide) (fun z9 => absurd z9 (show ¬ nI 3 < (-1 : Int32) by decide)) (fun _ => ?_)
    refine lv_aload_n hx hb dL_law_838 rfl (lv_at hl 2 rfl) ?_
    refine lv_aload_n hx hb dL_law_839 rfl (lv_at hl 4 rfl) ?_
    refine lv_iload hx hb dL_law_840 (lv_at hl 14 rfl) ?_
    refine vg_iald hx hb hE.1 hP 1 0 rfl rfl (f := af) (j := n1) (by omega) (by decide) dL_law_842 ?_
    refine vg_tp (nI (tn (μ 12 n1))) (haf n1 (by omega)) ?_
    refine lv_iload hx hb dL_law_843 (lv_at hl 14 rfl) ?_
    refine vQ_r (va_runV (As := [.int (nI (tn (μ 12 n1))), .int (nI n1)]) (rest := []) ⟨hx, hb, hml, hown, hts⟩ (kN_sees l hfl D cy H.size e0 mi vo 130 (mDel μ (nI n1)) u hK2.1 (by omega) hK2.2.1.1 ⟨hK2.2.1.2.2.2, by omega⟩ hau hi) (cwV 2 hts gL_law_X4_sees rfl rfl rfl (by decide +kernel) ⟨Nat.le_of_ble_eq_true rfl, Nat.le_of_ble_eq_true rfl⟩) (vQ_pV hK2.1 hE hF hZ hS hA hP hD) rfl rfl hl.1 rfl (lv_room (Nat.le_of_ble_eq_true rfl)) dL_law_845 ⟨by show cells + 12 + 0 ≤ 600104; omega, by show slots + 12351 + 0 ≤ 7301314; omega⟩) hP hD hS hA (fun r _ H locs hk hP hD hS => ?_)
    subst hk
    have hsf : mSeen (mDel μ (nI n1)) (tn (μ 12 n1)) n1 = false := seen_gone hK2.2.2.2.2.2.1 (by omega) (by rw [f12, f2]; omega) ((fG n1 (by omega)).mpr (Or.inl rfl)) (by rw [f12])
    refine lv_if_ne (tgt := 855) hx hb dL_law_848 (by decide) (fun z9 => absurd (bI_0.mpr hsf) z9) (fun _ => ?_)
    refine lv_iconst (v := 1) hx hb dL_law_851 (by decide) ?_
    refine vg_tp (nI 1) (by decide) ?_
    refine lv_goto (tgt := 856) hx hb dL_law_852 (by decide) ?_
    refine lv_istore (lv' := [(7, .int (nI 1)), (18, .int ((-1))), (0, .ref b), (1, .ref vo), (2, .ref ha), (3, .ref ra), (4, .ref ga), (5, .int (nI 6)), (6, .int (nI nn)), (8, .int (nI k1)), (9, .int (nI kw)), (10, .int (nI p1)), (11, .int (nI v1)), (12, .int (nI q1)), (13, .int (nI n1)), (14, .int (nI s1)), (15, .int (nI (cD μ (tn (μ 2 p1)) nc))), (16, .int (nI (bt μ (tn (μ 2 p1)) p1 q1))), (17, .int (nI (bt μ (tn (μ 2 p1)) q1 p1)))]) hx hb dL_law_856 hl (by decide) rfl (fun ls hl => ?_)
    refine lv_aload hx hb dL_law_858 (lv_at hl 6 rfl) ?_
    refine lv_iload hx hb dL_law_860 (lv_at hl 14 rfl) ?_
    refine lv_iconst (v := 1) hx hb dL_law_862 (by decide) ?_
    refine vg_tp (nI 1) (by decide) ?_
    refine vg_iast hx hb hE.1 hP hD hS 2 0 rfl rfl (f := gf) (j := n1) (by omega) (by decide) dL_law_863 (fun H locs hP hD hS => ?_)
    have hP : va_P D vwCl (wJ (uA cy ha ra ga hf af (upd gf n1 (nI 1))) u) H := hP
    have hD : va_D A0 (wJ (uA cy ha ra ga hf af (upd gf n1 (nI 1))) u) := hD
    refine lv_goto (tgt := 1129) hx hb dL_law_864 (by decide) ?_
    refine W.widen (k := cells + 24) (n := slots + 24702) (by omega) (by omega) ?_
    exact kk (mDel μ (nI n1)) nn nc2 u af ((upd gf n1 (nI 1))) H locs ls ⟨hP, hD, hS, hK2, LA3_del hA3 f2 f12 fG⟩ (by omega) (by omega) (by omega) (lv_sub hl [2, 3, 4, 5, 6, 7, 8, 0, 9, 11, 13, 14] rfl)

set_option maxHeartbeats 4000000 in
set_option maxRecDepth 100000 in
theorem kC_boost {p : Program} {l : Launch} {e : Env} {s : State} {m : MethodId} {below : List Frame} {meth : Method} {c : Code} {b L : Nat} {xs : Nat → Int32} {A0 : Nat → Prop} {D : va_G} {cy : Nat → ClassId} {e0 mi vo ha ra ga nn nc cells slots : Nat} {hf af gf : Nat → Int32} {μ : Nat → Nat → Int32} {w : va_W} {H : Heap} {locs : List Loc} {ls : Array Slot} {Q : State → Prop} (hLE : LE p l s m c b L xs A0 D cy e0 mi) (hLW : LW s A0 D cy e0 vo ha ra ga hf af gf μ nn nc w H locs) (hn : nn ≤ 20) (hc : nc < 60) {k1 kw p1 v1 q1 n1 s1 : Nat} (hk1 : k1 < 60) (hp : p1 < 6) (hq : q1 < 6) (hpq : p1 ≠ q1) (hv : v1 < 960) (hn1 : 0 < nn → n1 < nn) (hs1 : s1 < 3) (hkw : kw < 22) (hcl : cells + 24 ≤ 600104) (hsl : slots + 24702 ≤ 7301314) (hl : lv_has ls 23 [(0, .ref b), (1, .ref vo), (2, .ref ha), (3, .ref ra), (4, .ref ga), (5, .int (nI 6)), (6, .int (nI nn)), (7, .int (nI 1)), (8, .int (nI k1)), (9, .int (nI kw)), (10, .int (nI p1)), (11, .int (nI v1)), (12, .int (nI q1)), (13, .int (nI n1)), (14, .int (nI s1)), (15, .int (nI (cD μ (tn (μ 2 p1)) nc))), (16, .int (nI (bt μ (tn (μ 2 p1)) p1 q1))), (17, .int (nI (bt μ (tn (μ 2 p1)) q1 p1)))]) (hn0 : 0 < nn) (kk : ∀ (μ' : Nat → Nat → Int32) (nn' nc' : Nat) (w' : va_W) (af' gf' : Nat → Int32) (H' : Heap) (locs' : List Loc) (ls' : Array Slot), LW s A0 D cy e0 vo ha ra ga hf af' gf' μ' nn' nc' w' H' locs' → nn' ≤ 20 → nn ≤ nn' → nc' ≤ nc + 1 → lv_has ls' 23 [(0, .ref b), (1, .ref vo), (2, .ref ha), (3, .ref ra), (4, .ref ga), (5, .int (nI 6)), (6, .int (nI nn')), (7, .int (nI 1)), (8, .int (nI k1)), (10, .int (nI p1)), (12, .int (nI q1)), (13, .int (nI n1))] → W p l e room_1 s m #[Value.ref b] below meth c H' locs' (cells + 24) (slots + 24702) Q (F0 m 1129 ls' [])) : W p l e room_1 s m #[Value.ref b] below meth c H locs cells slots Q (F0 m 879 ls []) := by
  obtain ⟨⟨hx, hb, hml, hown, hts⟩, ⟨hX, hbl, hL, hfl, hA, hbA⟩, hE, hF, hZ⟩ := hLE
  obtain ⟨hP, hD, hS, hK, hA3⟩ := hLW
  have hh := hA3.1
  have haf := hA3.2.1
  have hgf := hA3.2.2
  have hh1 := hK.2.1.2.1 p1 hp
  have bw := bt_well (KK_I4 hK (tn (μ 2 p1)) (by omega)) (hK.2.2.2.2.1 (tn (μ 2 p1)) (by omega)) hp hq
  have bl1 := bt_lt μ (tn (μ 2 p1)) p1 q1
  have bl2 := bt_lt μ (tn (μ 2 p1)) q1 p1
  have bc1 := cD_le μ (tn (μ 2 p1)) nc
  refine lv_aload_n hx hb dL_law_879 rfl (lv_at hl 1 rfl) ?_
  refine lv_iload hx hb dL_law_880 (lv_at hl 10 rfl) ?_
  refine lv_iload hx hb dL_law_882 (lv_at hl 13 rfl) ?_
  have hi := hn1 hn0
  refine vQ_i (vx_runSW (As := [.ref vo, .int (nI p1), .int (nI n1)]) (rest := []) ⟨hx, hb, hml, hown, hts⟩ (kN_isBoost l hfl D cy H.size e0 mi vo 130 μ w hK.1 (by omega) hK.2.1.1 ⟨hK.2.1.2.2.2, by omega⟩ hp hi) (vx_cwSW 3 hts gL_law_L_isBoost rfl rfl rfl (by decide +kernel) ⟨Nat.le_of_ble_eq_true rfl, Nat.le_of_ble_eq_true rfl⟩) (vQ_pS hE hF hZ hS hA hP hD) rfl rfl hl.1 rfl (lv_room (Nat.le_of_ble_eq_true rfl)) dL_law_884 ⟨by show cells + 12 ≤ 600104; omega, by show slots + 12351 ≤ 7301314; omega⟩) hP hD hS hA (fun r u H locs hk hP hD hS => ?_)
  obtain ⟨hk1a, hk2⟩ := hk
  obtain ⟨nc2, a1, hK2, hSM, a5⟩ := c_boost hK hn hc hp hi hk2
  by_cases hb0 : mBoo μ (nI p1) (nI n1) 0 0 = 0
  · rw [decide_eq_true hb0] at hk1a
    subst hk1a
    obtain ⟨a6, a7⟩ := a5 hb0
    refine lv_if_eq (tgt := 912) hx hb dL_law_887 (by decide) (fun z9 => absurd z9 (by decide)) (fun _ => ?_)
    refine lv_aload_n hx hb dL_law_890 rfl (lv_at hl 1 rfl) ?_
    refine lv_iload hx hb dL_law_891 (lv_at hl 10 rfl) ?_
    refine lv_iload hx hb dL_law_893 (lv_at hl 13 rfl) ?_
    refine vQ_r (va_runV (As := [.int (nI p1), .int (nI n1)]) (rest := []) ⟨hx, hb, hml, hown, hts⟩ (kN_sees l hfl D cy H.size e0 mi vo 130 (mBoo μ (nI p1) (nI n1)) u hK2.1 (by omega) hK2.2.1.1 ⟨hK2.2.1.2.2.2, by omega⟩ hp hi) (cwV 2 hts gL_law_X4_sees rfl rfl rfl (by decide +kernel) ⟨Nat.le_of_ble_eq_true rfl, Nat.le_of_ble_eq_true rfl⟩) (vQ_pV hK2.1 hE hF hZ hS hA hP hD) rfl rfl hl.1 rfl (lv_room (Nat.le_of_ble_eq_true rfl)) dL_law_895 ⟨by show cells + 12 + 0 ≤ 600104; omega, by show slots + 12351 + 0 ≤ 7301314; omega⟩) hP hD hS hA (fun r _ H locs hk hP hD hS => ?_)
    subst hk
    refine lv_if_eq (tgt := 916) hx hb dL_law_898 (by decide) (fun z9 => absurd z9 (bI_n0.mpr a6)) (fun _ => ?_)
    refine lv_aload_n hx hb dL_law_901 rfl (lv_at hl 1 rfl) ?_
    refine lv_iload hx hb dL_law_902 (lv_at hl 10 rfl) ?_
    refine lv_iload hx hb dL_law_904 (lv_at hl 13 rfl) ?_
    refine vQ_i (vx_runSW (As := [.ref vo, .int (nI p1), .int (nI n1)]) (rest := []) ⟨hx, hb, hml, hown, hts⟩ (kN_isBoost l hfl D cy H.size e0 mi vo 130 (mBoo μ (nI p1) (nI n1)) u hK2.1 (by omega) hK2.2.1.1 ⟨hK2.2.1.2.2.2, by omega⟩ hp hi) (vx_cwSW 3 hts gL_law_L_isBoost rfl rfl rfl (by decide +kernel) ⟨Nat.le_of_ble_eq_true rfl, Nat.le_of_ble_eq_true rfl⟩) (vQ_pS hE hF hZ hS hA hP hD) rfl rfl hl.1 rfl (lv_room (Nat.le_of_ble_eq_true rfl)) dL_law_906 ⟨by show cells + 12 + 12 ≤ 600104; omega, by show slots + 12351 + 12351 ≤ 7301314; omega⟩) hP hD hS hA (fun r u2 H locs hk hP hD hS => ?_)
    obtain ⟨hk3a, hk4⟩ := hk
    rw [a7] at hk3a hk4
    have hk3a : r = bI false := hk3a.trans (congrArg bI (show decide ((2 : Int32) = 0) = false by decide))
    subst hk3a
    have hK3 := KK_thr hK2 (by omega) hk4
    refine lv_if_ne (tgt := 916) hx hb dL_law_909 (by decide) (fun z9 => absurd (show bI false = 0 by decide) z9) (fun _ => ?_)
    refine lv_iconst (v := 1) hx hb dL_law_912 (by decide) ?_
    refine vg_tp (nI 1) (by decide) ?_
    refine lv_goto (tgt := 917) hx hb dL_law_913 (by decide) ?_
    refine lv_istore (lv' := [(7, .int (nI 1)), (0, .ref b), (1, .ref vo), (2, .ref ha), (3, .ref ra), (4, .ref ga), (5, .int (nI 6)), (6, .int (nI nn)), (8, .int (nI k1)), (9, .int (nI kw)), (10, .int (nI p1)), (11, .int (nI v1)), (12, .int (nI q1)), (13, .int (nI n1)), (14, .int (nI s1)), (15, .int (nI (cD μ (tn (μ 2 p1)) nc))), (16, .int (nI (bt μ (tn (μ 2 p1)) p1 q1))), (17, .int (nI (bt μ (tn (μ 2 p1)) q1 p1)))]) hx hb dL_law_917 hl (by decide) rfl (fun ls hl => ?_)
    refine lv_goto (tgt := 1129) hx hb dL_law_919 (by decide) ?_
    refine W.widen (k := cells + 24) (n := slots + 24702) (by omega) (by omega) ?_
    exact kk (va_up (mBoo μ (nI p1) (nI n1)) 0 (fun _ => 2)) nn nc2 u2 af gf H locs ls ⟨hP, hD, hS, hK3, LA3_SM (LA3_SM hA3 hSM) (SM_0 _ _)⟩ (by omega) (by omega) (by omega) (lv_sub hl [1, 2, 3, 4, 5, 6, 7, 0, 8, 10, 12, 13] rfl)
  · rw [decide_eq_false hb0] at hk1a
    subst hk1a
    refine lv_if_eq (tgt := 912) hx hb dL_law_887 (by decide) (fun _ => ?_) (fun z9 => absurd (show bI false = 0 by decide) z9)
    refine lv_iconst (v := 1) hx hb dL_law_912 (by decide) ?_
    refine vg_tp (nI 1) (by decide) ?_
    refine lv_goto (tgt := 917) hx hb dL_law_913 (by decide) ?_
    refine lv_istore (lv' := [(7, .int (nI 1)), (0, .ref b), (1, .ref vo), (2, .ref ha), (3, .ref ra), (4, .ref ga), (5, .int (nI 6)), (6, .int (nI nn)), (8, .int (nI k1)), (9, .int (nI kw)), (10, .int (nI p1)), (11, .int (nI v1)), (12, .int (nI q1)), (13, .int (nI n1)), (14, .int (nI s1)), (15, .int (nI (cD μ (tn (μ 2 p1)) nc))), (16, .int (nI (bt μ (tn (μ 2 p1)) p1 q1))), (17, .int (nI (bt μ (tn (μ 2 p1)) q1 p1)))]) hx hb dL_law_917 hl (by decide) rfl (fun ls hl => ?_)
    refine lv_goto (tgt := 1129) hx hb dL_law_919 (by decide) ?_
    refine W.widen (k := cells + 24) (n := slots + 24702) (by omega) (by omega) ?_
    exact kk (mBoo μ (nI p1) (nI n1)) nn nc2 u af gf H locs ls ⟨hP, hD, hS, hK2, LA3_SM hA3 hSM⟩ (by omega) (by omega) (by omega) (lv_sub hl [1, 2, 3, 4, 5, 6, 7, 0, 8, 10, 12, 13] rfl)

set_option maxHeartbeats 4000000 in
set_option maxRecDepth 100000 in
theorem kC_deliver {p : Program} {l : Launch} {e : Env} {s : State} {m : MethodId} {below : List Frame} {meth : Method} {c : Code} {b L : Nat} {xs : Nat → Int32} {A0 : Nat → Prop} {D : va_G} {cy : Nat → ClassId} {e0 mi vo ha ra ga nn nc cells slots : Nat} {hf af gf : Nat → Int32} {μ : Nat → Nat → Int32} {w : va_W} {H : Heap} {locs : List Loc} {ls : Array Slot} {Q : State → Prop} (hLE : LE p l s m c b L xs A0 D cy e0 mi) (hLW : LW s A0 D cy e0 vo ha ra ga hf af gf μ nn nc w H locs) (hn : nn ≤ 20) (hc : nc < 60) {k1 kw p1 v1 q1 n1 s1 : Nat} (hk1 : k1 < 60) (hp : p1 < 6) (hq : q1 < 6) (hpq : p1 ≠ q1) (hv : v1 < 960) (hn1 : 0 < nn → n1 < nn) (hs1 : s1 < 3) (hkw : kw < 22) (hcl : cells + 24 ≤ 600104) (hsl : slots + 24702 ≤ 7301314) (hl : lv_has ls 23 [(0, .ref b), (1, .ref vo), (2, .ref ha), (3, .ref ra), (4, .ref ga), (5, .int (nI 6)), (6, .int (nI nn)), (7, .int (nI 1)), (8, .int (nI k1)), (9, .int (nI kw)), (10, .int (nI p1)), (11, .int (nI v1)), (12, .int (nI q1)), (13, .int (nI n1)), (14, .int (nI s1)), (15, .int (nI (cD μ (tn (μ 2 p1)) nc))), (16, .int (nI (bt μ (tn (μ 2 p1)) p1 q1))), (17, .int (nI (bt μ (tn (μ 2 p1)) q1 p1)))]) (kk : ∀ (μ' : Nat → Nat → Int32) (nn' nc' : Nat) (w' : va_W) (af' gf' : Nat → Int32) (H' : Heap) (locs' : List Loc) (ls' : Array Slot), LW s A0 D cy e0 vo ha ra ga hf af' gf' μ' nn' nc' w' H' locs' → nn' ≤ 20 → nn ≤ nn' → nc' ≤ nc + 1 → lv_has ls' 23 [(0, .ref b), (1, .ref vo), (2, .ref ha), (3, .ref ra), (4, .ref ga), (5, .int (nI 6)), (6, .int (nI nn')), (7, .int (nI 1)), (8, .int (nI k1)), (10, .int (nI p1)), (12, .int (nI q1)), (13, .int (nI n1))] → W p l e room_1 s m #[Value.ref b] below meth c H' locs' (cells + 24) (slots + 24702) Q (F0 m 1129 ls' [])) : W p l e room_1 s m #[Value.ref b] below meth c H locs cells slots Q (F0 m 929 ls []) := by
  obtain ⟨⟨hx, hb, hml, hown, hts⟩, ⟨hX, hbl, hL, hfl, hA, hbA⟩, hE, hF, hZ⟩ := hLE
  obtain ⟨hP, hD, hS, hK, hA3⟩ := hLW
  have hh := hA3.1
  have haf := hA3.2.1
  have hgf := hA3.2.2
  have hh1 := hK.2.1.2.1 p1 hp
  have bw := bt_well (KK_I4 hK (tn (μ 2 p1)) (by omega)) (hK.2.2.2.2.1 (tn (μ 2 p1)) (by omega)) hp hq
  have bl1 := bt_lt μ (tn (μ 2 p1)) p1 q1
  have bl2 := bt_lt μ (tn (μ 2 p1)) q1 p1
  have bc1 := cD_le μ (tn (μ 2 p1)) nc
  obtain ⟨r1, r2, r3, r4, r5, r6, r7, r8⟩ := KK_ref hK (by omega) (by omega)
  have bs4 : s1 < 4 := by omega
  have le0 := (r3 s1 bs4).2
  have lt0 := (r2 s1 bs4).2
  have lea := (r3 ((s1 + 1) % 3) (by omega)).2
  have leb := (r3 ((s1 + 2) % 3) (by omega)).2
  have lta := (r2 ((s1 + 1) % 3) (by omega)).2
  have ltb := (r2 ((s1 + 2) % 3) (by omega)).2
  have bcs := cD_le μ s1 nc
  refine lv_aload_n hx hb dL_law_929 rfl (lv_at hl 1 rfl) ?_
  refine lv_iload hx hb dL_law_930 (lv_at hl 14 rfl) ?_
  refine lv_iconst (v := 0) hx hb dL_law_932 (by decide) ?_
  refine vg_tp (nI 0) (by decide) ?_
  refine vQ_r (va_runV (As := [.int (nI s1), .int (nI 0)]) (rest := []) ⟨hx, hb, hml, hown, hts⟩ (kN_ofServer l hfl D cy H.size e0 mi vo 130 μ w hK.1 (by omega) hK.2.1.1 bs4 (show 0 < 6 by omega)) (cwV 2 hts gL_law_X4_ofServer rfl rfl rfl (by decide +kernel) ⟨Nat.le_of_ble_eq_true rfl, Nat.le_of_ble_eq_true rfl⟩) (vQ_pV hK.1 hE hF hZ hS hA hP hD) rfl rfl hl.1 rfl (lv_room (Nat.le_of_ble_eq_true rfl)) dL_law_933 ⟨by show cells + 0 ≤ 600104; omega, by show slots + 0 ≤ 7301314; omega⟩) hP hD hS hA (fun r _ H locs hk hP hD hS => ?_)
  rw [ofs_0 bs4 le0] at hk
  subst hk
  refine lv_istore (lv' := [(18, .int (nI (tn (μ 25 s1) - tn (μ 24 s1)))), (0, .ref b), (1, .ref vo), (2, .ref ha), (3, .ref ra), (4, .ref ga), (5, .int (nI 6)), (6, .int (nI nn)), (7, .int (nI 1)), (8, .int (nI k1)), (9, .int (nI kw)), (10, .int (nI p1)), (11, .int (nI v1)), (12, .int (nI q1)), (13, .int (nI n1)), (14, .int (nI s1)), (15, .int (nI (cD μ (tn (μ 2 p1)) nc))), (16, .int (nI (bt μ (tn (μ 2 p1)) p1 q1))), (17, .int (nI (bt μ (tn (μ 2 p1)) q1 p1)))]) hx hb dL_law_936 hl (by decide) rfl (fun ls hl => ?_)
  refine lv_aload_n hx hb dL_law_938 rfl (lv_at hl 2 rfl) ?_
  refine lv_iload hx hb dL_law_939 (lv_at hl 15 rfl) ?_
  refine lv_iconst (v := 1) hx hb dL_law_941 (by decide) ?_
  refine vg_tp (nI 1) (by decide) ?_
  refine vQ_r (va_runV (As := [.int (nI s1), .int (nI 1)]) (rest := []) ⟨hx, hb, hml, hown, hts⟩ (kN_ofServer l hfl D cy H.size e0 mi vo 130 μ w hK.1 (by omega) hK.2.1.1 bs4 (show 1 < 6 by omega)) (cwV 2 hts gL_law_X4_ofServer rfl rfl rfl (by decide +kernel) ⟨Nat.le_of_ble_eq_true rfl, Nat.le_of_ble_eq_true rfl⟩) (vQ_pV hK.1 hE hF hZ hS hA hP hD) rfl rfl hl.1 rfl (lv_room (Nat.le_of_ble_eq_true rfl)) dL_law_942 ⟨by show cells + 0 ≤ 600104; omega, by show slots + 0 ≤ 7301314; omega⟩) hP hD hS hA (fun r _ H locs hk hP hD hS => ?_)
  rw [ofs_1 bs4 hK.2.1.2.2.1 (by omega)] at hk
  subst hk
  refine lv_istore (lv' := [(19, .int (nI (cD μ s1 nc))), (18, .int (nI (tn (μ 25 s1) - tn (μ 24 s1)))), (0, .ref b), (1, .ref vo), (2, .ref ha), (3, .ref ra), (4, .ref ga), (5, .int (nI 6)), (6, .int (nI nn)), (7, .int (nI 1)), (8, .int (nI k1)), (9, .int (nI kw)), (10, .int (nI p1)), (11, .int (nI v1)), (12, .int (nI q1)), (13, .int (nI n1)), (14, .int (nI s1)), (15, .int (nI (cD μ (tn (μ 2 p1)) nc))), (16, .int (nI (bt μ (tn (μ 2 p1)) p1 q1))), (17, .int (nI (bt μ (tn (μ 2 p1)) q1 p1)))]) hx hb dL_law_945 hl (by decide) rfl (fun ls hl => ?_)
  refine lv_aload_n hx hb dL_law_947 rfl (lv_at hl 3 rfl) ?_
  refine lv_iload hx hb dL_law_948 (lv_at hl 16 rfl) ?_
  by_cases he : tn (μ 24 s1) = tn (μ 25 s1)
  · refine vQ_r (va_runV (As := [.int (nI s1)]) (rest := []) ⟨hx, hb, hml, hown, hts⟩ (kN_deliver_no l hfl D cy H.size e0 mi vo 130 μ w hK.1 (by omega) hK.2.1.1 bs4 he) (cwV 1 hts gL_law_X4_deliver rfl rfl rfl (by decide +kernel) ⟨Nat.le_of_ble_eq_true rfl, Nat.le_of_ble_eq_true rfl⟩) (vQ_pV hK.1 hE hF hZ hS hA hP hD) rfl rfl hl.1 rfl (lv_room (Nat.le_of_ble_eq_true rfl)) dL_law_950 ⟨by show cells + 0 ≤ 600104; omega, by show slots + 0 ≤ 7301314; omega⟩) hP hD hS hA (fun r _ H locs hk hP hD hS => ?_)
    subst hk
    refine lv_istore (lv' := [(20, .int ((-1))), (19, .int (nI (cD μ s1 nc))), (18, .int (nI (tn (μ 25 s1) - tn (μ 24 s1)))), (0, .ref b), (1, .ref vo), (2, .ref ha), (3, .ref ra), (4, .ref ga), (5, .int (nI 6)), (6, .int (nI nn)), (7, .int (nI 1)), (8, .int (nI k1)), (9, .int (nI kw)), (10, .int (nI p1)), (11, .int (nI v1)), (12, .int (nI q1)), (13, .int (nI n1)), (14, .int (nI s1)), (15, .int (nI (cD μ (tn (μ 2 p1)) nc))), (16, .int (nI (bt μ (tn (μ 2 p1)) p1 q1))), (17, .int (nI (bt μ (tn (μ 2 p1)) q1 p1)))]) hx hb dL_law_953 hl (by decide) rfl (fun ls hl => ?_)
    refine lv_iload hx hb dL_law_955 (lv_at hl 0 rfl) ?_
    refine lv_iconst (v := (-1)) hx hb dL_law_957 (by decide) ?_
    refine lv_icmp_ne (tgt := 974) hx hb dL_law_958 (by decide) (fun z9 => absurd (show (-1 : Int32) = -1 from rfl) z9) (fun _ => ?_)
    refine lv_iload hx hb dL_law_961 (lv_at hl 2 rfl) ?_
    refine lv_if_ne (tgt := 970) hx hb dL_law_963 (by decide) (fun z9 => absurd ((nI_eq (a := tn (μ 25 s1) - tn (μ 24 s1)) (b := 0) (by omega) (by omega)).mpr (by omega)) z9) (fun _ => ?_)
    refine lv_iconst (v := 1) hx hb dL_law_966 (by decide) ?_
    refine vg_tp (nI 1) (by decide) ?_
    refine lv_goto (tgt := 1026) hx hb dL_law_967 (by decide) ?_
    refine lv_istore (lv' := [(7, .int (nI 1)), (20, .int ((-1))), (19, .int (nI (cD μ s1 nc))), (18, .int (nI (tn (μ 25 s1) - tn (μ 24 s1)))), (0, .ref b), (1, .ref vo), (2, .ref ha), (3, .ref ra), (4, .ref ga), (5, .int (nI 6)), (6, .int (nI nn)), (8, .int (nI k1)), (9, .int (nI kw)), (10, .int (nI p1)), (11, .int (nI v1)), (12, .int (nI q1)), (13, .int (nI n1)), (14, .int (nI s1)), (15, .int (nI (cD μ (tn (μ 2 p1)) nc))), (16, .int (nI (bt μ (tn (μ 2 p1)) p1 q1))), (17, .int (nI (bt μ (tn (μ 2 p1)) q1 p1)))]) hx hb dL_law_1026 hl (by decide) rfl (fun ls hl => ?_)
    refine lv_aload_n hx hb dL_law_1028 rfl (lv_at hl 5 rfl) ?_
    refine lv_iload hx hb dL_law_1029 (lv_at hl 17 rfl) ?_
    refine vQ_r (va_runS (As := [.ref vo, .int (nI s1)]) (rest := []) ⟨hx, hb, hml, hown, hts⟩ (kD_sum l hfl D cy H.size e0 mi vo 130 μ w hK.1 (by omega) hK.2.1.1 bs4) (va_cwS 2 hts gL_law_L_sum rfl rfl rfl (by decide +kernel) ⟨Nat.le_of_ble_eq_true rfl, Nat.le_of_ble_eq_true rfl⟩) (vQ_pS hE hF hZ hS hA hP hD) rfl rfl hl.1 rfl (lv_room (Nat.le_of_ble_eq_true rfl)) dL_law_1031 ⟨by show cells + 0 ≤ 600104; omega, by show slots + 0 ≤ 7301314; omega⟩) hP hD hS hA (fun r _ H locs hk hP hD hS => ?_)
    subst hk
    refine lv_istore (lv' := [(21, .int (mSum μ s1)), (7, .int (nI 1)), (20, .int ((-1))), (19, .int (nI (cD μ s1 nc))), (18, .int (nI (tn (μ 25 s1) - tn (μ 24 s1)))), (0, .ref b), (1, .ref vo), (2, .ref ha), (3, .ref ra), (4, .ref ga), (5, .int (nI 6)), (6, .int (nI nn)), (8, .int (nI k1)), (9, .int (nI kw)), (10, .int (nI p1)), (11, .int (nI v1)), (12, .int (nI q1)), (13, .int (nI n1)), (14, .int (nI s1)), (15, .int (nI (cD μ (tn (μ 2 p1)) nc))), (16, .int (nI (bt μ (tn (μ 2 p1)) p1 q1))), (17, .int (nI (bt μ (tn (μ 2 p1)) q1 p1)))]) hx hb dL_law_1034 hl (by decide) rfl (fun ls hl => ?_)
    refine lv_aload_n hx hb dL_law_1036 rfl (lv_at hl 6 rfl) ?_
    refine lv_iload hx hb dL_law_1037 (lv_at hl 18 rfl) ?_
    refine lv_iconst (v := 1) hx hb dL_law_1039 (by decide) ?_
    refine vg_tp (nI 1) (by decide) ?_
    refine lv_iadd hx hb dL_law_1040 ?_
    refine vg_tp (nI (s1 + 1)) (nI_add _ _) ?_
    refine lv_iconst (v := 3) hx hb dL_law_1041 (by decide) ?_
    refine vg_tp (nI 3) (by decide) ?_
    refine lv_irem hx hb dL_law_1042 (by decide) ?_
    refine vg_tp (nI ((s1 + 1) % 3)) (pk_rem (by omega) (by omega) (by omega)) ?_
    refine lv_iconst (v := 0) hx hb dL_law_1043 (by decide) ?_
    refine vg_tp (nI 0) (by decide) ?_
    refine vQ_r (va_runV (As := [.int (nI ((s1 + 1) % 3)), .int (nI 0)]) (rest := []) ⟨hx, hb, hml, hown, hts⟩ (kN_ofServer l hfl D cy H.size e0 mi vo 130 μ w hK.1 (by omega) hK.2.1.1 (show (s1 + 1) % 3 < 4 by omega) (show 0 < 6 by omega)) (cwV 2 hts gL_law_X4_ofServer rfl rfl rfl (by decide +kernel) ⟨Nat.le_of_ble_eq_true rfl, Nat.le_of_ble_eq_true rfl⟩) (vQ_pV hK.1 hE hF hZ hS hA hP hD) rfl rfl hl.1 rfl (lv_room (Nat.le_of_ble_eq_true rfl)) dL_law_1044 ⟨by show cells + 0 ≤ 600104; omega, by show slots + 0 ≤ 7301314; omega⟩) hP hD hS hA (fun r _ H locs hk hP hD hS => ?_)
    rw [ofs_0 (show (s1 + 1) % 3 < 4 by omega) lea] at hk
    subst hk
    refine lv_aload_n hx hb dL_law_1047 rfl (lv_at hl 6 rfl) ?_
    refine lv_iload hx hb dL_law_1048 (lv_at hl 18 rfl) ?_
    refine lv_iconst (v := 2) hx hb dL_law_1050 (by decide) ?_
    refine vg_tp (nI 2) (by decide) ?_
    refine lv_iadd hx hb dL_law_1051 ?_
    refine vg_tp (nI (s1 + 2)) (nI_add _ _) ?_
    refine lv_iconst (v := 3) hx hb dL_law_1052 (by decide) ?_
    refine vg_tp (nI 3) (by decide) ?_
    refine lv_irem hx hb dL_law_1053 (by decide) ?_
    refine vg_tp (nI ((s1 + 2) % 3)) (pk_rem (by omega) (by omega) (by omega)) ?_
    refine lv_iconst (v := 0) hx hb dL_law_1054 (by decide) ?_
    refine vg_tp (nI 0) (by decide) ?_
    refine vQ_r (va_runV (As := [.int (nI ((s1 + 2) % 3)), .int (nI 0)]) (rest := [.int (nI (tn (μ 25 ((s1 + 1) % 3)) - tn (μ 24 ((s1 + 1) % 3))))]) ⟨hx, hb, hml, hown, hts⟩ (kN_ofServer l hfl D cy H.size e0 mi vo 130 μ w hK.1 (by omega) hK.2.1.1 (show (s1 + 2) % 3 < 4 by omega) (show 0 < 6 by omega)) (cwV 2 hts gL_law_X4_ofServer rfl rfl rfl (by decide +kernel) ⟨Nat.le_of_ble_eq_true rfl, Nat.le_of_ble_eq_true rfl⟩) (vQ_pV hK.1 hE hF hZ hS hA hP hD) rfl rfl hl.1 rfl (lv_room (Nat.le_of_ble_eq_true rfl)) dL_law_1055 ⟨by show cells + 0 ≤ 600104; omega, by show slots + 0 ≤ 7301314; omega⟩) hP hD hS hA (fun r _ H locs hk hP hD hS => ?_)
    rw [ofs_0 (show (s1 + 2) % 3 < 4 by omega) leb] at hk
    subst hk
    refine lv_iadd hx hb dL_law_1058 ?_
    refine vg_tp (nI (tn (μ 25 ((s1 + 1) % 3)) - tn (μ 24 ((s1 + 1) % 3)) + (tn (μ 25 ((s1 + 2) % 3)) - tn (μ 24 ((s1 + 2) % 3))))) (nI_add _ _) ?_
    refine lv_istore (lv' := [(22, .int (nI (tn (μ 25 ((s1 + 1) % 3)) - tn (μ 24 ((s1 + 1) % 3)) + (tn (μ 25 ((s1 + 2) % 3)) - tn (μ 24 ((s1 + 2) % 3)))))), (21, .int (mSum μ s1)), (7, .int (nI 1)), (20, .int ((-1))), (19, .int (nI (cD μ s1 nc))), (18, .int (nI (tn (μ 25 s1) - tn (μ 24 s1)))), (0, .ref b), (1, .ref vo), (2, .ref ha), (3, .ref ra), (4, .ref ga), (5, .int (nI 6)), (6, .int (nI nn)), (8, .int (nI k1)), (9, .int (nI kw)), (10, .int (nI p1)), (11, .int (nI v1)), (12, .int (nI q1)), (13, .int (nI n1)), (14, .int (nI s1)), (15, .int (nI (cD μ (tn (μ 2 p1)) nc))), (16, .int (nI (bt μ (tn (μ 2 p1)) p1 q1))), (17, .int (nI (bt μ (tn (μ 2 p1)) q1 p1)))]) hx hb dL_law_1059 hl (by decide) rfl (fun ls hl => ?_)
    refine lv_iload hx hb dL_law_1061 (lv_at hl 2 rfl) ?_
    refine lv_if_eq (tgt := 1126) hx hb dL_law_1063 (by decide) (fun z9 => absurd z9 (fun q9 => absurd ((nI_eq (a := 1) (b := 0) (by omega) (by omega)).mp q9) (by omega))) (fun _ => ?_)
    refine lv_iload hx hb dL_law_1066 (lv_at hl 3 rfl) ?_
    refine lv_iconst (v := (-1)) hx hb dL_law_1068 (by decide) ?_
    refine lv_icmp_eq (tgt := 1083) hx hb dL_law_1069 (by decide) (fun _ => ?_) (fun z9 => absurd (show (-1 : Int32) = -1 from rfl) z9)
    refine lv_aload_n hx hb dL_law_1083 rfl (lv_at hl 7 rfl) ?_
    refine lv_iload hx hb dL_law_1084 (lv_at hl 19 rfl) ?_
    refine vQ_r (va_runS (As := [.ref vo, .int (nI s1)]) (rest := []) ⟨hx, hb, hml, hown, hts⟩ (kD_sum l hfl D cy H.size e0 mi vo 130 μ w hK.1 (by omega) hK.2.1.1 bs4) (va_cwS 2 hts gL_law_L_sum rfl rfl rfl (by decide +kernel) ⟨Nat.le_of_ble_eq_true rfl, Nat.le_of_ble_eq_true rfl⟩) (vQ_pS hE hF hZ hS hA hP hD) rfl rfl hl.1 rfl (lv_room (Nat.le_of_ble_eq_true rfl)) dL_law_1086 ⟨by show cells + 0 ≤ 600104; omega, by show slots + 0 ≤ 7301314; omega⟩) hP hD hS hA (fun r _ H locs hk hP hD hS => ?_)
    subst hk
    refine lv_iload hx hb dL_law_1089 (lv_at hl 1 rfl) ?_
    refine lv_icmp_ne (tgt := 1126) hx hb dL_law_1091 (by decide) (fun z9 => absurd (show mSum μ s1 = mSum μ s1 from rfl) z9) (fun _ => ?_)
    refine lv_aload_n hx hb dL_law_1094 rfl (lv_at hl 7 rfl) ?_
    refine lv_iload hx hb dL_law_1095 (lv_at hl 19 rfl) ?_
    refine lv_iconst (v := 1) hx hb dL_law_1097 (by decide) ?_
    refine vg_tp (nI 1) (by decide) ?_
    refine lv_iadd hx hb dL_law_1098 ?_
    refine vg_tp (nI (s1 + 1)) (nI_add _ _) ?_
    refine lv_iconst (v := 3) hx hb dL_law_1099 (by decide) ?_
    refine vg_tp (nI 3) (by decide) ?_
    refine lv_irem hx hb dL_law_1100 (by decide) ?_
    refine vg_tp (nI ((s1 + 1) % 3)) (pk_rem (by omega) (by omega) (by omega)) ?_
    refine lv_iconst (v := 0) hx hb dL_law_1101 (by decide) ?_
    refine vg_tp (nI 0) (by decide) ?_
    refine vQ_r (va_runV (As := [.int (nI ((s1 + 1) % 3)), .int (nI 0)]) (rest := []) ⟨hx, hb, hml, hown, hts⟩ (kN_ofServer l hfl D cy H.size e0 mi vo 130 μ w hK.1 (by omega) hK.2.1.1 (show (s1 + 1) % 3 < 4 by omega) (show 0 < 6 by omega)) (cwV 2 hts gL_law_X4_ofServer rfl rfl rfl (by decide +kernel) ⟨Nat.le_of_ble_eq_true rfl, Nat.le_of_ble_eq_true rfl⟩) (vQ_pV hK.1 hE hF hZ hS hA hP hD) rfl rfl hl.1 rfl (lv_room (Nat.le_of_ble_eq_true rfl)) dL_law_1102 ⟨by show cells + 0 ≤ 600104; omega, by show slots + 0 ≤ 7301314; omega⟩) hP hD hS hA (fun r _ H locs hk hP hD hS => ?_)
    rw [ofs_0 (show (s1 + 1) % 3 < 4 by omega) lea] at hk
    subst hk
    refine lv_aload_n hx hb dL_law_1105 rfl (lv_at hl 7 rfl) ?_
    refine lv_iload hx hb dL_law_1106 (lv_at hl 19 rfl) ?_
    refine lv_iconst (v := 2) hx hb dL_law_1108 (by decide) ?_
    refine vg_tp (nI 2) (by decide) ?_
    refine lv_iadd hx hb dL_law_1109 ?_
    refine vg_tp (nI (s1 + 2)) (nI_add _ _) ?_
    refine lv_iconst (v := 3) hx hb dL_law_1110 (by decide) ?_
    refine vg_tp (nI 3) (by decide) ?_
    refine lv_irem hx hb dL_law_1111 (by decide) ?_
    refine vg_tp (nI ((s1 + 2) % 3)) (pk_rem (by omega) (by omega) (by omega)) ?_
    refine lv_iconst (v := 0) hx hb dL_law_1112 (by decide) ?_
    refine vg_tp (nI 0) (by decide) ?_
    refine vQ_r (va_runV (As := [.int (nI ((s1 + 2) % 3)), .int (nI 0)]) (rest := [.int (nI (tn (μ 25 ((s1 + 1) % 3)) - tn (μ 24 ((s1 + 1) % 3))))]) ⟨hx, hb, hml, hown, hts⟩ (kN_ofServer l hfl D cy H.size e0 mi vo 130 μ w hK.1 (by omega) hK.2.1.1 (show (s1 + 2) % 3 < 4 by omega) (show 0 < 6 by omega)) (cwV 2 hts gL_law_X4_ofServer rfl rfl rfl (by decide +kernel) ⟨Nat.le_of_ble_eq_true rfl, Nat.le_of_ble_eq_true rfl⟩) (vQ_pV hK.1 hE hF hZ hS hA hP hD) rfl rfl hl.1 rfl (lv_room (Nat.le_of_ble_eq_true rfl)) dL_law_1113 ⟨by show cells + 0 ≤ 600104; omega, by show slots + 0 ≤ 7301314; omega⟩) hP hD hS hA (fun r _ H locs hk hP hD hS => ?_)
    rw [ofs_0 (show (s1 + 2) % 3 < 4 by omega) leb] at hk
    subst hk
    refine lv_iadd hx hb dL_law_1116 ?_
    refine vg_tp (nI (tn (μ 25 ((s1 + 1) % 3)) - tn (μ 24 ((s1 + 1) % 3)) + (tn (μ 25 ((s1 + 2) % 3)) - tn (μ 24 ((s1 + 2) % 3))))) (nI_add _ _) ?_
    refine lv_iload hx hb dL_law_1117 (lv_at hl 0 rfl) ?_
    refine lv_icmp_ne (tgt := 1126) hx hb dL_law_1119 (by decide) (fun z9 => absurd ((nI_eq (a := tn (μ 25 ((s1 + 1) % 3)) - tn (μ 24 ((s1 + 1) % 3)) + (tn (μ 25 ((s1 + 2) % 3)) - tn (μ 24 ((s1 + 2) % 3)))) (b := tn (μ 25 ((s1 + 1) % 3)) - tn (μ 24 ((s1 + 1) % 3)) + (tn (μ 25 ((s1 + 2) % 3)) - tn (μ 24 ((s1 + 2) % 3)))) (by omega) (by omega)).mpr (by omega)) z9) (fun _ => ?_)
    refine lv_iconst (v := 1) hx hb dL_law_1122 (by decide) ?_
    refine vg_tp (nI 1) (by decide) ?_
    refine lv_goto (tgt := 1127) hx hb dL_law_1123 (by decide) ?_
    refine lv_istore (lv' := [(7, .int (nI 1)), (22, .int (nI (tn (μ 25 ((s1 + 1) % 3)) - tn (μ 24 ((s1 + 1) % 3)) + (tn (μ 25 ((s1 + 2) % 3)) - tn (μ 24 ((s1 + 2) % 3)))))), (21, .int (mSum μ s1)), (20, .int ((-1))), (19, .int (nI (cD μ s1 nc))), (18, .int (nI (tn (μ 25 s1) - tn (μ 24 s1)))), (0, .ref b), (1, .ref vo), (2, .ref ha), (3, .ref ra), (4, .ref ga), (5, .int (nI 6)), (6, .int (nI nn)), (8, .int (nI k1)), (9, .int (nI kw)), (10, .int (nI p1)), (11, .int (nI v1)), (12, .int (nI q1)), (13, .int (nI n1)), (14, .int (nI s1)), (15, .int (nI (cD μ (tn (μ 2 p1)) nc))), (16, .int (nI (bt μ (tn (μ 2 p1)) p1 q1))), (17, .int (nI (bt μ (tn (μ 2 p1)) q1 p1)))]) hx hb dL_law_1127 hl (by decide) rfl (fun ls hl => ?_)
    refine W.widen (k := cells + 24) (n := slots + 24702) (by omega) (by omega) ?_
    exact kk μ nn nc w af gf H locs ls ⟨hP, hD, hS, hK, hA3⟩ (by omega) (by omega) (by omega) (lv_sub hl [6, 7, 8, 9, 10, 11, 12, 0, 13, 15, 17, 18] rfl)
  · obtain ⟨kd, hkd, ekd⟩ := dlvR_n hK hn (by omega) hs1 he
    by_cases hz9 : μ 22 (600 * s1 + mDlvA μ s1) = 0
    · refine vQ_i (va_runV (As := [.int (nI s1)]) (rest := []) ⟨hx, hb, hml, hown, hts⟩ (kN_deliver_new l hfl D cy H.size e0 mi vo 130 μ w hK.1 (by omega) hK.2.1.1 bs4 he hz9) (cwV 1 hts gL_law_X4_deliver rfl rfl rfl (by decide +kernel) ⟨Nat.le_of_ble_eq_true rfl, Nat.le_of_ble_eq_true rfl⟩) (vQ_pV hK.1 hE hF hZ hS hA hP hD) rfl rfl hl.1 rfl (lv_room (Nat.le_of_ble_eq_true rfl)) dL_law_950 ⟨by show cells + 5 ≤ 600104; omega, by show slots + 6170 ≤ 7301314; omega⟩) hP hD hS hA (fun r u H locs hk hP hD hS => ?_)
      obtain ⟨hk1a, hk2⟩ := hk
      rw [ekd] at hk1a
      subst hk1a
      obtain ⟨hK2, hSM, ⟨d1, d2⟩, d3, ⟨d4, d5⟩, -, -⟩ := c_dlv hK hn (by omega) hs1 he hk2
      have d3n : tn (mDlv μ (nI s1) 25 s1) = tn (μ 25 s1) := by rw [d3]
      have erp := rep_dlv hK hn (by omega) hs1 he d1
      obtain ⟨w1, w2, w3, w4, w5, w6, w7, w8⟩ := KK_ref hK2 (by omega) (by omega)
      have le2 := (w3 s1 bs4).2
      have lea2 := (w3 ((s1 + 1) % 3) (by omega)).2
      have leb2 := (w3 ((s1 + 2) % 3) (by omega)).2
      have lta2 := (w2 ((s1 + 1) % 3) (by omega)).2
      have ltb2 := (w2 ((s1 + 2) % 3) (by omega)).2
      have bcs2 := cD_le (mDlv μ (nI s1)) s1 nc
      refine lv_istore (lv' := [(20, .int (nI kd)), (19, .int (nI (cD μ s1 nc))), (18, .int (nI (tn (μ 25 s1) - tn (μ 24 s1)))), (0, .ref b), (1, .ref vo), (2, .ref ha), (3, .ref ra), (4, .ref ga), (5, .int (nI 6)), (6, .int (nI nn)), (7, .int (nI 1)), (8, .int (nI k1)), (9, .int (nI kw)), (10, .int (nI p1)), (11, .int (nI v1)), (12, .int (nI q1)), (13, .int (nI n1)), (14, .int (nI s1)), (15, .int (nI (cD μ (tn (μ 2 p1)) nc))), (16, .int (nI (bt μ (tn (μ 2 p1)) p1 q1))), (17, .int (nI (bt μ (tn (μ 2 p1)) q1 p1)))]) hx hb dL_law_953 hl (by decide) rfl (fun ls hl => ?_)
      refine lv_iload hx hb dL_law_955 (lv_at hl 0 rfl) ?_
      refine lv_iconst (v := (-1)) hx hb dL_law_957 (by decide) ?_
      refine lv_icmp_ne (tgt := 974) hx hb dL_law_958 (by decide) (fun _ => ?_) (fun z9 => absurd z9 (nI_nm1 (by omega)))
      refine lv_iload hx hb dL_law_974 (lv_at hl 0 rfl) ?_
      refine lv_bipush (v := 10) hx hb dL_law_976 (by decide) ?_
      refine vg_tp (nI 10) (by decide) ?_
      refine lv_icmp_gt (tgt := 1025) hx hb dL_law_978 (by decide) (fun z9 => absurd z9 (fun q9 => absurd ((nI_ltI (a := 10) (b := kd) (by omega) (by omega)).mp q9) (by omega))) (fun _ => ?_)
      refine lv_aload_n hx hb dL_law_981 rfl (lv_at hl 4 rfl) ?_
      refine lv_iload hx hb dL_law_982 (lv_at hl 17 rfl) ?_
      refine lv_iconst (v := 0) hx hb dL_law_984 (by decide) ?_
      refine vg_tp (nI 0) (by decide) ?_
      refine vQ_r (va_runV (As := [.int (nI s1), .int (nI 0)]) (rest := []) ⟨hx, hb, hml, hown, hts⟩ (kN_ofServer l hfl D cy H.size e0 mi vo 130 (mDlv μ (nI s1)) u hK2.1 (by omega) hK2.2.1.1 bs4 (show 0 < 6 by omega)) (cwV 2 hts gL_law_X4_ofServer rfl rfl rfl (by decide +kernel) ⟨Nat.le_of_ble_eq_true rfl, Nat.le_of_ble_eq_true rfl⟩) (vQ_pV hK2.1 hE hF hZ hS hA hP hD) rfl rfl hl.1 rfl (lv_room (Nat.le_of_ble_eq_true rfl)) dL_law_985 ⟨by show cells + 5 + 0 ≤ 600104; omega, by show slots + 6170 + 0 ≤ 7301314; omega⟩) hP hD hS hA (fun r _ H locs hk hP hD hS => ?_)
      rw [ofs_0 bs4 le2] at hk
      subst hk
      refine lv_iload hx hb dL_law_988 (lv_at hl 2 rfl) ?_
      refine lv_iconst (v := 1) hx hb dL_law_990 (by decide) ?_
      refine vg_tp (nI 1) (by decide) ?_
      refine lv_isub hx hb dL_law_991 ?_
      refine vg_tp (nI ((tn (μ 25 s1) - tn (μ 24 s1)) - 1)) (pk_sub (by omega)) ?_
      refine lv_icmp_ne (tgt := 1025) hx hb dL_law_992 (by decide) (fun z9 => absurd ((nI_eq (a := tn ((mDlv μ (nI s1)) 25 s1) - tn ((mDlv μ (nI s1)) 24 s1)) (b := (tn (μ 25 s1) - tn (μ 24 s1)) - 1) (by omega) (by omega)).mpr (by omega)) z9) (fun _ => ?_)
      refine lv_aload_n hx hb dL_law_995 rfl (lv_at hl 4 rfl) ?_
      refine lv_iload hx hb dL_law_996 (lv_at hl 17 rfl) ?_
      refine lv_iconst (v := 1) hx hb dL_law_998 (by decide) ?_
      refine vg_tp (nI 1) (by decide) ?_
      refine vQ_r (va_runV (As := [.int (nI s1), .int (nI 1)]) (rest := []) ⟨hx, hb, hml, hown, hts⟩ (kN_ofServer l hfl D cy H.size e0 mi vo 130 (mDlv μ (nI s1)) u hK2.1 (by omega) hK2.2.1.1 bs4 (show 1 < 6 by omega)) (cwV 2 hts gL_law_X4_ofServer rfl rfl rfl (by decide +kernel) ⟨Nat.le_of_ble_eq_true rfl, Nat.le_of_ble_eq_true rfl⟩) (vQ_pV hK2.1 hE hF hZ hS hA hP hD) rfl rfl hl.1 rfl (lv_room (Nat.le_of_ble_eq_true rfl)) dL_law_999 ⟨by show cells + 5 + 0 ≤ 600104; omega, by show slots + 6170 + 0 ≤ 7301314; omega⟩) hP hD hS hA (fun r _ H locs hk hP hD hS => ?_)
      rw [ofs_1 bs4 hK2.2.1.2.2.1 (by omega)] at hk
      subst hk
      refine lv_iload hx hb dL_law_1002 (lv_at hl 1 rfl) ?_
      refine lv_icmp_lt (tgt := 1025) hx hb dL_law_1004 (by decide) (fun z9 => absurd z9 (fun q9 => absurd ((nI_ltI (a := cD (mDlv μ (nI s1)) s1 nc) (b := cD μ s1 nc) (by omega) (by omega)).mp q9) (by omega))) (fun _ => ?_)
      refine lv_aload_n hx hb dL_law_1007 rfl (lv_at hl 4 rfl) ?_
      refine lv_iload hx hb dL_law_1008 (lv_at hl 17 rfl) ?_
      refine lv_iconst (v := 1) hx hb dL_law_1010 (by decide) ?_
      refine vg_tp (nI 1) (by decide) ?_
      refine vQ_r (va_runV (As := [.int (nI s1), .int (nI 1)]) (rest := []) ⟨hx, hb, hml, hown, hts⟩ (kN_ofServer l hfl D cy H.size e0 mi vo 130 (mDlv μ (nI s1)) u hK2.1 (by omega) hK2.2.1.1 bs4 (show 1 < 6 by omega)) (cwV 2 hts gL_law_X4_ofServer rfl rfl rfl (by decide +kernel) ⟨Nat.le_of_ble_eq_true rfl, Nat.le_of_ble_eq_true rfl⟩) (vQ_pV hK2.1 hE hF hZ hS hA hP hD) rfl rfl hl.1 rfl (lv_room (Nat.le_of_ble_eq_true rfl)) dL_law_1011 ⟨by show cells + 5 + 0 ≤ 600104; omega, by show slots + 6170 + 0 ≤ 7301314; omega⟩) hP hD hS hA (fun r _ H locs hk hP hD hS => ?_)
      rw [ofs_1 bs4 hK2.2.1.2.2.1 (by omega)] at hk
      subst hk
      refine lv_iload hx hb dL_law_1014 (lv_at hl 1 rfl) ?_
      refine lv_iconst (v := 1) hx hb dL_law_1016 (by decide) ?_
      refine vg_tp (nI 1) (by decide) ?_
      refine lv_iadd hx hb dL_law_1017 ?_
      refine vg_tp (nI (cD μ s1 nc + 1)) (nI_add _ _) ?_
      refine lv_icmp_gt (tgt := 1025) hx hb dL_law_1018 (by decide) (fun z9 => absurd z9 (fun q9 => absurd ((nI_ltI (a := cD μ s1 nc + 1) (b := cD (mDlv μ (nI s1)) s1 nc) (by omega) (by omega)).mp q9) (by omega))) (fun _ => ?_)
      refine lv_iconst (v := 1) hx hb dL_law_1021 (by decide) ?_
      refine vg_tp (nI 1) (by decide) ?_
      refine lv_goto (tgt := 1026) hx hb dL_law_1022 (by decide) ?_
      refine lv_istore (lv' := [(7, .int (nI 1)), (20, .int (nI kd)), (19, .int (nI (cD μ s1 nc))), (18, .int (nI (tn (μ 25 s1) - tn (μ 24 s1)))), (0, .ref b), (1, .ref vo), (2, .ref ha), (3, .ref ra), (4, .ref ga), (5, .int (nI 6)), (6, .int (nI nn)), (8, .int (nI k1)), (9, .int (nI kw)), (10, .int (nI p1)), (11, .int (nI v1)), (12, .int (nI q1)), (13, .int (nI n1)), (14, .int (nI s1)), (15, .int (nI (cD μ (tn (μ 2 p1)) nc))), (16, .int (nI (bt μ (tn (μ 2 p1)) p1 q1))), (17, .int (nI (bt μ (tn (μ 2 p1)) q1 p1)))]) hx hb dL_law_1026 hl (by decide) rfl (fun ls hl => ?_)
      refine lv_aload_n hx hb dL_law_1028 rfl (lv_at hl 5 rfl) ?_
      refine lv_iload hx hb dL_law_1029 (lv_at hl 17 rfl) ?_
      refine vQ_r (va_runS (As := [.ref vo, .int (nI s1)]) (rest := []) ⟨hx, hb, hml, hown, hts⟩ (kD_sum l hfl D cy H.size e0 mi vo 130 (mDlv μ (nI s1)) u hK2.1 (by omega) hK2.2.1.1 bs4) (va_cwS 2 hts gL_law_L_sum rfl rfl rfl (by decide +kernel) ⟨Nat.le_of_ble_eq_true rfl, Nat.le_of_ble_eq_true rfl⟩) (vQ_pS hE hF hZ hS hA hP hD) rfl rfl hl.1 rfl (lv_room (Nat.le_of_ble_eq_true rfl)) dL_law_1031 ⟨by show cells + 5 + 0 ≤ 600104; omega, by show slots + 6170 + 0 ≤ 7301314; omega⟩) hP hD hS hA (fun r _ H locs hk hP hD hS => ?_)
      subst hk
      refine lv_istore (lv' := [(21, .int (mSum (mDlv μ (nI s1)) s1)), (7, .int (nI 1)), (20, .int (nI kd)), (19, .int (nI (cD μ s1 nc))), (18, .int (nI (tn (μ 25 s1) - tn (μ 24 s1)))), (0, .ref b), (1, .ref vo), (2, .ref ha), (3, .ref ra), (4, .ref ga), (5, .int (nI 6)), (6, .int (nI nn)), (8, .int (nI k1)), (9, .int (nI kw)), (10, .int (nI p1)), (11, .int (nI v1)), (12, .int (nI q1)), (13, .int (nI n1)), (14, .int (nI s1)), (15, .int (nI (cD μ (tn (μ 2 p1)) nc))), (16, .int (nI (bt μ (tn (μ 2 p1)) p1 q1))), (17, .int (nI (bt μ (tn (μ 2 p1)) q1 p1)))]) hx hb dL_law_1034 hl (by decide) rfl (fun ls hl => ?_)
      refine lv_aload_n hx hb dL_law_1036 rfl (lv_at hl 6 rfl) ?_
      refine lv_iload hx hb dL_law_1037 (lv_at hl 18 rfl) ?_
      refine lv_iconst (v := 1) hx hb dL_law_1039 (by decide) ?_
      refine vg_tp (nI 1) (by decide) ?_
      refine lv_iadd hx hb dL_law_1040 ?_
      refine vg_tp (nI (s1 + 1)) (nI_add _ _) ?_
      refine lv_iconst (v := 3) hx hb dL_law_1041 (by decide) ?_
      refine vg_tp (nI 3) (by decide) ?_
      refine lv_irem hx hb dL_law_1042 (by decide) ?_
      refine vg_tp (nI ((s1 + 1) % 3)) (pk_rem (by omega) (by omega) (by omega)) ?_
      refine lv_iconst (v := 0) hx hb dL_law_1043 (by decide) ?_
      refine vg_tp (nI 0) (by decide) ?_
      refine vQ_r (va_runV (As := [.int (nI ((s1 + 1) % 3)), .int (nI 0)]) (rest := []) ⟨hx, hb, hml, hown, hts⟩ (kN_ofServer l hfl D cy H.size e0 mi vo 130 (mDlv μ (nI s1)) u hK2.1 (by omega) hK2.2.1.1 (show (s1 + 1) % 3 < 4 by omega) (show 0 < 6 by omega)) (cwV 2 hts gL_law_X4_ofServer rfl rfl rfl (by decide +kernel) ⟨Nat.le_of_ble_eq_true rfl, Nat.le_of_ble_eq_true rfl⟩) (vQ_pV hK2.1 hE hF hZ hS hA hP hD) rfl rfl hl.1 rfl (lv_room (Nat.le_of_ble_eq_true rfl)) dL_law_1044 ⟨by show cells + 5 + 0 ≤ 600104; omega, by show slots + 6170 + 0 ≤ 7301314; omega⟩) hP hD hS hA (fun r _ H locs hk hP hD hS => ?_)
      rw [ofs_0 (show (s1 + 1) % 3 < 4 by omega) lea2] at hk
      subst hk
      refine lv_aload_n hx hb dL_law_1047 rfl (lv_at hl 6 rfl) ?_
      refine lv_iload hx hb dL_law_1048 (lv_at hl 18 rfl) ?_
      refine lv_iconst (v := 2) hx hb dL_law_1050 (by decide) ?_
      refine vg_tp (nI 2) (by decide) ?_
      refine lv_iadd hx hb dL_law_1051 ?_
      refine vg_tp (nI (s1 + 2)) (nI_add _ _) ?_
      refine lv_iconst (v := 3) hx hb dL_law_1052 (by decide) ?_
      refine vg_tp (nI 3) (by decide) ?_
      refine lv_irem hx hb dL_law_1053 (by decide) ?_
      refine vg_tp (nI ((s1 + 2) % 3)) (pk_rem (by omega) (by omega) (by omega)) ?_
      refine lv_iconst (v := 0) hx hb dL_law_1054 (by decide) ?_
      refine vg_tp (nI 0) (by decide) ?_
      refine vQ_r (va_runV (As := [.int (nI ((s1 + 2) % 3)), .int (nI 0)]) (rest := [.int (nI (tn ((mDlv μ (nI s1)) 25 ((s1 + 1) % 3)) - tn ((mDlv μ (nI s1)) 24 ((s1 + 1) % 3))))]) ⟨hx, hb, hml, hown, hts⟩ (kN_ofServer l hfl D cy H.size e0 mi vo 130 (mDlv μ (nI s1)) u hK2.1 (by omega) hK2.2.1.1 (show (s1 + 2) % 3 < 4 by omega) (show 0 < 6 by omega)) (cwV 2 hts gL_law_X4_ofServer rfl rfl rfl (by decide +kernel) ⟨Nat.le_of_ble_eq_true rfl, Nat.le_of_ble_eq_true rfl⟩) (vQ_pV hK2.1 hE hF hZ hS hA hP hD) rfl rfl hl.1 rfl (lv_room (Nat.le_of_ble_eq_true rfl)) dL_law_1055 ⟨by show cells + 5 + 0 ≤ 600104; omega, by show slots + 6170 + 0 ≤ 7301314; omega⟩) hP hD hS hA (fun r _ H locs hk hP hD hS => ?_)
      rw [ofs_0 (show (s1 + 2) % 3 < 4 by omega) leb2] at hk
      subst hk
      refine lv_iadd hx hb dL_law_1058 ?_
      refine vg_tp (nI (tn ((mDlv μ (nI s1)) 25 ((s1 + 1) % 3)) - tn ((mDlv μ (nI s1)) 24 ((s1 + 1) % 3)) + (tn ((mDlv μ (nI s1)) 25 ((s1 + 2) % 3)) - tn ((mDlv μ (nI s1)) 24 ((s1 + 2) % 3))))) (nI_add _ _) ?_
      refine lv_istore (lv' := [(22, .int (nI (tn ((mDlv μ (nI s1)) 25 ((s1 + 1) % 3)) - tn ((mDlv μ (nI s1)) 24 ((s1 + 1) % 3)) + (tn ((mDlv μ (nI s1)) 25 ((s1 + 2) % 3)) - tn ((mDlv μ (nI s1)) 24 ((s1 + 2) % 3)))))), (21, .int (mSum (mDlv μ (nI s1)) s1)), (7, .int (nI 1)), (20, .int (nI kd)), (19, .int (nI (cD μ s1 nc))), (18, .int (nI (tn (μ 25 s1) - tn (μ 24 s1)))), (0, .ref b), (1, .ref vo), (2, .ref ha), (3, .ref ra), (4, .ref ga), (5, .int (nI 6)), (6, .int (nI nn)), (8, .int (nI k1)), (9, .int (nI kw)), (10, .int (nI p1)), (11, .int (nI v1)), (12, .int (nI q1)), (13, .int (nI n1)), (14, .int (nI s1)), (15, .int (nI (cD μ (tn (μ 2 p1)) nc))), (16, .int (nI (bt μ (tn (μ 2 p1)) p1 q1))), (17, .int (nI (bt μ (tn (μ 2 p1)) q1 p1)))]) hx hb dL_law_1059 hl (by decide) rfl (fun ls hl => ?_)
      refine lv_iload hx hb dL_law_1061 (lv_at hl 2 rfl) ?_
      refine lv_if_eq (tgt := 1126) hx hb dL_law_1063 (by decide) (fun z9 => absurd z9 (fun q9 => absurd ((nI_eq (a := 1) (b := 0) (by omega) (by omega)).mp q9) (by omega))) (fun _ => ?_)
      refine lv_iload hx hb dL_law_1066 (lv_at hl 3 rfl) ?_
      refine lv_iconst (v := (-1)) hx hb dL_law_1068 (by decide) ?_
      refine lv_icmp_eq (tgt := 1083) hx hb dL_law_1069 (by decide) (fun z9 => absurd z9 (nI_nm1 (by omega))) (fun _ => ?_)
      refine lv_aload_n hx hb dL_law_1072 rfl (lv_at hl 7 rfl) ?_
      refine lv_iload hx hb dL_law_1073 (lv_at hl 19 rfl) ?_
      refine vQ_r (va_runV (As := [.int (nI s1)]) (rest := []) ⟨hx, hb, hml, hown, hts⟩ (kN_repeat_old l hfl D cy H.size e0 mi vo 130 (mDlv μ (nI s1)) u hK2.1 (by omega) hK2.2.1.1 bs4 (show ¬ tn (mDlv μ (nI s1) 24 s1) = 0 by omega)) (cwV 1 hts gL_law_X4_repeat rfl rfl rfl (by decide +kernel) ⟨Nat.le_of_ble_eq_true rfl, Nat.le_of_ble_eq_true rfl⟩) (vQ_pV hK2.1 hE hF hZ hS hA hP hD) rfl rfl hl.1 rfl (lv_room (Nat.le_of_ble_eq_true rfl)) dL_law_1075 ⟨by show cells + 5 + 0 ≤ 600104; omega, by show slots + 6170 + 0 ≤ 7301314; omega⟩) hP hD hS hA (fun r _ H locs hk hP hD hS => ?_)
      rw [erp, ekd] at hk
      subst hk
      refine lv_iload hx hb dL_law_1078 (lv_at hl 3 rfl) ?_
      refine lv_icmp_ne (tgt := 1126) hx hb dL_law_1080 (by decide) (fun z9 => absurd ((nI_eq (a := kd) (b := kd) (by omega) (by omega)).mpr (by omega)) z9) (fun _ => ?_)
      refine lv_aload_n hx hb dL_law_1083 rfl (lv_at hl 7 rfl) ?_
      refine lv_iload hx hb dL_law_1084 (lv_at hl 19 rfl) ?_
      refine vQ_r (va_runS (As := [.ref vo, .int (nI s1)]) (rest := []) ⟨hx, hb, hml, hown, hts⟩ (kD_sum l hfl D cy H.size e0 mi vo 130 (mDlv μ (nI s1)) u hK2.1 (by omega) hK2.2.1.1 bs4) (va_cwS 2 hts gL_law_L_sum rfl rfl rfl (by decide +kernel) ⟨Nat.le_of_ble_eq_true rfl, Nat.le_of_ble_eq_true rfl⟩) (vQ_pS hE hF hZ hS hA hP hD) rfl rfl hl.1 rfl (lv_room (Nat.le_of_ble_eq_true rfl)) dL_law_1086 ⟨by show cells + 5 + 0 ≤ 600104; omega, by show slots + 6170 + 0 ≤ 7301314; omega⟩) hP hD hS hA (fun r _ H locs hk hP hD hS => ?_)
      subst hk
      refine lv_iload hx hb dL_law_1089 (lv_at hl 1 rfl) ?_
      refine lv_icmp_ne (tgt := 1126) hx hb dL_law_1091 (by decide) (fun z9 => absurd (show mSum (mDlv μ (nI s1)) s1 = mSum (mDlv μ (nI s1)) s1 from rfl) z9) (fun _ => ?_)
      refine lv_aload_n hx hb dL_law_1094 rfl (lv_at hl 7 rfl) ?_
      refine lv_iload hx hb dL_law_1095 (lv_at hl 19 rfl) ?_
      refine lv_iconst (v := 1) hx hb dL_law_1097 (by decide) ?_
      refine vg_tp (nI 1) (by decide) ?_
      refine lv_iadd hx hb dL_law_1098 ?_
      refine vg_tp (nI (s1 + 1)) (nI_add _ _) ?_
      refine lv_iconst (v := 3) hx hb dL_law_1099 (by decide) ?_
      refine vg_tp (nI 3) (by decide) ?_
      refine lv_irem hx hb dL_law_1100 (by decide) ?_
      refine vg_tp (nI ((s1 + 1) % 3)) (pk_rem (by omega) (by omega) (by omega)) ?_
      refine lv_iconst (v := 0) hx hb dL_law_1101 (by decide) ?_
      refine vg_tp (nI 0) (by decide) ?_
      refine vQ_r (va_runV (As := [.int (nI ((s1 + 1) % 3)), .int (nI 0)]) (rest := []) ⟨hx, hb, hml, hown, hts⟩ (kN_ofServer l hfl D cy H.size e0 mi vo 130 (mDlv μ (nI s1)) u hK2.1 (by omega) hK2.2.1.1 (show (s1 + 1) % 3 < 4 by omega) (show 0 < 6 by omega)) (cwV 2 hts gL_law_X4_ofServer rfl rfl rfl (by decide +kernel) ⟨Nat.le_of_ble_eq_true rfl, Nat.le_of_ble_eq_true rfl⟩) (vQ_pV hK2.1 hE hF hZ hS hA hP hD) rfl rfl hl.1 rfl (lv_room (Nat.le_of_ble_eq_true rfl)) dL_law_1102 ⟨by show cells + 5 + 0 ≤ 600104; omega, by show slots + 6170 + 0 ≤ 7301314; omega⟩) hP hD hS hA (fun r _ H locs hk hP hD hS => ?_)
      rw [ofs_0 (show (s1 + 1) % 3 < 4 by omega) lea2] at hk
      subst hk
      refine lv_aload_n hx hb dL_law_1105 rfl (lv_at hl 7 rfl) ?_
      refine lv_iload hx hb dL_law_1106 (lv_at hl 19 rfl) ?_
      refine lv_iconst (v := 2) hx hb dL_law_1108 (by decide) ?_
      refine vg_tp (nI 2) (by decide) ?_
      refine lv_iadd hx hb dL_law_1109 ?_
      refine vg_tp (nI (s1 + 2)) (nI_add _ _) ?_
      refine lv_iconst (v := 3) hx hb dL_law_1110 (by decide) ?_
      refine vg_tp (nI 3) (by decide) ?_
      refine lv_irem hx hb dL_law_1111 (by decide) ?_
      refine vg_tp (nI ((s1 + 2) % 3)) (pk_rem (by omega) (by omega) (by omega)) ?_
      refine lv_iconst (v := 0) hx hb dL_law_1112 (by decide) ?_
      refine vg_tp (nI 0) (by decide) ?_
      refine vQ_r (va_runV (As := [.int (nI ((s1 + 2) % 3)), .int (nI 0)]) (rest := [.int (nI (tn ((mDlv μ (nI s1)) 25 ((s1 + 1) % 3)) - tn ((mDlv μ (nI s1)) 24 ((s1 + 1) % 3))))]) ⟨hx, hb, hml, hown, hts⟩ (kN_ofServer l hfl D cy H.size e0 mi vo 130 (mDlv μ (nI s1)) u hK2.1 (by omega) hK2.2.1.1 (show (s1 + 2) % 3 < 4 by omega) (show 0 < 6 by omega)) (cwV 2 hts gL_law_X4_ofServer rfl rfl rfl (by decide +kernel) ⟨Nat.le_of_ble_eq_true rfl, Nat.le_of_ble_eq_true rfl⟩) (vQ_pV hK2.1 hE hF hZ hS hA hP hD) rfl rfl hl.1 rfl (lv_room (Nat.le_of_ble_eq_true rfl)) dL_law_1113 ⟨by show cells + 5 + 0 ≤ 600104; omega, by show slots + 6170 + 0 ≤ 7301314; omega⟩) hP hD hS hA (fun r _ H locs hk hP hD hS => ?_)
      rw [ofs_0 (show (s1 + 2) % 3 < 4 by omega) leb2] at hk
      subst hk
      refine lv_iadd hx hb dL_law_1116 ?_
      refine vg_tp (nI (tn ((mDlv μ (nI s1)) 25 ((s1 + 1) % 3)) - tn ((mDlv μ (nI s1)) 24 ((s1 + 1) % 3)) + (tn ((mDlv μ (nI s1)) 25 ((s1 + 2) % 3)) - tn ((mDlv μ (nI s1)) 24 ((s1 + 2) % 3))))) (nI_add _ _) ?_
      refine lv_iload hx hb dL_law_1117 (lv_at hl 0 rfl) ?_
      refine lv_icmp_ne (tgt := 1126) hx hb dL_law_1119 (by decide) (fun z9 => absurd ((nI_eq (a := tn ((mDlv μ (nI s1)) 25 ((s1 + 1) % 3)) - tn ((mDlv μ (nI s1)) 24 ((s1 + 1) % 3)) + (tn ((mDlv μ (nI s1)) 25 ((s1 + 2) % 3)) - tn ((mDlv μ (nI s1)) 24 ((s1 + 2) % 3)))) (b := tn ((mDlv μ (nI s1)) 25 ((s1 + 1) % 3)) - tn ((mDlv μ (nI s1)) 24 ((s1 + 1) % 3)) + (tn ((mDlv μ (nI s1)) 25 ((s1 + 2) % 3)) - tn ((mDlv μ (nI s1)) 24 ((s1 + 2) % 3)))) (by omega) (by omega)).mpr (by omega)) z9) (fun _ => ?_)
      refine lv_iconst (v := 1) hx hb dL_law_1122 (by decide) ?_
      refine vg_tp (nI 1) (by decide) ?_
      refine lv_goto (tgt := 1127) hx hb dL_law_1123 (by decide) ?_
      refine lv_istore (lv' := [(7, .int (nI 1)), (22, .int (nI (tn ((mDlv μ (nI s1)) 25 ((s1 + 1) % 3)) - tn ((mDlv μ (nI s1)) 24 ((s1 + 1) % 3)) + (tn ((mDlv μ (nI s1)) 25 ((s1 + 2) % 3)) - tn ((mDlv μ (nI s1)) 24 ((s1 + 2) % 3)))))), (21, .int (mSum (mDlv μ (nI s1)) s1)), (20, .int (nI kd)), (19, .int (nI (cD μ s1 nc))), (18, .int (nI (tn (μ 25 s1) - tn (μ 24 s1)))), (0, .ref b), (1, .ref vo), (2, .ref ha), (3, .ref ra), (4, .ref ga), (5, .int (nI 6)), (6, .int (nI nn)), (8, .int (nI k1)), (9, .int (nI kw)), (10, .int (nI p1)), (11, .int (nI v1)), (12, .int (nI q1)), (13, .int (nI n1)), (14, .int (nI s1)), (15, .int (nI (cD μ (tn (μ 2 p1)) nc))), (16, .int (nI (bt μ (tn (μ 2 p1)) p1 q1))), (17, .int (nI (bt μ (tn (μ 2 p1)) q1 p1)))]) hx hb dL_law_1127 hl (by decide) rfl (fun ls hl => ?_)
      refine W.widen (k := cells + 24) (n := slots + 24702) (by omega) (by omega) ?_
      exact kk (mDlv μ (nI s1)) nn nc u af gf H locs ls ⟨hP, hD, hS, hK2, LA3_SM hA3 hSM⟩ (by omega) (by omega) (by omega) (lv_sub hl [6, 7, 8, 9, 10, 11, 12, 0, 13, 15, 17, 18] rfl)
    · refine vQ_r (va_runV (As := [.int (nI s1)]) (rest := []) ⟨hx, hb, hml, hown, hts⟩ (kN_deliver_old l hfl D cy H.size e0 mi vo 130 μ w hK.1 (by omega) hK.2.1.1 bs4 he hz9) (cwV 1 hts gL_law_X4_deliver rfl rfl rfl (by decide +kernel) ⟨Nat.le_of_ble_eq_true rfl, Nat.le_of_ble_eq_true rfl⟩) (vQ_pV hK.1 hE hF hZ hS hA hP hD) rfl rfl hl.1 rfl (lv_room (Nat.le_of_ble_eq_true rfl)) dL_law_950 ⟨by show cells + 0 ≤ 600104; omega, by show slots + 0 ≤ 7301314; omega⟩) hP hD hS hA (fun r u H locs hk hP hD hS => ?_)
      obtain ⟨hk1a, hk2⟩ := hk
      rw [ekd] at hk1a
      subst hk1a
      obtain ⟨hK2, hSM, ⟨d1, d2⟩, d3, ⟨d4, d5⟩, -, -⟩ := c_dlv hK hn (by omega) hs1 he hk2
      have d3n : tn (mDlv μ (nI s1) 25 s1) = tn (μ 25 s1) := by rw [d3]
      have erp := rep_dlv hK hn (by omega) hs1 he d1
      obtain ⟨w1, w2, w3, w4, w5, w6, w7, w8⟩ := KK_ref hK2 (by omega) (by omega)
      have le2 := (w3 s1 bs4).2
      have lea2 := (w3 ((s1 + 1) % 3) (by omega)).2
      have leb2 := (w3 ((s1 + 2) % 3) (by omega)).2
      have lta2 := (w2 ((s1 + 1) % 3) (by omega)).2
      have ltb2 := (w2 ((s1 + 2) % 3) (by omega)).2
      have bcs2 := cD_le (mDlv μ (nI s1)) s1 nc
      refine lv_istore (lv' := [(20, .int (nI kd)), (19, .int (nI (cD μ s1 nc))), (18, .int (nI (tn (μ 25 s1) - tn (μ 24 s1)))), (0, .ref b), (1, .ref vo), (2, .ref ha), (3, .ref ra), (4, .ref ga), (5, .int (nI 6)), (6, .int (nI nn)), (7, .int (nI 1)), (8, .int (nI k1)), (9, .int (nI kw)), (10, .int (nI p1)), (11, .int (nI v1)), (12, .int (nI q1)), (13, .int (nI n1)), (14, .int (nI s1)), (15, .int (nI (cD μ (tn (μ 2 p1)) nc))), (16, .int (nI (bt μ (tn (μ 2 p1)) p1 q1))), (17, .int (nI (bt μ (tn (μ 2 p1)) q1 p1)))]) hx hb dL_law_953 hl (by decide) rfl (fun ls hl => ?_)
      refine lv_iload hx hb dL_law_955 (lv_at hl 0 rfl) ?_
      refine lv_iconst (v := (-1)) hx hb dL_law_957 (by decide) ?_
      refine lv_icmp_ne (tgt := 974) hx hb dL_law_958 (by decide) (fun _ => ?_) (fun z9 => absurd z9 (nI_nm1 (by omega)))
      refine lv_iload hx hb dL_law_974 (lv_at hl 0 rfl) ?_
      refine lv_bipush (v := 10) hx hb dL_law_976 (by decide) ?_
      refine vg_tp (nI 10) (by decide) ?_
      refine lv_icmp_gt (tgt := 1025) hx hb dL_law_978 (by decide) (fun z9 => absurd z9 (fun q9 => absurd ((nI_ltI (a := 10) (b := kd) (by omega) (by omega)).mp q9) (by omega))) (fun _ => ?_)
      refine lv_aload_n hx hb dL_law_981 rfl (lv_at hl 4 rfl) ?_
      refine lv_iload hx hb dL_law_982 (lv_at hl 17 rfl) ?_
      refine lv_iconst (v := 0) hx hb dL_law_984 (by decide) ?_
      refine vg_tp (nI 0) (by decide) ?_
      refine vQ_r (va_runV (As := [.int (nI s1), .int (nI 0)]) (rest := []) ⟨hx, hb, hml, hown, hts⟩ (kN_ofServer l hfl D cy H.size e0 mi vo 130 (mDlv μ (nI s1)) u hK2.1 (by omega) hK2.2.1.1 bs4 (show 0 < 6 by omega)) (cwV 2 hts gL_law_X4_ofServer rfl rfl rfl (by decide +kernel) ⟨Nat.le_of_ble_eq_true rfl, Nat.le_of_ble_eq_true rfl⟩) (vQ_pV hK2.1 hE hF hZ hS hA hP hD) rfl rfl hl.1 rfl (lv_room (Nat.le_of_ble_eq_true rfl)) dL_law_985 ⟨by show cells + 0 ≤ 600104; omega, by show slots + 0 ≤ 7301314; omega⟩) hP hD hS hA (fun r _ H locs hk hP hD hS => ?_)
      rw [ofs_0 bs4 le2] at hk
      subst hk
      refine lv_iload hx hb dL_law_988 (lv_at hl 2 rfl) ?_
      refine lv_iconst (v := 1) hx hb dL_law_990 (by decide) ?_
      refine vg_tp (nI 1) (by decide) ?_
      refine lv_isub hx hb dL_law_991 ?_
      refine vg_tp (nI ((tn (μ 25 s1) - tn (μ 24 s1)) - 1)) (pk_sub (by omega)) ?_
      refine lv_icmp_ne (tgt := 1025) hx hb dL_law_992 (by decide) (fun z9 => absurd ((nI_eq (a := tn ((mDlv μ (nI s1)) 25 s1) - tn ((mDlv μ (nI s1)) 24 s1)) (b := (tn (μ 25 s1) - tn (μ 24 s1)) - 1) (by omega) (by omega)).mpr (by omega)) z9) (fun _ => ?_)
      refine lv_aload_n hx hb dL_law_995 rfl (lv_at hl 4 rfl) ?_
      refine lv_iload hx hb dL_law_996 (lv_at hl 17 rfl) ?_
      refine lv_iconst (v := 1) hx hb dL_law_998 (by decide) ?_
      refine vg_tp (nI 1) (by decide) ?_
      refine vQ_r (va_runV (As := [.int (nI s1), .int (nI 1)]) (rest := []) ⟨hx, hb, hml, hown, hts⟩ (kN_ofServer l hfl D cy H.size e0 mi vo 130 (mDlv μ (nI s1)) u hK2.1 (by omega) hK2.2.1.1 bs4 (show 1 < 6 by omega)) (cwV 2 hts gL_law_X4_ofServer rfl rfl rfl (by decide +kernel) ⟨Nat.le_of_ble_eq_true rfl, Nat.le_of_ble_eq_true rfl⟩) (vQ_pV hK2.1 hE hF hZ hS hA hP hD) rfl rfl hl.1 rfl (lv_room (Nat.le_of_ble_eq_true rfl)) dL_law_999 ⟨by show cells + 0 ≤ 600104; omega, by show slots + 0 ≤ 7301314; omega⟩) hP hD hS hA (fun r _ H locs hk hP hD hS => ?_)
      rw [ofs_1 bs4 hK2.2.1.2.2.1 (by omega)] at hk
      subst hk
      refine lv_iload hx hb dL_law_1002 (lv_at hl 1 rfl) ?_
      refine lv_icmp_lt (tgt := 1025) hx hb dL_law_1004 (by decide) (fun z9 => absurd z9 (fun q9 => absurd ((nI_ltI (a := cD (mDlv μ (nI s1)) s1 nc) (b := cD μ s1 nc) (by omega) (by omega)).mp q9) (by omega))) (fun _ => ?_)
      refine lv_aload_n hx hb dL_law_1007 rfl (lv_at hl 4 rfl) ?_
      refine lv_iload hx hb dL_law_1008 (lv_at hl 17 rfl) ?_
      refine lv_iconst (v := 1) hx hb dL_law_1010 (by decide) ?_
      refine vg_tp (nI 1) (by decide) ?_
      refine vQ_r (va_runV (As := [.int (nI s1), .int (nI 1)]) (rest := []) ⟨hx, hb, hml, hown, hts⟩ (kN_ofServer l hfl D cy H.size e0 mi vo 130 (mDlv μ (nI s1)) u hK2.1 (by omega) hK2.2.1.1 bs4 (show 1 < 6 by omega)) (cwV 2 hts gL_law_X4_ofServer rfl rfl rfl (by decide +kernel) ⟨Nat.le_of_ble_eq_true rfl, Nat.le_of_ble_eq_true rfl⟩) (vQ_pV hK2.1 hE hF hZ hS hA hP hD) rfl rfl hl.1 rfl (lv_room (Nat.le_of_ble_eq_true rfl)) dL_law_1011 ⟨by show cells + 0 ≤ 600104; omega, by show slots + 0 ≤ 7301314; omega⟩) hP hD hS hA (fun r _ H locs hk hP hD hS => ?_)
      rw [ofs_1 bs4 hK2.2.1.2.2.1 (by omega)] at hk
      subst hk
      refine lv_iload hx hb dL_law_1014 (lv_at hl 1 rfl) ?_
      refine lv_iconst (v := 1) hx hb dL_law_1016 (by decide) ?_
      refine vg_tp (nI 1) (by decide) ?_
      refine lv_iadd hx hb dL_law_1017 ?_
      refine vg_tp (nI (cD μ s1 nc + 1)) (nI_add _ _) ?_
      refine lv_icmp_gt (tgt := 1025) hx hb dL_law_1018 (by decide) (fun z9 => absurd z9 (fun q9 => absurd ((nI_ltI (a := cD μ s1 nc + 1) (b := cD (mDlv μ (nI s1)) s1 nc) (by omega) (by omega)).mp q9) (by omega))) (fun _ => ?_)
      refine lv_iconst (v := 1) hx hb dL_law_1021 (by decide) ?_
      refine vg_tp (nI 1) (by decide) ?_
      refine lv_goto (tgt := 1026) hx hb dL_law_1022 (by decide) ?_
      refine lv_istore (lv' := [(7, .int (nI 1)), (20, .int (nI kd)), (19, .int (nI (cD μ s1 nc))), (18, .int (nI (tn (μ 25 s1) - tn (μ 24 s1)))), (0, .ref b), (1, .ref vo), (2, .ref ha), (3, .ref ra), (4, .ref ga), (5, .int (nI 6)), (6, .int (nI nn)), (8, .int (nI k1)), (9, .int (nI kw)), (10, .int (nI p1)), (11, .int (nI v1)), (12, .int (nI q1)), (13, .int (nI n1)), (14, .int (nI s1)), (15, .int (nI (cD μ (tn (μ 2 p1)) nc))), (16, .int (nI (bt μ (tn (μ 2 p1)) p1 q1))), (17, .int (nI (bt μ (tn (μ 2 p1)) q1 p1)))]) hx hb dL_law_1026 hl (by decide) rfl (fun ls hl => ?_)
      refine lv_aload_n hx hb dL_law_1028 rfl (lv_at hl 5 rfl) ?_
      refine lv_iload hx hb dL_law_1029 (lv_at hl 17 rfl) ?_
      refine vQ_r (va_runS (As := [.ref vo, .int (nI s1)]) (rest := []) ⟨hx, hb, hml, hown, hts⟩ (kD_sum l hfl D cy H.size e0 mi vo 130 (mDlv μ (nI s1)) u hK2.1 (by omega) hK2.2.1.1 bs4) (va_cwS 2 hts gL_law_L_sum rfl rfl rfl (by decide +kernel) ⟨Nat.le_of_ble_eq_true rfl, Nat.le_of_ble_eq_true rfl⟩) (vQ_pS hE hF hZ hS hA hP hD) rfl rfl hl.1 rfl (lv_room (Nat.le_of_ble_eq_true rfl)) dL_law_1031 ⟨by show cells + 0 ≤ 600104; omega, by show slots + 0 ≤ 7301314; omega⟩) hP hD hS hA (fun r _ H locs hk hP hD hS => ?_)
      subst hk
      refine lv_istore (lv' := [(21, .int (mSum (mDlv μ (nI s1)) s1)), (7, .int (nI 1)), (20, .int (nI kd)), (19, .int (nI (cD μ s1 nc))), (18, .int (nI (tn (μ 25 s1) - tn (μ 24 s1)))), (0, .ref b), (1, .ref vo), (2, .ref ha), (3, .ref ra), (4, .ref ga), (5, .int (nI 6)), (6, .int (nI nn)), (8, .int (nI k1)), (9, .int (nI kw)), (10, .int (nI p1)), (11, .int (nI v1)), (12, .int (nI q1)), (13, .int (nI n1)), (14, .int (nI s1)), (15, .int (nI (cD μ (tn (μ 2 p1)) nc))), (16, .int (nI (bt μ (tn (μ 2 p1)) p1 q1))), (17, .int (nI (bt μ (tn (μ 2 p1)) q1 p1)))]) hx hb dL_law_1034 hl (by decide) rfl (fun ls hl => ?_)
      refine lv_aload_n hx hb dL_law_1036 rfl (lv_at hl 6 rfl) ?_
      refine lv_iload hx hb dL_law_1037 (lv_at hl 18 rfl) ?_
      refine lv_iconst (v := 1) hx hb dL_law_1039 (by decide) ?_
      refine vg_tp (nI 1) (by decide) ?_
      refine lv_iadd hx hb dL_law_1040 ?_
      refine vg_tp (nI (s1 + 1)) (nI_add _ _) ?_
      refine lv_iconst (v := 3) hx hb dL_law_1041 (by decide) ?_
      refine vg_tp (nI 3) (by decide) ?_
      refine lv_irem hx hb dL_law_1042 (by decide) ?_
      refine vg_tp (nI ((s1 + 1) % 3)) (pk_rem (by omega) (by omega) (by omega)) ?_
      refine lv_iconst (v := 0) hx hb dL_law_1043 (by decide) ?_
      refine vg_tp (nI 0) (by decide) ?_
      refine vQ_r (va_runV (As := [.int (nI ((s1 + 1) % 3)), .int (nI 0)]) (rest := []) ⟨hx, hb, hml, hown, hts⟩ (kN_ofServer l hfl D cy H.size e0 mi vo 130 (mDlv μ (nI s1)) u hK2.1 (by omega) hK2.2.1.1 (show (s1 + 1) % 3 < 4 by omega) (show 0 < 6 by omega)) (cwV 2 hts gL_law_X4_ofServer rfl rfl rfl (by decide +kernel) ⟨Nat.le_of_ble_eq_true rfl, Nat.le_of_ble_eq_true rfl⟩) (vQ_pV hK2.1 hE hF hZ hS hA hP hD) rfl rfl hl.1 rfl (lv_room (Nat.le_of_ble_eq_true rfl)) dL_law_1044 ⟨by show cells + 0 ≤ 600104; omega, by show slots + 0 ≤ 7301314; omega⟩) hP hD hS hA (fun r _ H locs hk hP hD hS => ?_)
      rw [ofs_0 (show (s1 + 1) % 3 < 4 by omega) lea2] at hk
      subst hk
      refine lv_aload_n hx hb dL_law_1047 rfl (lv_at hl 6 rfl) ?_
      refine lv_iload hx hb dL_law_1048 (lv_at hl 18 rfl) ?_
      refine lv_iconst (v := 2) hx hb dL_law_1050 (by decide) ?_
      refine vg_tp (nI 2) (by decide) ?_
      refine lv_iadd hx hb dL_law_1051 ?_
      refine vg_tp (nI (s1 + 2)) (nI_add _ _) ?_
      refine lv_iconst (v := 3) hx hb dL_law_1052 (by decide) ?_
      refine vg_tp (nI 3) (by decide) ?_
      refine lv_irem hx hb dL_law_1053 (by decide) ?_
      refine vg_tp (nI ((s1 + 2) % 3)) (pk_rem (by omega) (by omega) (by omega)) ?_
      refine lv_iconst (v := 0) hx hb dL_law_1054 (by decide) ?_
      refine vg_tp (nI 0) (by decide) ?_
      refine vQ_r (va_runV (As := [.int (nI ((s1 + 2) % 3)), .int (nI 0)]) (rest := [.int (nI (tn ((mDlv μ (nI s1)) 25 ((s1 + 1) % 3)) - tn ((mDlv μ (nI s1)) 24 ((s1 + 1) % 3))))]) ⟨hx, hb, hml, hown, hts⟩ (kN_ofServer l hfl D cy H.size e0 mi vo 130 (mDlv μ (nI s1)) u hK2.1 (by omega) hK2.2.1.1 (show (s1 + 2) % 3 < 4 by omega) (show 0 < 6 by omega)) (cwV 2 hts gL_law_X4_ofServer rfl rfl rfl (by decide +kernel) ⟨Nat.le_of_ble_eq_true rfl, Nat.le_of_ble_eq_true rfl⟩) (vQ_pV hK2.1 hE hF hZ hS hA hP hD) rfl rfl hl.1 rfl (lv_room (Nat.le_of_ble_eq_true rfl)) dL_law_1055 ⟨by show cells + 0 ≤ 600104; omega, by show slots + 0 ≤ 7301314; omega⟩) hP hD hS hA (fun r _ H locs hk hP hD hS => ?_)
      rw [ofs_0 (show (s1 + 2) % 3 < 4 by omega) leb2] at hk
      subst hk
      refine lv_iadd hx hb dL_law_1058 ?_
      refine vg_tp (nI (tn ((mDlv μ (nI s1)) 25 ((s1 + 1) % 3)) - tn ((mDlv μ (nI s1)) 24 ((s1 + 1) % 3)) + (tn ((mDlv μ (nI s1)) 25 ((s1 + 2) % 3)) - tn ((mDlv μ (nI s1)) 24 ((s1 + 2) % 3))))) (nI_add _ _) ?_
      refine lv_istore (lv' := [(22, .int (nI (tn ((mDlv μ (nI s1)) 25 ((s1 + 1) % 3)) - tn ((mDlv μ (nI s1)) 24 ((s1 + 1) % 3)) + (tn ((mDlv μ (nI s1)) 25 ((s1 + 2) % 3)) - tn ((mDlv μ (nI s1)) 24 ((s1 + 2) % 3)))))), (21, .int (mSum (mDlv μ (nI s1)) s1)), (7, .int (nI 1)), (20, .int (nI kd)), (19, .int (nI (cD μ s1 nc))), (18, .int (nI (tn (μ 25 s1) - tn (μ 24 s1)))), (0, .ref b), (1, .ref vo), (2, .ref ha), (3, .ref ra), (4, .ref ga), (5, .int (nI 6)), (6, .int (nI nn)), (8, .int (nI k1)), (9, .int (nI kw)), (10, .int (nI p1)), (11, .int (nI v1)), (12, .int (nI q1)), (13, .int (nI n1)), (14, .int (nI s1)), (15, .int (nI (cD μ (tn (μ 2 p1)) nc))), (16, .int (nI (bt μ (tn (μ 2 p1)) p1 q1))), (17, .int (nI (bt μ (tn (μ 2 p1)) q1 p1)))]) hx hb dL_law_1059 hl (by decide) rfl (fun ls hl => ?_)
      refine lv_iload hx hb dL_law_1061 (lv_at hl 2 rfl) ?_
      refine lv_if_eq (tgt := 1126) hx hb dL_law_1063 (by decide) (fun z9 => absurd z9 (fun q9 => absurd ((nI_eq (a := 1) (b := 0) (by omega) (by omega)).mp q9) (by omega))) (fun _ => ?_)
      refine lv_iload hx hb dL_law_1066 (lv_at hl 3 rfl) ?_
      refine lv_iconst (v := (-1)) hx hb dL_law_1068 (by decide) ?_
      refine lv_icmp_eq (tgt := 1083) hx hb dL_law_1069 (by decide) (fun z9 => absurd z9 (nI_nm1 (by omega))) (fun _ => ?_)
      refine lv_aload_n hx hb dL_law_1072 rfl (lv_at hl 7 rfl) ?_
      refine lv_iload hx hb dL_law_1073 (lv_at hl 19 rfl) ?_
      refine vQ_r (va_runV (As := [.int (nI s1)]) (rest := []) ⟨hx, hb, hml, hown, hts⟩ (kN_repeat_old l hfl D cy H.size e0 mi vo 130 (mDlv μ (nI s1)) u hK2.1 (by omega) hK2.2.1.1 bs4 (show ¬ tn (mDlv μ (nI s1) 24 s1) = 0 by omega)) (cwV 1 hts gL_law_X4_repeat rfl rfl rfl (by decide +kernel) ⟨Nat.le_of_ble_eq_true rfl, Nat.le_of_ble_eq_true rfl⟩) (vQ_pV hK2.1 hE hF hZ hS hA hP hD) rfl rfl hl.1 rfl (lv_room (Nat.le_of_ble_eq_true rfl)) dL_law_1075 ⟨by show cells + 0 ≤ 600104; omega, by show slots + 0 ≤ 7301314; omega⟩) hP hD hS hA (fun r _ H locs hk hP hD hS => ?_)
      rw [erp, ekd] at hk
      subst hk
      refine lv_iload hx hb dL_law_1078 (lv_at hl 3 rfl) ?_
      refine lv_icmp_ne (tgt := 1126) hx hb dL_law_1080 (by decide) (fun z9 => absurd ((nI_eq (a := kd) (b := kd) (by omega) (by omega)).mpr (by omega)) z9) (fun _ => ?_)
      refine lv_aload_n hx hb dL_law_1083 rfl (lv_at hl 7 rfl) ?_
      refine lv_iload hx hb dL_law_1084 (lv_at hl 19 rfl) ?_
      refine vQ_r (va_runS (As := [.ref vo, .int (nI s1)]) (rest := []) ⟨hx, hb, hml, hown, hts⟩ (kD_sum l hfl D cy H.size e0 mi vo 130 (mDlv μ (nI s1)) u hK2.1 (by omega) hK2.2.1.1 bs4) (va_cwS 2 hts gL_law_L_sum rfl rfl rfl (by decide +kernel) ⟨Nat.le_of_ble_eq_true rfl, Nat.le_of_ble_eq_true rfl⟩) (vQ_pS hE hF hZ hS hA hP hD) rfl rfl hl.1 rfl (lv_room (Nat.le_of_ble_eq_true rfl)) dL_law_1086 ⟨by show cells + 0 ≤ 600104; omega, by show slots + 0 ≤ 7301314; omega⟩) hP hD hS hA (fun r _ H locs hk hP hD hS => ?_)
      subst hk
      refine lv_iload hx hb dL_law_1089 (lv_at hl 1 rfl) ?_
      refine lv_icmp_ne (tgt := 1126) hx hb dL_law_1091 (by decide) (fun z9 => absurd (show mSum (mDlv μ (nI s1)) s1 = mSum (mDlv μ (nI s1)) s1 from rfl) z9) (fun _ => ?_)
      refine lv_aload_n hx hb dL_law_1094 rfl (lv_at hl 7 rfl) ?_
      refine lv_iload hx hb dL_law_1095 (lv_at hl 19 rfl) ?_
      refine lv_iconst (v := 1) hx hb dL_law_1097 (by decide) ?_
      refine vg_tp (nI 1) (by decide) ?_
      refine lv_iadd hx hb dL_law_1098 ?_
      refine vg_tp (nI (s1 + 1)) (nI_add _ _) ?_
      refine lv_iconst (v := 3) hx hb dL_law_1099 (by decide) ?_
      refine vg_tp (nI 3) (by decide) ?_
      refine lv_irem hx hb dL_law_1100 (by decide) ?_
      refine vg_tp (nI ((s1 + 1) % 3)) (pk_rem (by omega) (by omega) (by omega)) ?_
      refine lv_iconst (v := 0) hx hb dL_law_1101 (by decide) ?_
      refine vg_tp (nI 0) (by decide) ?_
      refine vQ_r (va_runV (As := [.int (nI ((s1 + 1) % 3)), .int (nI 0)]) (rest := []) ⟨hx, hb, hml, hown, hts⟩ (kN_ofServer l hfl D cy H.size e0 mi vo 130 (mDlv μ (nI s1)) u hK2.1 (by omega) hK2.2.1.1 (show (s1 + 1) % 3 < 4 by omega) (show 0 < 6 by omega)) (cwV 2 hts gL_law_X4_ofServer rfl rfl rfl (by decide +kernel) ⟨Nat.le_of_ble_eq_true rfl, Nat.le_of_ble_eq_true rfl⟩) (vQ_pV hK2.1 hE hF hZ hS hA hP hD) rfl rfl hl.1 rfl (lv_room (Nat.le_of_ble_eq_true rfl)) dL_law_1102 ⟨by show cells + 0 ≤ 600104; omega, by show slots + 0 ≤ 7301314; omega⟩) hP hD hS hA (fun r _ H locs hk hP hD hS => ?_)
      rw [ofs_0 (show (s1 + 1) % 3 < 4 by omega) lea2] at hk
      subst hk
      refine lv_aload_n hx hb dL_law_1105 rfl (lv_at hl 7 rfl) ?_
      refine lv_iload hx hb dL_law_1106 (lv_at hl 19 rfl) ?_
      refine lv_iconst (v := 2) hx hb dL_law_1108 (by decide) ?_
      refine vg_tp (nI 2) (by decide) ?_
      refine lv_iadd hx hb dL_law_1109 ?_
      refine vg_tp (nI (s1 + 2)) (nI_add _ _) ?_
      refine lv_iconst (v := 3) hx hb dL_law_1110 (by decide) ?_
      refine vg_tp (nI 3) (by decide) ?_
      refine lv_irem hx hb dL_law_1111 (by decide) ?_
      refine vg_tp (nI ((s1 + 2) % 3)) (pk_rem (by omega) (by omega) (by omega)) ?_
      refine lv_iconst (v := 0) hx hb dL_law_1112 (by decide) ?_
      refine vg_tp (nI 0) (by decide) ?_
      refine vQ_r (va_runV (As := [.int (nI ((s1 + 2) % 3)), .int (nI 0)]) (rest := [.int (nI (tn ((mDlv μ (nI s1)) 25 ((s1 + 1) % 3)) - tn ((mDlv μ (nI s1)) 24 ((s1 + 1) % 3))))]) ⟨hx, hb, hml, hown, hts⟩ (kN_ofServer l hfl D cy H.size e0 mi vo 130 (mDlv μ (nI s1)) u hK2.1 (by omega) hK2.2.1.1 (show (s1 + 2) % 3 < 4 by omega) (show 0 < 6 by omega)) (cwV 2 hts gL_law_X4_ofServer rfl rfl rfl (by decide +kernel) ⟨Nat.le_of_ble_eq_true rfl, Nat.le_of_ble_eq_true rfl⟩) (vQ_pV hK2.1 hE hF hZ hS hA hP hD) rfl rfl hl.1 rfl (lv_room (Nat.le_of_ble_eq_true rfl)) dL_law_1113 ⟨by show cells + 0 ≤ 600104; omega, by show slots + 0 ≤ 7301314; omega⟩) hP hD hS hA (fun r _ H locs hk hP hD hS => ?_)
      rw [ofs_0 (show (s1 + 2) % 3 < 4 by omega) leb2] at hk
      subst hk
      refine lv_iadd hx hb dL_law_1116 ?_
      refine vg_tp (nI (tn ((mDlv μ (nI s1)) 25 ((s1 + 1) % 3)) - tn ((mDlv μ (nI s1)) 24 ((s1 + 1) % 3)) + (tn ((mDlv μ (nI s1)) 25 ((s1 + 2) % 3)) - tn ((mDlv μ (nI s1)) 24 ((s1 + 2) % 3))))) (nI_add _ _) ?_
      refine lv_iload hx hb dL_law_1117 (lv_at hl 0 rfl) ?_
      refine lv_icmp_ne (tgt := 1126) hx hb dL_law_1119 (by decide) (fun z9 => absurd ((nI_eq (a := tn ((mDlv μ (nI s1)) 25 ((s1 + 1) % 3)) - tn ((mDlv μ (nI s1)) 24 ((s1 + 1) % 3)) + (tn ((mDlv μ (nI s1)) 25 ((s1 + 2) % 3)) - tn ((mDlv μ (nI s1)) 24 ((s1 + 2) % 3)))) (b := tn ((mDlv μ (nI s1)) 25 ((s1 + 1) % 3)) - tn ((mDlv μ (nI s1)) 24 ((s1 + 1) % 3)) + (tn ((mDlv μ (nI s1)) 25 ((s1 + 2) % 3)) - tn ((mDlv μ (nI s1)) 24 ((s1 + 2) % 3)))) (by omega) (by omega)).mpr (by omega)) z9) (fun _ => ?_)
      refine lv_iconst (v := 1) hx hb dL_law_1122 (by decide) ?_
      refine vg_tp (nI 1) (by decide) ?_
      refine lv_goto (tgt := 1127) hx hb dL_law_1123 (by decide) ?_
      refine lv_istore (lv' := [(7, .int (nI 1)), (22, .int (nI (tn ((mDlv μ (nI s1)) 25 ((s1 + 1) % 3)) - tn ((mDlv μ (nI s1)) 24 ((s1 + 1) % 3)) + (tn ((mDlv μ (nI s1)) 25 ((s1 + 2) % 3)) - tn ((mDlv μ (nI s1)) 24 ((s1 + 2) % 3)))))), (21, .int (mSum (mDlv μ (nI s1)) s1)), (20, .int (nI kd)), (19, .int (nI (cD μ s1 nc))), (18, .int (nI (tn (μ 25 s1) - tn (μ 24 s1)))), (0, .ref b), (1, .ref vo), (2, .ref ha), (3, .ref ra), (4, .ref ga), (5, .int (nI 6)), (6, .int (nI nn)), (8, .int (nI k1)), (9, .int (nI kw)), (10, .int (nI p1)), (11, .int (nI v1)), (12, .int (nI q1)), (13, .int (nI n1)), (14, .int (nI s1)), (15, .int (nI (cD μ (tn (μ 2 p1)) nc))), (16, .int (nI (bt μ (tn (μ 2 p1)) p1 q1))), (17, .int (nI (bt μ (tn (μ 2 p1)) q1 p1)))]) hx hb dL_law_1127 hl (by decide) rfl (fun ls hl => ?_)
      refine W.widen (k := cells + 24) (n := slots + 24702) (by omega) (by omega) ?_
      exact kk (mDlv μ (nI s1)) nn nc u af gf H locs ls ⟨hP, hD, hS, hK2, LA3_SM hA3 hSM⟩ (by omega) (by omega) (by omega) (lv_sub hl [6, 7, 8, 9, 10, 11, 12, 0, 13, 15, 17, 18] rfl)
