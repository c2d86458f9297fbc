/-! the law's cases -/
set_option maxHeartbeats 4000000 in
set_option maxRecDepth 100000 in
theorem kC_ofServer {p : Program} {l : Launch} {e : Env} {s : State} {m : MethodId} {below : List Frame} {meth : Method} {c : Code} {b L : Nat} {xs : Nat → Int32} {A0 : Nat → Prop} {D : va_G} {cy : Nat → ClassId} {e0 mi vo mo oa n cells slots : Nat} {ad : Nat → Nat} {μ : Nat → Nat → Int32} {f : Nat → Int64} {w : va_W} {H : Heap} {locs : List Loc} {ls : Array Slot} {Q : State → Prop} (hLE : LE p l s m c b L xs A0 D cy e0 mi) (hLW : LW s A0 D cy e0 vo mo oa n ad μ f w H locs) (hn : n < 512) (h5 : 5 * n + 5 ≤ L) (hl : lv_has ls 7 [(0, .ref b), (1, .ref vo), (2, .ref mo), (3, .ref oa), (4, .int (nI (5 * n)))]) (hc : cells + 12 ≤ room_1.cells) (hs : slots + 12351 ≤ room_1.slots) (kk : ∀ (μ' : Nat → Nat → Int32) (f' : Nat → Int64) (w' : va_W) (H' : Heap) (locs' : List Loc) (ls' : Array Slot), LW s A0 D cy e0 vo mo oa (n + 1) ad μ' f' w' H' locs' → lv_has ls' 7 [(0, .ref b), (1, .ref vo), (2, .ref mo), (3, .ref oa), (4, .int (nI (5 * n)))] → W p l e room_1 s m #[Value.ref b] below meth c H' locs' (cells + 12) (slots + 12351) Q (F0 m 1214 ls' [])) : W p l e room_1 s m #[Value.ref b] below meth c H locs cells slots Q (F0 m 848 ls []) := by
  obtain ⟨⟨hx, hb, hml, hown, hts⟩, ⟨hX, hbl, hL, hfl, hA, hbA⟩, hE, hF, hZ, hN⟩ := hLE
  obtain ⟨hP, hD, hS, hI⟩ := hLW
  obtain ⟨f1, f2, f3, f4, f5, f6⟩ := CI_ref hI hn
  obtain ⟨a1, e1⟩ : ∃ y, y = xs (nI (5 * n + 1)).toNatClampNeg := ⟨_, rfl⟩
  obtain ⟨a2, e2⟩ : ∃ y, y = xs (nI (5 * n + 2)).toNatClampNeg := ⟨_, rfl⟩
  refine lv_aload_n hx hb dL_law_848 rfl (lv_at hl 1 rfl) ?_
  refine lv_aload_n hx hb dL_law_849 rfl (lv_at hl 0 rfl) ?_
  refine lv_iload hx hb dL_law_850 (lv_at hl 4 rfl) ?_
  refine lv_iconst (v := 1) hx hb dL_law_852 (by decide) ?_
  refine lv_iadd hx hb dL_law_853 ?_
  refine vg_tp (nI (5 * n + 1)) (nI_add _ 1) ?_
  refine va_sld hx hb hX hbl hbA hS (vp_in_nI (by omega) (by omega)) dL_law_854 ?_
  refine vg_tp a1 e1.symm ?_
  refine lv_aload_n hx hb dL_law_855 rfl (lv_at hl 0 rfl) ?_
  refine lv_iload hx hb dL_law_856 (lv_at hl 4 rfl) ?_
  refine lv_iconst (v := 2) hx hb dL_law_858 (by decide) ?_
  refine lv_iadd hx hb dL_law_859 ?_
  refine vg_tp (nI (5 * n + 2)) (nI_add _ 2) ?_
  refine va_sld hx hb hX hbl hbA hS (vp_in_nI (by omega) (by omega)) dL_law_860 ?_
  refine vg_tp a2 e2.symm ?_
  refine lv_aload_n hx hb dL_law_861 rfl (lv_at hl 3 rfl) ?_
  have hp9 : (wJ (uOut cy oa f) (wJ (Mw cy mo ad μ) w) : va_W).Perm (wJ (wJ (uOut cy oa f) w) (Mw cy mo ad μ)) := vp_pc (fun n9 hn9 h90 => by simp only [wJ, hn9, h90, Nat.add_zero, Nat.zero_add] <;> ac_rfl)
  refine vj_calli (vx_runSW (As := [.ref vo, .int a1, .int a2, .ref oa]) (rest := []) ⟨hx, hb, hml, hown, hts⟩ (kM_ofServer l hfl D cy H.size e0 mi vo n μ w a1 a2 oa f hI hn) (vx_cwSW 4 hts gL_law_L_ofServer rfl rfl rfl (by decide +kernel) ⟨Nat.le_of_ble_eq_true rfl, Nat.le_of_ble_eq_true rfl⟩) (vk_P.preS hE hF hZ hN hS (vj_free (vd_perm hp9 hD) hS hA) (vp_app.mp (vp_perm hP hp9)).1 (vd_app.mp (vd_perm hp9 hD)).1) rfl rfl hl.1 rfl (lv_room (Nat.le_of_ble_eq_true rfl)) dL_law_862 ⟨hc, hs⟩) hP hD hS hA hp9 (fun r u H locs hk hP hD hS => ?_)
  have hp8 : (wJ (wJ (uOut cy oa u.1) u.2) (Mw cy mo ad μ) : va_W).Perm (wJ (Mw cy mo ad μ) (wJ (uOut cy oa u.1) u.2)) := vp_pc (fun n9 hn9 h90 => by simp only [wJ, hn9, h90, Nat.add_zero, Nat.zero_add] <;> ac_rfl)
  have hP : va_P D vwCl (wJ (Mw cy mo ad μ) (wJ (uOut cy oa u.1) u.2)) H := vp_perm hP hp8
  have hD : va_D A0 (wJ (Mw cy mo ad μ) (wJ (uOut cy oa u.1) u.2)) := vd_perm hp8 hD
  refine lv_istore (lv' := [(5, .int r), (0, .ref b), (1, .ref vo), (2, .ref mo), (3, .ref oa), (4, .int (nI (5 * n)))]) hx hb dL_law_865 hl (by decide) rfl (fun ls hl => ?_)
  refine lv_aload_n hx hb dL_law_867 rfl (lv_at hl 3 rfl) ?_
  refine lv_aload_n hx hb dL_law_868 rfl (lv_at hl 1 rfl) ?_
  refine lv_iload hx hb dL_law_869 (lv_at hl 5 rfl) ?_
  refine lv_iconst (v := 1) hx hb dL_law_871 (by decide) ?_
  refine lv_iadd hx hb dL_law_872 ?_
  refine vg_tp (nI (5 * n + 1)) (nI_add _ 1) ?_
  refine va_sld hx hb hX hbl hbA hS (vp_in_nI (by omega) (by omega)) dL_law_873 ?_
  refine vg_tp a1 e1.symm ?_
  refine lv_aload_n hx hb dL_law_874 rfl (lv_at hl 1 rfl) ?_
  refine lv_iload hx hb dL_law_875 (lv_at hl 5 rfl) ?_
  refine lv_iconst (v := 2) hx hb dL_law_877 (by decide) ?_
  refine lv_iadd hx hb dL_law_878 ?_
  refine vg_tp (nI (5 * n + 2)) (nI_add _ 2) ?_
  refine va_sld hx hb hX hbl hbA hS (vp_in_nI (by omega) (by omega)) dL_law_879 ?_
  refine vg_tp a2 e2.symm ?_
  refine vj_calli (va_runV (As := [.int a1, .int a2]) (rest := []) ⟨hx, hb, hml, hown, hts⟩ (kX5_ofServer l D cy H.size mo ad μ a1 a2 f1 f3 f2 f5) (cwV 2 hts gL_law_X5_ofServer rfl rfl rfl (by decide +kernel) ⟨Nat.le_of_ble_eq_true rfl, Nat.le_of_ble_eq_true rfl⟩) (vg_P.preV hE hP 0 rfl rfl (vp_app.mp hP).1 (vd_app.mp hD).1) rfl rfl hl.1 rfl (lv_room (Nat.le_of_ble_eq_true rfl)) dL_law_880 ⟨hc, hs⟩) hP hD hS hA (List.Perm.refl _) (fun r2 _ H locs hk2 hP hD hS => ?_)
  have hP : va_P D vwCl (wJ (Mw cy mo ad (va_up μ 0 (fun _ => mOfsT μ a1 a2))) (wJ (uOut cy oa u.1) u.2)) H := hP
  have hD : va_D A0 (wJ (Mw cy mo ad (va_up μ 0 (fun _ => mOfsT μ a1 a2))) (wJ (uOut cy oa u.1) u.2)) := hD
  refine lv_istore (lv' := [(6, .int r2), (5, .int r), (0, .ref b), (1, .ref vo), (2, .ref mo), (3, .ref oa), (4, .int (nI (5 * n)))]) hx hb dL_law_883 hl (by decide) rfl (fun ls hl => ?_)
  refine lv_aload_n hx hb dL_law_885 rfl (lv_at hl 4 rfl) ?_
  refine vj_calli (va_runV (As := []) (rest := []) ⟨hx, hb, hml, hown, hts⟩ (kX5_thrown l D cy H.size mo ad (va_up μ 0 (fun _ => mOfsT μ a1 a2))) (cwV 0 hts gL_law_X5_thrown rfl rfl rfl (by decide +kernel) ⟨Nat.le_of_ble_eq_true rfl, Nat.le_of_ble_eq_true rfl⟩) (vg_P.preV hE hP 0 rfl rfl (vp_app.mp hP).1 (vd_app.mp hD).1) rfl rfl hl.1 rfl (lv_room (Nat.le_of_ble_eq_true rfl)) dL_law_886 ⟨hc, hs⟩) hP hD hS hA (List.Perm.refl _) (fun r3 _ H locs hk3 hP hD hS => ?_)
  have hp6 : (wJ (Mw cy mo ad (va_up μ 0 (fun _ => mOfsT μ a1 a2))) (wJ (uOut cy oa u.1) u.2) : va_W).Perm (wJ (uOut cy oa u.1) (wJ (Mw cy mo ad (va_up μ 0 (fun _ => mOfsT μ a1 a2))) u.2)) := vp_pc (fun n9 hn9 h90 => by simp only [wJ, hn9, h90, Nat.add_zero, Nat.zero_add] <;> ac_rfl)
  have hP : va_P D vwCl (wJ (uOut cy oa u.1) (wJ (Mw cy mo ad (va_up μ 0 (fun _ => mOfsT μ a1 a2))) u.2)) H := vp_perm hP hp6
  have hD : va_D A0 (wJ (uOut cy oa u.1) (wJ (Mw cy mo ad (va_up μ 0 (fun _ => mOfsT μ a1 a2))) u.2)) := vd_perm hp6 hD
  refine lv_iload hx hb dL_law_889 (lv_at hl 1 rfl) ?_
  refine lv_icmp_eq (tgt := 896) hx hb dL_law_891 (by decide) (fun _ => ?_) (fun z => absurd (hk3.trans hk.1.symm) z)
  refine lv_iload hx hb dL_law_896 (lv_at hl 1 rfl) ?_
  refine lv_if_ne (tgt := 913) hx hb dL_law_898 (by decide) (fun _ => ?_) (fun hr0 => ?_)
  · refine lv_goto (tgt := 1214) hx hb dL_law_913 (by decide) ?_
    exact kk (va_up μ 0 (fun _ => mOfsT μ a1 a2)) u.1 u.2 H locs ls ⟨hP, hD, hS, hk.2.2.2⟩ (lv_sub hl [2, 3, 4, 5, 6] rfl)
  · refine lv_aload_n hx hb dL_law_901 rfl (lv_at hl 5 rfl) ?_
    refine lv_iconst (v := 0) hx hb dL_law_902 (by decide) ?_
    refine vg_tp (nI 0) rfl ?_
    refine vg_lald hx hb hE.1 hP 0 1 rfl rfl (f := u.1) (j := 0) (by decide) (by decide) dL_law_903 ?_
    refine vg_tpl (r2.toInt64) (by rw [hk.2.1 hr0, hk2]; exact if_pos rfl) ?_
    refine lv_iload hx hb dL_law_904 (lv_at hl 0 rfl) ?_
    refine lv_i2l (v := r2.toInt64) hx hb dL_law_906 rfl ?_
    refine W.lcmp hx hb dL_law_907 ?_
    refine vg_tp 0 (lg_cmp_0 _) ?_
    refine lv_if_eq (tgt := 913) hx hb dL_law_908 (by decide) (fun _ => ?_) (fun z => absurd rfl z)
    refine lv_goto (tgt := 1214) hx hb dL_law_913 (by decide) ?_
    exact kk (va_up μ 0 (fun _ => mOfsT μ a1 a2)) u.1 u.2 H locs ls ⟨hP, hD, hS, hk.2.2.2⟩ (lv_sub hl [2, 3, 4, 5, 6] rfl)

set_option maxHeartbeats 4000000 in
set_option maxRecDepth 100000 in
theorem kC_between {p : Program} {l : Launch} {e : Env} {s : State} {m : MethodId} {below : List Frame} {meth : Method} {c : Code} {b L : Nat} {xs : Nat → Int32} {A0 : Nat → Prop} {D : va_G} {cy : Nat → ClassId} {e0 mi vo mo oa n cells slots : Nat} {ad : Nat → Nat} {μ : Nat → Nat → Int32} {f : Nat → Int64} {w : va_W} {H : Heap} {locs : List Loc} {ls : Array Slot} {Q : State → Prop} (hLE : LE p l s m c b L xs A0 D cy e0 mi) (hLW : LW s A0 D cy e0 vo mo oa n ad μ f w H locs) (hn : n < 512) (h5 : 5 * n + 5 ≤ L) (hl : lv_has ls 7 [(0, .ref b), (1, .ref vo), (2, .ref mo), (3, .ref oa), (4, .int (nI (5 * n)))]) (hc : cells + 12 ≤ room_1.cells) (hs : slots + 12351 ≤ room_1.slots) (kk : ∀ (μ' : Nat → Nat → Int32) (f' : Nat → Int64) (w' : va_W) (H' : Heap) (locs' : List Loc) (ls' : Array Slot), LW s A0 D cy e0 vo mo oa (n + 1) ad μ' f' w' H' locs' → lv_has ls' 7 [(0, .ref b), (1, .ref vo), (2, .ref mo), (3, .ref oa), (4, .int (nI (5 * n)))] → W p l e room_1 s m #[Value.ref b] below meth c H' locs' (cells + 12) (slots + 12351) Q (F0 m 1214 ls' [])) : W p l e room_1 s m #[Value.ref b] below meth c H locs cells slots Q (F0 m 916 ls []) := by
  obtain ⟨⟨hx, hb, hml, hown, hts⟩, ⟨hX, hbl, hL, hfl, hA, hbA⟩, hE, hF, hZ, hN⟩ := hLE
  obtain ⟨hP, hD, hS, hI⟩ := hLW
  obtain ⟨f1, f2, f3, f4, f5, f6⟩ := CI_ref hI hn
  obtain ⟨a1, e1⟩ : ∃ y, y = xs (nI (5 * n + 1)).toNatClampNeg := ⟨_, rfl⟩
  obtain ⟨a2, e2⟩ : ∃ y, y = xs (nI (5 * n + 2)).toNatClampNeg := ⟨_, rfl⟩
  obtain ⟨a3, e3⟩ : ∃ y, y = xs (nI (5 * n + 3)).toNatClampNeg := ⟨_, rfl⟩
  refine lv_aload_n hx hb dL_law_916 rfl (lv_at hl 1 rfl) ?_
  refine lv_aload_n hx hb dL_law_917 rfl (lv_at hl 0 rfl) ?_
  refine lv_iload hx hb dL_law_918 (lv_at hl 4 rfl) ?_
  refine lv_iconst (v := 1) hx hb dL_law_920 (by decide) ?_
  refine lv_iadd hx hb dL_law_921 ?_
  refine vg_tp (nI (5 * n + 1)) (nI_add _ 1) ?_
  refine va_sld hx hb hX hbl hbA hS (vp_in_nI (by omega) (by omega)) dL_law_922 ?_
  refine vg_tp a1 e1.symm ?_
  refine lv_aload_n hx hb dL_law_923 rfl (lv_at hl 0 rfl) ?_
  refine lv_iload hx hb dL_law_924 (lv_at hl 4 rfl) ?_
  refine lv_iconst (v := 2) hx hb dL_law_926 (by decide) ?_
  refine lv_iadd hx hb dL_law_927 ?_
  refine vg_tp (nI (5 * n + 2)) (nI_add _ 2) ?_
  refine va_sld hx hb hX hbl hbA hS (vp_in_nI (by omega) (by omega)) dL_law_928 ?_
  refine vg_tp a2 e2.symm ?_
  refine lv_aload_n hx hb dL_law_929 rfl (lv_at hl 0 rfl) ?_
  refine lv_iload hx hb dL_law_930 (lv_at hl 4 rfl) ?_
  refine lv_iconst (v := 3) hx hb dL_law_932 (by decide) ?_
  refine lv_iadd hx hb dL_law_933 ?_
  refine vg_tp (nI (5 * n + 3)) (nI_add _ 3) ?_
  refine va_sld hx hb hX hbl hbA hS (vp_in_nI (by omega) (by omega)) dL_law_934 ?_
  refine vg_tp a3 e3.symm ?_
  refine lv_aload_n hx hb dL_law_935 rfl (lv_at hl 3 rfl) ?_
  have hp9 : (wJ (uOut cy oa f) (wJ (Mw cy mo ad μ) w) : va_W).Perm (wJ (wJ (uOut cy oa f) w) (Mw cy mo ad μ)) := vp_pc (fun n9 hn9 h90 => by simp only [wJ, hn9, h90, Nat.add_zero, Nat.zero_add] <;> ac_rfl)
  refine vj_calli (vx_runSW (As := [.ref vo, .int a1, .int a2, .int a3, .ref oa]) (rest := []) ⟨hx, hb, hml, hown, hts⟩ (kM_between l hfl D cy H.size e0 mi vo n μ w a1 a2 a3 oa f hI hn) (vx_cwSW 5 hts gL_law_L_between rfl rfl rfl (by decide +kernel) ⟨Nat.le_of_ble_eq_true rfl, Nat.le_of_ble_eq_true rfl⟩) (vk_P.preS hE hF hZ hN hS (vj_free (vd_perm hp9 hD) hS hA) (vp_app.mp (vp_perm hP hp9)).1 (vd_app.mp (vd_perm hp9 hD)).1) rfl rfl hl.1 rfl (lv_room (Nat.le_of_ble_eq_true rfl)) dL_law_936 ⟨hc, hs⟩) hP hD hS hA hp9 (fun r u H locs hk hP hD hS => ?_)
  have hp8 : (wJ (wJ (uOut cy oa u.1) u.2) (Mw cy mo ad μ) : va_W).Perm (wJ (Mw cy mo ad μ) (wJ (uOut cy oa u.1) u.2)) := vp_pc (fun n9 hn9 h90 => by simp only [wJ, hn9, h90, Nat.add_zero, Nat.zero_add] <;> ac_rfl)
  have hP : va_P D vwCl (wJ (Mw cy mo ad μ) (wJ (uOut cy oa u.1) u.2)) H := vp_perm hP hp8
  have hD : va_D A0 (wJ (Mw cy mo ad μ) (wJ (uOut cy oa u.1) u.2)) := vd_perm hp8 hD
  refine lv_istore (lv' := [(5, .int r), (0, .ref b), (1, .ref vo), (2, .ref mo), (3, .ref oa), (4, .int (nI (5 * n)))]) hx hb dL_law_939 hl (by decide) rfl (fun ls hl => ?_)
  refine lv_aload_n hx hb dL_law_941 rfl (lv_at hl 3 rfl) ?_
  refine lv_aload_n hx hb dL_law_942 rfl (lv_at hl 1 rfl) ?_
  refine lv_iload hx hb dL_law_943 (lv_at hl 5 rfl) ?_
  refine lv_iconst (v := 1) hx hb dL_law_945 (by decide) ?_
  refine lv_iadd hx hb dL_law_946 ?_
  refine vg_tp (nI (5 * n + 1)) (nI_add _ 1) ?_
  refine va_sld hx hb hX hbl hbA hS (vp_in_nI (by omega) (by omega)) dL_law_947 ?_
  refine vg_tp a1 e1.symm ?_
  refine lv_aload_n hx hb dL_law_948 rfl (lv_at hl 1 rfl) ?_
  refine lv_iload hx hb dL_law_949 (lv_at hl 5 rfl) ?_
  refine lv_iconst (v := 2) hx hb dL_law_951 (by decide) ?_
  refine lv_iadd hx hb dL_law_952 ?_
  refine vg_tp (nI (5 * n + 2)) (nI_add _ 2) ?_
  refine va_sld hx hb hX hbl hbA hS (vp_in_nI (by omega) (by omega)) dL_law_953 ?_
  refine vg_tp a2 e2.symm ?_
  refine lv_aload_n hx hb dL_law_954 rfl (lv_at hl 1 rfl) ?_
  refine lv_iload hx hb dL_law_955 (lv_at hl 5 rfl) ?_
  refine lv_iconst (v := 3) hx hb dL_law_957 (by decide) ?_
  refine lv_iadd hx hb dL_law_958 ?_
  refine vg_tp (nI (5 * n + 3)) (nI_add _ 3) ?_
  refine va_sld hx hb hX hbl hbA hS (vp_in_nI (by omega) (by omega)) dL_law_959 ?_
  refine vg_tp a3 e3.symm ?_
  refine vj_calli (va_runV (As := [.int a1, .int a2, .int a3]) (rest := []) ⟨hx, hb, hml, hown, hts⟩ (kX5_between l D cy H.size mo ad μ a1 a2 a3 f1) (cwV 3 hts gL_law_X5_between rfl rfl rfl (by decide +kernel) ⟨Nat.le_of_ble_eq_true rfl, Nat.le_of_ble_eq_true rfl⟩) (vg_P.preV hE hP 0 rfl rfl (vp_app.mp hP).1 (vd_app.mp hD).1) rfl rfl hl.1 rfl (lv_room (Nat.le_of_ble_eq_true rfl)) dL_law_960 ⟨hc, hs⟩) hP hD hS hA (List.Perm.refl _) (fun r2 _ H locs hk2 hP hD hS => ?_)
  have hP : va_P D vwCl (wJ (Mw cy mo ad (va_up μ 0 (fun _ => mBetT μ a1 a2 a3))) (wJ (uOut cy oa u.1) u.2)) H := hP
  have hD : va_D A0 (wJ (Mw cy mo ad (va_up μ 0 (fun _ => mBetT μ a1 a2 a3))) (wJ (uOut cy oa u.1) u.2)) := hD
  refine lv_istore (lv' := [(6, .int r2), (5, .int r), (0, .ref b), (1, .ref vo), (2, .ref mo), (3, .ref oa), (4, .int (nI (5 * n)))]) hx hb dL_law_963 hl (by decide) rfl (fun ls hl => ?_)
  refine lv_aload_n hx hb dL_law_965 rfl (lv_at hl 4 rfl) ?_
  refine vj_calli (va_runV (As := []) (rest := []) ⟨hx, hb, hml, hown, hts⟩ (kX5_thrown l D cy H.size mo ad (va_up μ 0 (fun _ => mBetT μ a1 a2 a3))) (cwV 0 hts gL_law_X5_thrown rfl rfl rfl (by decide +kernel) ⟨Nat.le_of_ble_eq_true rfl, Nat.le_of_ble_eq_true rfl⟩) (vg_P.preV hE hP 0 rfl rfl (vp_app.mp hP).1 (vd_app.mp hD).1) rfl rfl hl.1 rfl (lv_room (Nat.le_of_ble_eq_true rfl)) dL_law_966 ⟨hc, hs⟩) hP hD hS hA (List.Perm.refl _) (fun r3 _ H locs hk3 hP hD hS => ?_)
  have hp6 : (wJ (Mw cy mo ad (va_up μ 0 (fun _ => mBetT μ a1 a2 a3))) (wJ (uOut cy oa u.1) u.2) : va_W).Perm (wJ (uOut cy oa u.1) (wJ (Mw cy mo ad (va_up μ 0 (fun _ => mBetT μ a1 a2 a3))) u.2)) := vp_pc (fun n9 hn9 h90 => by simp only [wJ, hn9, h90, Nat.add_zero, Nat.zero_add] <;> ac_rfl)
  have hP : va_P D vwCl (wJ (uOut cy oa u.1) (wJ (Mw cy mo ad (va_up μ 0 (fun _ => mBetT μ a1 a2 a3))) u.2)) H := vp_perm hP hp6
  have hD : va_D A0 (wJ (uOut cy oa u.1) (wJ (Mw cy mo ad (va_up μ 0 (fun _ => mBetT μ a1 a2 a3))) u.2)) := vd_perm hp6 hD
  refine lv_iload hx hb dL_law_969 (lv_at hl 1 rfl) ?_
  refine lv_icmp_eq (tgt := 976) hx hb dL_law_971 (by decide) (fun _ => ?_) (fun z => absurd (hk3.trans hk.1.symm) z)
  refine lv_iload hx hb dL_law_976 (lv_at hl 1 rfl) ?_
  refine lv_if_ne (tgt := 993) hx hb dL_law_978 (by decide) (fun _ => ?_) (fun hr0 => ?_)
  · refine lv_goto (tgt := 1214) hx hb dL_law_993 (by decide) ?_
    exact kk (va_up μ 0 (fun _ => mBetT μ a1 a2 a3)) u.1 u.2 H locs ls ⟨hP, hD, hS, hk.2.2.2⟩ (lv_sub hl [2, 3, 4, 5, 6] rfl)
  · refine lv_aload_n hx hb dL_law_981 rfl (lv_at hl 5 rfl) ?_
    refine lv_iconst (v := 0) hx hb dL_law_982 (by decide) ?_
    refine vg_tp (nI 0) rfl ?_
    refine vg_lald hx hb hE.1 hP 0 1 rfl rfl (f := u.1) (j := 0) (by decide) (by decide) dL_law_983 ?_
    refine vg_tpl (r2.toInt64) (by rw [hk.2.1 hr0, hk2]; exact if_pos rfl) ?_
    refine lv_iload hx hb dL_law_984 (lv_at hl 0 rfl) ?_
    refine lv_i2l (v := r2.toInt64) hx hb dL_law_986 rfl ?_
    refine W.lcmp hx hb dL_law_987 ?_
    refine vg_tp 0 (lg_cmp_0 _) ?_
    refine lv_if_eq (tgt := 993) hx hb dL_law_988 (by decide) (fun _ => ?_) (fun z => absurd rfl z)
    refine lv_goto (tgt := 1214) hx hb dL_law_993 (by decide) ?_
    exact kk (va_up μ 0 (fun _ => mBetT μ a1 a2 a3)) u.1 u.2 H locs ls ⟨hP, hD, hS, hk.2.2.2⟩ (lv_sub hl [2, 3, 4, 5, 6] rfl)

set_option maxHeartbeats 4000000 in
set_option maxRecDepth 100000 in
theorem kC_sees {p : Program} {l : Launch} {e : Env} {s : State} {m : MethodId} {below : List Frame} {meth : Method} {c : Code} {b L : Nat} {xs : Nat → Int32} {A0 : Nat → Prop} {D : va_G} {cy : Nat → ClassId} {e0 mi vo mo oa n cells slots : Nat} {ad : Nat → Nat} {μ : Nat → Nat → Int32} {f : Nat → Int64} {w : va_W} {H : Heap} {locs : List Loc} {ls : Array Slot} {Q : State → Prop} (hLE : LE p l s m c b L xs A0 D cy e0 mi) (hLW : LW s A0 D cy e0 vo mo oa n ad μ f w H locs) (hn : n < 512) (h5 : 5 * n + 5 ≤ L) (hl : lv_has ls 7 [(0, .ref b), (1, .ref vo), (2, .ref mo), (3, .ref oa), (4, .int (nI (5 * n)))]) (hc : cells + 12 ≤ room_1.cells) (hs : slots + 12351 ≤ room_1.slots) (kk : ∀ (μ' : Nat → Nat → Int32) (f' : Nat → Int64) (w' : va_W) (H' : Heap) (locs' : List Loc) (ls' : Array Slot), LW s A0 D cy e0 vo mo oa (n + 1) ad μ' f' w' H' locs' → lv_has ls' 7 [(0, .ref b), (1, .ref vo), (2, .ref mo), (3, .ref oa), (4, .int (nI (5 * n)))] → W p l e room_1 s m #[Value.ref b] below meth c H' locs' (cells + 12) (slots + 12351) Q (F0 m 1214 ls' [])) : W p l e room_1 s m #[Value.ref b] below meth c H locs cells slots Q (F0 m 996 ls []) := by
  obtain ⟨⟨hx, hb, hml, hown, hts⟩, ⟨hX, hbl, hL, hfl, hA, hbA⟩, hE, hF, hZ, hN⟩ := hLE
  obtain ⟨hP, hD, hS, hI⟩ := hLW
  obtain ⟨f1, f2, f3, f4, f5, f6⟩ := CI_ref hI hn
  obtain ⟨a1, e1⟩ : ∃ y, y = xs (nI (5 * n + 1)).toNatClampNeg := ⟨_, rfl⟩
  obtain ⟨a2, e2⟩ : ∃ y, y = xs (nI (5 * n + 2)).toNatClampNeg := ⟨_, rfl⟩
  refine lv_aload_n hx hb dL_law_996 rfl (lv_at hl 1 rfl) ?_
  refine lv_aload_n hx hb dL_law_997 rfl (lv_at hl 0 rfl) ?_
  refine lv_iload hx hb dL_law_998 (lv_at hl 4 rfl) ?_
  refine lv_iconst (v := 1) hx hb dL_law_1000 (by decide) ?_
  refine lv_iadd hx hb dL_law_1001 ?_
  refine vg_tp (nI (5 * n + 1)) (nI_add _ 1) ?_
  refine va_sld hx hb hX hbl hbA hS (vp_in_nI (by omega) (by omega)) dL_law_1002 ?_
  refine vg_tp a1 e1.symm ?_
  refine lv_aload_n hx hb dL_law_1003 rfl (lv_at hl 0 rfl) ?_
  refine lv_iload hx hb dL_law_1004 (lv_at hl 4 rfl) ?_
  refine lv_iconst (v := 2) hx hb dL_law_1006 (by decide) ?_
  refine lv_iadd hx hb dL_law_1007 ?_
  refine vg_tp (nI (5 * n + 2)) (nI_add _ 2) ?_
  refine va_sld hx hb hX hbl hbA hS (vp_in_nI (by omega) (by omega)) dL_law_1008 ?_
  refine vg_tp a2 e2.symm ?_
  refine lv_aload_n hx hb dL_law_1009 rfl (lv_at hl 3 rfl) ?_
  have hp9 : (wJ (uOut cy oa f) (wJ (Mw cy mo ad μ) w) : va_W).Perm (wJ (wJ (uOut cy oa f) w) (Mw cy mo ad μ)) := vp_pc (fun n9 hn9 h90 => by simp only [wJ, hn9, h90, Nat.add_zero, Nat.zero_add] <;> ac_rfl)
  refine vj_calli (vx_runSW (As := [.ref vo, .int a1, .int a2, .ref oa]) (rest := []) ⟨hx, hb, hml, hown, hts⟩ (kM_sees l hfl D cy H.size e0 mi vo n μ w a1 a2 oa f hI hn) (vx_cwSW 4 hts gL_law_L_sees rfl rfl rfl (by decide +kernel) ⟨Nat.le_of_ble_eq_true rfl, Nat.le_of_ble_eq_true rfl⟩) (vk_P.preS hE hF hZ hN hS (vj_free (vd_perm hp9 hD) hS hA) (vp_app.mp (vp_perm hP hp9)).1 (vd_app.mp (vd_perm hp9 hD)).1) rfl rfl hl.1 rfl (lv_room (Nat.le_of_ble_eq_true rfl)) dL_law_1010 ⟨hc, hs⟩) hP hD hS hA hp9 (fun r u H locs hk hP hD hS => ?_)
  have hp8 : (wJ (wJ (uOut cy oa u.1) u.2) (Mw cy mo ad μ) : va_W).Perm (wJ (Mw cy mo ad μ) (wJ (uOut cy oa u.1) u.2)) := vp_pc (fun n9 hn9 h90 => by simp only [wJ, hn9, h90, Nat.add_zero, Nat.zero_add] <;> ac_rfl)
  have hP : va_P D vwCl (wJ (Mw cy mo ad μ) (wJ (uOut cy oa u.1) u.2)) H := vp_perm hP hp8
  have hD : va_D A0 (wJ (Mw cy mo ad μ) (wJ (uOut cy oa u.1) u.2)) := vd_perm hp8 hD
  refine lv_istore (lv' := [(5, .int r), (0, .ref b), (1, .ref vo), (2, .ref mo), (3, .ref oa), (4, .int (nI (5 * n)))]) hx hb dL_law_1013 hl (by decide) rfl (fun ls hl => ?_)
  refine lv_aload_n hx hb dL_law_1015 rfl (lv_at hl 3 rfl) ?_
  refine lv_aload_n hx hb dL_law_1016 rfl (lv_at hl 1 rfl) ?_
  refine lv_iload hx hb dL_law_1017 (lv_at hl 5 rfl) ?_
  refine lv_iconst (v := 1) hx hb dL_law_1019 (by decide) ?_
  refine lv_iadd hx hb dL_law_1020 ?_
  refine vg_tp (nI (5 * n + 1)) (nI_add _ 1) ?_
  refine va_sld hx hb hX hbl hbA hS (vp_in_nI (by omega) (by omega)) dL_law_1021 ?_
  refine vg_tp a1 e1.symm ?_
  refine lv_aload_n hx hb dL_law_1022 rfl (lv_at hl 1 rfl) ?_
  refine lv_iload hx hb dL_law_1023 (lv_at hl 5 rfl) ?_
  refine lv_iconst (v := 2) hx hb dL_law_1025 (by decide) ?_
  refine lv_iadd hx hb dL_law_1026 ?_
  refine vg_tp (nI (5 * n + 2)) (nI_add _ 2) ?_
  refine va_sld hx hb hX hbl hbA hS (vp_in_nI (by omega) (by omega)) dL_law_1027 ?_
  refine vg_tp a2 e2.symm ?_
  refine vj_calli (va_runV (As := [.int a1, .int a2]) (rest := []) ⟨hx, hb, hml, hown, hts⟩ (kX5_sees l D cy H.size mo ad μ a1 a2 f1 f4) (cwV 2 hts gL_law_X5_sees rfl rfl rfl (by decide +kernel) ⟨Nat.le_of_ble_eq_true rfl, Nat.le_of_ble_eq_true rfl⟩) (vg_P.preV hE hP 0 rfl rfl (vp_app.mp hP).1 (vd_app.mp hD).1) rfl rfl hl.1 rfl (lv_room (Nat.le_of_ble_eq_true rfl)) dL_law_1028 ⟨hc, hs⟩) hP hD hS hA (List.Perm.refl _) (fun r2 _ H locs hk2 hP hD hS => ?_)
  have hP : va_P D vwCl (wJ (Mw cy mo ad (mSee μ a1 a2)) (wJ (uOut cy oa u.1) u.2)) H := hP
  have hD : va_D A0 (wJ (Mw cy mo ad (mSee μ a1 a2)) (wJ (uOut cy oa u.1) u.2)) := hD
  refine lv_istore (lv' := [(6, .int r2), (5, .int r), (0, .ref b), (1, .ref vo), (2, .ref mo), (3, .ref oa), (4, .int (nI (5 * n)))]) hx hb dL_law_1031 hl (by decide) rfl (fun ls hl => ?_)
  refine lv_aload_n hx hb dL_law_1033 rfl (lv_at hl 4 rfl) ?_
  refine vj_calli (va_runV (As := []) (rest := []) ⟨hx, hb, hml, hown, hts⟩ (kX5_thrown l D cy H.size mo ad (mSee μ a1 a2)) (cwV 0 hts gL_law_X5_thrown rfl rfl rfl (by decide +kernel) ⟨Nat.le_of_ble_eq_true rfl, Nat.le_of_ble_eq_true rfl⟩) (vg_P.preV hE hP 0 rfl rfl (vp_app.mp hP).1 (vd_app.mp hD).1) rfl rfl hl.1 rfl (lv_room (Nat.le_of_ble_eq_true rfl)) dL_law_1034 ⟨hc, hs⟩) hP hD hS hA (List.Perm.refl _) (fun r3 _ H locs hk3 hP hD hS => ?_)
  have hp6 : (wJ (Mw cy mo ad (mSee μ a1 a2)) (wJ (uOut cy oa u.1) u.2) : va_W).Perm (wJ (uOut cy oa u.1) (wJ (Mw cy mo ad (mSee μ a1 a2)) u.2)) := vp_pc (fun n9 hn9 h90 => by simp only [wJ, hn9, h90, Nat.add_zero, Nat.zero_add] <;> ac_rfl)
  have hP : va_P D vwCl (wJ (uOut cy oa u.1) (wJ (Mw cy mo ad (mSee μ a1 a2)) u.2)) H := vp_perm hP hp6
  have hD : va_D A0 (wJ (uOut cy oa u.1) (wJ (Mw cy mo ad (mSee μ a1 a2)) u.2)) := vd_perm hp6 hD
  refine lv_iload hx hb dL_law_1037 (lv_at hl 1 rfl) ?_
  refine lv_icmp_eq (tgt := 1044) hx hb dL_law_1039 (by decide) (fun _ => ?_) (fun z => absurd (hk3.trans hk.1.symm) z)
  refine lv_iload hx hb dL_law_1044 (lv_at hl 1 rfl) ?_
  refine lv_if_ne (tgt := 1068) hx hb dL_law_1046 (by decide) (fun _ => ?_) (fun hr0 => ?_)
  · refine lv_goto (tgt := 1214) hx hb dL_law_1068 (by decide) ?_
    exact kk (mSee μ a1 a2) u.1 u.2 H locs ls ⟨hP, hD, hS, hk.2.2.2⟩ (lv_sub hl [2, 3, 4, 5, 6] rfl)
  · refine lv_aload_n hx hb dL_law_1049 rfl (lv_at hl 5 rfl) ?_
    refine lv_iconst (v := 0) hx hb dL_law_1050 (by decide) ?_
    refine vg_tp (nI 0) rfl ?_
    refine vg_lald hx hb hE.1 hP 0 1 rfl rfl (f := u.1) (j := 0) (by decide) (by decide) dL_law_1051 ?_
    refine vg_tpl ((bI (mSeeR μ a1 a2)).toInt64) (by rw [hk.2.1 hr0]; exact if_pos rfl) ?_
    refine lv_iload hx hb dL_law_1052 (lv_at hl 0 rfl) ?_
    refine vg_tp (bI (mSeeR μ a1 a2)) hk2 ?_
    refine lv_if_eq (tgt := 1061) hx hb dL_law_1054 (by decide) (fun hz => ?_) (fun hz => ?_)
    · have hz : mSeeR μ a1 a2 = false := by cases q : mSeeR μ a1 a2; rfl; rw [q] at hz; exact absurd hz (by decide)
      refine lv_lconst (v := 0) hx hb dL_law_1061 (by decide) ?_
      refine W.lcmp hx hb dL_law_1062 ?_
      refine vg_tp 0 (by rw [hz]; decide) ?_
      refine lv_if_eq (tgt := 1068) hx hb dL_law_1063 (by decide) (fun _ => ?_) (fun z => absurd rfl z)
      refine lv_goto (tgt := 1214) hx hb dL_law_1068 (by decide) ?_
      exact kk (mSee μ a1 a2) u.1 u.2 H locs ls ⟨hP, hD, hS, hk.2.2.2⟩ (lv_sub hl [2, 3, 4, 5, 6] rfl)
    · have hz : mSeeR μ a1 a2 = true := by cases q : mSeeR μ a1 a2; rw [q] at hz; exact absurd rfl hz; rfl
      refine lv_lconst (v := 1) hx hb dL_law_1057 (by decide) ?_
      refine lv_goto (tgt := 1062) hx hb dL_law_1058 (by decide) ?_
      refine W.lcmp hx hb dL_law_1062 ?_
      refine vg_tp 0 (by rw [hz]; decide) ?_
      refine lv_if_eq (tgt := 1068) hx hb dL_law_1063 (by decide) (fun _ => ?_) (fun z => absurd rfl z)
      refine lv_goto (tgt := 1214) hx hb dL_law_1068 (by decide) ?_
      exact kk (mSee μ a1 a2) u.1 u.2 H locs ls ⟨hP, hD, hS, hk.2.2.2⟩ (lv_sub hl [2, 3, 4, 5, 6] rfl)
