set_option maxHeartbeats 4000000 in
set_option maxRecDepth 100000 in
theorem kX5_delete (l : Launch) (D : va_G) (cy : Nat → ClassId) (sz : Nat) (mo : Nat) (ad : Nat → Nat) (μ : Nat → Nat → Int32) (n0 : Int32) (hw : mWF μ) (hla : mLast μ 1199) (hac0 : isN (μ 17 0) 600) (hpo : isN (μ 11 0) 51) : Met l yX5_delete wsX5_delete ({ frames := 6, cells := 0, slots := 0, locals := 145 }) (vg_P D cy [.ref mo, .int n0] sz (Mw cy mo ad μ)) (vg_Qi (S := Unit) D sz (Mw cy mo ad μ) (fun r _ => r = (mDelR μ n0)) (fun _ => Mw cy mo ad (mDel μ n0))) 0 0 (va_A (Mw cy mo ad μ) sz) := by
  refine Met.ofW (cc := cX5_delete) (maxL := 6) (ret := (some .int)) (by decide) rfl ?_
  intro p e s m args below meth c s₁ BB hml hv
  obtain ⟨rfl, hsz, hP, hE, hD0⟩ := hv
  have hx := BB.exec
  have hb := BB.bytes
  have hr := BB.returns
  have hts := atoms_spec (ws := wsX5_delete) BB.pre
  have hown : s.vm.findClass RX5 = some m.cls := findClass_of_methodNamed BB.named
  have hlocks := BB.notSynchronized
  subst hsz
  have hD := hD0.self (sz := s.heap.size)
  have hA : ∀ q : Nat, s.heap.size ≤ q → (va_A (Mw cy mo ad μ) s.heap.size) q := fun q h => Or.inr h
  have hS : va_S (va_A (Mw cy mo ad μ) s.heap.size) s.heap s.heap [] := va_S.rf
  have hin_RX5 : ∀ w ∈ u_ws RX5 TX5 26, w ∈ wsX5_delete := by decide +kernel
  have hl := lv_entry ([.ref mo, .int n0]) (n := 6) (Nat.le_of_ble_eq_true rfl)
  rw [lg_entry_eq]
  generalize (lg_sl ([.ref mo, .int n0]) ++ List.replicate (6 - (lg_sl ([.ref mo, .int n0])).length) Slot.unset).toArray = ls at hl ⊢
  have hl : lv_has ls 6 [(0, .ref mo), (1, .int n0)] := hl
  obtain ⟨hpe, hho, hau, hre, hac⟩ := hw
  have hpe2 := hpe.2
  have hpo2 := hpo.2
  have L105 : ∀ (fuel : Nat) (k0 : Nat), 4 - k0 < fuel → (k0 ≤ 4) → (mDelT μ n0 = 0) → ∀ (H : Heap) (locs : List Loc), va_P D vwCl (Mw cy mo ad (mDel μ n0)) H → va_D (va_A (Mw cy mo ad μ) s.heap.size) (Mw cy mo ad (mDel μ n0)) → va_S (va_A (Mw cy mo ad μ) s.heap.size) s.heap H locs → ∀ ls : Array Slot, lv_has ls 6 [(0, .ref mo), (3, .int (mDelS μ n0)), (4, .int (mBits (mDelS μ n0) k0)), (5, .int (nI k0))] → W p l e (headSpec wsX5_delete ({ frames := 6, cells := 0, slots := 0, locals := 145 })).room s m ([.ref mo, .int n0] : List Value).toArray below meth c H locs 0 0 (MQ below (vg_Qi (S := Unit) D s.heap.size (Mw cy mo ad μ) (fun r _ => r = (mDelR μ n0)) (fun _ => Mw cy mo ad (mDel μ n0))) ([.ref mo, .int n0] : List Value).toArray s 0 0 (va_A (Mw cy mo ad μ) s.heap.size)) (F0 m 105 ls []) := by
    intro fuel
    induction fuel with
    | zero => intros; omega
    | succ fuel ih =>
      intro k0 hfuel hi hT H locs hP hD hS ls hl
      refine lv_iload hx hb dX5_delete_105 (lv_at hl 3 rfl) ?_
      refine lv_iconst (v := 4) hx hb dX5_delete_107 (by decide) ?_
      refine lv_icmp_ge (tgt := 128) hx hb dX5_delete_108 (by decide) (fun r1 => ?_) (fun r1 => ?_)
      · have c1 : 4 ≤ k0 := (nI_leI (a := 4) (b := k0) (by omega) (by omega)).mp r1
        have e4 : k0 = 4 := by omega
        refine lv_iload hx hb dX5_delete_128 (lv_at hl 2 rfl) ?_
        refine vg_tp (mDelR μ n0) (by simp [mDelR, hT, c1, e4]) ?_
        exact W.iret (v := (mDelR μ n0)) hx hb hr (fun t ht hW => ⟨⟨(mDelR μ n0), (), rfl, rfl, (by rw [ht]; exact hP), hD⟩, hS.F ht⟩) hS.2.2 dX5_delete_130
      · have c1 : k0 < 4 := Nat.lt_of_not_le (fun q => r1 ((nI_leI (a := 4) (b := k0) (by omega) (by omega)).mpr q))
        refine lv_iload hx hb dX5_delete_111 (lv_at hl 2 rfl) ?_
        refine lv_iload_n hx hb dX5_delete_113 rfl (lv_at hl 1 rfl) ?_
        refine lv_iload hx hb dX5_delete_114 (lv_at hl 3 rfl) ?_
        refine lv_ishr hx hb dX5_delete_116 ?_
        refine lv_iconst (v := 1) hx hb dX5_delete_117 (by decide) ?_
        refine lv_iand hx hb dX5_delete_118 ?_
        refine lv_iadd hx hb dX5_delete_119 ?_
        refine lv_istore (lv' := [(4, .int ((mBits (mDelS μ n0) k0) + (((mDelS μ n0) >>> ((nI k0) &&& 31)) &&& 1))), (0, .ref mo), (3, .int (mDelS μ n0)), (5, .int (nI k0))]) hx hb dX5_delete_120 hl (by decide) rfl (fun ls hl => ?_)
        have hl : lv_has ls 6 [(0, .ref mo), (3, .int (mDelS μ n0)), (4, .int ((mBits (mDelS μ n0) k0) + (((mDelS μ n0) >>> ((nI k0) &&& 31)) &&& 1))), (5, .int (nI k0))] := lv_sub hl [1, 2, 0, 3] rfl
        refine lv_iinc (v := (nI (k0 + 1))) (lv' := [(5, .int (nI (k0 + 1))), (0, .ref mo), (3, .int (mDelS μ n0)), (4, .int ((mBits (mDelS μ n0) k0) + (((mDelS μ n0) >>> ((nI k0) &&& 31)) &&& 1)))]) hx hb dX5_delete_122 hl (k := 3) rfl (by first | rfl | exact nI_add _ _ | decide) (by decide) rfl (fun ls hl => ?_)
        have hl : lv_has ls 6 [(0, .ref mo), (3, .int (mDelS μ n0)), (4, .int ((mBits (mDelS μ n0) k0) + (((mDelS μ n0) >>> ((nI k0) &&& 31)) &&& 1))), (5, .int (nI (k0 + 1)))] := lv_sub hl [1, 2, 3, 0] rfl
        refine lv_goto (tgt := 105) hx hb dX5_delete_125 (by decide) ?_
        have q2 : ((mBits (mDelS μ n0) (k0 + 1)) : Int32) = ((mBits (mDelS μ n0) k0) + (((mDelS μ n0) >>> ((nI k0) &&& 31)) &&& 1)) := by first | rfl | simp [mBits]
        exact ih (k0 + 1) (by omega) (by omega) (hT) _ _ hP hD hS ls (by rw [q2]; exact lv_sub hl [0, 1, 2, 3] rfl)
  refine lv_iload_n hx hb dX5_delete_0 rfl (lv_at hl 1 rfl) ?_
  refine lv_iconst (v := 0) hx hb dX5_delete_1 (by decide) ?_
  refine lv_aload_n hx hb dX5_delete_2 rfl (lv_at hl 0 rfl) ?_
  refine va_get (D := D) (ci := 6) (v := .int ((μ 11) 0)) (C := RX5) (T := TX5) (N := 26) hx hb hts hin_RX5 hown hE.1 hP 0 rfl rfl 11 (by decide) (hts (.fieldLink RX5 136 "VillagepostModel" "posts" "I") (by decide +kernel)) (fun _ h9 => h9) rfl dX5_delete_3 ?_
  refine lv_iconst (v := 1) hx hb dX5_delete_6 (by decide) ?_
  refine lv_isub hx hb dX5_delete_7 ?_
  refine vg_calliP (va_runS (As := [.int n0, .int 0, .int (((μ 11) 0) - 1)]) (rest := []) ⟨hx, hb, hml, hown, hts⟩ (kX5_in l D cy s.heap.size n0 0 ((((μ 11) 0) - 1))) (va_cwS 3 hts gX5_delete_X5_in rfl rfl rfl (by decide +kernel) ⟨Nat.le_of_ble_eq_true rfl, Nat.le_of_ble_eq_true rfl⟩) (vg_P.preS hE vg_P0 (A := fun _ => True) vg_D0) rfl rfl hl.1 rfl (lv_room (Nat.le_of_ble_eq_true rfl)) dX5_delete_8 ⟨Nat.le_of_ble_eq_true rfl, Nat.le_of_ble_eq_true rfl⟩) hP hD hS hA (fun r _ H locs hr hP hD hS => ?_)
  subst hr
  refine lv_if_ne (tgt := 21) hx hb dX5_delete_11 (by decide) (fun r3 => ?_) (fun r3 => ?_)
  · have c3 : (mIn n0 0 ((((μ 11) 0) - 1))) = true := bI_n0.mp r3
    have hn0 : isN n0 50 := (mIn_n hpo (by omega) c3).1
    have hn02 := hn0.2
    refine lv_aload_n hx hb dX5_delete_21 rfl (lv_at hl 0 rfl) ?_
    refine va_get (D := D) (ci := 6) (v := .ref (ad 2)) (C := RX5) (T := TX5) (N := 26) hx hb hts hin_RX5 hown hE.1 hP 0 rfl rfl 2 (by decide) (hts (.fieldLink RX5 7 "VillagepostModel" "home" "[I") (by decide +kernel)) (fun _ h9 => h9) rfl dX5_delete_22 ?_
    refine lv_aload_n hx hb dX5_delete_25 rfl (lv_at hl 0 rfl) ?_
    refine va_get (D := D) (ci := 6) (v := .ref (ad 12)) (C := RX5) (T := TX5) (N := 26) hx hb hts hin_RX5 hown hE.1 hP 0 rfl rfl 12 (by decide) (hts (.fieldLink RX5 38 "VillagepostModel" "author" "[I") (by decide +kernel)) (fun _ h9 => h9) rfl dX5_delete_26 ?_
    refine lv_iload_n hx hb dX5_delete_29 rfl (lv_at hl 1 rfl) ?_
    refine vg_tp (nI (tn n0)) hn0.1 ?_
    refine vg_iald hx hb hE.1 hP 10 0 rfl rfl (f := μ 12) (j := (tn n0)) (by omega) (by decide) dX5_delete_30 ?_
    obtain ⟨hN4, hM4⟩ := hau (tn n0) (by omega)
    refine vg_tp (nI (tn ((μ 12) (tn n0)))) hN4 ?_
    refine vg_iald hx hb hE.1 hP 1 0 rfl rfl (f := μ 2) (j := (tn ((μ 12) (tn n0)))) (by omega) (by decide) dX5_delete_31 ?_
    obtain ⟨hN5, hM5⟩ := hho (tn ((μ 12) (tn n0))) (by omega)
    refine vg_tp (nI (tn ((μ 2) (tn ((μ 12) (tn n0)))))) hN5 ?_
    refine lv_istore_n (lv' := [(2, .int (nI (tn ((μ 2) (tn ((μ 12) (tn n0))))))), (0, .ref mo), (1, .int n0)]) hx hb dX5_delete_32 rfl hl (by decide) rfl (fun ls hl => ?_)
    have hl : lv_has ls 6 [(0, .ref mo), (1, .int n0), (2, .int (nI (tn ((μ 2) (tn ((μ 12) (tn n0)))))))] := lv_sub hl [1, 2, 0] rfl
    refine lv_aload_n hx hb dX5_delete_33 rfl (lv_at hl 0 rfl) ?_
    refine lv_aload_n hx hb dX5_delete_34 rfl (lv_at hl 0 rfl) ?_
    refine va_get (D := D) (ci := 6) (v := .ref (ad 8)) (C := RX5) (T := TX5) (N := 26) hx hb hts hin_RX5 hown hE.1 hP 0 rfl rfl 8 (by decide) (hts (.fieldLink RX5 29 "VillagepostModel" "isMarked" "[Z") (by decide +kernel)) (fun _ h9 => h9) rfl dX5_delete_35 ?_
    refine lv_bipush (v := 50) hx hb dX5_delete_38 (by decide) ?_
    refine lv_iload_n hx hb dX5_delete_40 rfl (lv_at hl 2 rfl) ?_
    refine lv_imul hx hb dX5_delete_41 ?_
    refine vg_tp (nI (50 * (tn ((μ 2) (tn ((μ 12) (tn n0))))))) (pk_mul 50 (tn ((μ 2) (tn ((μ 12) (tn n0)))))) ?_
    refine lv_iload_n hx hb dX5_delete_42 rfl (lv_at hl 1 rfl) ?_
    refine vg_tp (nI (tn n0)) hn0.1 ?_
    refine lv_iadd hx hb dX5_delete_43 ?_
    refine vg_tp (nI (50 * (tn ((μ 2) (tn ((μ 12) (tn n0))))) + (tn n0))) (nI_add (50 * (tn ((μ 2) (tn ((μ 12) (tn n0)))))) (tn n0)) ?_
    refine vg_zald hx hb hE.1 hP 7 2 rfl rfl (f := μ 8) (j := (50 * (tn ((μ 2) (tn ((μ 12) (tn n0))))) + (tn n0))) (by omega) (by decide) dX5_delete_44 ?_
    refine lv_if_eq (tgt := 52) hx hb dX5_delete_45 (by decide) (fun r6 => ?_) (fun r6 => ?_)
    · have c6 := r6
      refine lv_iconst (v := 0) hx hb dX5_delete_52 (by decide) ?_
      refine va_put (D := (D)) (ci := 6) (v := .int 0) (ty := .int) (C := RX5) (T := TX5) (N := 26) hx hb hts hin_RX5 tyX5 tyX5_ok nmX5 hown hE.1 hP hD hS 0 rfl rfl 0 (by decide) (hts (.fieldLink RX5 77 "VillagepostModel" "thrown" "I") (by decide +kernel)) (fun _ h9 => h9) rfl (by decide +kernel) rfl rfl (Nat.le_of_ble_eq_true rfl) dX5_delete_53 (fun H locs hP hD hS => ?_)
      have hP : va_P D vwCl (Mw cy mo ad (va_up μ 0 (fun _ => 0))) H := hP
      have hD : va_D (va_A (Mw cy mo ad μ) s.heap.size) (Mw cy mo ad (va_up μ 0 (fun _ => 0))) := hD
      refine lv_aload_n hx hb dX5_delete_56 rfl (lv_at hl 0 rfl) ?_
      refine va_get (D := D) (ci := 6) (v := .int 0) (C := RX5) (T := TX5) (N := 26) hx hb hts hin_RX5 hown hE.1 hP 0 rfl rfl 0 (by decide) (hts (.fieldLink RX5 77 "VillagepostModel" "thrown" "I") (by decide +kernel)) (fun _ h9 => h9) rfl dX5_delete_57 ?_
      refine lv_if_eq (tgt := 65) hx hb dX5_delete_60 (by decide) (fun _ => ?_) (fun c9 => False.elim (by revert c9; decide))
      refine lv_aload_n hx hb dX5_delete_65 rfl (lv_at hl 0 rfl) ?_
      refine va_get (D := D) (ci := 6) (v := .ref (ad 16)) (C := RX5) (T := TX5) (N := 26) hx hb hts hin_RX5 hown hE.1 hP 0 rfl rfl 16 (by decide) (hts (.fieldLink RX5 50 "VillagepostModel" "went" "[I") (by decide +kernel)) (fun _ h9 => h9) rfl dX5_delete_66 ?_
      refine lv_iload_n hx hb dX5_delete_69 rfl (lv_at hl 1 rfl) ?_
      refine vg_tp (nI (tn n0)) hn0.1 ?_
      refine vg_iald hx hb hE.1 hP 14 0 rfl rfl (f := μ 16) (j := (tn n0)) (by omega) (by decide) dX5_delete_70 ?_
      refine lv_aload_n hx hb dX5_delete_71 rfl (lv_at hl 0 rfl) ?_
      refine va_get (D := D) (ci := 6) (v := .ref (ad 9)) (C := RX5) (T := TX5) (N := 26) hx hb hts hin_RX5 hown hE.1 hP 0 rfl rfl 9 (by decide) (hts (.fieldLink RX5 32 "VillagepostModel" "sentOn" "[I") (by decide +kernel)) (fun _ h9 => h9) rfl dX5_delete_72 ?_
      refine lv_bipush (v := 50) hx hb dX5_delete_75 (by decide) ?_
      refine lv_iload_n hx hb dX5_delete_77 rfl (lv_at hl 2 rfl) ?_
      refine lv_imul hx hb dX5_delete_78 ?_
      refine vg_tp (nI (50 * (tn ((μ 2) (tn ((μ 12) (tn n0))))))) (pk_mul 50 (tn ((μ 2) (tn ((μ 12) (tn n0)))))) ?_
      refine lv_iload_n hx hb dX5_delete_79 rfl (lv_at hl 1 rfl) ?_
      refine vg_tp (nI (tn n0)) hn0.1 ?_
      refine lv_iadd hx hb dX5_delete_80 ?_
      refine vg_tp (nI (50 * (tn ((μ 2) (tn ((μ 12) (tn n0))))) + (tn n0))) (nI_add (50 * (tn ((μ 2) (tn ((μ 12) (tn n0)))))) (tn n0)) ?_
      refine vg_iald hx hb hE.1 hP 8 0 rfl rfl (f := μ 9) (j := (50 * (tn ((μ 2) (tn ((μ 12) (tn n0))))) + (tn n0))) (by omega) (by decide) dX5_delete_81 ?_
      refine lv_ior hx hb dX5_delete_82 ?_
      refine lv_istore_n (lv' := [(3, .int (((μ 16) (tn n0)) ||| ((μ 9) (50 * (tn ((μ 2) (tn ((μ 12) (tn n0))))) + (tn n0))))), (0, .ref mo), (1, .int n0), (2, .int (nI (tn ((μ 2) (tn ((μ 12) (tn n0)))))))]) hx hb dX5_delete_83 rfl hl (by decide) rfl (fun ls hl => ?_)
      have hl : lv_has ls 6 [(0, .ref mo), (1, .int n0), (2, .int (nI (tn ((μ 2) (tn ((μ 12) (tn n0))))))), (3, .int (((μ 16) (tn n0)) ||| ((μ 9) (50 * (tn ((μ 2) (tn ((μ 12) (tn n0))))) + (tn n0)))))] := lv_sub hl [1, 2, 3, 0] rfl
      refine lv_aload_n hx hb dX5_delete_84 rfl (lv_at hl 0 rfl) ?_
      refine lv_bipush (v := 9) hx hb dX5_delete_85 (by decide) ?_
      refine lv_aload_n hx hb dX5_delete_87 rfl (lv_at hl 0 rfl) ?_
      refine va_get (D := D) (ci := 6) (v := .ref (ad 12)) (C := RX5) (T := TX5) (N := 26) hx hb hts hin_RX5 hown hE.1 hP 0 rfl rfl 12 (by decide) (hts (.fieldLink RX5 38 "VillagepostModel" "author" "[I") (by decide +kernel)) (fun _ h9 => h9) rfl dX5_delete_88 ?_
      refine lv_iload_n hx hb dX5_delete_91 rfl (lv_at hl 1 rfl) ?_
      refine vg_tp (nI (tn n0)) hn0.1 ?_
      refine vg_iald hx hb hE.1 hP 10 0 rfl rfl (f := μ 12) (j := (tn n0)) (by omega) (by decide) dX5_delete_92 ?_
      obtain ⟨hN8, hM8⟩ := hau (tn n0) (by omega)
      refine vg_tp (nI (tn ((μ 12) (tn n0)))) hN8 ?_
      refine lv_iload_n hx hb dX5_delete_93 rfl (lv_at hl 1 rfl) ?_
      refine vg_tp (nI (tn n0)) hn0.1 ?_
      refine lv_iconst (v := 0) hx hb dX5_delete_94 (by decide) ?_
      refine lv_iload_n hx hb dX5_delete_95 rfl (lv_at hl 3 rfl) ?_
      refine vg_callvW (va_runV (As := [.int (nI 9), .int (nI (tn ((μ 12) (tn n0)))), .int (nI (tn n0)), .int 0, .int (((μ 16) (tn n0)) ||| ((μ 9) (50 * (tn ((μ 2) (tn ((μ 12) (tn n0))))) + (tn n0))))]) (rest := []) ⟨hx, hb, hml, hown, hts⟩ (kX5_acts l D cy H.size mo ad (va_up μ 0 (fun _ => 0)) 9 (tn ((μ 12) (tn n0))) (tn n0) 0 ((((μ 16) (tn n0)) ||| ((μ 9) (50 * (tn ((μ 2) (tn ((μ 12) (tn n0))))) + (tn n0))))) (⟨hpe, hho, hau, hre, hac⟩) (hla) (hac0) (by omega) (by omega) (by omega) (fun _ => by omega)) (cwV 5 hts gX5_delete_X5_acts rfl rfl rfl (by decide +kernel) ⟨Nat.le_of_ble_eq_true rfl, Nat.le_of_ble_eq_true rfl⟩) (vg_P.preV hE hP 0 rfl rfl hP hD) rfl rfl hl.1 rfl (lv_room (Nat.le_of_ble_eq_true rfl)) dX5_delete_96 ⟨Nat.le_of_ble_eq_true rfl, Nat.le_of_ble_eq_true rfl⟩) hP hD hS hA (fun _ H locs hrv hP hD hS => ?_)
      have hP : va_P D vwCl (Mw cy mo ad (mAct (va_up μ 0 (fun _ => 0)) 9 (tn ((μ 12) (tn n0))) (tn n0) 0 ((((μ 16) (tn n0)) ||| ((μ 9) (50 * (tn ((μ 2) (tn ((μ 12) (tn n0))))) + (tn n0))))))) H := hP
      have hD : va_D (va_A (Mw cy mo ad μ) s.heap.size) (Mw cy mo ad (mAct (va_up μ 0 (fun _ => 0)) 9 (tn ((μ 12) (tn n0))) (tn n0) 0 ((((μ 16) (tn n0)) ||| ((μ 9) (50 * (tn ((μ 2) (tn ((μ 12) (tn n0))))) + (tn n0))))))) := hD
      refine lv_iconst (v := 0) hx hb dX5_delete_99 (by decide) ?_
      refine lv_istore (lv' := [(4, .int 0), (0, .ref mo), (1, .int n0), (2, .int (nI (tn ((μ 2) (tn ((μ 12) (tn n0))))))), (3, .int (((μ 16) (tn n0)) ||| ((μ 9) (50 * (tn ((μ 2) (tn ((μ 12) (tn n0))))) + (tn n0)))))]) hx hb dX5_delete_100 hl (by decide) rfl (fun ls hl => ?_)
      have hl : lv_has ls 6 [(0, .ref mo), (1, .int n0), (2, .int (nI (tn ((μ 2) (tn ((μ 12) (tn n0))))))), (3, .int (((μ 16) (tn n0)) ||| ((μ 9) (50 * (tn ((μ 2) (tn ((μ 12) (tn n0))))) + (tn n0))))), (4, .int 0)] := lv_sub hl [1, 2, 3, 4, 0] rfl
      refine lv_iconst (v := 0) hx hb dX5_delete_102 (by decide) ?_
      refine lv_istore (lv' := [(5, .int 0), (0, .ref mo), (1, .int n0), (2, .int (nI (tn ((μ 2) (tn ((μ 12) (tn n0))))))), (3, .int (((μ 16) (tn n0)) ||| ((μ 9) (50 * (tn ((μ 2) (tn ((μ 12) (tn n0))))) + (tn n0))))), (4, .int 0)]) hx hb dX5_delete_103 hl (by decide) rfl (fun ls hl => ?_)
      have hl : lv_has ls 6 [(0, .ref mo), (1, .int n0), (2, .int (nI (tn ((μ 2) (tn ((μ 12) (tn n0))))))), (3, .int (((μ 16) (tn n0)) ||| ((μ 9) (50 * (tn ((μ 2) (tn ((μ 12) (tn n0))))) + (tn n0))))), (4, .int 0), (5, .int 0)] := lv_sub hl [1, 2, 3, 4, 5, 0] rfl
      have q9 : ((mDelS μ n0) : Int32) = (((μ 16) (tn n0)) ||| ((μ 9) (50 * (tn ((μ 2) (tn ((μ 12) (tn n0))))) + (tn n0)))) := by first | rfl | simp [mDelS]
      have q10 : ((mBits (mDelS μ n0) 0) : Int32) = 0 := by first | rfl | simp [c3, c6]
      have q11 : ((nI 0) : Int32) = 0 := by first | rfl | simp [c3, c6]
      have eW : mAct (va_up μ 0 (fun _ => 0)) 9 (tn ((μ 12) (tn n0))) (tn n0) 0 ((((μ 16) (tn n0)) ||| ((μ 9) (50 * (tn ((μ 2) (tn ((μ 12) (tn n0))))) + (tn n0))))) = mDel μ n0 := by simp [mDel, mDelT, mDelS, bx_uu, c3, c6]
      have hP : va_P D vwCl (Mw cy mo ad (mDel μ n0)) H := by rw [← eW]; exact hP
      have hD : va_D (va_A (Mw cy mo ad μ) s.heap.size) (Mw cy mo ad (mDel μ n0)) := by rw [← eW]; exact hD
      exact L105 ((4 - 0) + 1) 0 (by omega) (by omega) (by simp [mDelT, c3, c6]) _ _ hP hD hS ls (by rw [q10, q9, q11]; exact lv_sub hl [0, 3, 4, 5] rfl)
    · have c6 := r6
      refine lv_iconst (v := 2) hx hb dX5_delete_48 (by decide) ?_
      refine lv_goto (tgt := 53) hx hb dX5_delete_49 (by decide) ?_
      refine va_put (D := (D)) (ci := 6) (v := .int 2) (ty := .int) (C := RX5) (T := TX5) (N := 26) hx hb hts hin_RX5 tyX5 tyX5_ok nmX5 hown hE.1 hP hD hS 0 rfl rfl 0 (by decide) (hts (.fieldLink RX5 77 "VillagepostModel" "thrown" "I") (by decide +kernel)) (fun _ h9 => h9) rfl (by decide +kernel) rfl rfl (Nat.le_of_ble_eq_true rfl) dX5_delete_53 (fun H locs hP hD hS => ?_)
      have hP : va_P D vwCl (Mw cy mo ad (va_up μ 0 (fun _ => 2))) H := hP
      have hD : va_D (va_A (Mw cy mo ad μ) s.heap.size) (Mw cy mo ad (va_up μ 0 (fun _ => 2))) := hD
      refine lv_aload_n hx hb dX5_delete_56 rfl (lv_at hl 0 rfl) ?_
      refine va_get (D := D) (ci := 6) (v := .int 2) (C := RX5) (T := TX5) (N := 26) hx hb hts hin_RX5 hown hE.1 hP 0 rfl rfl 0 (by decide) (hts (.fieldLink RX5 77 "VillagepostModel" "thrown" "I") (by decide +kernel)) (fun _ h9 => h9) rfl dX5_delete_57 ?_
      refine lv_if_eq (tgt := 65) hx hb dX5_delete_60 (by decide) (fun c9 => False.elim (by revert c9; decide)) (fun _ => ?_)
      refine lv_iconst (v := 0) hx hb dX5_delete_63 (by decide) ?_
      have eW : va_up μ 0 (fun _ => 2) = mDel μ n0 := by simp [mDel, mDelT, bx_uu, c3, c6]
      have hP : va_P D vwCl (Mw cy mo ad (mDel μ n0)) H := by rw [← eW]; exact hP
      have hD : va_D (va_A (Mw cy mo ad μ) s.heap.size) (Mw cy mo ad (mDel μ n0)) := by rw [← eW]; exact hD
      refine vg_tp (mDelR μ n0) (by simp [mDelR, mDelT, c3, c6]) ?_
      exact W.iret (v := (mDelR μ n0)) hx hb hr (fun t ht hW => ⟨⟨(mDelR μ n0), (), rfl, rfl, (by rw [ht]; exact hP), hD⟩, hS.F ht⟩) hS.2.2 dX5_delete_64
  · have c3 : (mIn n0 0 ((((μ 11) 0) - 1))) = false := bI_0.mp r3
    refine lv_aload_n hx hb dX5_delete_14 rfl (lv_at hl 0 rfl) ?_
    refine lv_iconst (v := 1) hx hb dX5_delete_15 (by decide) ?_
    refine va_put (D := (D)) (ci := 6) (v := .int 1) (ty := .int) (C := RX5) (T := TX5) (N := 26) hx hb hts hin_RX5 tyX5 tyX5_ok nmX5 hown hE.1 hP hD hS 0 rfl rfl 0 (by decide) (hts (.fieldLink RX5 77 "VillagepostModel" "thrown" "I") (by decide +kernel)) (fun _ h9 => h9) rfl (by decide +kernel) rfl rfl (Nat.le_of_ble_eq_true rfl) dX5_delete_16 (fun H locs hP hD hS => ?_)
    have hP : va_P D vwCl (Mw cy mo ad (va_up μ 0 (fun _ => 1))) H := hP
    have hD : va_D (va_A (Mw cy mo ad μ) s.heap.size) (Mw cy mo ad (va_up μ 0 (fun _ => 1))) := hD
    refine lv_iconst (v := 0) hx hb dX5_delete_19 (by decide) ?_
    have eW : va_up μ 0 (fun _ => 1) = mDel μ n0 := by simp [mDel, mDelT, bx_uu, c3]
    have hP : va_P D vwCl (Mw cy mo ad (mDel μ n0)) H := by rw [← eW]; exact hP
    have hD : va_D (va_A (Mw cy mo ad μ) s.heap.size) (Mw cy mo ad (mDel μ n0)) := by rw [← eW]; exact hD
    refine vg_tp (mDelR μ n0) (by simp [mDelR, mDelT, c3]) ?_
    exact W.iret (v := (mDelR μ n0)) hx hb hr (fun t ht hW => ⟨⟨(mDelR μ n0), (), rfl, rfl, (by rw [ht]; exact hP), hD⟩, hS.F ht⟩) hS.2.2 dX5_delete_20

set_option maxHeartbeats 4000000 in
set_option maxRecDepth 100000 in
theorem kX5_boost (l : Launch) (D : va_G) (cy : Nat → ClassId) (sz : Nat) (mo : Nat) (ad : Nat → Nat) (μ : Nat → Nat → Int32) (p0 : Int32) (n0 : Int32) (hw : mWF μ) (hla : mLast μ 1199) (hac0 : isN (μ 17 0) 600) (hpo : isN (μ 11 0) 51) : Met l yX5_boost wsX5_boost ({ frames := 6, cells := 0, slots := 0, locals := 145 }) (vg_P D cy [.ref mo, .int p0, .int n0] sz (Mw cy mo ad μ)) (vg_Qv (S := Unit) D sz (Mw cy mo ad μ) (fun _ => True) (fun _ => Mw cy mo ad (mBoo μ p0 n0))) 0 0 (va_A (Mw cy mo ad μ) sz) := by
  refine Met.ofW (cc := cX5_boost) (maxL := 3) (ret := none) (by decide) rfl ?_
  intro p e s m args below meth c s₁ BB hml hv
  obtain ⟨rfl, hsz, hP, hE, hD0⟩ := hv
  have hx := BB.exec
  have hb := BB.bytes
  have hr := BB.returns
  have hts := atoms_spec (ws := wsX5_boost) BB.pre
  have hown : s.vm.findClass RX5 = some m.cls := findClass_of_methodNamed BB.named
  have hlocks := BB.notSynchronized
  subst hsz
  have hD := hD0.self (sz := s.heap.size)
  have hA : ∀ q : Nat, s.heap.size ≤ q → (va_A (Mw cy mo ad μ) s.heap.size) q := fun q h => Or.inr h
  have hS : va_S (va_A (Mw cy mo ad μ) s.heap.size) s.heap s.heap [] := va_S.rf
  have hin_RX5 : ∀ w ∈ u_ws RX5 TX5 26, w ∈ wsX5_boost := by decide +kernel
  have hl := lv_entry ([.ref mo, .int p0, .int n0]) (n := 3) (Nat.le_of_ble_eq_true rfl)
  rw [lg_entry_eq]
  generalize (lg_sl ([.ref mo, .int p0, .int n0]) ++ List.replicate (3 - (lg_sl ([.ref mo, .int p0, .int n0])).length) Slot.unset).toArray = ls at hl ⊢
  have hl : lv_has ls 3 [(0, .ref mo), (1, .int p0), (2, .int n0)] := hl
  obtain ⟨hpe, hho, hau, hre, hac⟩ := hw
  have hpe2 := hpe.2
  have hpo2 := hpo.2
  refine lv_aload_n hx hb dX5_boost_0 rfl (lv_at hl 0 rfl) ?_
  refine lv_aload_n hx hb dX5_boost_1 rfl (lv_at hl 0 rfl) ?_
  refine lv_iload_n hx hb dX5_boost_2 rfl (lv_at hl 1 rfl) ?_
  refine vg_calliW (va_runV (As := [.int p0]) (rest := [.ref mo]) ⟨hx, hb, hml, hown, hts⟩ (kX5_isOne l D cy s.heap.size mo ad μ p0 ) (cwV 1 hts gX5_boost_X5_isOne rfl rfl rfl (by decide +kernel) ⟨Nat.le_of_ble_eq_true rfl, Nat.le_of_ble_eq_true rfl⟩) (vg_P.preV hE hP 0 rfl rfl hP hD) rfl rfl hl.1 rfl (lv_room (Nat.le_of_ble_eq_true rfl)) dX5_boost_3 ⟨Nat.le_of_ble_eq_true rfl, Nat.le_of_ble_eq_true rfl⟩) hP hD hS hA (fun r _ H locs hr hP hD hS => ?_)
  subst hr
  refine lv_if_eq (tgt := 23) hx hb dX5_boost_6 (by decide) (fun r1 => ?_) (fun r1 => ?_)
  · have c1 : (mIn p0 0 (μ 1 0 - 1)) = false := bI_0.mp r1
    refine lv_iconst (v := 1) hx hb dX5_boost_23 (by decide) ?_
    refine lv_goto (tgt := 28) hx hb dX5_boost_24 (by decide) ?_
    refine va_put (D := (D)) (ci := 6) (v := .int 1) (ty := .int) (C := RX5) (T := TX5) (N := 26) hx hb hts hin_RX5 tyX5 tyX5_ok nmX5 hown hE.1 hP hD hS 0 rfl rfl 0 (by decide) (hts (.fieldLink RX5 77 "VillagepostModel" "thrown" "I") (by decide +kernel)) (fun _ h9 => h9) rfl (by decide +kernel) rfl rfl (Nat.le_of_ble_eq_true rfl) dX5_boost_28 (fun H locs hP hD hS => ?_)
    have hP : va_P D vwCl (Mw cy mo ad (va_up μ 0 (fun _ => 1))) H := hP
    have hD : va_D (va_A (Mw cy mo ad μ) s.heap.size) (Mw cy mo ad (va_up μ 0 (fun _ => 1))) := hD
    refine lv_aload_n hx hb dX5_boost_31 rfl (lv_at hl 0 rfl) ?_
    refine va_get (D := D) (ci := 6) (v := .int 1) (C := RX5) (T := TX5) (N := 26) hx hb hts hin_RX5 hown hE.1 hP 0 rfl rfl 0 (by decide) (hts (.fieldLink RX5 77 "VillagepostModel" "thrown" "I") (by decide +kernel)) (fun _ h9 => h9) rfl dX5_boost_32 ?_
    refine lv_if_eq (tgt := 39) hx hb dX5_boost_35 (by decide) (fun c9 => False.elim (by revert c9; decide)) (fun _ => ?_)
    have eW : va_up μ 0 (fun _ => 1) = mBoo μ p0 n0 := by simp [mBoo, mBooT, mHb, mSrv_up, bx_uu, c1]
    have hP : va_P D vwCl (Mw cy mo ad (mBoo μ p0 n0)) H := by rw [← eW]; exact hP
    have hD : va_D (va_A (Mw cy mo ad μ) s.heap.size) (Mw cy mo ad (mBoo μ p0 n0)) := by rw [← eW]; exact hD
    exact W.vret hx hb hr (fun t ht hW => ⟨⟨(), rfl, trivial, (by rw [ht]; exact hP), hD⟩, hS.F ht⟩) hS.2.2 dX5_boost_38
  · have c1 : (mIn p0 0 (μ 1 0 - 1)) = true := bI_n0.mp r1
    refine lv_iload_n hx hb dX5_boost_9 rfl (lv_at hl 2 rfl) ?_
    refine lv_iconst (v := 0) hx hb dX5_boost_10 (by decide) ?_
    refine lv_aload_n hx hb dX5_boost_11 rfl (lv_at hl 0 rfl) ?_
    refine va_get (D := D) (ci := 6) (v := .int ((μ 11) 0)) (C := RX5) (T := TX5) (N := 26) hx hb hts hin_RX5 hown hE.1 hP 0 rfl rfl 11 (by decide) (hts (.fieldLink RX5 136 "VillagepostModel" "posts" "I") (by decide +kernel)) (fun _ h9 => h9) rfl dX5_boost_12 ?_
    refine lv_iconst (v := 1) hx hb dX5_boost_15 (by decide) ?_
    refine lv_isub hx hb dX5_boost_16 ?_
    refine vg_calliP (va_runS (As := [.int n0, .int 0, .int (((μ 11) 0) - 1)]) (rest := [.ref mo]) ⟨hx, hb, hml, hown, hts⟩ (kX5_in l D cy H.size n0 0 ((((μ 11) 0) - 1))) (va_cwS 3 hts gX5_boost_X5_in rfl rfl rfl (by decide +kernel) ⟨Nat.le_of_ble_eq_true rfl, Nat.le_of_ble_eq_true rfl⟩) (vg_P.preS hE vg_P0 (A := fun _ => True) vg_D0) rfl rfl hl.1 rfl (lv_room (Nat.le_of_ble_eq_true rfl)) dX5_boost_17 ⟨Nat.le_of_ble_eq_true rfl, Nat.le_of_ble_eq_true rfl⟩) hP hD hS hA (fun r _ H locs hr hP hD hS => ?_)
    subst hr
    refine lv_if_ne (tgt := 27) hx hb dX5_boost_20 (by decide) (fun r3 => ?_) (fun r3 => ?_)
    · have c3 : (mIn n0 0 ((((μ 11) 0) - 1))) = true := bI_n0.mp r3
      refine lv_iconst (v := 0) hx hb dX5_boost_27 (by decide) ?_
      refine va_put (D := (D)) (ci := 6) (v := .int 0) (ty := .int) (C := RX5) (T := TX5) (N := 26) hx hb hts hin_RX5 tyX5 tyX5_ok nmX5 hown hE.1 hP hD hS 0 rfl rfl 0 (by decide) (hts (.fieldLink RX5 77 "VillagepostModel" "thrown" "I") (by decide +kernel)) (fun _ h9 => h9) rfl (by decide +kernel) rfl rfl (Nat.le_of_ble_eq_true rfl) dX5_boost_28 (fun H locs hP hD hS => ?_)
      have hP : va_P D vwCl (Mw cy mo ad (va_up μ 0 (fun _ => 0))) H := hP
      have hD : va_D (va_A (Mw cy mo ad μ) s.heap.size) (Mw cy mo ad (va_up μ 0 (fun _ => 0))) := hD
      refine lv_aload_n hx hb dX5_boost_31 rfl (lv_at hl 0 rfl) ?_
      refine va_get (D := D) (ci := 6) (v := .int 0) (C := RX5) (T := TX5) (N := 26) hx hb hts hin_RX5 hown hE.1 hP 0 rfl rfl 0 (by decide) (hts (.fieldLink RX5 77 "VillagepostModel" "thrown" "I") (by decide +kernel)) (fun _ h9 => h9) rfl dX5_boost_32 ?_
      refine lv_if_eq (tgt := 39) hx hb dX5_boost_35 (by decide) (fun _ => ?_) (fun c9 => False.elim (by revert c9; decide))
      have hp0 : isN p0 10 := (mIn_n hpe (by omega) c1).1
      have hp02 := hp0.2
      have hn0 : isN n0 50 := (mIn_n hpo (by omega) c3).1
      have hn02 := hn0.2
      refine lv_aload_n hx hb dX5_boost_39 rfl (lv_at hl 0 rfl) ?_
      refine lv_aload_n hx hb dX5_boost_40 rfl (lv_at hl 0 rfl) ?_
      refine lv_iload_n hx hb dX5_boost_41 rfl (lv_at hl 1 rfl) ?_
      refine vg_tp (nI (tn p0)) hp0.1 ?_
      refine lv_iload_n hx hb dX5_boost_42 rfl (lv_at hl 2 rfl) ?_
      refine vg_tp (nI (tn n0)) hn0.1 ?_
      refine vg_calliW (va_runV (As := [.int (nI (tn p0)), .int (nI (tn n0))]) (rest := [.ref mo]) ⟨hx, hb, hml, hown, hts⟩ (kX5_seen l D cy H.size mo ad (va_up μ 0 (fun _ => 0)) (tn p0) (tn n0) (⟨hpe, hho, hau, hre, hac⟩) (by omega) (by omega)) (cwV 2 hts gX5_boost_X5_seen rfl rfl rfl (by decide +kernel) ⟨Nat.le_of_ble_eq_true rfl, Nat.le_of_ble_eq_true rfl⟩) (vg_P.preV hE hP 0 rfl rfl hP hD) rfl rfl hl.1 rfl (lv_room (Nat.le_of_ble_eq_true rfl)) dX5_boost_43 ⟨Nat.le_of_ble_eq_true rfl, Nat.le_of_ble_eq_true rfl⟩) hP hD hS hA (fun r _ H locs hr hP hD hS => ?_)
      subst hr
      refine lv_if_eq (tgt := 83) hx hb dX5_boost_46 (by decide) (fun r5 => ?_) (fun r5 => ?_)
      · have c5 : (mSeen μ (tn p0) (tn n0)) = false := bI_0.mp r5
        refine lv_iconst (v := 2) hx hb dX5_boost_83 (by decide) ?_
        refine lv_goto (tgt := 88) hx hb dX5_boost_84 (by decide) ?_
        refine va_put (D := (D)) (ci := 6) (v := .int 2) (ty := .int) (C := RX5) (T := TX5) (N := 26) hx hb hts hin_RX5 tyX5 tyX5_ok nmX5 hown hE.1 hP hD hS 0 rfl rfl 0 (by decide) (hts (.fieldLink RX5 77 "VillagepostModel" "thrown" "I") (by decide +kernel)) (fun _ h9 => h9) rfl (by decide +kernel) rfl rfl (Nat.le_of_ble_eq_true rfl) dX5_boost_88 (fun H locs hP hD hS => ?_)
        have hP : va_P D vwCl (Mw cy mo ad (va_up (va_up μ 0 (fun _ => 0)) 0 (fun _ => 2))) H := hP
        have hD : va_D (va_A (Mw cy mo ad μ) s.heap.size) (Mw cy mo ad (va_up (va_up μ 0 (fun _ => 0)) 0 (fun _ => 2))) := hD
        refine lv_aload_n hx hb dX5_boost_91 rfl (lv_at hl 0 rfl) ?_
        refine va_get (D := D) (ci := 6) (v := .int 2) (C := RX5) (T := TX5) (N := 26) hx hb hts hin_RX5 hown hE.1 hP 0 rfl rfl 0 (by decide) (hts (.fieldLink RX5 77 "VillagepostModel" "thrown" "I") (by decide +kernel)) (fun _ h9 => h9) rfl dX5_boost_92 ?_
        refine lv_if_ne (tgt := 132) hx hb dX5_boost_95 (by decide) (fun _ => ?_) (fun c9 => False.elim (by revert c9; decide))
        have eW : va_up (va_up μ 0 (fun _ => 0)) 0 (fun _ => 2) = mBoo μ p0 n0 := by simp [mBoo, mBooT, mHb, mSrv_up, bx_uu, c1, c3, c5]
        have hP : va_P D vwCl (Mw cy mo ad (mBoo μ p0 n0)) H := by rw [← eW]; exact hP
        have hD : va_D (va_A (Mw cy mo ad μ) s.heap.size) (Mw cy mo ad (mBoo μ p0 n0)) := by rw [← eW]; exact hD
        exact W.vret hx hb hr (fun t ht hW => ⟨⟨(), rfl, trivial, (by rw [ht]; exact hP), hD⟩, hS.F ht⟩) hS.2.2 dX5_boost_132
      · have c5 : (mSeen μ (tn p0) (tn n0)) = true := bI_n0.mp r5
        refine lv_aload_n hx hb dX5_boost_49 rfl (lv_at hl 0 rfl) ?_
        refine va_get (D := D) (ci := 6) (v := .ref (ad 13)) (C := RX5) (T := TX5) (N := 26) hx hb hts hin_RX5 hown hE.1 hP 0 rfl rfl 13 (by decide) (hts (.fieldLink RX5 41 "VillagepostModel" "kind" "[I") (by decide +kernel)) (fun _ h9 => h9) rfl dX5_boost_50 ?_
        refine lv_iload_n hx hb dX5_boost_53 rfl (lv_at hl 2 rfl) ?_
        refine vg_tp (nI (tn n0)) hn0.1 ?_
        refine vg_iald hx hb hE.1 hP 11 0 rfl rfl (f := μ 13) (j := (tn n0)) (by omega) (by decide) dX5_boost_54 ?_
        refine lv_if_ne (tgt := 83) hx hb dX5_boost_55 (by decide) (fun r7 => ?_) (fun r7 => ?_)
        · have c7 := r7
          refine lv_iconst (v := 2) hx hb dX5_boost_83 (by decide) ?_
          refine lv_goto (tgt := 88) hx hb dX5_boost_84 (by decide) ?_
          refine va_put (D := (D)) (ci := 6) (v := .int 2) (ty := .int) (C := RX5) (T := TX5) (N := 26) hx hb hts hin_RX5 tyX5 tyX5_ok nmX5 hown hE.1 hP hD hS 0 rfl rfl 0 (by decide) (hts (.fieldLink RX5 77 "VillagepostModel" "thrown" "I") (by decide +kernel)) (fun _ h9 => h9) rfl (by decide +kernel) rfl rfl (Nat.le_of_ble_eq_true rfl) dX5_boost_88 (fun H locs hP hD hS => ?_)
          have hP : va_P D vwCl (Mw cy mo ad (va_up (va_up μ 0 (fun _ => 0)) 0 (fun _ => 2))) H := hP
          have hD : va_D (va_A (Mw cy mo ad μ) s.heap.size) (Mw cy mo ad (va_up (va_up μ 0 (fun _ => 0)) 0 (fun _ => 2))) := hD
          refine lv_aload_n hx hb dX5_boost_91 rfl (lv_at hl 0 rfl) ?_
          refine va_get (D := D) (ci := 6) (v := .int 2) (C := RX5) (T := TX5) (N := 26) hx hb hts hin_RX5 hown hE.1 hP 0 rfl rfl 0 (by decide) (hts (.fieldLink RX5 77 "VillagepostModel" "thrown" "I") (by decide +kernel)) (fun _ h9 => h9) rfl dX5_boost_92 ?_
          refine lv_if_ne (tgt := 132) hx hb dX5_boost_95 (by decide) (fun _ => ?_) (fun c9 => False.elim (by revert c9; decide))
          have eW : va_up (va_up μ 0 (fun _ => 0)) 0 (fun _ => 2) = mBoo μ p0 n0 := by simp [mBoo, mBooT, mHb, mSrv_up, bx_uu, c1, c3, c5, c7]
          have hP : va_P D vwCl (Mw cy mo ad (mBoo μ p0 n0)) H := by rw [← eW]; exact hP
          have hD : va_D (va_A (Mw cy mo ad μ) s.heap.size) (Mw cy mo ad (mBoo μ p0 n0)) := by rw [← eW]; exact hD
          exact W.vret hx hb hr (fun t ht hW => ⟨⟨(), rfl, trivial, (by rw [ht]; exact hP), hD⟩, hS.F ht⟩) hS.2.2 dX5_boost_132
        · have c7 := r7
          refine lv_aload_n hx hb dX5_boost_58 rfl (lv_at hl 0 rfl) ?_
          refine va_get (D := D) (ci := 6) (v := .ref (ad 10)) (C := RX5) (T := TX5) (N := 26) hx hb hts hin_RX5 hown hE.1 hP 0 rfl rfl 10 (by decide) (hts (.fieldLink RX5 35 "VillagepostModel" "isBoosted" "[Z") (by decide +kernel)) (fun _ h9 => h9) rfl dX5_boost_59 ?_
          refine lv_sipush (v := 500) hx hb dX5_boost_62 (by decide) ?_
          refine lv_aload_n hx hb dX5_boost_65 rfl (lv_at hl 0 rfl) ?_
          refine va_get (D := D) (ci := 6) (v := .ref (ad 2)) (C := RX5) (T := TX5) (N := 26) hx hb hts hin_RX5 hown hE.1 hP 0 rfl rfl 2 (by decide) (hts (.fieldLink RX5 7 "VillagepostModel" "home" "[I") (by decide +kernel)) (fun _ h9 => h9) rfl dX5_boost_66 ?_
          refine lv_iload_n hx hb dX5_boost_69 rfl (lv_at hl 1 rfl) ?_
          refine vg_tp (nI (tn p0)) hp0.1 ?_
          refine vg_iald hx hb hE.1 hP 1 0 rfl rfl (f := μ 2) (j := (tn p0)) (by omega) (by decide) dX5_boost_70 ?_
          obtain ⟨hN9, hM9⟩ := hho (tn p0) (by omega)
          refine vg_tp (nI (tn ((μ 2) (tn p0)))) hN9 ?_
          refine lv_imul hx hb dX5_boost_71 ?_
          refine vg_tp (nI (500 * (tn ((μ 2) (tn p0))))) (pk_mul 500 (tn ((μ 2) (tn p0)))) ?_
          refine lv_bipush (v := 50) hx hb dX5_boost_72 (by decide) ?_
          refine lv_iload_n hx hb dX5_boost_74 rfl (lv_at hl 1 rfl) ?_
          refine vg_tp (nI (tn p0)) hp0.1 ?_
          refine lv_imul hx hb dX5_boost_75 ?_
          refine vg_tp (nI (50 * (tn p0))) (pk_mul 50 (tn p0)) ?_
          refine lv_iadd hx hb dX5_boost_76 ?_
          refine vg_tp (nI (500 * (tn ((μ 2) (tn p0))) + (50 * (tn p0)))) (nI_add (500 * (tn ((μ 2) (tn p0)))) (50 * (tn p0))) ?_
          refine lv_iload_n hx hb dX5_boost_77 rfl (lv_at hl 2 rfl) ?_
          refine vg_tp (nI (tn n0)) hn0.1 ?_
          refine lv_iadd hx hb dX5_boost_78 ?_
          refine vg_tp (nI (500 * (tn ((μ 2) (tn p0))) + (50 * (tn p0)) + (tn n0))) (nI_add (500 * (tn ((μ 2) (tn p0))) + (50 * (tn p0))) (tn n0)) ?_
          refine vg_zald hx hb hE.1 hP 9 2 rfl rfl (f := μ 10) (j := (500 * (tn ((μ 2) (tn p0))) + (50 * (tn p0)) + (tn n0))) (by omega) (by decide) dX5_boost_79 ?_
          refine lv_if_eq (tgt := 87) hx hb dX5_boost_80 (by decide) (fun r10 => ?_) (fun r10 => ?_)
          · have c10 := r10
            refine lv_iconst (v := 0) hx hb dX5_boost_87 (by decide) ?_
            refine va_put (D := (D)) (ci := 6) (v := .int 0) (ty := .int) (C := RX5) (T := TX5) (N := 26) hx hb hts hin_RX5 tyX5 tyX5_ok nmX5 hown hE.1 hP hD hS 0 rfl rfl 0 (by decide) (hts (.fieldLink RX5 77 "VillagepostModel" "thrown" "I") (by decide +kernel)) (fun _ h9 => h9) rfl (by decide +kernel) rfl rfl (Nat.le_of_ble_eq_true rfl) dX5_boost_88 (fun H locs hP hD hS => ?_)
            have hP : va_P D vwCl (Mw cy mo ad (va_up (va_up μ 0 (fun _ => 0)) 0 (fun _ => 0))) H := hP
            have hD : va_D (va_A (Mw cy mo ad μ) s.heap.size) (Mw cy mo ad (va_up (va_up μ 0 (fun _ => 0)) 0 (fun _ => 0))) := hD
            refine lv_aload_n hx hb dX5_boost_91 rfl (lv_at hl 0 rfl) ?_
            refine va_get (D := D) (ci := 6) (v := .int 0) (C := RX5) (T := TX5) (N := 26) hx hb hts hin_RX5 hown hE.1 hP 0 rfl rfl 0 (by decide) (hts (.fieldLink RX5 77 "VillagepostModel" "thrown" "I") (by decide +kernel)) (fun _ h9 => h9) rfl dX5_boost_92 ?_
            refine lv_if_ne (tgt := 132) hx hb dX5_boost_95 (by decide) (fun c9 => False.elim (by revert c9; decide)) (fun _ => ?_)
            refine lv_aload_n hx hb dX5_boost_98 rfl (lv_at hl 0 rfl) ?_
            refine lv_bipush (v := 10) hx hb dX5_boost_99 (by decide) ?_
            refine lv_iload_n hx hb dX5_boost_101 rfl (lv_at hl 1 rfl) ?_
            refine vg_tp (nI (tn p0)) hp0.1 ?_
            refine lv_iload_n hx hb dX5_boost_102 rfl (lv_at hl 2 rfl) ?_
            refine vg_tp (nI (tn n0)) hn0.1 ?_
            refine lv_iconst (v := 0) hx hb dX5_boost_103 (by decide) ?_
            refine lv_aload_n hx hb dX5_boost_104 rfl (lv_at hl 0 rfl) ?_
            refine lv_aload_n hx hb dX5_boost_105 rfl (lv_at hl 0 rfl) ?_
            refine va_get (D := D) (ci := 6) (v := .ref (ad 2)) (C := RX5) (T := TX5) (N := 26) hx hb hts hin_RX5 hown hE.1 hP 0 rfl rfl 2 (by decide) (hts (.fieldLink RX5 7 "VillagepostModel" "home" "[I") (by decide +kernel)) (fun _ h9 => h9) rfl dX5_boost_106 ?_
            refine lv_iload_n hx hb dX5_boost_109 rfl (lv_at hl 1 rfl) ?_
            refine vg_tp (nI (tn p0)) hp0.1 ?_
            refine vg_iald hx hb hE.1 hP 1 0 rfl rfl (f := μ 2) (j := (tn p0)) (by omega) (by decide) dX5_boost_110 ?_
            obtain ⟨hN12, hM12⟩ := hho (tn p0) (by omega)
            refine vg_tp (nI (tn ((μ 2) (tn p0)))) hN12 ?_
            refine lv_iload_n hx hb dX5_boost_111 rfl (lv_at hl 1 rfl) ?_
            refine vg_tp (nI (tn p0)) hp0.1 ?_
            refine vg_calliW (va_runV (As := [.int (nI (tn ((μ 2) (tn p0)))), .int (nI (tn p0))]) (rest := [.int 0, .int (nI (tn n0)), .int (nI (tn p0)), .int 10, .ref mo]) ⟨hx, hb, hml, hown, hts⟩ (kX5_servers l D cy H.size mo ad (va_up (va_up μ 0 (fun _ => 0)) 0 (fun _ => 0)) (tn ((μ 2) (tn p0))) (tn p0) (hpe) (by omega) (by omega)) (cwV 2 hts gX5_boost_X5_servers rfl rfl rfl (by decide +kernel) ⟨Nat.le_of_ble_eq_true rfl, Nat.le_of_ble_eq_true rfl⟩) (vg_P.preV hE hP 0 rfl rfl hP hD) rfl rfl hl.1 rfl (lv_room (Nat.le_of_ble_eq_true rfl)) dX5_boost_112 ⟨Nat.le_of_ble_eq_true rfl, Nat.le_of_ble_eq_true rfl⟩) hP hD hS hA (fun r _ H locs hr hP hD hS => ?_)
            subst hr
            refine lv_iconst (v := 1) hx hb dX5_boost_115 (by decide) ?_
            refine lv_aload_n hx hb dX5_boost_116 rfl (lv_at hl 0 rfl) ?_
            refine va_get (D := D) (ci := 6) (v := .ref (ad 2)) (C := RX5) (T := TX5) (N := 26) hx hb hts hin_RX5 hown hE.1 hP 0 rfl rfl 2 (by decide) (hts (.fieldLink RX5 7 "VillagepostModel" "home" "[I") (by decide +kernel)) (fun _ h9 => h9) rfl dX5_boost_117 ?_
            refine lv_aload_n hx hb dX5_boost_120 rfl (lv_at hl 0 rfl) ?_
            refine va_get (D := D) (ci := 6) (v := .ref (ad 12)) (C := RX5) (T := TX5) (N := 26) hx hb hts hin_RX5 hown hE.1 hP 0 rfl rfl 12 (by decide) (hts (.fieldLink RX5 38 "VillagepostModel" "author" "[I") (by decide +kernel)) (fun _ h9 => h9) rfl dX5_boost_121 ?_
            refine lv_iload_n hx hb dX5_boost_124 rfl (lv_at hl 2 rfl) ?_
            refine vg_tp (nI (tn n0)) hn0.1 ?_
            refine vg_iald hx hb hE.1 hP 10 0 rfl rfl (f := μ 12) (j := (tn n0)) (by omega) (by decide) dX5_boost_125 ?_
            obtain ⟨hN13, hM13⟩ := hau (tn n0) (by omega)
            refine vg_tp (nI (tn ((μ 12) (tn n0)))) hN13 ?_
            refine vg_iald hx hb hE.1 hP 1 0 rfl rfl (f := μ 2) (j := (tn ((μ 12) (tn n0)))) (by omega) (by decide) dX5_boost_126 ?_
            obtain ⟨hN14, hM14⟩ := hho (tn ((μ 12) (tn n0))) (by omega)
            refine vg_tp (nI (tn ((μ 2) (tn ((μ 12) (tn n0)))))) hN14 ?_
            refine lv_ishl hx hb dX5_boost_127 ?_
            refine lv_ior hx hb dX5_boost_128 ?_
            refine vg_callvW (va_runV (As := [.int (nI 10), .int (nI (tn p0)), .int (nI (tn n0)), .int 0, .int ((mSrv (va_up (va_up μ 0 (fun _ => 0)) 0 (fun _ => 0)) (tn ((μ 2) (tn p0))) (tn p0)) ||| ((1 : Int32) <<< ((nI (tn ((μ 2) (tn ((μ 12) (tn n0)))))) &&& 31)))]) (rest := []) ⟨hx, hb, hml, hown, hts⟩ (kX5_acts l D cy H.size mo ad (va_up (va_up μ 0 (fun _ => 0)) 0 (fun _ => 0)) 10 (tn p0) (tn n0) 0 (((mSrv (va_up (va_up μ 0 (fun _ => 0)) 0 (fun _ => 0)) (tn ((μ 2) (tn p0))) (tn p0)) ||| ((1 : Int32) <<< ((nI (tn ((μ 2) (tn ((μ 12) (tn n0)))))) &&& 31)))) (⟨hpe, hho, hau, hre, hac⟩) (hla) (hac0) (by omega) (by omega) (by omega) (fun _ => by omega)) (cwV 5 hts gX5_boost_X5_acts rfl rfl rfl (by decide +kernel) ⟨Nat.le_of_ble_eq_true rfl, Nat.le_of_ble_eq_true rfl⟩) (vg_P.preV hE hP 0 rfl rfl hP hD) rfl rfl hl.1 rfl (lv_room (Nat.le_of_ble_eq_true rfl)) dX5_boost_129 ⟨Nat.le_of_ble_eq_true rfl, Nat.le_of_ble_eq_true rfl⟩) hP hD hS hA (fun _ H locs hrv hP hD hS => ?_)
            have hP : va_P D vwCl (Mw cy mo ad (mAct (va_up (va_up μ 0 (fun _ => 0)) 0 (fun _ => 0)) 10 (tn p0) (tn n0) 0 (((mSrv (va_up (va_up μ 0 (fun _ => 0)) 0 (fun _ => 0)) (tn ((μ 2) (tn p0))) (tn p0)) ||| ((1 : Int32) <<< ((nI (tn ((μ 2) (tn ((μ 12) (tn n0)))))) &&& 31)))))) H := hP
            have hD : va_D (va_A (Mw cy mo ad μ) s.heap.size) (Mw cy mo ad (mAct (va_up (va_up μ 0 (fun _ => 0)) 0 (fun _ => 0)) 10 (tn p0) (tn n0) 0 (((mSrv (va_up (va_up μ 0 (fun _ => 0)) 0 (fun _ => 0)) (tn ((μ 2) (tn p0))) (tn p0)) ||| ((1 : Int32) <<< ((nI (tn ((μ 2) (tn ((μ 12) (tn n0)))))) &&& 31)))))) := hD
            have eW : mAct (va_up (va_up μ 0 (fun _ => 0)) 0 (fun _ => 0)) 10 (tn p0) (tn n0) 0 (((mSrv (va_up (va_up μ 0 (fun _ => 0)) 0 (fun _ => 0)) (tn ((μ 2) (tn p0))) (tn p0)) ||| ((1 : Int32) <<< ((nI (tn ((μ 2) (tn ((μ 12) (tn n0)))))) &&& 31)))) = mBoo μ p0 n0 := by simp [mBoo, mBooT, mHb, mSrv_up, bx_uu, c1, c3, c5, c7, c10]
            have hP : va_P D vwCl (Mw cy mo ad (mBoo μ p0 n0)) H := by rw [← eW]; exact hP
            have hD : va_D (va_A (Mw cy mo ad μ) s.heap.size) (Mw cy mo ad (mBoo μ p0 n0)) := by rw [← eW]; exact hD
            exact W.vret hx hb hr (fun t ht hW => ⟨⟨(), rfl, trivial, (by rw [ht]; exact hP), hD⟩, hS.F ht⟩) hS.2.2 dX5_boost_132
          · have c10 := r10
            refine lv_iconst (v := 2) hx hb dX5_boost_83 (by decide) ?_
            refine lv_goto (tgt := 88) hx hb dX5_boost_84 (by decide) ?_
            refine va_put (D := (D)) (ci := 6) (v := .int 2) (ty := .int) (C := RX5) (T := TX5) (N := 26) hx hb hts hin_RX5 tyX5 tyX5_ok nmX5 hown hE.1 hP hD hS 0 rfl rfl 0 (by decide) (hts (.fieldLink RX5 77 "VillagepostModel" "thrown" "I") (by decide +kernel)) (fun _ h9 => h9) rfl (by decide +kernel) rfl rfl (Nat.le_of_ble_eq_true rfl) dX5_boost_88 (fun H locs hP hD hS => ?_)
            have hP : va_P D vwCl (Mw cy mo ad (va_up (va_up μ 0 (fun _ => 0)) 0 (fun _ => 2))) H := hP
            have hD : va_D (va_A (Mw cy mo ad μ) s.heap.size) (Mw cy mo ad (va_up (va_up μ 0 (fun _ => 0)) 0 (fun _ => 2))) := hD
            refine lv_aload_n hx hb dX5_boost_91 rfl (lv_at hl 0 rfl) ?_
            refine va_get (D := D) (ci := 6) (v := .int 2) (C := RX5) (T := TX5) (N := 26) hx hb hts hin_RX5 hown hE.1 hP 0 rfl rfl 0 (by decide) (hts (.fieldLink RX5 77 "VillagepostModel" "thrown" "I") (by decide +kernel)) (fun _ h9 => h9) rfl dX5_boost_92 ?_
            refine lv_if_ne (tgt := 132) hx hb dX5_boost_95 (by decide) (fun _ => ?_) (fun c9 => False.elim (by revert c9; decide))
            have eW : va_up (va_up μ 0 (fun _ => 0)) 0 (fun _ => 2) = mBoo μ p0 n0 := by simp [mBoo, mBooT, mHb, mSrv_up, bx_uu, c1, c3, c5, c7, c10]
            have hP : va_P D vwCl (Mw cy mo ad (mBoo μ p0 n0)) H := by rw [← eW]; exact hP
            have hD : va_D (va_A (Mw cy mo ad μ) s.heap.size) (Mw cy mo ad (mBoo μ p0 n0)) := by rw [← eW]; exact hD
            exact W.vret hx hb hr (fun t ht hW => ⟨⟨(), rfl, trivial, (by rw [ht]; exact hP), hD⟩, hS.F ht⟩) hS.2.2 dX5_boost_132
    · have c3 : (mIn n0 0 ((((μ 11) 0) - 1))) = false := bI_0.mp r3
      refine lv_iconst (v := 1) hx hb dX5_boost_23 (by decide) ?_
      refine lv_goto (tgt := 28) hx hb dX5_boost_24 (by decide) ?_
      refine va_put (D := (D)) (ci := 6) (v := .int 1) (ty := .int) (C := RX5) (T := TX5) (N := 26) hx hb hts hin_RX5 tyX5 tyX5_ok nmX5 hown hE.1 hP hD hS 0 rfl rfl 0 (by decide) (hts (.fieldLink RX5 77 "VillagepostModel" "thrown" "I") (by decide +kernel)) (fun _ h9 => h9) rfl (by decide +kernel) rfl rfl (Nat.le_of_ble_eq_true rfl) dX5_boost_28 (fun H locs hP hD hS => ?_)
      have hP : va_P D vwCl (Mw cy mo ad (va_up μ 0 (fun _ => 1))) H := hP
      have hD : va_D (va_A (Mw cy mo ad μ) s.heap.size) (Mw cy mo ad (va_up μ 0 (fun _ => 1))) := hD
      refine lv_aload_n hx hb dX5_boost_31 rfl (lv_at hl 0 rfl) ?_
      refine va_get (D := D) (ci := 6) (v := .int 1) (C := RX5) (T := TX5) (N := 26) hx hb hts hin_RX5 hown hE.1 hP 0 rfl rfl 0 (by decide) (hts (.fieldLink RX5 77 "VillagepostModel" "thrown" "I") (by decide +kernel)) (fun _ h9 => h9) rfl dX5_boost_32 ?_
      refine lv_if_eq (tgt := 39) hx hb dX5_boost_35 (by decide) (fun c9 => False.elim (by revert c9; decide)) (fun _ => ?_)
      have eW : va_up μ 0 (fun _ => 1) = mBoo μ p0 n0 := by simp [mBoo, mBooT, mHb, mSrv_up, bx_uu, c1, c3]
      have hP : va_P D vwCl (Mw cy mo ad (mBoo μ p0 n0)) H := by rw [← eW]; exact hP
      have hD : va_D (va_A (Mw cy mo ad μ) s.heap.size) (Mw cy mo ad (mBoo μ p0 n0)) := by rw [← eW]; exact hD
      exact W.vret hx hb hr (fun t ht hW => ⟨⟨(), rfl, trivial, (by rw [ht]; exact hP), hD⟩, hS.F ht⟩) hS.2.2 dX5_boost_38

set_option maxHeartbeats 4000000 in
set_option maxRecDepth 100000 in
theorem kX5_sees (l : Launch) (D : va_G) (cy : Nat → ClassId) (sz : Nat) (mo : Nat) (ad : Nat → Nat) (μ : Nat → Nat → Int32) (p0 : Int32) (n0 : Int32) (hw : mWF μ) (hpo : isN (μ 11 0) 51) : Met l yX5_sees wsX5_sees ({ frames := 3, cells := 0, slots := 0, locals := 70 }) (vg_P D cy [.ref mo, .int p0, .int n0] sz (Mw cy mo ad μ)) (vg_Qi (S := Unit) D sz (Mw cy mo ad μ) (fun r _ => r = (bI (mSeeR μ p0 n0))) (fun _ => Mw cy mo ad (mSee μ p0 n0))) 0 0 (va_A (Mw cy mo ad μ) sz) := by
  refine Met.ofW (cc := cX5_sees) (maxL := 3) (ret := (some .boolean)) (by decide) rfl ?_
  intro p e s m args below meth c s₁ BB hml hv
  obtain ⟨rfl, hsz, hP, hE, hD0⟩ := hv
  have hx := BB.exec
  have hb := BB.bytes
  have hr := BB.returns
  have hts := atoms_spec (ws := wsX5_sees) BB.pre
  have hown : s.vm.findClass RX5 = some m.cls := findClass_of_methodNamed BB.named
  have hlocks := BB.notSynchronized
  subst hsz
  have hD := hD0.self (sz := s.heap.size)
  have hA : ∀ q : Nat, s.heap.size ≤ q → (va_A (Mw cy mo ad μ) s.heap.size) q := fun q h => Or.inr h
  have hS : va_S (va_A (Mw cy mo ad μ) s.heap.size) s.heap s.heap [] := va_S.rf
  have hin_RX5 : ∀ w ∈ u_ws RX5 TX5 26, w ∈ wsX5_sees := by decide +kernel
  have hl := lv_entry ([.ref mo, .int p0, .int n0]) (n := 3) (Nat.le_of_ble_eq_true rfl)
  rw [lg_entry_eq]
  generalize (lg_sl ([.ref mo, .int p0, .int n0]) ++ List.replicate (3 - (lg_sl ([.ref mo, .int p0, .int n0])).length) Slot.unset).toArray = ls at hl ⊢
  have hl : lv_has ls 3 [(0, .ref mo), (1, .int p0), (2, .int n0)] := hl
  obtain ⟨hpe, hho, hau, hre, hac⟩ := hw
  have hpe2 := hpe.2
  have hpo2 := hpo.2
  refine lv_aload_n hx hb dX5_sees_0 rfl (lv_at hl 0 rfl) ?_
  refine lv_aload_n hx hb dX5_sees_1 rfl (lv_at hl 0 rfl) ?_
  refine lv_iload_n hx hb dX5_sees_2 rfl (lv_at hl 1 rfl) ?_
  refine vg_calliW (va_runV (As := [.int p0]) (rest := [.ref mo]) ⟨hx, hb, hml, hown, hts⟩ (kX5_isOne l D cy s.heap.size mo ad μ p0 ) (cwV 1 hts gX5_sees_X5_isOne rfl rfl rfl (by decide +kernel) ⟨Nat.le_of_ble_eq_true rfl, Nat.le_of_ble_eq_true rfl⟩) (vg_P.preV hE hP 0 rfl rfl hP hD) rfl rfl hl.1 rfl (lv_room (Nat.le_of_ble_eq_true rfl)) dX5_sees_3 ⟨Nat.le_of_ble_eq_true rfl, Nat.le_of_ble_eq_true rfl⟩) hP hD hS hA (fun r _ H locs hr hP hD hS => ?_)
  subst hr
  refine lv_if_eq (tgt := 27) hx hb dX5_sees_6 (by decide) (fun r1 => ?_) (fun r1 => ?_)
  · have c1 : (mIn p0 0 (μ 1 0 - 1)) = false := bI_0.mp r1
    refine lv_iconst (v := 1) hx hb dX5_sees_27 (by decide) ?_
    refine va_put (D := (D)) (ci := 6) (v := .int 1) (ty := .int) (C := RX5) (T := TX5) (N := 26) hx hb hts hin_RX5 tyX5 tyX5_ok nmX5 hown hE.1 hP hD hS 0 rfl rfl 0 (by decide) (hts (.fieldLink RX5 77 "VillagepostModel" "thrown" "I") (by decide +kernel)) (fun _ h9 => h9) rfl (by decide +kernel) rfl rfl (Nat.le_of_ble_eq_true rfl) dX5_sees_28 (fun H locs hP hD hS => ?_)
    have hP : va_P D vwCl (Mw cy mo ad (va_up μ 0 (fun _ => 1))) H := hP
    have hD : va_D (va_A (Mw cy mo ad μ) s.heap.size) (Mw cy mo ad (va_up μ 0 (fun _ => 1))) := hD
    refine lv_aload_n hx hb dX5_sees_31 rfl (lv_at hl 0 rfl) ?_
    refine va_get (D := D) (ci := 6) (v := .int 1) (C := RX5) (T := TX5) (N := 26) hx hb hts hin_RX5 hown hE.1 hP 0 rfl rfl 0 (by decide) (hts (.fieldLink RX5 77 "VillagepostModel" "thrown" "I") (by decide +kernel)) (fun _ h9 => h9) rfl dX5_sees_32 ?_
    refine lv_if_ne (tgt := 51) hx hb dX5_sees_35 (by decide) (fun _ => ?_) (fun c9 => False.elim (by revert c9; decide))
    refine lv_iconst (v := 0) hx hb dX5_sees_51 (by decide) ?_
    have eW : va_up μ 0 (fun _ => 1) = mSee μ p0 n0 := by simp [mSee, mSeeT, c1]
    have hP : va_P D vwCl (Mw cy mo ad (mSee μ p0 n0)) H := by rw [← eW]; exact hP
    have hD : va_D (va_A (Mw cy mo ad μ) s.heap.size) (Mw cy mo ad (mSee μ p0 n0)) := by rw [← eW]; exact hD
    refine vg_tp (bI (mSeeR μ p0 n0)) (by simp [mSeeR, mSeeT, bI, c1]) ?_
    exact W.zret (v := (bI (mSeeR μ p0 n0))) (ty := .boolean) hx hb hr (bI_and _) (fun t ht hW => ⟨⟨(bI (mSeeR μ p0 n0)), (), rfl, rfl, (by rw [ht]; exact hP), hD⟩, hS.F ht⟩) hS.2.2 dX5_sees_52
  · have c1 : (mIn p0 0 (μ 1 0 - 1)) = true := bI_n0.mp r1
    refine lv_iload_n hx hb dX5_sees_9 rfl (lv_at hl 2 rfl) ?_
    refine lv_iconst (v := 0) hx hb dX5_sees_10 (by decide) ?_
    refine lv_aload_n hx hb dX5_sees_11 rfl (lv_at hl 0 rfl) ?_
    refine va_get (D := D) (ci := 6) (v := .int ((μ 11) 0)) (C := RX5) (T := TX5) (N := 26) hx hb hts hin_RX5 hown hE.1 hP 0 rfl rfl 11 (by decide) (hts (.fieldLink RX5 136 "VillagepostModel" "posts" "I") (by decide +kernel)) (fun _ h9 => h9) rfl dX5_sees_12 ?_
    refine lv_iconst (v := 1) hx hb dX5_sees_15 (by decide) ?_
    refine lv_isub hx hb dX5_sees_16 ?_
    refine vg_calliP (va_runS (As := [.int n0, .int 0, .int (((μ 11) 0) - 1)]) (rest := [.ref mo]) ⟨hx, hb, hml, hown, hts⟩ (kX5_in l D cy H.size n0 0 ((((μ 11) 0) - 1))) (va_cwS 3 hts gX5_sees_X5_in rfl rfl rfl (by decide +kernel) ⟨Nat.le_of_ble_eq_true rfl, Nat.le_of_ble_eq_true rfl⟩) (vg_P.preS hE vg_P0 (A := fun _ => True) vg_D0) rfl rfl hl.1 rfl (lv_room (Nat.le_of_ble_eq_true rfl)) dX5_sees_17 ⟨Nat.le_of_ble_eq_true rfl, Nat.le_of_ble_eq_true rfl⟩) hP hD hS hA (fun r _ H locs hr hP hD hS => ?_)
    subst hr
    refine lv_if_eq (tgt := 27) hx hb dX5_sees_20 (by decide) (fun r3 => ?_) (fun r3 => ?_)
    · have c3 : (mIn n0 0 ((((μ 11) 0) - 1))) = false := bI_0.mp r3
      refine lv_iconst (v := 1) hx hb dX5_sees_27 (by decide) ?_
      refine va_put (D := (D)) (ci := 6) (v := .int 1) (ty := .int) (C := RX5) (T := TX5) (N := 26) hx hb hts hin_RX5 tyX5 tyX5_ok nmX5 hown hE.1 hP hD hS 0 rfl rfl 0 (by decide) (hts (.fieldLink RX5 77 "VillagepostModel" "thrown" "I") (by decide +kernel)) (fun _ h9 => h9) rfl (by decide +kernel) rfl rfl (Nat.le_of_ble_eq_true rfl) dX5_sees_28 (fun H locs hP hD hS => ?_)
      have hP : va_P D vwCl (Mw cy mo ad (va_up μ 0 (fun _ => 1))) H := hP
      have hD : va_D (va_A (Mw cy mo ad μ) s.heap.size) (Mw cy mo ad (va_up μ 0 (fun _ => 1))) := hD
      refine lv_aload_n hx hb dX5_sees_31 rfl (lv_at hl 0 rfl) ?_
      refine va_get (D := D) (ci := 6) (v := .int 1) (C := RX5) (T := TX5) (N := 26) hx hb hts hin_RX5 hown hE.1 hP 0 rfl rfl 0 (by decide) (hts (.fieldLink RX5 77 "VillagepostModel" "thrown" "I") (by decide +kernel)) (fun _ h9 => h9) rfl dX5_sees_32 ?_
      refine lv_if_ne (tgt := 51) hx hb dX5_sees_35 (by decide) (fun _ => ?_) (fun c9 => False.elim (by revert c9; decide))
      refine lv_iconst (v := 0) hx hb dX5_sees_51 (by decide) ?_
      have eW : va_up μ 0 (fun _ => 1) = mSee μ p0 n0 := by simp [mSee, mSeeT, c1, c3]
      have hP : va_P D vwCl (Mw cy mo ad (mSee μ p0 n0)) H := by rw [← eW]; exact hP
      have hD : va_D (va_A (Mw cy mo ad μ) s.heap.size) (Mw cy mo ad (mSee μ p0 n0)) := by rw [← eW]; exact hD
      refine vg_tp (bI (mSeeR μ p0 n0)) (by simp [mSeeR, mSeeT, bI, c1, c3]) ?_
      exact W.zret (v := (bI (mSeeR μ p0 n0))) (ty := .boolean) hx hb hr (bI_and _) (fun t ht hW => ⟨⟨(bI (mSeeR μ p0 n0)), (), rfl, rfl, (by rw [ht]; exact hP), hD⟩, hS.F ht⟩) hS.2.2 dX5_sees_52
    · have c3 : (mIn n0 0 ((((μ 11) 0) - 1))) = true := bI_n0.mp r3
      refine lv_iconst (v := 0) hx hb dX5_sees_23 (by decide) ?_
      refine lv_goto (tgt := 28) hx hb dX5_sees_24 (by decide) ?_
      refine va_put (D := (D)) (ci := 6) (v := .int 0) (ty := .int) (C := RX5) (T := TX5) (N := 26) hx hb hts hin_RX5 tyX5 tyX5_ok nmX5 hown hE.1 hP hD hS 0 rfl rfl 0 (by decide) (hts (.fieldLink RX5 77 "VillagepostModel" "thrown" "I") (by decide +kernel)) (fun _ h9 => h9) rfl (by decide +kernel) rfl rfl (Nat.le_of_ble_eq_true rfl) dX5_sees_28 (fun H locs hP hD hS => ?_)
      have hP : va_P D vwCl (Mw cy mo ad (va_up μ 0 (fun _ => 0))) H := hP
      have hD : va_D (va_A (Mw cy mo ad μ) s.heap.size) (Mw cy mo ad (va_up μ 0 (fun _ => 0))) := hD
      refine lv_aload_n hx hb dX5_sees_31 rfl (lv_at hl 0 rfl) ?_
      refine va_get (D := D) (ci := 6) (v := .int 0) (C := RX5) (T := TX5) (N := 26) hx hb hts hin_RX5 hown hE.1 hP 0 rfl rfl 0 (by decide) (hts (.fieldLink RX5 77 "VillagepostModel" "thrown" "I") (by decide +kernel)) (fun _ h9 => h9) rfl dX5_sees_32 ?_
      refine lv_if_ne (tgt := 51) hx hb dX5_sees_35 (by decide) (fun c9 => False.elim (by revert c9; decide)) (fun _ => ?_)
      have hp0 : isN p0 10 := (mIn_n hpe (by omega) c1).1
      have hp02 := hp0.2
      have hn0 : isN n0 50 := (mIn_n hpo (by omega) c3).1
      have hn02 := hn0.2
      refine lv_aload_n hx hb dX5_sees_38 rfl (lv_at hl 0 rfl) ?_
      refine lv_iload_n hx hb dX5_sees_39 rfl (lv_at hl 1 rfl) ?_
      refine vg_tp (nI (tn p0)) hp0.1 ?_
      refine lv_iload_n hx hb dX5_sees_40 rfl (lv_at hl 2 rfl) ?_
      refine vg_tp (nI (tn n0)) hn0.1 ?_
      refine vg_calliW (va_runV (As := [.int (nI (tn p0)), .int (nI (tn n0))]) (rest := []) ⟨hx, hb, hml, hown, hts⟩ (kX5_seen l D cy H.size mo ad (va_up μ 0 (fun _ => 0)) (tn p0) (tn n0) (⟨hpe, hho, hau, hre, hac⟩) (by omega) (by omega)) (cwV 2 hts gX5_sees_X5_seen rfl rfl rfl (by decide +kernel) ⟨Nat.le_of_ble_eq_true rfl, Nat.le_of_ble_eq_true rfl⟩) (vg_P.preV hE hP 0 rfl rfl hP hD) rfl rfl hl.1 rfl (lv_room (Nat.le_of_ble_eq_true rfl)) dX5_sees_41 ⟨Nat.le_of_ble_eq_true rfl, Nat.le_of_ble_eq_true rfl⟩) hP hD hS hA (fun r _ H locs hr hP hD hS => ?_)
      subst hr
      refine lv_if_eq (tgt := 51) hx hb dX5_sees_44 (by decide) (fun r6 => ?_) (fun r6 => ?_)
      · have c6 : (mSeen μ (tn p0) (tn n0)) = false := bI_0.mp r6
        refine lv_iconst (v := 0) hx hb dX5_sees_51 (by decide) ?_
        have eW : va_up μ 0 (fun _ => 0) = mSee μ p0 n0 := by simp [mSee, mSeeT, c1, c3, c6]
        have hP : va_P D vwCl (Mw cy mo ad (mSee μ p0 n0)) H := by rw [← eW]; exact hP
        have hD : va_D (va_A (Mw cy mo ad μ) s.heap.size) (Mw cy mo ad (mSee μ p0 n0)) := by rw [← eW]; exact hD
        refine vg_tp (bI (mSeeR μ p0 n0)) (by simp [mSeeR, mSeeT, bI, c1, c3, c6]) ?_
        exact W.zret (v := (bI (mSeeR μ p0 n0))) (ty := .boolean) hx hb hr (bI_and _) (fun t ht hW => ⟨⟨(bI (mSeeR μ p0 n0)), (), rfl, rfl, (by rw [ht]; exact hP), hD⟩, hS.F ht⟩) hS.2.2 dX5_sees_52
      · have c6 : (mSeen μ (tn p0) (tn n0)) = true := bI_n0.mp r6
        refine lv_iconst (v := 1) hx hb dX5_sees_47 (by decide) ?_
        refine lv_goto (tgt := 52) hx hb dX5_sees_48 (by decide) ?_
        have eW : va_up μ 0 (fun _ => 0) = mSee μ p0 n0 := by simp [mSee, mSeeT, c1, c3, c6]
        have hP : va_P D vwCl (Mw cy mo ad (mSee μ p0 n0)) H := by rw [← eW]; exact hP
        have hD : va_D (va_A (Mw cy mo ad μ) s.heap.size) (Mw cy mo ad (mSee μ p0 n0)) := by rw [← eW]; exact hD
        refine vg_tp (bI (mSeeR μ p0 n0)) (by simp [mSeeR, mSeeT, bI, c1, c3, c6]) ?_
        exact W.zret (v := (bI (mSeeR μ p0 n0))) (ty := .boolean) hx hb hr (bI_and _) (fun t ht hW => ⟨⟨(bI (mSeeR μ p0 n0)), (), rfl, rfl, (by rw [ht]; exact hP), hD⟩, hS.F ht⟩) hS.2.2 dX5_sees_52

set_option maxHeartbeats 4000000 in
set_option maxRecDepth 100000 in
theorem kX5_seesAnew (l : Launch) (D : va_G) (cy : Nat → ClassId) (sz : Nat) (mo : Nat) (ad : Nat → Nat) (μ : Nat → Nat → Int32) (p0 : Int32) (n0 : Int32) (hw : mWF μ) (hpo : isN (μ 11 0) 51) : Met l yX5_seesAnew wsX5_seesAnew ({ frames := 3, cells := 0, slots := 0, locals := 70 }) (vg_P D cy [.ref mo, .int p0, .int n0] sz (Mw cy mo ad μ)) (vg_Qi (S := Unit) D sz (Mw cy mo ad μ) (fun r _ => r = (bI (mSeeR μ p0 n0))) (fun _ => Mw cy mo ad (mSee μ p0 n0))) 0 0 (va_A (Mw cy mo ad μ) sz) := by
  refine Met.ofW (cc := cX5_seesAnew) (maxL := 3) (ret := (some .boolean)) (by decide) rfl ?_
  intro p e s m args below meth c s₁ BB hml hv
  obtain ⟨rfl, hsz, hP, hE, hD0⟩ := hv
  have hx := BB.exec
  have hb := BB.bytes
  have hr := BB.returns
  have hts := atoms_spec (ws := wsX5_seesAnew) BB.pre
  have hown : s.vm.findClass RX5 = some m.cls := findClass_of_methodNamed BB.named
  have hlocks := BB.notSynchronized
  subst hsz
  have hD := hD0.self (sz := s.heap.size)
  have hA : ∀ q : Nat, s.heap.size ≤ q → (va_A (Mw cy mo ad μ) s.heap.size) q := fun q h => Or.inr h
  have hS : va_S (va_A (Mw cy mo ad μ) s.heap.size) s.heap s.heap [] := va_S.rf
  have hin_RX5 : ∀ w ∈ u_ws RX5 TX5 26, w ∈ wsX5_seesAnew := by decide +kernel
  have hl := lv_entry ([.ref mo, .int p0, .int n0]) (n := 3) (Nat.le_of_ble_eq_true rfl)
  rw [lg_entry_eq]
  generalize (lg_sl ([.ref mo, .int p0, .int n0]) ++ List.replicate (3 - (lg_sl ([.ref mo, .int p0, .int n0])).length) Slot.unset).toArray = ls at hl ⊢
  have hl : lv_has ls 3 [(0, .ref mo), (1, .int p0), (2, .int n0)] := hl
  obtain ⟨hpe, hho, hau, hre, hac⟩ := hw
  have hpe2 := hpe.2
  have hpo2 := hpo.2
  refine lv_aload_n hx hb dX5_seesAnew_0 rfl (lv_at hl 0 rfl) ?_
  refine lv_aload_n hx hb dX5_seesAnew_1 rfl (lv_at hl 0 rfl) ?_
  refine lv_iload_n hx hb dX5_seesAnew_2 rfl (lv_at hl 1 rfl) ?_
  refine vg_calliW (va_runV (As := [.int p0]) (rest := [.ref mo]) ⟨hx, hb, hml, hown, hts⟩ (kX5_isOne l D cy s.heap.size mo ad μ p0 ) (cwV 1 hts gX5_seesAnew_X5_isOne rfl rfl rfl (by decide +kernel) ⟨Nat.le_of_ble_eq_true rfl, Nat.le_of_ble_eq_true rfl⟩) (vg_P.preV hE hP 0 rfl rfl hP hD) rfl rfl hl.1 rfl (lv_room (Nat.le_of_ble_eq_true rfl)) dX5_seesAnew_3 ⟨Nat.le_of_ble_eq_true rfl, Nat.le_of_ble_eq_true rfl⟩) hP hD hS hA (fun r _ H locs hr hP hD hS => ?_)
  subst hr
  refine lv_if_eq (tgt := 27) hx hb dX5_seesAnew_6 (by decide) (fun r1 => ?_) (fun r1 => ?_)
  · have c1 : (mIn p0 0 (μ 1 0 - 1)) = false := bI_0.mp r1
    refine lv_iconst (v := 1) hx hb dX5_seesAnew_27 (by decide) ?_
    refine va_put (D := (D)) (ci := 6) (v := .int 1) (ty := .int) (C := RX5) (T := TX5) (N := 26) hx hb hts hin_RX5 tyX5 tyX5_ok nmX5 hown hE.1 hP hD hS 0 rfl rfl 0 (by decide) (hts (.fieldLink RX5 77 "VillagepostModel" "thrown" "I") (by decide +kernel)) (fun _ h9 => h9) rfl (by decide +kernel) rfl rfl (Nat.le_of_ble_eq_true rfl) dX5_seesAnew_28 (fun H locs hP hD hS => ?_)
    have hP : va_P D vwCl (Mw cy mo ad (va_up μ 0 (fun _ => 1))) H := hP
    have hD : va_D (va_A (Mw cy mo ad μ) s.heap.size) (Mw cy mo ad (va_up μ 0 (fun _ => 1))) := hD
    refine lv_aload_n hx hb dX5_seesAnew_31 rfl (lv_at hl 0 rfl) ?_
    refine va_get (D := D) (ci := 6) (v := .int 1) (C := RX5) (T := TX5) (N := 26) hx hb hts hin_RX5 hown hE.1 hP 0 rfl rfl 0 (by decide) (hts (.fieldLink RX5 77 "VillagepostModel" "thrown" "I") (by decide +kernel)) (fun _ h9 => h9) rfl dX5_seesAnew_32 ?_
    refine lv_if_ne (tgt := 51) hx hb dX5_seesAnew_35 (by decide) (fun _ => ?_) (fun c9 => False.elim (by revert c9; decide))
    refine lv_iconst (v := 0) hx hb dX5_seesAnew_51 (by decide) ?_
    have eW : va_up μ 0 (fun _ => 1) = mSee μ p0 n0 := by simp [mSee, mSeeT, c1]
    have hP : va_P D vwCl (Mw cy mo ad (mSee μ p0 n0)) H := by rw [← eW]; exact hP
    have hD : va_D (va_A (Mw cy mo ad μ) s.heap.size) (Mw cy mo ad (mSee μ p0 n0)) := by rw [← eW]; exact hD
    refine vg_tp (bI (mSeeR μ p0 n0)) (by simp [mSeeR, mSeeT, bI, c1]) ?_
    exact W.zret (v := (bI (mSeeR μ p0 n0))) (ty := .boolean) hx hb hr (bI_and _) (fun t ht hW => ⟨⟨(bI (mSeeR μ p0 n0)), (), rfl, rfl, (by rw [ht]; exact hP), hD⟩, hS.F ht⟩) hS.2.2 dX5_seesAnew_52
  · have c1 : (mIn p0 0 (μ 1 0 - 1)) = true := bI_n0.mp r1
    refine lv_iload_n hx hb dX5_seesAnew_9 rfl (lv_at hl 2 rfl) ?_
    refine lv_iconst (v := 0) hx hb dX5_seesAnew_10 (by decide) ?_
    refine lv_aload_n hx hb dX5_seesAnew_11 rfl (lv_at hl 0 rfl) ?_
    refine va_get (D := D) (ci := 6) (v := .int ((μ 11) 0)) (C := RX5) (T := TX5) (N := 26) hx hb hts hin_RX5 hown hE.1 hP 0 rfl rfl 11 (by decide) (hts (.fieldLink RX5 136 "VillagepostModel" "posts" "I") (by decide +kernel)) (fun _ h9 => h9) rfl dX5_seesAnew_12 ?_
    refine lv_iconst (v := 1) hx hb dX5_seesAnew_15 (by decide) ?_
    refine lv_isub hx hb dX5_seesAnew_16 ?_
    refine vg_calliP (va_runS (As := [.int n0, .int 0, .int (((μ 11) 0) - 1)]) (rest := [.ref mo]) ⟨hx, hb, hml, hown, hts⟩ (kX5_in l D cy H.size n0 0 ((((μ 11) 0) - 1))) (va_cwS 3 hts gX5_seesAnew_X5_in rfl rfl rfl (by decide +kernel) ⟨Nat.le_of_ble_eq_true rfl, Nat.le_of_ble_eq_true rfl⟩) (vg_P.preS hE vg_P0 (A := fun _ => True) vg_D0) rfl rfl hl.1 rfl (lv_room (Nat.le_of_ble_eq_true rfl)) dX5_seesAnew_17 ⟨Nat.le_of_ble_eq_true rfl, Nat.le_of_ble_eq_true rfl⟩) hP hD hS hA (fun r _ H locs hr hP hD hS => ?_)
    subst hr
    refine lv_if_eq (tgt := 27) hx hb dX5_seesAnew_20 (by decide) (fun r3 => ?_) (fun r3 => ?_)
    · have c3 : (mIn n0 0 ((((μ 11) 0) - 1))) = false := bI_0.mp r3
      refine lv_iconst (v := 1) hx hb dX5_seesAnew_27 (by decide) ?_
      refine va_put (D := (D)) (ci := 6) (v := .int 1) (ty := .int) (C := RX5) (T := TX5) (N := 26) hx hb hts hin_RX5 tyX5 tyX5_ok nmX5 hown hE.1 hP hD hS 0 rfl rfl 0 (by decide) (hts (.fieldLink RX5 77 "VillagepostModel" "thrown" "I") (by decide +kernel)) (fun _ h9 => h9) rfl (by decide +kernel) rfl rfl (Nat.le_of_ble_eq_true rfl) dX5_seesAnew_28 (fun H locs hP hD hS => ?_)
      have hP : va_P D vwCl (Mw cy mo ad (va_up μ 0 (fun _ => 1))) H := hP
      have hD : va_D (va_A (Mw cy mo ad μ) s.heap.size) (Mw cy mo ad (va_up μ 0 (fun _ => 1))) := hD
      refine lv_aload_n hx hb dX5_seesAnew_31 rfl (lv_at hl 0 rfl) ?_
      refine va_get (D := D) (ci := 6) (v := .int 1) (C := RX5) (T := TX5) (N := 26) hx hb hts hin_RX5 hown hE.1 hP 0 rfl rfl 0 (by decide) (hts (.fieldLink RX5 77 "VillagepostModel" "thrown" "I") (by decide +kernel)) (fun _ h9 => h9) rfl dX5_seesAnew_32 ?_
      refine lv_if_ne (tgt := 51) hx hb dX5_seesAnew_35 (by decide) (fun _ => ?_) (fun c9 => False.elim (by revert c9; decide))
      refine lv_iconst (v := 0) hx hb dX5_seesAnew_51 (by decide) ?_
      have eW : va_up μ 0 (fun _ => 1) = mSee μ p0 n0 := by simp [mSee, mSeeT, c1, c3]
      have hP : va_P D vwCl (Mw cy mo ad (mSee μ p0 n0)) H := by rw [← eW]; exact hP
      have hD : va_D (va_A (Mw cy mo ad μ) s.heap.size) (Mw cy mo ad (mSee μ p0 n0)) := by rw [← eW]; exact hD
      refine vg_tp (bI (mSeeR μ p0 n0)) (by simp [mSeeR, mSeeT, bI, c1, c3]) ?_
      exact W.zret (v := (bI (mSeeR μ p0 n0))) (ty := .boolean) hx hb hr (bI_and _) (fun t ht hW => ⟨⟨(bI (mSeeR μ p0 n0)), (), rfl, rfl, (by rw [ht]; exact hP), hD⟩, hS.F ht⟩) hS.2.2 dX5_seesAnew_52
    · have c3 : (mIn n0 0 ((((μ 11) 0) - 1))) = true := bI_n0.mp r3
      refine lv_iconst (v := 0) hx hb dX5_seesAnew_23 (by decide) ?_
      refine lv_goto (tgt := 28) hx hb dX5_seesAnew_24 (by decide) ?_
      refine va_put (D := (D)) (ci := 6) (v := .int 0) (ty := .int) (C := RX5) (T := TX5) (N := 26) hx hb hts hin_RX5 tyX5 tyX5_ok nmX5 hown hE.1 hP hD hS 0 rfl rfl 0 (by decide) (hts (.fieldLink RX5 77 "VillagepostModel" "thrown" "I") (by decide +kernel)) (fun _ h9 => h9) rfl (by decide +kernel) rfl rfl (Nat.le_of_ble_eq_true rfl) dX5_seesAnew_28 (fun H locs hP hD hS => ?_)
      have hP : va_P D vwCl (Mw cy mo ad (va_up μ 0 (fun _ => 0))) H := hP
      have hD : va_D (va_A (Mw cy mo ad μ) s.heap.size) (Mw cy mo ad (va_up μ 0 (fun _ => 0))) := hD
      refine lv_aload_n hx hb dX5_seesAnew_31 rfl (lv_at hl 0 rfl) ?_
      refine va_get (D := D) (ci := 6) (v := .int 0) (C := RX5) (T := TX5) (N := 26) hx hb hts hin_RX5 hown hE.1 hP 0 rfl rfl 0 (by decide) (hts (.fieldLink RX5 77 "VillagepostModel" "thrown" "I") (by decide +kernel)) (fun _ h9 => h9) rfl dX5_seesAnew_32 ?_
      refine lv_if_ne (tgt := 51) hx hb dX5_seesAnew_35 (by decide) (fun c9 => False.elim (by revert c9; decide)) (fun _ => ?_)
      have hp0 : isN p0 10 := (mIn_n hpe (by omega) c1).1
      have hp02 := hp0.2
      have hn0 : isN n0 50 := (mIn_n hpo (by omega) c3).1
      have hn02 := hn0.2
      refine lv_aload_n hx hb dX5_seesAnew_38 rfl (lv_at hl 0 rfl) ?_
      refine lv_iload_n hx hb dX5_seesAnew_39 rfl (lv_at hl 1 rfl) ?_
      refine vg_tp (nI (tn p0)) hp0.1 ?_
      refine lv_iload_n hx hb dX5_seesAnew_40 rfl (lv_at hl 2 rfl) ?_
      refine vg_tp (nI (tn n0)) hn0.1 ?_
      refine vg_calliW (va_runV (As := [.int (nI (tn p0)), .int (nI (tn n0))]) (rest := []) ⟨hx, hb, hml, hown, hts⟩ (kX5_seen l D cy H.size mo ad (va_up μ 0 (fun _ => 0)) (tn p0) (tn n0) (⟨hpe, hho, hau, hre, hac⟩) (by omega) (by omega)) (cwV 2 hts gX5_seesAnew_X5_seen rfl rfl rfl (by decide +kernel) ⟨Nat.le_of_ble_eq_true rfl, Nat.le_of_ble_eq_true rfl⟩) (vg_P.preV hE hP 0 rfl rfl hP hD) rfl rfl hl.1 rfl (lv_room (Nat.le_of_ble_eq_true rfl)) dX5_seesAnew_41 ⟨Nat.le_of_ble_eq_true rfl, Nat.le_of_ble_eq_true rfl⟩) hP hD hS hA (fun r _ H locs hr hP hD hS => ?_)
      subst hr
      refine lv_if_eq (tgt := 51) hx hb dX5_seesAnew_44 (by decide) (fun r6 => ?_) (fun r6 => ?_)
      · have c6 : (mSeen μ (tn p0) (tn n0)) = false := bI_0.mp r6
        refine lv_iconst (v := 0) hx hb dX5_seesAnew_51 (by decide) ?_
        have eW : va_up μ 0 (fun _ => 0) = mSee μ p0 n0 := by simp [mSee, mSeeT, c1, c3, c6]
        have hP : va_P D vwCl (Mw cy mo ad (mSee μ p0 n0)) H := by rw [← eW]; exact hP
        have hD : va_D (va_A (Mw cy mo ad μ) s.heap.size) (Mw cy mo ad (mSee μ p0 n0)) := by rw [← eW]; exact hD
        refine vg_tp (bI (mSeeR μ p0 n0)) (by simp [mSeeR, mSeeT, bI, c1, c3, c6]) ?_
        exact W.zret (v := (bI (mSeeR μ p0 n0))) (ty := .boolean) hx hb hr (bI_and _) (fun t ht hW => ⟨⟨(bI (mSeeR μ p0 n0)), (), rfl, rfl, (by rw [ht]; exact hP), hD⟩, hS.F ht⟩) hS.2.2 dX5_seesAnew_52
      · have c6 : (mSeen μ (tn p0) (tn n0)) = true := bI_n0.mp r6
        refine lv_iconst (v := 1) hx hb dX5_seesAnew_47 (by decide) ?_
        refine lv_goto (tgt := 52) hx hb dX5_seesAnew_48 (by decide) ?_
        have eW : va_up μ 0 (fun _ => 0) = mSee μ p0 n0 := by simp [mSee, mSeeT, c1, c3, c6]
        have hP : va_P D vwCl (Mw cy mo ad (mSee μ p0 n0)) H := by rw [← eW]; exact hP
        have hD : va_D (va_A (Mw cy mo ad μ) s.heap.size) (Mw cy mo ad (mSee μ p0 n0)) := by rw [← eW]; exact hD
        refine vg_tp (bI (mSeeR μ p0 n0)) (by simp [mSeeR, mSeeT, bI, c1, c3, c6]) ?_
        exact W.zret (v := (bI (mSeeR μ p0 n0))) (ty := .boolean) hx hb hr (bI_and _) (fun t ht hW => ⟨⟨(bI (mSeeR μ p0 n0)), (), rfl, rfl, (by rw [ht]; exact hP), hD⟩, hS.F ht⟩) hS.2.2 dX5_seesAnew_52

set_option maxHeartbeats 4000000 in
set_option maxRecDepth 100000 in
theorem kX5_between (l : Launch) (D : va_G) (cy : Nat → ClassId) (sz : Nat) (mo : Nat) (ad : Nat → Nat) (μ : Nat → Nat → Int32) (v0 : Int32) (p0 : Int32) (q0 : Int32) (hw : mWF μ) : Met l yX5_between wsX5_between ({ frames := 2, cells := 0, slots := 0, locals := 43 }) (vg_P D cy [.ref mo, .int v0, .int p0, .int q0] sz (Mw cy mo ad μ)) (vg_Qi (S := Unit) D sz (Mw cy mo ad μ) (fun r _ => r = (mBetR μ v0 p0 q0)) (fun _ => Mw cy mo ad (va_up μ 0 (fun _ => mBetT μ v0 p0 q0)))) 0 0 (va_A (Mw cy mo ad μ) sz) := by
  refine Met.ofW (cc := cX5_between) (maxL := 5) (ret := (some .int)) (by decide) rfl ?_
  intro p e s m args below meth c s₁ BB hml hv
  obtain ⟨rfl, hsz, hP, hE, hD0⟩ := hv
  have hx := BB.exec
  have hb := BB.bytes
  have hr := BB.returns
  have hts := atoms_spec (ws := wsX5_between) BB.pre
  have hown : s.vm.findClass RX5 = some m.cls := findClass_of_methodNamed BB.named
  have hlocks := BB.notSynchronized
  subst hsz
  have hD := hD0.self (sz := s.heap.size)
  have hA : ∀ q : Nat, s.heap.size ≤ q → (va_A (Mw cy mo ad μ) s.heap.size) q := fun q h => Or.inr h
  have hS : va_S (va_A (Mw cy mo ad μ) s.heap.size) s.heap s.heap [] := va_S.rf
  have hin_RX5 : ∀ w ∈ u_ws RX5 TX5 26, w ∈ wsX5_between := by decide +kernel
  have hl := lv_entry ([.ref mo, .int v0, .int p0, .int q0]) (n := 5) (Nat.le_of_ble_eq_true rfl)
  rw [lg_entry_eq]
  generalize (lg_sl ([.ref mo, .int v0, .int p0, .int q0]) ++ List.replicate (5 - (lg_sl ([.ref mo, .int v0, .int p0, .int q0])).length) Slot.unset).toArray = ls at hl ⊢
  have hl : lv_has ls 5 [(0, .ref mo), (1, .int v0), (2, .int p0), (3, .int q0)] := hl
  obtain ⟨hpe, hho, hau, hre, hac⟩ := hw
  have hpe2 := hpe.2
  refine lv_aload_n hx hb dX5_between_0 rfl (lv_at hl 0 rfl) ?_
  refine lv_iload_n hx hb dX5_between_1 rfl (lv_at hl 1 rfl) ?_
  refine lv_iconst (v := 0) hx hb dX5_between_2 (by decide) ?_
  refine lv_iconst (v := 3) hx hb dX5_between_3 (by decide) ?_
  refine vg_calliP (va_runS (As := [.int v0, .int 0, .int 3]) (rest := [.ref mo]) ⟨hx, hb, hml, hown, hts⟩ (kX5_in l D cy s.heap.size v0 0 3) (va_cwS 3 hts gX5_between_X5_in rfl rfl rfl (by decide +kernel) ⟨Nat.le_of_ble_eq_true rfl, Nat.le_of_ble_eq_true rfl⟩) (vg_P.preS hE vg_P0 (A := fun _ => True) vg_D0) rfl rfl hl.1 rfl (lv_room (Nat.le_of_ble_eq_true rfl)) dX5_between_4 ⟨Nat.le_of_ble_eq_true rfl, Nat.le_of_ble_eq_true rfl⟩) hP hD hS hA (fun r _ H locs hr hP hD hS => ?_)
  subst hr
  refine lv_if_eq (tgt := 30) hx hb dX5_between_7 (by decide) (fun r1 => ?_) (fun r1 => ?_)
  · have c1 : (mIn v0 0 3) = false := bI_0.mp r1
    refine lv_iconst (v := 1) hx hb dX5_between_30 (by decide) ?_
    refine va_put (D := (D)) (ci := 6) (v := .int 1) (ty := .int) (C := RX5) (T := TX5) (N := 26) hx hb hts hin_RX5 tyX5 tyX5_ok nmX5 hown hE.1 hP hD hS 0 rfl rfl 0 (by decide) (hts (.fieldLink RX5 77 "VillagepostModel" "thrown" "I") (by decide +kernel)) (fun _ h9 => h9) rfl (by decide +kernel) rfl rfl (Nat.le_of_ble_eq_true rfl) dX5_between_31 (fun H locs hP hD hS => ?_)
    have hP : va_P D vwCl (Mw cy mo ad (va_up μ 0 (fun _ => 1))) H := hP
    have hD : va_D (va_A (Mw cy mo ad μ) s.heap.size) (Mw cy mo ad (va_up μ 0 (fun _ => 1))) := hD
    refine lv_aload_n hx hb dX5_between_34 rfl (lv_at hl 0 rfl) ?_
    refine va_get (D := D) (ci := 6) (v := .int 1) (C := RX5) (T := TX5) (N := 26) hx hb hts hin_RX5 hown hE.1 hP 0 rfl rfl 0 (by decide) (hts (.fieldLink RX5 77 "VillagepostModel" "thrown" "I") (by decide +kernel)) (fun _ h9 => h9) rfl dX5_between_35 ?_
    refine lv_if_eq (tgt := 43) hx hb dX5_between_38 (by decide) (fun c9 => False.elim (by revert c9; decide)) (fun _ => ?_)
    refine lv_iconst (v := 0) hx hb dX5_between_41 (by decide) ?_
    have eW : va_up μ 0 (fun _ => 1) = va_up μ 0 (fun _ => mBetT μ v0 p0 q0) := by simp [mBetT, mTwo, c1]
    have hP : va_P D vwCl (Mw cy mo ad (va_up μ 0 (fun _ => mBetT μ v0 p0 q0))) H := by rw [← eW]; exact hP
    have hD : va_D (va_A (Mw cy mo ad μ) s.heap.size) (Mw cy mo ad (va_up μ 0 (fun _ => mBetT μ v0 p0 q0))) := by rw [← eW]; exact hD
    refine vg_tp (mBetR μ v0 p0 q0) (by simp [mBetR, mBetT, mTwo, c1]) ?_
    exact W.iret (v := (mBetR μ v0 p0 q0)) hx hb hr (fun t ht hW => ⟨⟨(mBetR μ v0 p0 q0), (), rfl, rfl, (by rw [ht]; exact hP), hD⟩, hS.F ht⟩) hS.2.2 dX5_between_42
  · have c1 : (mIn v0 0 3) = true := bI_n0.mp r1
    refine lv_aload_n hx hb dX5_between_10 rfl (lv_at hl 0 rfl) ?_
    refine lv_iload_n hx hb dX5_between_11 rfl (lv_at hl 2 rfl) ?_
    refine vg_calliW (va_runV (As := [.int p0]) (rest := [.ref mo]) ⟨hx, hb, hml, hown, hts⟩ (kX5_isOne l D cy H.size mo ad μ p0 ) (cwV 1 hts gX5_between_X5_isOne rfl rfl rfl (by decide +kernel) ⟨Nat.le_of_ble_eq_true rfl, Nat.le_of_ble_eq_true rfl⟩) (vg_P.preV hE hP 0 rfl rfl hP hD) rfl rfl hl.1 rfl (lv_room (Nat.le_of_ble_eq_true rfl)) dX5_between_12 ⟨Nat.le_of_ble_eq_true rfl, Nat.le_of_ble_eq_true rfl⟩) hP hD hS hA (fun r _ H locs hr hP hD hS => ?_)
    subst hr
    refine lv_if_eq (tgt := 30) hx hb dX5_between_15 (by decide) (fun r3 => ?_) (fun r3 => ?_)
    · have c3 : (mIn p0 0 (μ 1 0 - 1)) = false := bI_0.mp r3
      refine lv_iconst (v := 1) hx hb dX5_between_30 (by decide) ?_
      refine va_put (D := (D)) (ci := 6) (v := .int 1) (ty := .int) (C := RX5) (T := TX5) (N := 26) hx hb hts hin_RX5 tyX5 tyX5_ok nmX5 hown hE.1 hP hD hS 0 rfl rfl 0 (by decide) (hts (.fieldLink RX5 77 "VillagepostModel" "thrown" "I") (by decide +kernel)) (fun _ h9 => h9) rfl (by decide +kernel) rfl rfl (Nat.le_of_ble_eq_true rfl) dX5_between_31 (fun H locs hP hD hS => ?_)
      have hP : va_P D vwCl (Mw cy mo ad (va_up μ 0 (fun _ => 1))) H := hP
      have hD : va_D (va_A (Mw cy mo ad μ) s.heap.size) (Mw cy mo ad (va_up μ 0 (fun _ => 1))) := hD
      refine lv_aload_n hx hb dX5_between_34 rfl (lv_at hl 0 rfl) ?_
      refine va_get (D := D) (ci := 6) (v := .int 1) (C := RX5) (T := TX5) (N := 26) hx hb hts hin_RX5 hown hE.1 hP 0 rfl rfl 0 (by decide) (hts (.fieldLink RX5 77 "VillagepostModel" "thrown" "I") (by decide +kernel)) (fun _ h9 => h9) rfl dX5_between_35 ?_
      refine lv_if_eq (tgt := 43) hx hb dX5_between_38 (by decide) (fun c9 => False.elim (by revert c9; decide)) (fun _ => ?_)
      refine lv_iconst (v := 0) hx hb dX5_between_41 (by decide) ?_
      have eW : va_up μ 0 (fun _ => 1) = va_up μ 0 (fun _ => mBetT μ v0 p0 q0) := by simp [mBetT, mTwo, c1, c3]
      have hP : va_P D vwCl (Mw cy mo ad (va_up μ 0 (fun _ => mBetT μ v0 p0 q0))) H := by rw [← eW]; exact hP
      have hD : va_D (va_A (Mw cy mo ad μ) s.heap.size) (Mw cy mo ad (va_up μ 0 (fun _ => mBetT μ v0 p0 q0))) := by rw [← eW]; exact hD
      refine vg_tp (mBetR μ v0 p0 q0) (by simp [mBetR, mBetT, mTwo, c1, c3]) ?_
      exact W.iret (v := (mBetR μ v0 p0 q0)) hx hb hr (fun t ht hW => ⟨⟨(mBetR μ v0 p0 q0), (), rfl, rfl, (by rw [ht]; exact hP), hD⟩, hS.F ht⟩) hS.2.2 dX5_between_42
    · have c3 : (mIn p0 0 (μ 1 0 - 1)) = true := bI_n0.mp r3
      refine lv_aload_n hx hb dX5_between_18 rfl (lv_at hl 0 rfl) ?_
      refine lv_iload_n hx hb dX5_between_19 rfl (lv_at hl 3 rfl) ?_
      refine vg_calliW (va_runV (As := [.int q0]) (rest := [.ref mo]) ⟨hx, hb, hml, hown, hts⟩ (kX5_isOne l D cy H.size mo ad μ q0 ) (cwV 1 hts gX5_between_X5_isOne rfl rfl rfl (by decide +kernel) ⟨Nat.le_of_ble_eq_true rfl, Nat.le_of_ble_eq_true rfl⟩) (vg_P.preV hE hP 0 rfl rfl hP hD) rfl rfl hl.1 rfl (lv_room (Nat.le_of_ble_eq_true rfl)) dX5_between_20 ⟨Nat.le_of_ble_eq_true rfl, Nat.le_of_ble_eq_true rfl⟩) hP hD hS hA (fun r _ H locs hr hP hD hS => ?_)
      subst hr
      refine lv_if_eq (tgt := 30) hx hb dX5_between_23 (by decide) (fun r5 => ?_) (fun r5 => ?_)
      · have c5 : (mIn q0 0 (μ 1 0 - 1)) = false := bI_0.mp r5
        refine lv_iconst (v := 1) hx hb dX5_between_30 (by decide) ?_
        refine va_put (D := (D)) (ci := 6) (v := .int 1) (ty := .int) (C := RX5) (T := TX5) (N := 26) hx hb hts hin_RX5 tyX5 tyX5_ok nmX5 hown hE.1 hP hD hS 0 rfl rfl 0 (by decide) (hts (.fieldLink RX5 77 "VillagepostModel" "thrown" "I") (by decide +kernel)) (fun _ h9 => h9) rfl (by decide +kernel) rfl rfl (Nat.le_of_ble_eq_true rfl) dX5_between_31 (fun H locs hP hD hS => ?_)
        have hP : va_P D vwCl (Mw cy mo ad (va_up μ 0 (fun _ => 1))) H := hP
        have hD : va_D (va_A (Mw cy mo ad μ) s.heap.size) (Mw cy mo ad (va_up μ 0 (fun _ => 1))) := hD
        refine lv_aload_n hx hb dX5_between_34 rfl (lv_at hl 0 rfl) ?_
        refine va_get (D := D) (ci := 6) (v := .int 1) (C := RX5) (T := TX5) (N := 26) hx hb hts hin_RX5 hown hE.1 hP 0 rfl rfl 0 (by decide) (hts (.fieldLink RX5 77 "VillagepostModel" "thrown" "I") (by decide +kernel)) (fun _ h9 => h9) rfl dX5_between_35 ?_
        refine lv_if_eq (tgt := 43) hx hb dX5_between_38 (by decide) (fun c9 => False.elim (by revert c9; decide)) (fun _ => ?_)
        refine lv_iconst (v := 0) hx hb dX5_between_41 (by decide) ?_
        have eW : va_up μ 0 (fun _ => 1) = va_up μ 0 (fun _ => mBetT μ v0 p0 q0) := by simp [mBetT, mTwo, c1, c3, c5]
        have hP : va_P D vwCl (Mw cy mo ad (va_up μ 0 (fun _ => mBetT μ v0 p0 q0))) H := by rw [← eW]; exact hP
        have hD : va_D (va_A (Mw cy mo ad μ) s.heap.size) (Mw cy mo ad (va_up μ 0 (fun _ => mBetT μ v0 p0 q0))) := by rw [← eW]; exact hD
        refine vg_tp (mBetR μ v0 p0 q0) (by simp [mBetR, mBetT, mTwo, c1, c3, c5]) ?_
        exact W.iret (v := (mBetR μ v0 p0 q0)) hx hb hr (fun t ht hW => ⟨⟨(mBetR μ v0 p0 q0), (), rfl, rfl, (by rw [ht]; exact hP), hD⟩, hS.F ht⟩) hS.2.2 dX5_between_42
      · have c5 : (mIn q0 0 (μ 1 0 - 1)) = true := bI_n0.mp r5
        refine lv_iconst (v := 0) hx hb dX5_between_26 (by decide) ?_
        refine lv_goto (tgt := 31) hx hb dX5_between_27 (by decide) ?_
        refine va_put (D := (D)) (ci := 6) (v := .int 0) (ty := .int) (C := RX5) (T := TX5) (N := 26) hx hb hts hin_RX5 tyX5 tyX5_ok nmX5 hown hE.1 hP hD hS 0 rfl rfl 0 (by decide) (hts (.fieldLink RX5 77 "VillagepostModel" "thrown" "I") (by decide +kernel)) (fun _ h9 => h9) rfl (by decide +kernel) rfl rfl (Nat.le_of_ble_eq_true rfl) dX5_between_31 (fun H locs hP hD hS => ?_)
        have hP : va_P D vwCl (Mw cy mo ad (va_up μ 0 (fun _ => 0))) H := hP
        have hD : va_D (va_A (Mw cy mo ad μ) s.heap.size) (Mw cy mo ad (va_up μ 0 (fun _ => 0))) := hD
        refine lv_aload_n hx hb dX5_between_34 rfl (lv_at hl 0 rfl) ?_
        refine va_get (D := D) (ci := 6) (v := .int 0) (C := RX5) (T := TX5) (N := 26) hx hb hts hin_RX5 hown hE.1 hP 0 rfl rfl 0 (by decide) (hts (.fieldLink RX5 77 "VillagepostModel" "thrown" "I") (by decide +kernel)) (fun _ h9 => h9) rfl dX5_between_35 ?_
        refine lv_if_eq (tgt := 43) hx hb dX5_between_38 (by decide) (fun _ => ?_) (fun c9 => False.elim (by revert c9; decide))
        have hv0 : isN v0 4 := mIn_3 c1
        have hv02 := hv0.2
        have hp0 : isN p0 10 := (mIn_n hpe (by omega) c3).1
        have hp02 := hp0.2
        have hq0 : isN q0 10 := (mIn_n hpe (by omega) c5).1
        have hq02 := hq0.2
        refine lv_iload_n hx hb dX5_between_43 rfl (lv_at hl 1 rfl) ?_
        refine vg_tp (nI (tn v0)) hv0.1 ?_
        refine lv_iload_n hx hb dX5_between_44 rfl (lv_at hl 2 rfl) ?_
        refine vg_tp (nI (tn p0)) hp0.1 ?_
        refine lv_iload_n hx hb dX5_between_45 rfl (lv_at hl 3 rfl) ?_
        refine vg_tp (nI (tn q0)) hq0.1 ?_
        refine vg_calliP (va_runS (As := [.int (nI (tn v0)), .int (nI (tn p0)), .int (nI (tn q0))]) (rest := []) ⟨hx, hb, hml, hown, hts⟩ (kX5_at l D cy H.size (tn v0) (tn p0) (tn q0)) (va_cwS 3 hts gX5_between_X5_at rfl rfl rfl (by decide +kernel) ⟨Nat.le_of_ble_eq_true rfl, Nat.le_of_ble_eq_true rfl⟩) (vg_P.preS hE vg_P0 (A := fun _ => True) vg_D0) rfl rfl hl.1 rfl (lv_room (Nat.le_of_ble_eq_true rfl)) dX5_between_46 ⟨Nat.le_of_ble_eq_true rfl, Nat.le_of_ble_eq_true rfl⟩) hP hD hS hA (fun r _ H locs hr hP hD hS => ?_)
        subst hr
        refine lv_istore (lv' := [(4, .int (nI (100 * (tn v0) + 10 * (tn p0) + (tn q0)))), (0, .ref mo), (1, .int v0), (2, .int p0), (3, .int q0)]) hx hb dX5_between_49 hl (by decide) rfl (fun ls hl => ?_)
        have hl : lv_has ls 5 [(0, .ref mo), (1, .int v0), (2, .int p0), (3, .int q0), (4, .int (nI (100 * (tn v0) + 10 * (tn p0) + (tn q0))))] := lv_sub hl [1, 2, 3, 4, 0] rfl
        refine lv_aload_n hx hb dX5_between_51 rfl (lv_at hl 0 rfl) ?_
        refine va_get (D := D) (ci := 6) (v := .ref (ad 4)) (C := RX5) (T := TX5) (N := 26) hx hb hts hin_RX5 hown hE.1 hP 0 rfl rfl 4 (by decide) (hts (.fieldLink RX5 17 "VillagepostModel" "follows" "[Z") (by decide +kernel)) (fun _ h9 => h9) rfl dX5_between_52 ?_
        refine lv_iload hx hb dX5_between_55 (lv_at hl 4 rfl) ?_
        refine vg_zald hx hb hE.1 hP 3 2 rfl rfl (f := μ 4) (j := (100 * (tn v0) + 10 * (tn p0) + (tn q0))) (by omega) (by decide) dX5_between_57 ?_
        refine lv_if_eq (tgt := 65) hx hb dX5_between_58 (by decide) (fun r8 => ?_) (fun r8 => ?_)
        · have c8 := r8
          refine lv_aload_n hx hb dX5_between_65 rfl (lv_at hl 0 rfl) ?_
          refine va_get (D := D) (ci := 6) (v := .ref (ad 3)) (C := RX5) (T := TX5) (N := 26) hx hb hts hin_RX5 hown hE.1 hP 0 rfl rfl 3 (by decide) (hts (.fieldLink RX5 13 "VillagepostModel" "asks" "[Z") (by decide +kernel)) (fun _ h9 => h9) rfl dX5_between_66 ?_
          refine lv_iload hx hb dX5_between_69 (lv_at hl 4 rfl) ?_
          refine vg_zald hx hb hE.1 hP 2 2 rfl rfl (f := μ 3) (j := (100 * (tn v0) + 10 * (tn p0) + (tn q0))) (by omega) (by decide) dX5_between_71 ?_
          refine lv_if_eq (tgt := 79) hx hb dX5_between_72 (by decide) (fun r9 => ?_) (fun r9 => ?_)
          · have c9 := r9
            refine lv_iconst (v := 0) hx hb dX5_between_79 (by decide) ?_
            refine lv_aload_n hx hb dX5_between_80 rfl (lv_at hl 0 rfl) ?_
            refine va_get (D := D) (ci := 6) (v := .ref (ad 5)) (C := RX5) (T := TX5) (N := 26) hx hb hts hin_RX5 hown hE.1 hP 0 rfl rfl 5 (by decide) (hts (.fieldLink RX5 20 "VillagepostModel" "blocks" "[Z") (by decide +kernel)) (fun _ h9 => h9) rfl dX5_between_81 ?_
            refine lv_iload hx hb dX5_between_84 (lv_at hl 4 rfl) ?_
            refine vg_zald hx hb hE.1 hP 4 2 rfl rfl (f := μ 5) (j := (100 * (tn v0) + 10 * (tn p0) + (tn q0))) (by omega) (by decide) dX5_between_86 ?_
            refine lv_if_eq (tgt := 94) hx hb dX5_between_87 (by decide) (fun r10 => ?_) (fun r10 => ?_)
            · have c10 := r10
              refine lv_iconst (v := 0) hx hb dX5_between_94 (by decide) ?_
              refine lv_iadd hx hb dX5_between_95 ?_
              refine vg_tp 0 (by decide) ?_
              have eW : va_up μ 0 (fun _ => 0) = va_up μ 0 (fun _ => mBetT μ v0 p0 q0) := by simp [mBetT, mTwo, c1, c3, c5, c8, c9, c10]
              have hP : va_P D vwCl (Mw cy mo ad (va_up μ 0 (fun _ => mBetT μ v0 p0 q0))) H := by rw [← eW]; exact hP
              have hD : va_D (va_A (Mw cy mo ad μ) s.heap.size) (Mw cy mo ad (va_up μ 0 (fun _ => mBetT μ v0 p0 q0))) := by rw [← eW]; exact hD
              refine vg_tp (mBetR μ v0 p0 q0) (by simp [mBetR, mBetT, mTwo, c1, c3, c5, c8, c9, c10]) ?_
              exact W.iret (v := (mBetR μ v0 p0 q0)) hx hb hr (fun t ht hW => ⟨⟨(mBetR μ v0 p0 q0), (), rfl, rfl, (by rw [ht]; exact hP), hD⟩, hS.F ht⟩) hS.2.2 dX5_between_96
            · have c10 := r10
              refine lv_iconst (v := 4) hx hb dX5_between_90 (by decide) ?_
              refine lv_goto (tgt := 95) hx hb dX5_between_91 (by decide) ?_
              refine lv_iadd hx hb dX5_between_95 ?_
              refine vg_tp 4 (by decide) ?_
              have eW : va_up μ 0 (fun _ => 0) = va_up μ 0 (fun _ => mBetT μ v0 p0 q0) := by simp [mBetT, mTwo, c1, c3, c5, c8, c9, c10]
              have hP : va_P D vwCl (Mw cy mo ad (va_up μ 0 (fun _ => mBetT μ v0 p0 q0))) H := by rw [← eW]; exact hP
              have hD : va_D (va_A (Mw cy mo ad μ) s.heap.size) (Mw cy mo ad (va_up μ 0 (fun _ => mBetT μ v0 p0 q0))) := by rw [← eW]; exact hD
              refine vg_tp (mBetR μ v0 p0 q0) (by simp [mBetR, mBetT, mTwo, c1, c3, c5, c8, c9, c10]) ?_
              exact W.iret (v := (mBetR μ v0 p0 q0)) hx hb hr (fun t ht hW => ⟨⟨(mBetR μ v0 p0 q0), (), rfl, rfl, (by rw [ht]; exact hP), hD⟩, hS.F ht⟩) hS.2.2 dX5_between_96
          · have c9 := r9
            refine lv_iconst (v := 1) hx hb dX5_between_75 (by decide) ?_
            refine lv_goto (tgt := 80) hx hb dX5_between_76 (by decide) ?_
            refine lv_aload_n hx hb dX5_between_80 rfl (lv_at hl 0 rfl) ?_
            refine va_get (D := D) (ci := 6) (v := .ref (ad 5)) (C := RX5) (T := TX5) (N := 26) hx hb hts hin_RX5 hown hE.1 hP 0 rfl rfl 5 (by decide) (hts (.fieldLink RX5 20 "VillagepostModel" "blocks" "[Z") (by decide +kernel)) (fun _ h9 => h9) rfl dX5_between_81 ?_
            refine lv_iload hx hb dX5_between_84 (lv_at hl 4 rfl) ?_
            refine vg_zald hx hb hE.1 hP 4 2 rfl rfl (f := μ 5) (j := (100 * (tn v0) + 10 * (tn p0) + (tn q0))) (by omega) (by decide) dX5_between_86 ?_
            refine lv_if_eq (tgt := 94) hx hb dX5_between_87 (by decide) (fun r11 => ?_) (fun r11 => ?_)
            · have c11 := r11
              refine lv_iconst (v := 0) hx hb dX5_between_94 (by decide) ?_
              refine lv_iadd hx hb dX5_between_95 ?_
              refine vg_tp 1 (by decide) ?_
              have eW : va_up μ 0 (fun _ => 0) = va_up μ 0 (fun _ => mBetT μ v0 p0 q0) := by simp [mBetT, mTwo, c1, c3, c5, c8, c9, c11]
              have hP : va_P D vwCl (Mw cy mo ad (va_up μ 0 (fun _ => mBetT μ v0 p0 q0))) H := by rw [← eW]; exact hP
              have hD : va_D (va_A (Mw cy mo ad μ) s.heap.size) (Mw cy mo ad (va_up μ 0 (fun _ => mBetT μ v0 p0 q0))) := by rw [← eW]; exact hD
              refine vg_tp (mBetR μ v0 p0 q0) (by simp [mBetR, mBetT, mTwo, c1, c3, c5, c8, c9, c11]) ?_
              exact W.iret (v := (mBetR μ v0 p0 q0)) hx hb hr (fun t ht hW => ⟨⟨(mBetR μ v0 p0 q0), (), rfl, rfl, (by rw [ht]; exact hP), hD⟩, hS.F ht⟩) hS.2.2 dX5_between_96
            · have c11 := r11
              refine lv_iconst (v := 4) hx hb dX5_between_90 (by decide) ?_
              refine lv_goto (tgt := 95) hx hb dX5_between_91 (by decide) ?_
              refine lv_iadd hx hb dX5_between_95 ?_
              refine vg_tp 5 (by decide) ?_
              have eW : va_up μ 0 (fun _ => 0) = va_up μ 0 (fun _ => mBetT μ v0 p0 q0) := by simp [mBetT, mTwo, c1, c3, c5, c8, c9, c11]
              have hP : va_P D vwCl (Mw cy mo ad (va_up μ 0 (fun _ => mBetT μ v0 p0 q0))) H := by rw [← eW]; exact hP
              have hD : va_D (va_A (Mw cy mo ad μ) s.heap.size) (Mw cy mo ad (va_up μ 0 (fun _ => mBetT μ v0 p0 q0))) := by rw [← eW]; exact hD
              refine vg_tp (mBetR μ v0 p0 q0) (by simp [mBetR, mBetT, mTwo, c1, c3, c5, c8, c9, c11]) ?_
              exact W.iret (v := (mBetR μ v0 p0 q0)) hx hb hr (fun t ht hW => ⟨⟨(mBetR μ v0 p0 q0), (), rfl, rfl, (by rw [ht]; exact hP), hD⟩, hS.F ht⟩) hS.2.2 dX5_between_96
        · have c8 := r8
          refine lv_iconst (v := 2) hx hb dX5_between_61 (by decide) ?_
          refine lv_goto (tgt := 80) hx hb dX5_between_62 (by decide) ?_
          refine lv_aload_n hx hb dX5_between_80 rfl (lv_at hl 0 rfl) ?_
          refine va_get (D := D) (ci := 6) (v := .ref (ad 5)) (C := RX5) (T := TX5) (N := 26) hx hb hts hin_RX5 hown hE.1 hP 0 rfl rfl 5 (by decide) (hts (.fieldLink RX5 20 "VillagepostModel" "blocks" "[Z") (by decide +kernel)) (fun _ h9 => h9) rfl dX5_between_81 ?_
          refine lv_iload hx hb dX5_between_84 (lv_at hl 4 rfl) ?_
          refine vg_zald hx hb hE.1 hP 4 2 rfl rfl (f := μ 5) (j := (100 * (tn v0) + 10 * (tn p0) + (tn q0))) (by omega) (by decide) dX5_between_86 ?_
          refine lv_if_eq (tgt := 94) hx hb dX5_between_87 (by decide) (fun r12 => ?_) (fun r12 => ?_)
          · have c12 := r12
            refine lv_iconst (v := 0) hx hb dX5_between_94 (by decide) ?_
            refine lv_iadd hx hb dX5_between_95 ?_
            refine vg_tp 2 (by decide) ?_
            have eW : va_up μ 0 (fun _ => 0) = va_up μ 0 (fun _ => mBetT μ v0 p0 q0) := by simp [mBetT, mTwo, c1, c3, c5, c8, c12]
            have hP : va_P D vwCl (Mw cy mo ad (va_up μ 0 (fun _ => mBetT μ v0 p0 q0))) H := by rw [← eW]; exact hP
            have hD : va_D (va_A (Mw cy mo ad μ) s.heap.size) (Mw cy mo ad (va_up μ 0 (fun _ => mBetT μ v0 p0 q0))) := by rw [← eW]; exact hD
            refine vg_tp (mBetR μ v0 p0 q0) (by simp [mBetR, mBetT, mTwo, c1, c3, c5, c8, c12]) ?_
            exact W.iret (v := (mBetR μ v0 p0 q0)) hx hb hr (fun t ht hW => ⟨⟨(mBetR μ v0 p0 q0), (), rfl, rfl, (by rw [ht]; exact hP), hD⟩, hS.F ht⟩) hS.2.2 dX5_between_96
          · have c12 := r12
            refine lv_iconst (v := 4) hx hb dX5_between_90 (by decide) ?_
            refine lv_goto (tgt := 95) hx hb dX5_between_91 (by decide) ?_
            refine lv_iadd hx hb dX5_between_95 ?_
            refine vg_tp 6 (by decide) ?_
            have eW : va_up μ 0 (fun _ => 0) = va_up μ 0 (fun _ => mBetT μ v0 p0 q0) := by simp [mBetT, mTwo, c1, c3, c5, c8, c12]
            have hP : va_P D vwCl (Mw cy mo ad (va_up μ 0 (fun _ => mBetT μ v0 p0 q0))) H := by rw [← eW]; exact hP
            have hD : va_D (va_A (Mw cy mo ad μ) s.heap.size) (Mw cy mo ad (va_up μ 0 (fun _ => mBetT μ v0 p0 q0))) := by rw [← eW]; exact hD
            refine vg_tp (mBetR μ v0 p0 q0) (by simp [mBetR, mBetT, mTwo, c1, c3, c5, c8, c12]) ?_
            exact W.iret (v := (mBetR μ v0 p0 q0)) hx hb hr (fun t ht hW => ⟨⟨(mBetR μ v0 p0 q0), (), rfl, rfl, (by rw [ht]; exact hP), hD⟩, hS.F ht⟩) hS.2.2 dX5_between_96

set_option maxHeartbeats 4000000 in
set_option maxRecDepth 100000 in
theorem kX5_deliver (l : Launch) (D : va_G) (cy : Nat → ClassId) (sz : Nat) (mo : Nat) (ad : Nat → Nat) (μ : Nat → Nat → Int32) (v0 : Int32) (hw : mWF μ) (hla : mLast μ 1199) (hfi : ∀ j, j < 4 → isN (μ 24 j) 1201 ∧ tn (μ 24 j) ≤ tn (μ 25 j)) (hpa : ∀ j, j < 4800 → isN (μ 23 j) 600) : Met l yX5_deliver wsX5_deliver ({ frames := 5, cells := 0, slots := 0, locals := 119 }) (vg_P D cy [.ref mo, .int v0] sz (Mw cy mo ad μ)) (vg_Qi (S := Unit) D sz (Mw cy mo ad μ) (fun r _ => r = (mDlvR μ v0)) (fun _ => Mw cy mo ad (mDlv μ v0))) 0 0 (va_A (Mw cy mo ad μ) sz) := by
  refine Met.ofW (cc := cX5_deliver) (maxL := 3) (ret := (some .int)) (by decide) rfl ?_
  intro p e s m args below meth c s₁ BB hml hv
  obtain ⟨rfl, hsz, hP, hE, hD0⟩ := hv
  have hx := BB.exec
  have hb := BB.bytes
  have hr := BB.returns
  have hts := atoms_spec (ws := wsX5_deliver) BB.pre
  have hown : s.vm.findClass RX5 = some m.cls := findClass_of_methodNamed BB.named
  have hlocks := BB.notSynchronized
  subst hsz
  have hD := hD0.self (sz := s.heap.size)
  have hA : ∀ q : Nat, s.heap.size ≤ q → (va_A (Mw cy mo ad μ) s.heap.size) q := fun q h => Or.inr h
  have hS : va_S (va_A (Mw cy mo ad μ) s.heap.size) s.heap s.heap [] := va_S.rf
  have hin_RX5 : ∀ w ∈ u_ws RX5 TX5 26, w ∈ wsX5_deliver := by decide +kernel
  have hl := lv_entry ([.ref mo, .int v0]) (n := 3) (Nat.le_of_ble_eq_true rfl)
  rw [lg_entry_eq]
  generalize (lg_sl ([.ref mo, .int v0]) ++ List.replicate (3 - (lg_sl ([.ref mo, .int v0])).length) Slot.unset).toArray = ls at hl ⊢
  have hl : lv_has ls 3 [(0, .ref mo), (1, .int v0)] := hl
  obtain ⟨hpe, hho, hau, hre, hac⟩ := hw
  have hpe2 := hpe.2
  refine lv_aload_n hx hb dX5_deliver_0 rfl (lv_at hl 0 rfl) ?_
  refine lv_iload_n hx hb dX5_deliver_1 rfl (lv_at hl 1 rfl) ?_
  refine lv_iconst (v := 0) hx hb dX5_deliver_2 (by decide) ?_
  refine lv_iconst (v := 3) hx hb dX5_deliver_3 (by decide) ?_
  refine vg_calliP (va_runS (As := [.int v0, .int 0, .int 3]) (rest := [.ref mo]) ⟨hx, hb, hml, hown, hts⟩ (kX5_in l D cy s.heap.size v0 0 3) (va_cwS 3 hts gX5_deliver_X5_in rfl rfl rfl (by decide +kernel) ⟨Nat.le_of_ble_eq_true rfl, Nat.le_of_ble_eq_true rfl⟩) (vg_P.preS hE vg_P0 (A := fun _ => True) vg_D0) rfl rfl hl.1 rfl (lv_room (Nat.le_of_ble_eq_true rfl)) dX5_deliver_4 ⟨Nat.le_of_ble_eq_true rfl, Nat.le_of_ble_eq_true rfl⟩) hP hD hS hA (fun r _ H locs hr hP hD hS => ?_)
  subst hr
  refine lv_if_eq (tgt := 14) hx hb dX5_deliver_7 (by decide) (fun r1 => ?_) (fun r1 => ?_)
  · have c1 : (mIn v0 0 3) = false := bI_0.mp r1
    refine lv_iconst (v := 1) hx hb dX5_deliver_14 (by decide) ?_
    refine va_put (D := (D)) (ci := 6) (v := .int 1) (ty := .int) (C := RX5) (T := TX5) (N := 26) hx hb hts hin_RX5 tyX5 tyX5_ok nmX5 hown hE.1 hP hD hS 0 rfl rfl 0 (by decide) (hts (.fieldLink RX5 77 "VillagepostModel" "thrown" "I") (by decide +kernel)) (fun _ h9 => h9) rfl (by decide +kernel) rfl rfl (Nat.le_of_ble_eq_true rfl) dX5_deliver_15 (fun H locs hP hD hS => ?_)
    have hP : va_P D vwCl (Mw cy mo ad (va_up μ 0 (fun _ => 1))) H := hP
    have hD : va_D (va_A (Mw cy mo ad μ) s.heap.size) (Mw cy mo ad (va_up μ 0 (fun _ => 1))) := hD
    refine lv_aload_n hx hb dX5_deliver_18 rfl (lv_at hl 0 rfl) ?_
    refine va_get (D := D) (ci := 6) (v := .int 1) (C := RX5) (T := TX5) (N := 26) hx hb hts hin_RX5 hown hE.1 hP 0 rfl rfl 0 (by decide) (hts (.fieldLink RX5 77 "VillagepostModel" "thrown" "I") (by decide +kernel)) (fun _ h9 => h9) rfl dX5_deliver_19 ?_
    refine lv_if_ne (tgt := 40) hx hb dX5_deliver_22 (by decide) (fun _ => ?_) (fun c9 => False.elim (by revert c9; decide))
    refine lv_aload_n hx hb dX5_deliver_40 rfl (lv_at hl 0 rfl) ?_
    refine va_get (D := D) (ci := 6) (v := .int 1) (C := RX5) (T := TX5) (N := 26) hx hb hts hin_RX5 hown hE.1 hP 0 rfl rfl 0 (by decide) (hts (.fieldLink RX5 77 "VillagepostModel" "thrown" "I") (by decide +kernel)) (fun _ h9 => h9) rfl dX5_deliver_41 ?_
    refine lv_if_eq (tgt := 51) hx hb dX5_deliver_44 (by decide) (fun c9 => False.elim (by revert c9; decide)) (fun _ => ?_)
    refine lv_iconst (v := 0) hx hb dX5_deliver_47 (by decide) ?_
    refine lv_goto (tgt := 52) hx hb dX5_deliver_48 (by decide) ?_
    have eW : va_up μ 0 (fun _ => 1) = mDlv μ v0 := by simp [mDlv, mDlvA, c1]
    have hP : va_P D vwCl (Mw cy mo ad (mDlv μ v0)) H := by rw [← eW]; exact hP
    have hD : va_D (va_A (Mw cy mo ad μ) s.heap.size) (Mw cy mo ad (mDlv μ v0)) := by rw [← eW]; exact hD
    refine vg_tp (mDlvR μ v0) (by simp [mDlvR, mDlvA, mDo_18, va_up_ne, c1]) ?_
    exact W.iret (v := (mDlvR μ v0)) hx hb hr (fun t ht hW => ⟨⟨(mDlvR μ v0), (), rfl, rfl, (by rw [ht]; exact hP), hD⟩, hS.F ht⟩) hS.2.2 dX5_deliver_52
  · have c1 : (mIn v0 0 3) = true := bI_n0.mp r1
    refine lv_iconst (v := 0) hx hb dX5_deliver_10 (by decide) ?_
    refine lv_goto (tgt := 15) hx hb dX5_deliver_11 (by decide) ?_
    refine va_put (D := (D)) (ci := 6) (v := .int 0) (ty := .int) (C := RX5) (T := TX5) (N := 26) hx hb hts hin_RX5 tyX5 tyX5_ok nmX5 hown hE.1 hP hD hS 0 rfl rfl 0 (by decide) (hts (.fieldLink RX5 77 "VillagepostModel" "thrown" "I") (by decide +kernel)) (fun _ h9 => h9) rfl (by decide +kernel) rfl rfl (Nat.le_of_ble_eq_true rfl) dX5_deliver_15 (fun H locs hP hD hS => ?_)
    have hP : va_P D vwCl (Mw cy mo ad (va_up μ 0 (fun _ => 0))) H := hP
    have hD : va_D (va_A (Mw cy mo ad μ) s.heap.size) (Mw cy mo ad (va_up μ 0 (fun _ => 0))) := hD
    refine lv_aload_n hx hb dX5_deliver_18 rfl (lv_at hl 0 rfl) ?_
    refine va_get (D := D) (ci := 6) (v := .int 0) (C := RX5) (T := TX5) (N := 26) hx hb hts hin_RX5 hown hE.1 hP 0 rfl rfl 0 (by decide) (hts (.fieldLink RX5 77 "VillagepostModel" "thrown" "I") (by decide +kernel)) (fun _ h9 => h9) rfl dX5_deliver_19 ?_
    refine lv_if_ne (tgt := 40) hx hb dX5_deliver_22 (by decide) (fun c9 => False.elim (by revert c9; decide)) (fun _ => ?_)
    have hv0 : isN v0 4 := mIn_3 c1
    have hv02 := hv0.2
    refine lv_aload_n hx hb dX5_deliver_25 rfl (lv_at hl 0 rfl) ?_
    refine va_get (D := D) (ci := 6) (v := .ref (ad 24)) (C := RX5) (T := TX5) (N := 26) hx hb hts hin_RX5 hown hE.1 hP 0 rfl rfl 24 (by decide) (hts (.fieldLink RX5 71 "VillagepostModel" "first" "[I") (by decide +kernel)) (fun _ h9 => h9) rfl dX5_deliver_26 ?_
    refine lv_iload_n hx hb dX5_deliver_29 rfl (lv_at hl 1 rfl) ?_
    refine vg_tp (nI (tn v0)) hv0.1 ?_
    refine vg_iald hx hb hE.1 hP 21 0 rfl rfl (f := μ 24) (j := (tn v0)) (by omega) (by decide) dX5_deliver_30 ?_
    obtain ⟨hN5, hM5⟩ := (hfi (tn v0) (by omega)).1
    refine vg_tp (nI (tn ((μ 24) (tn v0)))) hN5 ?_
    refine lv_aload_n hx hb dX5_deliver_31 rfl (lv_at hl 0 rfl) ?_
    refine va_get (D := D) (ci := 6) (v := .ref (ad 25)) (C := RX5) (T := TX5) (N := 26) hx hb hts hin_RX5 hown hE.1 hP 0 rfl rfl 25 (by decide) (hts (.fieldLink RX5 74 "VillagepostModel" "last" "[I") (by decide +kernel)) (fun _ h9 => h9) rfl dX5_deliver_32 ?_
    refine lv_iload_n hx hb dX5_deliver_35 rfl (lv_at hl 1 rfl) ?_
    refine vg_tp (nI (tn v0)) hv0.1 ?_
    refine vg_iald hx hb hE.1 hP 22 0 rfl rfl (f := μ 25) (j := (tn v0)) (by omega) (by decide) dX5_deliver_36 ?_
    obtain ⟨hN6, hM6⟩ := hla (tn v0) (by omega)
    refine vg_tp (nI (tn ((μ 25) (tn v0)))) hN6 ?_
    refine lv_icmp_ne (tgt := 53) hx hb dX5_deliver_37 (by decide) (fun r7 => ?_) (fun r7 => ?_)
    · have c7 : ¬ tn ((μ 24) (tn v0)) = tn ((μ 25) (tn v0)) := fun q => r7 ((nI_eq (a := tn ((μ 24) (tn v0))) (b := tn ((μ 25) (tn v0))) (by omega) (by omega)).mpr q)
      have hfl := (hfi (tn v0) (by omega)).2
      refine lv_aload_n hx hb dX5_deliver_53 rfl (lv_at hl 0 rfl) ?_
      refine va_get (D := D) (ci := 6) (v := .ref (ad 23)) (C := RX5) (T := TX5) (N := 26) hx hb hts hin_RX5 hown hE.1 hP 0 rfl rfl 23 (by decide) (hts (.fieldLink RX5 68 "VillagepostModel" "packet" "[I") (by decide +kernel)) (fun _ h9 => h9) rfl dX5_deliver_54 ?_
      refine lv_sipush (v := 1200) hx hb dX5_deliver_57 (by decide) ?_
      refine lv_iload_n hx hb dX5_deliver_60 rfl (lv_at hl 1 rfl) ?_
      refine vg_tp (nI (tn v0)) hv0.1 ?_
      refine lv_imul hx hb dX5_deliver_61 ?_
      refine vg_tp (nI (1200 * (tn v0))) (pk_mul 1200 (tn v0)) ?_
      refine lv_aload_n hx hb dX5_deliver_62 rfl (lv_at hl 0 rfl) ?_
      refine va_get (D := D) (ci := 6) (v := .ref (ad 24)) (C := RX5) (T := TX5) (N := 26) hx hb hts hin_RX5 hown hE.1 hP 0 rfl rfl 24 (by decide) (hts (.fieldLink RX5 71 "VillagepostModel" "first" "[I") (by decide +kernel)) (fun _ h9 => h9) rfl dX5_deliver_63 ?_
      refine lv_iload_n hx hb dX5_deliver_66 rfl (lv_at hl 1 rfl) ?_
      refine vg_tp (nI (tn v0)) hv0.1 ?_
      refine vg_iald hx hb hE.1 hP 21 0 rfl rfl (f := μ 24) (j := (tn v0)) (by omega) (by decide) dX5_deliver_67 ?_
      obtain ⟨hN8, hM8⟩ := (hfi (tn v0) (by omega)).1
      refine vg_tp (nI (tn ((μ 24) (tn v0)))) hN8 ?_
      refine lv_iadd hx hb dX5_deliver_68 ?_
      refine vg_tp (nI (1200 * (tn v0) + (tn ((μ 24) (tn v0))))) (nI_add (1200 * (tn v0)) (tn ((μ 24) (tn v0)))) ?_
      refine vg_iald hx hb hE.1 hP 20 0 rfl rfl (f := μ 23) (j := (1200 * (tn v0) + (tn ((μ 24) (tn v0))))) (by omega) (by decide) dX5_deliver_69 ?_
      obtain ⟨hN9, hM9⟩ := hpa (1200 * (tn v0) + (tn ((μ 24) (tn v0)))) (by omega)
      refine vg_tp (nI (tn ((μ 23) (1200 * (tn v0) + (tn ((μ 24) (tn v0))))))) hN9 ?_
      refine lv_istore_n (lv' := [(2, .int (nI (tn ((μ 23) (1200 * (tn v0) + (tn ((μ 24) (tn v0)))))))), (0, .ref mo), (1, .int v0)]) hx hb dX5_deliver_70 rfl hl (by decide) rfl (fun ls hl => ?_)
      have hl : lv_has ls 3 [(0, .ref mo), (1, .int v0), (2, .int (nI (tn ((μ 23) (1200 * (tn v0) + (tn ((μ 24) (tn v0))))))))] := lv_sub hl [1, 2, 0] rfl
      refine lv_aload_n hx hb dX5_deliver_71 rfl (lv_at hl 0 rfl) ?_
      refine va_get (D := D) (ci := 6) (v := .ref (ad 24)) (C := RX5) (T := TX5) (N := 26) hx hb hts hin_RX5 hown hE.1 hP 0 rfl rfl 24 (by decide) (hts (.fieldLink RX5 71 "VillagepostModel" "first" "[I") (by decide +kernel)) (fun _ h9 => h9) rfl dX5_deliver_72 ?_
      refine lv_iload_n hx hb dX5_deliver_75 rfl (lv_at hl 1 rfl) ?_
      refine vg_tp (nI (tn v0)) hv0.1 ?_
      refine lv_dup2_11 hx hb dX5_deliver_76 rfl rfl ?_
      refine vg_iald hx hb hE.1 hP 21 0 rfl rfl (f := μ 24) (j := (tn v0)) (by omega) (by decide) dX5_deliver_77 ?_
      obtain ⟨hN10, hM10⟩ := (hfi (tn v0) (by omega)).1
      refine vg_tp (nI (tn ((μ 24) (tn v0)))) hN10 ?_
      refine lv_iconst (v := 1) hx hb dX5_deliver_78 (by decide) ?_
      refine lv_iadd hx hb dX5_deliver_79 ?_
      refine vg_tp (nI (tn ((μ 24) (tn v0)) + 1)) (nI_add (tn ((μ 24) (tn v0))) 1) ?_
      refine vg_iast hx hb hE.1 hP hD hS 21 0 rfl rfl (f := μ 24) (j := (tn v0)) (by omega) (by decide) dX5_deliver_80 (fun H locs hP hD hS => ?_)
      have hP : va_P D vwCl (Mw cy mo ad (va_up (va_up μ 0 (fun _ => 0)) 24 (upd (μ 24) (tn v0) (nI (tn ((μ 24) (tn v0)) + 1))))) H := hP
      have hD : va_D (va_A (Mw cy mo ad μ) s.heap.size) (Mw cy mo ad (va_up (va_up μ 0 (fun _ => 0)) 24 (upd (μ 24) (tn v0) (nI (tn ((μ 24) (tn v0)) + 1))))) := hD
      refine lv_aload_n hx hb dX5_deliver_81 rfl (lv_at hl 0 rfl) ?_
      refine va_get (D := D) (ci := 6) (v := .ref (ad 22)) (C := RX5) (T := TX5) (N := 26) hx hb hts hin_RX5 hown hE.1 hP 0 rfl rfl 22 (by decide) (hts (.fieldLink RX5 65 "VillagepostModel" "isDone" "[Z") (by decide +kernel)) (fun _ h9 => h9) rfl dX5_deliver_82 ?_
      refine lv_sipush (v := 600) hx hb dX5_deliver_85 (by decide) ?_
      refine lv_iload_n hx hb dX5_deliver_88 rfl (lv_at hl 1 rfl) ?_
      refine vg_tp (nI (tn v0)) hv0.1 ?_
      refine lv_imul hx hb dX5_deliver_89 ?_
      refine vg_tp (nI (600 * (tn v0))) (pk_mul 600 (tn v0)) ?_
      refine lv_iload_n hx hb dX5_deliver_90 rfl (lv_at hl 2 rfl) ?_
      refine lv_iadd hx hb dX5_deliver_91 ?_
      refine vg_tp (nI (600 * (tn v0) + (tn ((μ 23) (1200 * (tn v0) + (tn ((μ 24) (tn v0)))))))) (nI_add (600 * (tn v0)) (tn ((μ 23) (1200 * (tn v0) + (tn ((μ 24) (tn v0))))))) ?_
      refine vg_zald hx hb hE.1 hP 19 2 rfl rfl (f := μ 22) (j := (600 * (tn v0) + (tn ((μ 23) (1200 * (tn v0) + (tn ((μ 24) (tn v0)))))))) (by omega) (by decide) dX5_deliver_92 ?_
      refine lv_if_ne (tgt := 102) hx hb dX5_deliver_93 (by decide) (fun r11 => ?_) (fun r11 => ?_)
      · have c11 := r11
        refine lv_aload_n hx hb dX5_deliver_102 rfl (lv_at hl 0 rfl) ?_
        refine va_get (D := D) (ci := 6) (v := .ref (ad 18)) (C := RX5) (T := TX5) (N := 26) hx hb hts hin_RX5 hown hE.1 hP 0 rfl rfl 18 (by decide) (hts (.fieldLink RX5 53 "VillagepostModel" "what" "[I") (by decide +kernel)) (fun _ h9 => h9) rfl dX5_deliver_103 ?_
        refine lv_iload_n hx hb dX5_deliver_106 rfl (lv_at hl 2 rfl) ?_
        refine vg_iald hx hb hE.1 hP 15 0 rfl rfl (f := μ 18) (j := (tn ((μ 23) (1200 * (tn v0) + (tn ((μ 24) (tn v0))))))) (by omega) (by decide) dX5_deliver_107 ?_
        have eW : va_up (va_up μ 0 (fun _ => 0)) 24 (upd (μ 24) (tn v0) (nI (tn ((μ 24) (tn v0)) + 1))) = mDlv μ v0 := by simp [mDlv, mDlvA, c1, c7, c11]
        have hP : va_P D vwCl (Mw cy mo ad (mDlv μ v0)) H := by rw [← eW]; exact hP
        have hD : va_D (va_A (Mw cy mo ad μ) s.heap.size) (Mw cy mo ad (mDlv μ v0)) := by rw [← eW]; exact hD
        refine vg_tp (mDlvR μ v0) (by simp [mDlvR, mDlvA, mDo_18, va_up_ne, c1, c7, c11]) ?_
        exact W.iret (v := (mDlvR μ v0)) hx hb hr (fun t ht hW => ⟨⟨(mDlvR μ v0), (), rfl, rfl, (by rw [ht]; exact hP), hD⟩, hS.F ht⟩) hS.2.2 dX5_deliver_108
      · have c11 := r11
        refine lv_aload_n hx hb dX5_deliver_96 rfl (lv_at hl 0 rfl) ?_
        refine lv_iload_n hx hb dX5_deliver_97 rfl (lv_at hl 1 rfl) ?_
        refine vg_tp (nI (tn v0)) hv0.1 ?_
        refine lv_iload_n hx hb dX5_deliver_98 rfl (lv_at hl 2 rfl) ?_
        refine vg_callvW (va_runV (As := [.int (nI (tn v0)), .int (nI (tn ((μ 23) (1200 * (tn v0) + (tn ((μ 24) (tn v0)))))))]) (rest := []) ⟨hx, hb, hml, hown, hts⟩ (kX5_does l D cy H.size mo ad (va_up (va_up μ 0 (fun _ => 0)) 24 (upd (μ 24) (tn v0) (nI (tn ((μ 24) (tn v0)) + 1)))) (tn v0) (tn ((μ 23) (1200 * (tn v0) + (tn ((μ 24) (tn v0)))))) (⟨hpe, hho, hau, hre, hac⟩) (mLast_mono μ hla (by omega)) (by omega) (by omega)) (cwV 2 hts gX5_deliver_X5_does rfl rfl rfl (by decide +kernel) ⟨Nat.le_of_ble_eq_true rfl, Nat.le_of_ble_eq_true rfl⟩) (vg_P.preV hE hP 0 rfl rfl hP hD) rfl rfl hl.1 rfl (lv_room (Nat.le_of_ble_eq_true rfl)) dX5_deliver_99 ⟨Nat.le_of_ble_eq_true rfl, Nat.le_of_ble_eq_true rfl⟩) hP hD hS hA (fun _ H locs hrv hP hD hS => ?_)
        have hP : va_P D vwCl (Mw cy mo ad (mDo (va_up (va_up μ 0 (fun _ => 0)) 24 (upd (μ 24) (tn v0) (nI (tn ((μ 24) (tn v0)) + 1)))) (tn v0) (tn ((μ 23) (1200 * (tn v0) + (tn ((μ 24) (tn v0)))))))) H := hP
        have hD : va_D (va_A (Mw cy mo ad μ) s.heap.size) (Mw cy mo ad (mDo (va_up (va_up μ 0 (fun _ => 0)) 24 (upd (μ 24) (tn v0) (nI (tn ((μ 24) (tn v0)) + 1)))) (tn v0) (tn ((μ 23) (1200 * (tn v0) + (tn ((μ 24) (tn v0)))))))) := hD
        refine lv_aload_n hx hb dX5_deliver_102 rfl (lv_at hl 0 rfl) ?_
        refine va_get (D := D) (ci := 6) (v := .ref (ad 18)) (C := RX5) (T := TX5) (N := 26) hx hb hts hin_RX5 hown hE.1 hP 0 rfl rfl 18 (by decide) (hts (.fieldLink RX5 53 "VillagepostModel" "what" "[I") (by decide +kernel)) (fun _ h9 => h9) rfl dX5_deliver_103 ?_
        refine lv_iload_n hx hb dX5_deliver_106 rfl (lv_at hl 2 rfl) ?_
        refine vg_iald hx hb hE.1 hP 15 0 rfl rfl (f := (mDo (va_up (va_up μ 0 (fun _ => 0)) 24 (upd (μ 24) (tn v0) (nI (tn ((μ 24) (tn v0)) + 1)))) (tn v0) (tn ((μ 23) (1200 * (tn v0) + (tn ((μ 24) (tn v0))))))) 18) (j := (tn ((μ 23) (1200 * (tn v0) + (tn ((μ 24) (tn v0))))))) (by omega) (by decide) dX5_deliver_107 ?_
        have eW : mDo (va_up (va_up μ 0 (fun _ => 0)) 24 (upd (μ 24) (tn v0) (nI (tn ((μ 24) (tn v0)) + 1)))) (tn v0) (tn ((μ 23) (1200 * (tn v0) + (tn ((μ 24) (tn v0)))))) = mDlv μ v0 := by simp [mDlv, mDlvA, c1, c7, c11]
        have hP : va_P D vwCl (Mw cy mo ad (mDlv μ v0)) H := by rw [← eW]; exact hP
        have hD : va_D (va_A (Mw cy mo ad μ) s.heap.size) (Mw cy mo ad (mDlv μ v0)) := by rw [← eW]; exact hD
        refine vg_tp (mDlvR μ v0) (by simp [mDlvR, mDlvA, mDo_18, va_up_ne, c1, c7, c11]) ?_
        exact W.iret (v := (mDlvR μ v0)) hx hb hr (fun t ht hW => ⟨⟨(mDlvR μ v0), (), rfl, rfl, (by rw [ht]; exact hP), hD⟩, hS.F ht⟩) hS.2.2 dX5_deliver_108
    · have c7 : tn ((μ 24) (tn v0)) = tn ((μ 25) (tn v0)) := (nI_eq (a := tn ((μ 24) (tn v0))) (b := tn ((μ 25) (tn v0))) (by omega) (by omega)).mp r7
      refine lv_aload_n hx hb dX5_deliver_40 rfl (lv_at hl 0 rfl) ?_
      refine va_get (D := D) (ci := 6) (v := .int 0) (C := RX5) (T := TX5) (N := 26) hx hb hts hin_RX5 hown hE.1 hP 0 rfl rfl 0 (by decide) (hts (.fieldLink RX5 77 "VillagepostModel" "thrown" "I") (by decide +kernel)) (fun _ h9 => h9) rfl dX5_deliver_41 ?_
      refine lv_if_eq (tgt := 51) hx hb dX5_deliver_44 (by decide) (fun _ => ?_) (fun c9 => False.elim (by revert c9; decide))
      refine lv_iconst (v := (-1)) hx hb dX5_deliver_51 (by decide) ?_
      have eW : va_up μ 0 (fun _ => 0) = mDlv μ v0 := by simp [mDlv, mDlvA, c1, eq_true c7]
      have hP : va_P D vwCl (Mw cy mo ad (mDlv μ v0)) H := by rw [← eW]; exact hP
      have hD : va_D (va_A (Mw cy mo ad μ) s.heap.size) (Mw cy mo ad (mDlv μ v0)) := by rw [← eW]; exact hD
      refine vg_tp (mDlvR μ v0) (by simp [mDlvR, mDlvA, mDo_18, va_up_ne, c1, eq_true c7]) ?_
      exact W.iret (v := (mDlvR μ v0)) hx hb hr (fun t ht hW => ⟨⟨(mDlvR μ v0), (), rfl, rfl, (by rw [ht]; exact hP), hD⟩, hS.F ht⟩) hS.2.2 dX5_deliver_52

set_option maxHeartbeats 4000000 in
set_option maxRecDepth 100000 in
theorem kX5_repeat (l : Launch) (D : va_G) (cy : Nat → ClassId) (sz : Nat) (mo : Nat) (ad : Nat → Nat) (μ : Nat → Nat → Int32) (v0 : Int32) (hw : mWF μ) (hla : mLast μ 1199) (hfi : ∀ j, j < 4 → isN (μ 24 j) 1201 ∧ tn (μ 24 j) ≤ tn (μ 25 j)) (hpa : ∀ j, j < 4800 → isN (μ 23 j) 600) : Met l yX5_repeat wsX5_repeat ({ frames := 1, cells := 0, slots := 0, locals := 22 }) (vg_P D cy [.ref mo, .int v0] sz (Mw cy mo ad μ)) (vg_Qi (S := Unit) D sz (Mw cy mo ad μ) (fun r _ => r = (mRepR μ v0)) (fun _ => Mw cy mo ad (mRep μ v0))) 0 0 (va_A (Mw cy mo ad μ) sz) := by
  refine Met.ofW (cc := cX5_repeat) (maxL := 2) (ret := (some .int)) (by decide) rfl ?_
  intro p e s m args below meth c s₁ BB hml hv
  obtain ⟨rfl, hsz, hP, hE, hD0⟩ := hv
  have hx := BB.exec
  have hb := BB.bytes
  have hr := BB.returns
  have hts := atoms_spec (ws := wsX5_repeat) BB.pre
  have hown : s.vm.findClass RX5 = some m.cls := findClass_of_methodNamed BB.named
  have hlocks := BB.notSynchronized
  subst hsz
  have hD := hD0.self (sz := s.heap.size)
  have hA : ∀ q : Nat, s.heap.size ≤ q → (va_A (Mw cy mo ad μ) s.heap.size) q := fun q h => Or.inr h
  have hS : va_S (va_A (Mw cy mo ad μ) s.heap.size) s.heap s.heap [] := va_S.rf
  have hin_RX5 : ∀ w ∈ u_ws RX5 TX5 26, w ∈ wsX5_repeat := by decide +kernel
  have hl := lv_entry ([.ref mo, .int v0]) (n := 2) (Nat.le_of_ble_eq_true rfl)
  rw [lg_entry_eq]
  generalize (lg_sl ([.ref mo, .int v0]) ++ List.replicate (2 - (lg_sl ([.ref mo, .int v0])).length) Slot.unset).toArray = ls at hl ⊢
  have hl : lv_has ls 2 [(0, .ref mo), (1, .int v0)] := hl
  obtain ⟨hpe, hho, hau, hre, hac⟩ := hw
  have hpe2 := hpe.2
  refine lv_aload_n hx hb dX5_repeat_0 rfl (lv_at hl 0 rfl) ?_
  refine lv_iload_n hx hb dX5_repeat_1 rfl (lv_at hl 1 rfl) ?_
  refine lv_iconst (v := 0) hx hb dX5_repeat_2 (by decide) ?_
  refine lv_iconst (v := 3) hx hb dX5_repeat_3 (by decide) ?_
  refine vg_calliP (va_runS (As := [.int v0, .int 0, .int 3]) (rest := [.ref mo]) ⟨hx, hb, hml, hown, hts⟩ (kX5_in l D cy s.heap.size v0 0 3) (va_cwS 3 hts gX5_repeat_X5_in rfl rfl rfl (by decide +kernel) ⟨Nat.le_of_ble_eq_true rfl, Nat.le_of_ble_eq_true rfl⟩) (vg_P.preS hE vg_P0 (A := fun _ => True) vg_D0) rfl rfl hl.1 rfl (lv_room (Nat.le_of_ble_eq_true rfl)) dX5_repeat_4 ⟨Nat.le_of_ble_eq_true rfl, Nat.le_of_ble_eq_true rfl⟩) hP hD hS hA (fun r _ H locs hr hP hD hS => ?_)
  subst hr
  refine lv_if_eq (tgt := 14) hx hb dX5_repeat_7 (by decide) (fun r1 => ?_) (fun r1 => ?_)
  · have c1 : (mIn v0 0 3) = false := bI_0.mp r1
    refine lv_iconst (v := 1) hx hb dX5_repeat_14 (by decide) ?_
    refine va_put (D := (D)) (ci := 6) (v := .int 1) (ty := .int) (C := RX5) (T := TX5) (N := 26) hx hb hts hin_RX5 tyX5 tyX5_ok nmX5 hown hE.1 hP hD hS 0 rfl rfl 0 (by decide) (hts (.fieldLink RX5 77 "VillagepostModel" "thrown" "I") (by decide +kernel)) (fun _ h9 => h9) rfl (by decide +kernel) rfl rfl (Nat.le_of_ble_eq_true rfl) dX5_repeat_15 (fun H locs hP hD hS => ?_)
    have hP : va_P D vwCl (Mw cy mo ad (va_up μ 0 (fun _ => 1))) H := hP
    have hD : va_D (va_A (Mw cy mo ad μ) s.heap.size) (Mw cy mo ad (va_up μ 0 (fun _ => 1))) := hD
    refine lv_aload_n hx hb dX5_repeat_18 rfl (lv_at hl 0 rfl) ?_
    refine va_get (D := D) (ci := 6) (v := .int 1) (C := RX5) (T := TX5) (N := 26) hx hb hts hin_RX5 hown hE.1 hP 0 rfl rfl 0 (by decide) (hts (.fieldLink RX5 77 "VillagepostModel" "thrown" "I") (by decide +kernel)) (fun _ h9 => h9) rfl dX5_repeat_19 ?_
    refine lv_if_ne (tgt := 34) hx hb dX5_repeat_22 (by decide) (fun _ => ?_) (fun c9 => False.elim (by revert c9; decide))
    refine lv_aload_n hx hb dX5_repeat_34 rfl (lv_at hl 0 rfl) ?_
    refine va_get (D := D) (ci := 6) (v := .int 1) (C := RX5) (T := TX5) (N := 26) hx hb hts hin_RX5 hown hE.1 hP 0 rfl rfl 0 (by decide) (hts (.fieldLink RX5 77 "VillagepostModel" "thrown" "I") (by decide +kernel)) (fun _ h9 => h9) rfl dX5_repeat_35 ?_
    refine lv_if_eq (tgt := 45) hx hb dX5_repeat_38 (by decide) (fun c9 => False.elim (by revert c9; decide)) (fun _ => ?_)
    refine lv_iconst (v := 0) hx hb dX5_repeat_41 (by decide) ?_
    refine lv_goto (tgt := 46) hx hb dX5_repeat_42 (by decide) ?_
    have eW : va_up μ 0 (fun _ => 1) = mRep μ v0 := by simp [mRep, c1]
    have hP : va_P D vwCl (Mw cy mo ad (mRep μ v0)) H := by rw [← eW]; exact hP
    have hD : va_D (va_A (Mw cy mo ad μ) s.heap.size) (Mw cy mo ad (mRep μ v0)) := by rw [← eW]; exact hD
    refine vg_tp (mRepR μ v0) (by simp [mRepR, c1]) ?_
    exact W.iret (v := (mRepR μ v0)) hx hb hr (fun t ht hW => ⟨⟨(mRepR μ v0), (), rfl, rfl, (by rw [ht]; exact hP), hD⟩, hS.F ht⟩) hS.2.2 dX5_repeat_46
  · have c1 : (mIn v0 0 3) = true := bI_n0.mp r1
    refine lv_iconst (v := 0) hx hb dX5_repeat_10 (by decide) ?_
    refine lv_goto (tgt := 15) hx hb dX5_repeat_11 (by decide) ?_
    refine va_put (D := (D)) (ci := 6) (v := .int 0) (ty := .int) (C := RX5) (T := TX5) (N := 26) hx hb hts hin_RX5 tyX5 tyX5_ok nmX5 hown hE.1 hP hD hS 0 rfl rfl 0 (by decide) (hts (.fieldLink RX5 77 "VillagepostModel" "thrown" "I") (by decide +kernel)) (fun _ h9 => h9) rfl (by decide +kernel) rfl rfl (Nat.le_of_ble_eq_true rfl) dX5_repeat_15 (fun H locs hP hD hS => ?_)
    have hP : va_P D vwCl (Mw cy mo ad (va_up μ 0 (fun _ => 0))) H := hP
    have hD : va_D (va_A (Mw cy mo ad μ) s.heap.size) (Mw cy mo ad (va_up μ 0 (fun _ => 0))) := hD
    refine lv_aload_n hx hb dX5_repeat_18 rfl (lv_at hl 0 rfl) ?_
    refine va_get (D := D) (ci := 6) (v := .int 0) (C := RX5) (T := TX5) (N := 26) hx hb hts hin_RX5 hown hE.1 hP 0 rfl rfl 0 (by decide) (hts (.fieldLink RX5 77 "VillagepostModel" "thrown" "I") (by decide +kernel)) (fun _ h9 => h9) rfl dX5_repeat_19 ?_
    refine lv_if_ne (tgt := 34) hx hb dX5_repeat_22 (by decide) (fun c9 => False.elim (by revert c9; decide)) (fun _ => ?_)
    have hv0 : isN v0 4 := mIn_3 c1
    have hv02 := hv0.2
    refine lv_aload_n hx hb dX5_repeat_25 rfl (lv_at hl 0 rfl) ?_
    refine va_get (D := D) (ci := 6) (v := .ref (ad 24)) (C := RX5) (T := TX5) (N := 26) hx hb hts hin_RX5 hown hE.1 hP 0 rfl rfl 24 (by decide) (hts (.fieldLink RX5 71 "VillagepostModel" "first" "[I") (by decide +kernel)) (fun _ h9 => h9) rfl dX5_repeat_26 ?_
    refine lv_iload_n hx hb dX5_repeat_29 rfl (lv_at hl 1 rfl) ?_
    refine vg_tp (nI (tn v0)) hv0.1 ?_
    refine vg_iald hx hb hE.1 hP 21 0 rfl rfl (f := μ 24) (j := (tn v0)) (by omega) (by decide) dX5_repeat_30 ?_
    obtain ⟨hN5, hM5⟩ := (hfi (tn v0) (by omega)).1
    refine vg_tp (nI (tn ((μ 24) (tn v0)))) hN5 ?_
    refine lv_if_ne (tgt := 47) hx hb dX5_repeat_31 (by decide) (fun r6 => ?_) (fun r6 => ?_)
    · have c6 : ¬ tn ((μ 24) (tn v0)) = 0 := fun q => r6 ((nI_eq (a := tn ((μ 24) (tn v0))) (b := 0) (by omega) (by omega)).mpr q)
      refine lv_aload_n hx hb dX5_repeat_47 rfl (lv_at hl 0 rfl) ?_
      refine va_get (D := D) (ci := 6) (v := .ref (ad 18)) (C := RX5) (T := TX5) (N := 26) hx hb hts hin_RX5 hown hE.1 hP 0 rfl rfl 18 (by decide) (hts (.fieldLink RX5 53 "VillagepostModel" "what" "[I") (by decide +kernel)) (fun _ h9 => h9) rfl dX5_repeat_48 ?_
      refine lv_aload_n hx hb dX5_repeat_51 rfl (lv_at hl 0 rfl) ?_
      refine va_get (D := D) (ci := 6) (v := .ref (ad 23)) (C := RX5) (T := TX5) (N := 26) hx hb hts hin_RX5 hown hE.1 hP 0 rfl rfl 23 (by decide) (hts (.fieldLink RX5 68 "VillagepostModel" "packet" "[I") (by decide +kernel)) (fun _ h9 => h9) rfl dX5_repeat_52 ?_
      refine lv_sipush (v := 1200) hx hb dX5_repeat_55 (by decide) ?_
      refine lv_iload_n hx hb dX5_repeat_58 rfl (lv_at hl 1 rfl) ?_
      refine vg_tp (nI (tn v0)) hv0.1 ?_
      refine lv_imul hx hb dX5_repeat_59 ?_
      refine vg_tp (nI (1200 * (tn v0))) (pk_mul 1200 (tn v0)) ?_
      refine lv_aload_n hx hb dX5_repeat_60 rfl (lv_at hl 0 rfl) ?_
      refine va_get (D := D) (ci := 6) (v := .ref (ad 24)) (C := RX5) (T := TX5) (N := 26) hx hb hts hin_RX5 hown hE.1 hP 0 rfl rfl 24 (by decide) (hts (.fieldLink RX5 71 "VillagepostModel" "first" "[I") (by decide +kernel)) (fun _ h9 => h9) rfl dX5_repeat_61 ?_
      refine lv_iload_n hx hb dX5_repeat_64 rfl (lv_at hl 1 rfl) ?_
      refine vg_tp (nI (tn v0)) hv0.1 ?_
      refine vg_iald hx hb hE.1 hP 21 0 rfl rfl (f := μ 24) (j := (tn v0)) (by omega) (by decide) dX5_repeat_65 ?_
      obtain ⟨hN7, hM7⟩ := (hfi (tn v0) (by omega)).1
      refine vg_tp (nI (tn ((μ 24) (tn v0)))) hN7 ?_
      refine lv_iadd hx hb dX5_repeat_66 ?_
      refine vg_tp (nI (1200 * (tn v0) + (tn ((μ 24) (tn v0))))) (nI_add (1200 * (tn v0)) (tn ((μ 24) (tn v0)))) ?_
      refine lv_iconst (v := 1) hx hb dX5_repeat_67 (by decide) ?_
      refine lv_isub hx hb dX5_repeat_68 ?_
      refine vg_tp (nI (1200 * (tn v0) + (tn ((μ 24) (tn v0))) - 1)) (pk_sub (a := 1200 * (tn v0) + (tn ((μ 24) (tn v0)))) (b := 1) (by omega)) ?_
      refine vg_iald hx hb hE.1 hP 20 0 rfl rfl (f := μ 23) (j := (1200 * (tn v0) + (tn ((μ 24) (tn v0))) - 1)) (by omega) (by decide) dX5_repeat_69 ?_
      obtain ⟨hN8, hM8⟩ := hpa (1200 * (tn v0) + (tn ((μ 24) (tn v0))) - 1) (by omega)
      refine vg_tp (nI (tn ((μ 23) (1200 * (tn v0) + (tn ((μ 24) (tn v0))) - 1)))) hN8 ?_
      refine vg_iald hx hb hE.1 hP 15 0 rfl rfl (f := μ 18) (j := (tn ((μ 23) (1200 * (tn v0) + (tn ((μ 24) (tn v0))) - 1)))) (by omega) (by decide) dX5_repeat_70 ?_
      have eW : va_up μ 0 (fun _ => 0) = mRep μ v0 := by simp [mRep, c1, c6]
      have hP : va_P D vwCl (Mw cy mo ad (mRep μ v0)) H := by rw [← eW]; exact hP
      have hD : va_D (va_A (Mw cy mo ad μ) s.heap.size) (Mw cy mo ad (mRep μ v0)) := by rw [← eW]; exact hD
      refine vg_tp (mRepR μ v0) (by simp [mRepR, c1, c6]) ?_
      exact W.iret (v := (mRepR μ v0)) hx hb hr (fun t ht hW => ⟨⟨(mRepR μ v0), (), rfl, rfl, (by rw [ht]; exact hP), hD⟩, hS.F ht⟩) hS.2.2 dX5_repeat_71
    · have c6 : tn ((μ 24) (tn v0)) = 0 := (nI_eq (a := tn ((μ 24) (tn v0))) (b := 0) (by omega) (by omega)).mp r6
      refine lv_aload_n hx hb dX5_repeat_34 rfl (lv_at hl 0 rfl) ?_
      refine va_get (D := D) (ci := 6) (v := .int 0) (C := RX5) (T := TX5) (N := 26) hx hb hts hin_RX5 hown hE.1 hP 0 rfl rfl 0 (by decide) (hts (.fieldLink RX5 77 "VillagepostModel" "thrown" "I") (by decide +kernel)) (fun _ h9 => h9) rfl dX5_repeat_35 ?_
      refine lv_if_eq (tgt := 45) hx hb dX5_repeat_38 (by decide) (fun _ => ?_) (fun c9 => False.elim (by revert c9; decide))
      refine lv_iconst (v := (-1)) hx hb dX5_repeat_45 (by decide) ?_
      have eW : va_up μ 0 (fun _ => 0) = mRep μ v0 := by simp [mRep, c1, c6]
      have hP : va_P D vwCl (Mw cy mo ad (mRep μ v0)) H := by rw [← eW]; exact hP
      have hD : va_D (va_A (Mw cy mo ad μ) s.heap.size) (Mw cy mo ad (mRep μ v0)) := by rw [← eW]; exact hD
      refine vg_tp (mRepR μ v0) (by simp [mRepR, c1, c6]) ?_
      exact W.iret (v := (mRepR μ v0)) hx hb hr (fun t ht hW => ⟨⟨(mRepR μ v0), (), rfl, rfl, (by rw [ht]; exact hP), hD⟩, hS.F ht⟩) hS.2.2 dX5_repeat_46

set_option maxHeartbeats 4000000 in
set_option maxRecDepth 100000 in
theorem kX5_known (l : Launch) (D : va_G) (cy : Nat → ClassId) (sz : Nat) (mo : Nat) (ad : Nat → Nat) (μ : Nat → Nat → Int32) (si : Nat) (wi : Nat) (hs : si < 4) (hw6 : wi < 6) : Met l yX5_known wsX5_known ({ frames := 0, cells := 0, slots := 0, locals := 0 }) (vg_P D cy [.ref mo, .int (nI si), .int (nI wi)] sz (Mw cy mo ad μ)) (vg_Qi (S := Unit) D sz (Mw cy mo ad μ) (fun r _ => r = (mKn μ si wi)) (fun _ => Mw cy mo ad μ)) 0 0 (va_A (Mw cy mo ad μ) sz) := by
  refine Met.ofW (cc := cX5_known) (maxL := 5) (ret := (some .int)) (by decide) rfl ?_
  intro p e s m args below meth c s₁ BB hml hv
  obtain ⟨rfl, hsz, hP, hE, hD0⟩ := hv
  have hx := BB.exec
  have hb := BB.bytes
  have hr := BB.returns
  have hts := atoms_spec (ws := wsX5_known) BB.pre
  have hown : s.vm.findClass RX5 = some m.cls := findClass_of_methodNamed BB.named
  have hlocks := BB.notSynchronized
  subst hsz
  have hD := hD0.self (sz := s.heap.size)
  have hA : ∀ q : Nat, s.heap.size ≤ q → (va_A (Mw cy mo ad μ) s.heap.size) q := fun q h => Or.inr h
  have hS : va_S (va_A (Mw cy mo ad μ) s.heap.size) s.heap s.heap [] := va_S.rf
  have hin_RX5 : ∀ w ∈ u_ws RX5 TX5 26, w ∈ wsX5_known := by decide +kernel
  have hl := lv_entry ([.ref mo, .int (nI si), .int (nI wi)]) (n := 5) (Nat.le_of_ble_eq_true rfl)
  rw [lg_entry_eq]
  generalize (lg_sl ([.ref mo, .int (nI si), .int (nI wi)]) ++ List.replicate (5 - (lg_sl ([.ref mo, .int (nI si), .int (nI wi)])).length) Slot.unset).toArray = ls at hl ⊢
  have hl : lv_has ls 5 [(0, .ref mo), (1, .int (nI si)), (2, .int (nI wi))] := hl
  have L72 : ∀ (fuel : Nat) (k1 : Nat) (x0 : Int32), 100 - k1 < fuel → (k1 ≤ 100) → (wi < 4 → k1 = 0) → (x0 = if wi < 4 then mKnR μ (if wi = 2 then 7 else 8) si 50 50 else 0) → ∀ (H : Heap) (locs : List Loc), va_P D vwCl (Mw cy mo ad μ) H → va_D (va_A (Mw cy mo ad μ) s.heap.size) (Mw cy mo ad μ) → va_S (va_A (Mw cy mo ad μ) s.heap.size) s.heap H locs → ∀ ls : Array Slot, lv_has ls 5 [(0, .ref mo), (1, .int (nI si)), (2, .int (nI wi)), (3, .int (x0 + mKnR μ (if wi = 4 then 4 else 3) si 100 k1)), (4, .int (nI k1))] → W p l e (headSpec wsX5_known ({ frames := 0, cells := 0, slots := 0, locals := 0 })).room s m ([.ref mo, .int (nI si), .int (nI wi)] : List Value).toArray below meth c H locs 0 0 (MQ below (vg_Qi (S := Unit) D s.heap.size (Mw cy mo ad μ) (fun r _ => r = (mKn μ si wi)) (fun _ => Mw cy mo ad μ)) ([.ref mo, .int (nI si), .int (nI wi)] : List Value).toArray s 0 0 (va_A (Mw cy mo ad μ) s.heap.size)) (F0 m 72 ls []) := by
    intro fuel
    induction fuel with
    | zero => intros; omega
    | succ fuel ih =>
      intro k1 x0 hfuel hi hi1 hx0 H locs hP hD hS ls hl
      refine lv_iload hx hb dX5_known_72 (lv_at hl 4 rfl) ?_
      refine lv_bipush (v := 100) hx hb dX5_known_74 (by decide) ?_
      refine lv_icmp_ge (tgt := 136) hx hb dX5_known_76 (by decide) (fun r1 => ?_) (fun r1 => ?_)
      · have c1 : 100 ≤ k1 := (nI_leI (a := 100) (b := k1) (by omega) (by omega)).mp r1
        refine lv_iload_n hx hb dX5_known_136 rfl (lv_at hl 3 rfl) ?_
        refine vg_tp (mKn μ si wi) (by (rw [hx0, mKn]; exact (if h4 : wi < 4 then (by rw [if_pos h4, if_pos h4, hi1 h4]; simp [mKnR]) else (by rw [if_neg h4, if_neg h4, show k1 = 100 by omega]; simp)))) ?_
        exact W.iret (v := (mKn μ si wi)) hx hb hr (fun t ht hW => ⟨⟨(mKn μ si wi), (), rfl, rfl, (by rw [ht]; exact hP), hD⟩, hS.F ht⟩) hS.2.2 dX5_known_137
      · have c1 : k1 < 100 := Nat.lt_of_not_le (fun q => r1 ((nI_leI (a := 100) (b := k1) (by omega) (by omega)).mpr q))
        refine lv_iload_n hx hb dX5_known_79 rfl (lv_at hl 2 rfl) ?_
        refine lv_iconst (v := 3) hx hb dX5_known_80 (by decide) ?_
        refine lv_icmp_le (tgt := 136) hx hb dX5_known_81 (by decide) (fun r2 => ?_) (fun r2 => ?_)
        · have c2 : wi ≤ 3 := (nI_leI (a := wi) (b := 3) (by omega) (by omega)).mp r2
          refine lv_iload_n hx hb dX5_known_136 rfl (lv_at hl 3 rfl) ?_
          refine vg_tp (mKn μ si wi) (by (rw [hx0, mKn]; exact (if h4 : wi < 4 then (by rw [if_pos h4, if_pos h4, hi1 h4]; simp [mKnR]) else (by rw [if_neg h4, if_neg h4, show k1 = 100 by omega]; simp)))) ?_
          exact W.iret (v := (mKn μ si wi)) hx hb hr (fun t ht hW => ⟨⟨(mKn μ si wi), (), rfl, rfl, (by rw [ht]; exact hP), hD⟩, hS.F ht⟩) hS.2.2 dX5_known_137
        · have c2 : 3 < wi := Nat.lt_of_not_le (fun q => r2 ((nI_leI (a := wi) (b := 3) (by omega) (by omega)).mpr q))
          refine lv_iload_n hx hb dX5_known_84 rfl (lv_at hl 3 rfl) ?_
          refine lv_iload_n hx hb dX5_known_85 rfl (lv_at hl 2 rfl) ?_
          refine lv_iconst (v := 4) hx hb dX5_known_86 (by decide) ?_
          refine lv_icmp_ne (tgt := 108) hx hb dX5_known_87 (by decide) (fun r3 => ?_) (fun r3 => ?_)
          · have c3 : ¬ wi = 4 := fun q => r3 ((nI_eq (a := wi) (b := 4) (by omega) (by omega)).mpr q)
            refine lv_aload_n hx hb dX5_known_108 rfl (lv_at hl 0 rfl) ?_
            refine va_get (D := D) (ci := 6) (v := .ref (ad 3)) (C := RX5) (T := TX5) (N := 26) hx hb hts hin_RX5 hown hE.1 hP 0 rfl rfl 3 (by decide) (hts (.fieldLink RX5 13 "VillagepostModel" "asks" "[Z") (by decide +kernel)) (fun _ h9 => h9) rfl dX5_known_109 ?_
            refine lv_bipush (v := 100) hx hb dX5_known_112 (by decide) ?_
            refine lv_iload_n hx hb dX5_known_114 rfl (lv_at hl 1 rfl) ?_
            refine lv_imul hx hb dX5_known_115 ?_
            refine vg_tp (nI (100 * si)) (pk_mul 100 si) ?_
            refine lv_iload hx hb dX5_known_116 (lv_at hl 4 rfl) ?_
            refine lv_iadd hx hb dX5_known_118 ?_
            refine vg_tp (nI (100 * si + k1)) (nI_add (100 * si) k1) ?_
            refine vg_zald hx hb hE.1 hP 2 2 rfl rfl (f := μ 3) (j := (100 * si + k1)) (by omega) (by decide) dX5_known_119 ?_
            refine lv_if_eq (tgt := 127) hx hb dX5_known_120 (by decide) (fun r4 => ?_) (fun r4 => ?_)
            · have c4 := r4
              refine lv_iconst (v := 0) hx hb dX5_known_127 (by decide) ?_
              refine lv_iadd hx hb dX5_known_128 ?_
              refine lv_istore_n (lv' := [(3, .int ((x0 + mKnR μ (if wi = 4 then 4 else 3) si 100 k1) + 0)), (0, .ref mo), (1, .int (nI si)), (2, .int (nI wi)), (4, .int (nI k1))]) hx hb dX5_known_129 rfl hl (by decide) rfl (fun ls hl => ?_)
              have hl : lv_has ls 5 [(0, .ref mo), (1, .int (nI si)), (2, .int (nI wi)), (3, .int ((x0 + mKnR μ (if wi = 4 then 4 else 3) si 100 k1) + 0)), (4, .int (nI k1))] := lv_sub hl [1, 2, 3, 0, 4] rfl
              refine lv_iinc (v := (nI (k1 + 1))) (lv' := [(4, .int (nI (k1 + 1))), (0, .ref mo), (1, .int (nI si)), (2, .int (nI wi)), (3, .int ((x0 + mKnR μ (if wi = 4 then 4 else 3) si 100 k1) + 0))]) hx hb dX5_known_130 hl (k := 4) rfl (by first | rfl | exact nI_add _ _ | decide) (by decide) rfl (fun ls hl => ?_)
              have hl : lv_has ls 5 [(0, .ref mo), (1, .int (nI si)), (2, .int (nI wi)), (3, .int ((x0 + mKnR μ (if wi = 4 then 4 else 3) si 100 k1) + 0)), (4, .int (nI (k1 + 1)))] := lv_sub hl [1, 2, 3, 4, 0] rfl
              refine lv_goto (tgt := 72) hx hb dX5_known_133 (by decide) ?_
              have q5 : ((x0 + mKnR μ (if wi = 4 then 4 else 3) si 100 (k1 + 1)) : Int32) = ((x0 + mKnR μ (if wi = 4 then 4 else 3) si 100 k1) + 0) := by simp [mKnR, Int32.add_assoc, c1, c2, c3, c4]
              exact ih (k1 + 1) x0 (by omega) (by omega) (fun h => by omega) (hx0) _ _ hP hD hS ls (by rw [q5]; exact lv_sub hl [0, 1, 2, 3, 4] rfl)
            · have c4 := r4
              refine lv_iconst (v := 1) hx hb dX5_known_123 (by decide) ?_
              refine lv_goto (tgt := 128) hx hb dX5_known_124 (by decide) ?_
              refine lv_iadd hx hb dX5_known_128 ?_
              refine lv_istore_n (lv' := [(3, .int ((x0 + mKnR μ (if wi = 4 then 4 else 3) si 100 k1) + 1)), (0, .ref mo), (1, .int (nI si)), (2, .int (nI wi)), (4, .int (nI k1))]) hx hb dX5_known_129 rfl hl (by decide) rfl (fun ls hl => ?_)
              have hl : lv_has ls 5 [(0, .ref mo), (1, .int (nI si)), (2, .int (nI wi)), (3, .int ((x0 + mKnR μ (if wi = 4 then 4 else 3) si 100 k1) + 1)), (4, .int (nI k1))] := lv_sub hl [1, 2, 3, 0, 4] rfl
              refine lv_iinc (v := (nI (k1 + 1))) (lv' := [(4, .int (nI (k1 + 1))), (0, .ref mo), (1, .int (nI si)), (2, .int (nI wi)), (3, .int ((x0 + mKnR μ (if wi = 4 then 4 else 3) si 100 k1) + 1))]) hx hb dX5_known_130 hl (k := 4) rfl (by first | rfl | exact nI_add _ _ | decide) (by decide) rfl (fun ls hl => ?_)
              have hl : lv_has ls 5 [(0, .ref mo), (1, .int (nI si)), (2, .int (nI wi)), (3, .int ((x0 + mKnR μ (if wi = 4 then 4 else 3) si 100 k1) + 1)), (4, .int (nI (k1 + 1)))] := lv_sub hl [1, 2, 3, 4, 0] rfl
              refine lv_goto (tgt := 72) hx hb dX5_known_133 (by decide) ?_
              have q6 : ((x0 + mKnR μ (if wi = 4 then 4 else 3) si 100 (k1 + 1)) : Int32) = ((x0 + mKnR μ (if wi = 4 then 4 else 3) si 100 k1) + 1) := by simp [mKnR, Int32.add_assoc, c1, c2, c3, c4]
              exact ih (k1 + 1) x0 (by omega) (by omega) (fun h => by omega) (hx0) _ _ hP hD hS ls (by rw [q6]; exact lv_sub hl [0, 1, 2, 3, 4] rfl)
          · have c3 : wi = 4 := (nI_eq (a := wi) (b := 4) (by omega) (by omega)).mp r3
            refine lv_aload_n hx hb dX5_known_90 rfl (lv_at hl 0 rfl) ?_
            refine va_get (D := D) (ci := 6) (v := .ref (ad 4)) (C := RX5) (T := TX5) (N := 26) hx hb hts hin_RX5 hown hE.1 hP 0 rfl rfl 4 (by decide) (hts (.fieldLink RX5 17 "VillagepostModel" "follows" "[Z") (by decide +kernel)) (fun _ h9 => h9) rfl dX5_known_91 ?_
            refine lv_bipush (v := 100) hx hb dX5_known_94 (by decide) ?_
            refine lv_iload_n hx hb dX5_known_96 rfl (lv_at hl 1 rfl) ?_
            refine lv_imul hx hb dX5_known_97 ?_
            refine vg_tp (nI (100 * si)) (pk_mul 100 si) ?_
            refine lv_iload hx hb dX5_known_98 (lv_at hl 4 rfl) ?_
            refine lv_iadd hx hb dX5_known_100 ?_
            refine vg_tp (nI (100 * si + k1)) (nI_add (100 * si) k1) ?_
            refine vg_zald hx hb hE.1 hP 3 2 rfl rfl (f := μ 4) (j := (100 * si + k1)) (by omega) (by decide) dX5_known_101 ?_
            refine lv_if_eq (tgt := 127) hx hb dX5_known_102 (by decide) (fun r7 => ?_) (fun r7 => ?_)
            · have c7 := r7
              refine lv_iconst (v := 0) hx hb dX5_known_127 (by decide) ?_
              refine lv_iadd hx hb dX5_known_128 ?_
              refine lv_istore_n (lv' := [(3, .int ((x0 + mKnR μ (if wi = 4 then 4 else 3) si 100 k1) + 0)), (0, .ref mo), (1, .int (nI si)), (2, .int (nI wi)), (4, .int (nI k1))]) hx hb dX5_known_129 rfl hl (by decide) rfl (fun ls hl => ?_)
              have hl : lv_has ls 5 [(0, .ref mo), (1, .int (nI si)), (2, .int (nI wi)), (3, .int ((x0 + mKnR μ (if wi = 4 then 4 else 3) si 100 k1) + 0)), (4, .int (nI k1))] := lv_sub hl [1, 2, 3, 0, 4] rfl
              refine lv_iinc (v := (nI (k1 + 1))) (lv' := [(4, .int (nI (k1 + 1))), (0, .ref mo), (1, .int (nI si)), (2, .int (nI wi)), (3, .int ((x0 + mKnR μ (if wi = 4 then 4 else 3) si 100 k1) + 0))]) hx hb dX5_known_130 hl (k := 4) rfl (by first | rfl | exact nI_add _ _ | decide) (by decide) rfl (fun ls hl => ?_)
              have hl : lv_has ls 5 [(0, .ref mo), (1, .int (nI si)), (2, .int (nI wi)), (3, .int ((x0 + mKnR μ (if wi = 4 then 4 else 3) si 100 k1) + 0)), (4, .int (nI (k1 + 1)))] := lv_sub hl [1, 2, 3, 4, 0] rfl
              refine lv_goto (tgt := 72) hx hb dX5_known_133 (by decide) ?_
              have q8 : ((x0 + mKnR μ (if wi = 4 then 4 else 3) si 100 (k1 + 1)) : Int32) = ((x0 + mKnR μ (if wi = 4 then 4 else 3) si 100 k1) + 0) := by simp [mKnR, Int32.add_assoc, c1, c2, c3, c7]
              exact ih (k1 + 1) x0 (by omega) (by omega) (fun h => by omega) (hx0) _ _ hP hD hS ls (by rw [q8]; exact lv_sub hl [0, 1, 2, 3, 4] rfl)
            · have c7 := r7
              refine lv_goto (tgt := 123) hx hb dX5_known_105 (by decide) ?_
              refine lv_iconst (v := 1) hx hb dX5_known_123 (by decide) ?_
              refine lv_goto (tgt := 128) hx hb dX5_known_124 (by decide) ?_
              refine lv_iadd hx hb dX5_known_128 ?_
              refine lv_istore_n (lv' := [(3, .int ((x0 + mKnR μ (if wi = 4 then 4 else 3) si 100 k1) + 1)), (0, .ref mo), (1, .int (nI si)), (2, .int (nI wi)), (4, .int (nI k1))]) hx hb dX5_known_129 rfl hl (by decide) rfl (fun ls hl => ?_)
              have hl : lv_has ls 5 [(0, .ref mo), (1, .int (nI si)), (2, .int (nI wi)), (3, .int ((x0 + mKnR μ (if wi = 4 then 4 else 3) si 100 k1) + 1)), (4, .int (nI k1))] := lv_sub hl [1, 2, 3, 0, 4] rfl
              refine lv_iinc (v := (nI (k1 + 1))) (lv' := [(4, .int (nI (k1 + 1))), (0, .ref mo), (1, .int (nI si)), (2, .int (nI wi)), (3, .int ((x0 + mKnR μ (if wi = 4 then 4 else 3) si 100 k1) + 1))]) hx hb dX5_known_130 hl (k := 4) rfl (by first | rfl | exact nI_add _ _ | decide) (by decide) rfl (fun ls hl => ?_)
              have hl : lv_has ls 5 [(0, .ref mo), (1, .int (nI si)), (2, .int (nI wi)), (3, .int ((x0 + mKnR μ (if wi = 4 then 4 else 3) si 100 k1) + 1)), (4, .int (nI (k1 + 1)))] := lv_sub hl [1, 2, 3, 4, 0] rfl
              refine lv_goto (tgt := 72) hx hb dX5_known_133 (by decide) ?_
              have q9 : ((x0 + mKnR μ (if wi = 4 then 4 else 3) si 100 (k1 + 1)) : Int32) = ((x0 + mKnR μ (if wi = 4 then 4 else 3) si 100 k1) + 1) := by simp [mKnR, Int32.add_assoc, c1, c2, c3, c7]
              exact ih (k1 + 1) x0 (by omega) (by omega) (fun h => by omega) (hx0) _ _ hP hD hS ls (by rw [q9]; exact lv_sub hl [0, 1, 2, 3, 4] rfl)
  have L5 : ∀ (fuel : Nat) (k0 : Nat), 50 - k0 < fuel → (k0 ≤ 50) → (4 ≤ wi → k0 = 0) → ∀ (H : Heap) (locs : List Loc), va_P D vwCl (Mw cy mo ad μ) H → va_D (va_A (Mw cy mo ad μ) s.heap.size) (Mw cy mo ad μ) → va_S (va_A (Mw cy mo ad μ) s.heap.size) s.heap H locs → ∀ ls : Array Slot, lv_has ls 5 [(0, .ref mo), (1, .int (nI si)), (2, .int (nI wi)), (3, .int (mKnR μ (if wi = 2 then 7 else 8) si 50 k0)), (4, .int (nI k0))] → W p l e (headSpec wsX5_known ({ frames := 0, cells := 0, slots := 0, locals := 0 })).room s m ([.ref mo, .int (nI si), .int (nI wi)] : List Value).toArray below meth c H locs 0 0 (MQ below (vg_Qi (S := Unit) D s.heap.size (Mw cy mo ad μ) (fun r _ => r = (mKn μ si wi)) (fun _ => Mw cy mo ad μ)) ([.ref mo, .int (nI si), .int (nI wi)] : List Value).toArray s 0 0 (va_A (Mw cy mo ad μ) s.heap.size)) (F0 m 5 ls []) := by
    intro fuel
    induction fuel with
    | zero => intros; omega
    | succ fuel ih =>
      intro k0 hfuel hi hi0 H locs hP hD hS ls hl
      refine lv_iload hx hb dX5_known_5 (lv_at hl 4 rfl) ?_
      refine lv_bipush (v := 50) hx hb dX5_known_7 (by decide) ?_
      refine lv_icmp_ge (tgt := 69) hx hb dX5_known_9 (by decide) (fun r10 => ?_) (fun r10 => ?_)
      · have c10 : 50 ≤ k0 := (nI_leI (a := 50) (b := k0) (by omega) (by omega)).mp r10
        refine lv_iconst (v := 0) hx hb dX5_known_69 (by decide) ?_
        refine lv_istore (lv' := [(4, .int 0), (0, .ref mo), (1, .int (nI si)), (2, .int (nI wi)), (3, .int (mKnR μ (if wi = 2 then 7 else 8) si 50 k0))]) hx hb dX5_known_70 hl (by decide) rfl (fun ls hl => ?_)
        have hl : lv_has ls 5 [(0, .ref mo), (1, .int (nI si)), (2, .int (nI wi)), (3, .int (mKnR μ (if wi = 2 then 7 else 8) si 50 k0)), (4, .int 0)] := lv_sub hl [1, 2, 3, 4, 0] rfl
        have q11 : (((mKnR μ (if wi = 2 then 7 else 8) si 50 k0) + mKnR μ (if wi = 4 then 4 else 3) si 100 0) : Int32) = (mKnR μ (if wi = 2 then 7 else 8) si 50 k0) := by simp [mKnR]
        have q12 : ((nI 0) : Int32) = 0 := by first | rfl | simp [c10]
        exact L72 ((100 - 0) + 1) 0 (mKnR μ (if wi = 2 then 7 else 8) si 50 k0) (by omega) (by omega) (fun _ => rfl) (if h4 : wi < 4 then (by rw [if_pos h4, show k0 = 50 by omega]) else (by rw [if_neg h4, hi0 (by omega)]; rfl)) _ _ hP hD hS ls (by rw [q11, q12]; exact lv_sub hl [0, 1, 2, 3, 4] rfl)
      · have c10 : k0 < 50 := Nat.lt_of_not_le (fun q => r10 ((nI_leI (a := 50) (b := k0) (by omega) (by omega)).mpr q))
        refine lv_iload_n hx hb dX5_known_12 rfl (lv_at hl 2 rfl) ?_
        refine lv_iconst (v := 4) hx hb dX5_known_13 (by decide) ?_
        refine lv_icmp_ge (tgt := 69) hx hb dX5_known_14 (by decide) (fun r13 => ?_) (fun r13 => ?_)
        · have c13 : 4 ≤ wi := (nI_leI (a := 4) (b := wi) (by omega) (by omega)).mp r13
          refine lv_iconst (v := 0) hx hb dX5_known_69 (by decide) ?_
          refine lv_istore (lv' := [(4, .int 0), (0, .ref mo), (1, .int (nI si)), (2, .int (nI wi)), (3, .int (mKnR μ (if wi = 2 then 7 else 8) si 50 k0))]) hx hb dX5_known_70 hl (by decide) rfl (fun ls hl => ?_)
          have hl : lv_has ls 5 [(0, .ref mo), (1, .int (nI si)), (2, .int (nI wi)), (3, .int (mKnR μ (if wi = 2 then 7 else 8) si 50 k0)), (4, .int 0)] := lv_sub hl [1, 2, 3, 4, 0] rfl
          have q14 : (((mKnR μ (if wi = 2 then 7 else 8) si 50 k0) + mKnR μ (if wi = 4 then 4 else 3) si 100 0) : Int32) = (mKnR μ (if wi = 2 then 7 else 8) si 50 k0) := by simp [mKnR]
          have q15 : ((nI 0) : Int32) = 0 := by first | rfl | simp [c10, c13]
          exact L72 ((100 - 0) + 1) 0 (mKnR μ (if wi = 2 then 7 else 8) si 50 k0) (by omega) (by omega) (fun _ => rfl) (if h4 : wi < 4 then (by rw [if_pos h4, show k0 = 50 by omega]) else (by rw [if_neg h4, hi0 (by omega)]; rfl)) _ _ hP hD hS ls (by rw [q14, q15]; exact lv_sub hl [0, 1, 2, 3, 4] rfl)
        · have c13 : wi < 4 := Nat.lt_of_not_le (fun q => r13 ((nI_leI (a := 4) (b := wi) (by omega) (by omega)).mpr q))
          refine lv_iload_n hx hb dX5_known_17 rfl (lv_at hl 3 rfl) ?_
          refine lv_iload_n hx hb dX5_known_18 rfl (lv_at hl 2 rfl) ?_
          refine lv_iconst (v := 2) hx hb dX5_known_19 (by decide) ?_
          refine lv_icmp_ne (tgt := 41) hx hb dX5_known_20 (by decide) (fun r16 => ?_) (fun r16 => ?_)
          · have c16 : ¬ wi = 2 := fun q => r16 ((nI_eq (a := wi) (b := 2) (by omega) (by omega)).mpr q)
            refine lv_aload_n hx hb dX5_known_41 rfl (lv_at hl 0 rfl) ?_
            refine va_get (D := D) (ci := 6) (v := .ref (ad 8)) (C := RX5) (T := TX5) (N := 26) hx hb hts hin_RX5 hown hE.1 hP 0 rfl rfl 8 (by decide) (hts (.fieldLink RX5 29 "VillagepostModel" "isMarked" "[Z") (by decide +kernel)) (fun _ h9 => h9) rfl dX5_known_42 ?_
            refine lv_bipush (v := 50) hx hb dX5_known_45 (by decide) ?_
            refine lv_iload_n hx hb dX5_known_47 rfl (lv_at hl 1 rfl) ?_
            refine lv_imul hx hb dX5_known_48 ?_
            refine vg_tp (nI (50 * si)) (pk_mul 50 si) ?_
            refine lv_iload hx hb dX5_known_49 (lv_at hl 4 rfl) ?_
            refine lv_iadd hx hb dX5_known_51 ?_
            refine vg_tp (nI (50 * si + k0)) (nI_add (50 * si) k0) ?_
            refine vg_zald hx hb hE.1 hP 7 2 rfl rfl (f := μ 8) (j := (50 * si + k0)) (by omega) (by decide) dX5_known_52 ?_
            refine lv_if_eq (tgt := 60) hx hb dX5_known_53 (by decide) (fun r17 => ?_) (fun r17 => ?_)
            · have c17 := r17
              refine lv_iconst (v := 0) hx hb dX5_known_60 (by decide) ?_
              refine lv_iadd hx hb dX5_known_61 ?_
              refine lv_istore_n (lv' := [(3, .int ((mKnR μ (if wi = 2 then 7 else 8) si 50 k0) + 0)), (0, .ref mo), (1, .int (nI si)), (2, .int (nI wi)), (4, .int (nI k0))]) hx hb dX5_known_62 rfl hl (by decide) rfl (fun ls hl => ?_)
              have hl : lv_has ls 5 [(0, .ref mo), (1, .int (nI si)), (2, .int (nI wi)), (3, .int ((mKnR μ (if wi = 2 then 7 else 8) si 50 k0) + 0)), (4, .int (nI k0))] := lv_sub hl [1, 2, 3, 0, 4] rfl
              refine lv_iinc (v := (nI (k0 + 1))) (lv' := [(4, .int (nI (k0 + 1))), (0, .ref mo), (1, .int (nI si)), (2, .int (nI wi)), (3, .int ((mKnR μ (if wi = 2 then 7 else 8) si 50 k0) + 0))]) hx hb dX5_known_63 hl (k := 4) rfl (by first | rfl | exact nI_add _ _ | decide) (by decide) rfl (fun ls hl => ?_)
              have hl : lv_has ls 5 [(0, .ref mo), (1, .int (nI si)), (2, .int (nI wi)), (3, .int ((mKnR μ (if wi = 2 then 7 else 8) si 50 k0) + 0)), (4, .int (nI (k0 + 1)))] := lv_sub hl [1, 2, 3, 4, 0] rfl
              refine lv_goto (tgt := 5) hx hb dX5_known_66 (by decide) ?_
              have q18 : ((mKnR μ (if wi = 2 then 7 else 8) si 50 (k0 + 1)) : Int32) = ((mKnR μ (if wi = 2 then 7 else 8) si 50 k0) + 0) := by simp [mKnR, c10, c13, c16, c17]
              exact ih (k0 + 1) (by omega) (by omega) (fun h => by omega) _ _ hP hD hS ls (by rw [q18]; exact lv_sub hl [0, 1, 2, 3, 4] rfl)
            · have c17 := r17
              refine lv_iconst (v := 1) hx hb dX5_known_56 (by decide) ?_
              refine lv_goto (tgt := 61) hx hb dX5_known_57 (by decide) ?_
              refine lv_iadd hx hb dX5_known_61 ?_
              refine lv_istore_n (lv' := [(3, .int ((mKnR μ (if wi = 2 then 7 else 8) si 50 k0) + 1)), (0, .ref mo), (1, .int (nI si)), (2, .int (nI wi)), (4, .int (nI k0))]) hx hb dX5_known_62 rfl hl (by decide) rfl (fun ls hl => ?_)
              have hl : lv_has ls 5 [(0, .ref mo), (1, .int (nI si)), (2, .int (nI wi)), (3, .int ((mKnR μ (if wi = 2 then 7 else 8) si 50 k0) + 1)), (4, .int (nI k0))] := lv_sub hl [1, 2, 3, 0, 4] rfl
              refine lv_iinc (v := (nI (k0 + 1))) (lv' := [(4, .int (nI (k0 + 1))), (0, .ref mo), (1, .int (nI si)), (2, .int (nI wi)), (3, .int ((mKnR μ (if wi = 2 then 7 else 8) si 50 k0) + 1))]) hx hb dX5_known_63 hl (k := 4) rfl (by first | rfl | exact nI_add _ _ | decide) (by decide) rfl (fun ls hl => ?_)
              have hl : lv_has ls 5 [(0, .ref mo), (1, .int (nI si)), (2, .int (nI wi)), (3, .int ((mKnR μ (if wi = 2 then 7 else 8) si 50 k0) + 1)), (4, .int (nI (k0 + 1)))] := lv_sub hl [1, 2, 3, 4, 0] rfl
              refine lv_goto (tgt := 5) hx hb dX5_known_66 (by decide) ?_
              have q19 : ((mKnR μ (if wi = 2 then 7 else 8) si 50 (k0 + 1)) : Int32) = ((mKnR μ (if wi = 2 then 7 else 8) si 50 k0) + 1) := by simp [mKnR, c10, c13, c16, c17]
              exact ih (k0 + 1) (by omega) (by omega) (fun h => by omega) _ _ hP hD hS ls (by rw [q19]; exact lv_sub hl [0, 1, 2, 3, 4] rfl)
          · have c16 : wi = 2 := (nI_eq (a := wi) (b := 2) (by omega) (by omega)).mp r16
            refine lv_aload_n hx hb dX5_known_23 rfl (lv_at hl 0 rfl) ?_
            refine va_get (D := D) (ci := 6) (v := .ref (ad 7)) (C := RX5) (T := TX5) (N := 26) hx hb hts hin_RX5 hown hE.1 hP 0 rfl rfl 7 (by decide) (hts (.fieldLink RX5 26 "VillagepostModel" "isKnown" "[Z") (by decide +kernel)) (fun _ h9 => h9) rfl dX5_known_24 ?_
            refine lv_bipush (v := 50) hx hb dX5_known_27 (by decide) ?_
            refine lv_iload_n hx hb dX5_known_29 rfl (lv_at hl 1 rfl) ?_
            refine lv_imul hx hb dX5_known_30 ?_
            refine vg_tp (nI (50 * si)) (pk_mul 50 si) ?_
            refine lv_iload hx hb dX5_known_31 (lv_at hl 4 rfl) ?_
            refine lv_iadd hx hb dX5_known_33 ?_
            refine vg_tp (nI (50 * si + k0)) (nI_add (50 * si) k0) ?_
            refine vg_zald hx hb hE.1 hP 6 2 rfl rfl (f := μ 7) (j := (50 * si + k0)) (by omega) (by decide) dX5_known_34 ?_
            refine lv_if_eq (tgt := 60) hx hb dX5_known_35 (by decide) (fun r20 => ?_) (fun r20 => ?_)
            · have c20 := r20
              refine lv_iconst (v := 0) hx hb dX5_known_60 (by decide) ?_
              refine lv_iadd hx hb dX5_known_61 ?_
              refine lv_istore_n (lv' := [(3, .int ((mKnR μ (if wi = 2 then 7 else 8) si 50 k0) + 0)), (0, .ref mo), (1, .int (nI si)), (2, .int (nI wi)), (4, .int (nI k0))]) hx hb dX5_known_62 rfl hl (by decide) rfl (fun ls hl => ?_)
              have hl : lv_has ls 5 [(0, .ref mo), (1, .int (nI si)), (2, .int (nI wi)), (3, .int ((mKnR μ (if wi = 2 then 7 else 8) si 50 k0) + 0)), (4, .int (nI k0))] := lv_sub hl [1, 2, 3, 0, 4] rfl
              refine lv_iinc (v := (nI (k0 + 1))) (lv' := [(4, .int (nI (k0 + 1))), (0, .ref mo), (1, .int (nI si)), (2, .int (nI wi)), (3, .int ((mKnR μ (if wi = 2 then 7 else 8) si 50 k0) + 0))]) hx hb dX5_known_63 hl (k := 4) rfl (by first | rfl | exact nI_add _ _ | decide) (by decide) rfl (fun ls hl => ?_)
              have hl : lv_has ls 5 [(0, .ref mo), (1, .int (nI si)), (2, .int (nI wi)), (3, .int ((mKnR μ (if wi = 2 then 7 else 8) si 50 k0) + 0)), (4, .int (nI (k0 + 1)))] := lv_sub hl [1, 2, 3, 4, 0] rfl
              refine lv_goto (tgt := 5) hx hb dX5_known_66 (by decide) ?_
              have q21 : ((mKnR μ (if wi = 2 then 7 else 8) si 50 (k0 + 1)) : Int32) = ((mKnR μ (if wi = 2 then 7 else 8) si 50 k0) + 0) := by simp [mKnR, c10, c13, c16, c20]
              exact ih (k0 + 1) (by omega) (by omega) (fun h => by omega) _ _ hP hD hS ls (by rw [q21]; exact lv_sub hl [0, 1, 2, 3, 4] rfl)
            · have c20 := r20
              refine lv_goto (tgt := 56) hx hb dX5_known_38 (by decide) ?_
              refine lv_iconst (v := 1) hx hb dX5_known_56 (by decide) ?_
              refine lv_goto (tgt := 61) hx hb dX5_known_57 (by decide) ?_
              refine lv_iadd hx hb dX5_known_61 ?_
              refine lv_istore_n (lv' := [(3, .int ((mKnR μ (if wi = 2 then 7 else 8) si 50 k0) + 1)), (0, .ref mo), (1, .int (nI si)), (2, .int (nI wi)), (4, .int (nI k0))]) hx hb dX5_known_62 rfl hl (by decide) rfl (fun ls hl => ?_)
              have hl : lv_has ls 5 [(0, .ref mo), (1, .int (nI si)), (2, .int (nI wi)), (3, .int ((mKnR μ (if wi = 2 then 7 else 8) si 50 k0) + 1)), (4, .int (nI k0))] := lv_sub hl [1, 2, 3, 0, 4] rfl
              refine lv_iinc (v := (nI (k0 + 1))) (lv' := [(4, .int (nI (k0 + 1))), (0, .ref mo), (1, .int (nI si)), (2, .int (nI wi)), (3, .int ((mKnR μ (if wi = 2 then 7 else 8) si 50 k0) + 1))]) hx hb dX5_known_63 hl (k := 4) rfl (by first | rfl | exact nI_add _ _ | decide) (by decide) rfl (fun ls hl => ?_)
              have hl : lv_has ls 5 [(0, .ref mo), (1, .int (nI si)), (2, .int (nI wi)), (3, .int ((mKnR μ (if wi = 2 then 7 else 8) si 50 k0) + 1)), (4, .int (nI (k0 + 1)))] := lv_sub hl [1, 2, 3, 4, 0] rfl
              refine lv_goto (tgt := 5) hx hb dX5_known_66 (by decide) ?_
              have q22 : ((mKnR μ (if wi = 2 then 7 else 8) si 50 (k0 + 1)) : Int32) = ((mKnR μ (if wi = 2 then 7 else 8) si 50 k0) + 1) := by simp [mKnR, c10, c13, c16, c20]
              exact ih (k0 + 1) (by omega) (by omega) (fun h => by omega) _ _ hP hD hS ls (by rw [q22]; exact lv_sub hl [0, 1, 2, 3, 4] rfl)
  refine lv_iconst (v := 0) hx hb dX5_known_0 (by decide) ?_
  refine lv_istore_n (lv' := [(3, .int 0), (0, .ref mo), (1, .int (nI si)), (2, .int (nI wi))]) hx hb dX5_known_1 rfl hl (by decide) rfl (fun ls hl => ?_)
  have hl : lv_has ls 5 [(0, .ref mo), (1, .int (nI si)), (2, .int (nI wi)), (3, .int 0)] := lv_sub hl [1, 2, 3, 0] rfl
  refine lv_iconst (v := 0) hx hb dX5_known_2 (by decide) ?_
  refine lv_istore (lv' := [(4, .int 0), (0, .ref mo), (1, .int (nI si)), (2, .int (nI wi)), (3, .int 0)]) hx hb dX5_known_3 hl (by decide) rfl (fun ls hl => ?_)
  have hl : lv_has ls 5 [(0, .ref mo), (1, .int (nI si)), (2, .int (nI wi)), (3, .int 0), (4, .int 0)] := lv_sub hl [1, 2, 3, 4, 0] rfl
  have q23 : ((mKnR μ (if wi = 2 then 7 else 8) si 50 0) : Int32) = 0 := by first | rfl | simp []
  have q24 : ((nI 0) : Int32) = 0 := by first | rfl | simp []
  exact L5 ((50 - 0) + 1) 0 (by omega) (by omega) (fun _ => rfl) _ _ hP hD hS ls (by rw [q23, q24]; exact lv_sub hl [0, 1, 2, 3, 4] rfl)

set_option maxHeartbeats 4000000 in
set_option maxRecDepth 100000 in
theorem kX5_ofServer (l : Launch) (D : va_G) (cy : Nat → ClassId) (sz : Nat) (mo : Nat) (ad : Nat → Nat) (μ : Nat → Nat → Int32) (v0 : Int32) (w0 : Int32) (hw : mWF μ) (hac0 : isN (μ 17 0) 600) (hla : mLast μ 1199) (hfi : ∀ j, j < 4 → isN (μ 24 j) 1201 ∧ tn (μ 24 j) ≤ tn (μ 25 j)) : Met l yX5_ofServer wsX5_ofServer ({ frames := 1, cells := 0, slots := 0, locals := 24 }) (vg_P D cy [.ref mo, .int v0, .int w0] sz (Mw cy mo ad μ)) (vg_Qi (S := Unit) D sz (Mw cy mo ad μ) (fun r _ => r = (mOfsR μ v0 w0)) (fun _ => Mw cy mo ad (va_up μ 0 (fun _ => mOfsT μ v0 w0)))) 0 0 (va_A (Mw cy mo ad μ) sz) := by
  refine Met.ofW (cc := cX5_ofServer) (maxL := 5) (ret := (some .int)) (by decide) rfl ?_
  intro p e s m args below meth c s₁ BB hml hv
  obtain ⟨rfl, hsz, hP, hE, hD0⟩ := hv
  have hx := BB.exec
  have hb := BB.bytes
  have hr := BB.returns
  have hts := atoms_spec (ws := wsX5_ofServer) BB.pre
  have hown : s.vm.findClass RX5 = some m.cls := findClass_of_methodNamed BB.named
  have hlocks := BB.notSynchronized
  subst hsz
  have hD := hD0.self (sz := s.heap.size)
  have hA : ∀ q : Nat, s.heap.size ≤ q → (va_A (Mw cy mo ad μ) s.heap.size) q := fun q h => Or.inr h
  have hS : va_S (va_A (Mw cy mo ad μ) s.heap.size) s.heap s.heap [] := va_S.rf
  have hin_RX5 : ∀ w ∈ u_ws RX5 TX5 26, w ∈ wsX5_ofServer := by decide +kernel
  have hl := lv_entry ([.ref mo, .int v0, .int w0]) (n := 5) (Nat.le_of_ble_eq_true rfl)
  rw [lg_entry_eq]
  generalize (lg_sl ([.ref mo, .int v0, .int w0]) ++ List.replicate (5 - (lg_sl ([.ref mo, .int v0, .int w0])).length) Slot.unset).toArray = ls at hl ⊢
  have hl : lv_has ls 5 [(0, .ref mo), (1, .int v0), (2, .int w0)] := hl
  obtain ⟨hpe, hho, hau, hre, hac⟩ := hw
  have hpe2 := hpe.2
  have hac2 := hac0.2
  have L45 : ∀ (fuel : Nat) (a0 : Nat), tn (μ 17 0) - a0 < fuel → (a0 ≤ tn (μ 17 0)) → (isN v0 4) → (isN w0 6) → (mOfsT μ v0 w0 = 0) → ∀ (H : Heap) (locs : List Loc), va_P D vwCl (Mw cy mo ad (va_up μ 0 (fun _ => 0))) H → va_D (va_A (Mw cy mo ad μ) s.heap.size) (Mw cy mo ad (va_up μ 0 (fun _ => 0))) → va_S (va_A (Mw cy mo ad μ) s.heap.size) s.heap H locs → ∀ ls : Array Slot, lv_has ls 5 [(0, .ref mo), (1, .int v0), (2, .int w0), (3, .int (mKnR μ 22 (tn v0) 600 a0)), (4, .int (nI a0))] → W p l e (headSpec wsX5_ofServer ({ frames := 1, cells := 0, slots := 0, locals := 24 })).room s m ([.ref mo, .int v0, .int w0] : List Value).toArray below meth c H locs 0 0 (MQ below (vg_Qi (S := Unit) D s.heap.size (Mw cy mo ad μ) (fun r _ => r = (mOfsR μ v0 w0)) (fun _ => Mw cy mo ad (va_up μ 0 (fun _ => mOfsT μ v0 w0)))) ([.ref mo, .int v0, .int w0] : List Value).toArray s 0 0 (va_A (Mw cy mo ad μ) s.heap.size)) (F0 m 45 ls []) := by
    intro fuel
    induction fuel with
    | zero => intros; omega
    | succ fuel ih =>
      intro a0 hfuel hi hv0 hw0 hT H locs hP hD hS ls hl
      have hv02 := hv0.2
      have hw02 := hw0.2
      refine lv_iload hx hb dX5_ofServer_45 (lv_at hl 4 rfl) ?_
      refine lv_aload_n hx hb dX5_ofServer_47 rfl (lv_at hl 0 rfl) ?_
      refine va_get (D := D) (ci := 6) (v := .int ((μ 17) 0)) (C := RX5) (T := TX5) (N := 26) hx hb hts hin_RX5 hown hE.1 hP 0 rfl rfl 17 (by decide) (hts (.fieldLink RX5 119 "VillagepostModel" "acts" "I") (by decide +kernel)) (fun _ h9 => h9) rfl dX5_ofServer_48 ?_
      refine vg_tp (nI (tn ((μ 17) 0))) hac0.1 ?_
      refine lv_icmp_ge (tgt := 84) hx hb dX5_ofServer_51 (by decide) (fun r1 => ?_) (fun r1 => ?_)
      · have c1 : tn ((μ 17) 0) ≤ a0 := (nI_leI (a := tn ((μ 17) 0)) (b := a0) (by omega) (by omega)).mp r1
        have e4 : a0 = tn (μ 17 0) := by omega
        refine lv_iload_n hx hb dX5_ofServer_84 rfl (lv_at hl 2 rfl) ?_
        refine vg_tp (nI (tn w0)) hw0.1 ?_
        refine lv_if_ne (tgt := 104) hx hb dX5_ofServer_85 (by decide) (fun r2 => ?_) (fun r2 => ?_)
        · have c2 : ¬ tn w0 = 0 := fun q => r2 ((nI_eq (a := tn w0) (b := 0) (by omega) (by omega)).mpr q)
          refine lv_iload_n hx hb dX5_ofServer_104 rfl (lv_at hl 2 rfl) ?_
          refine vg_tp (nI (tn w0)) hw0.1 ?_
          refine lv_iconst (v := 1) hx hb dX5_ofServer_105 (by decide) ?_
          refine lv_icmp_ne (tgt := 113) hx hb dX5_ofServer_106 (by decide) (fun r3 => ?_) (fun r3 => ?_)
          · have c3 : ¬ tn w0 = 1 := fun q => r3 ((nI_eq (a := tn w0) (b := 1) (by omega) (by omega)).mpr q)
            refine lv_aload_n hx hb dX5_ofServer_113 rfl (lv_at hl 0 rfl) ?_
            refine lv_iload_n hx hb dX5_ofServer_114 rfl (lv_at hl 1 rfl) ?_
            refine vg_tp (nI (tn v0)) hv0.1 ?_
            refine lv_iload_n hx hb dX5_ofServer_115 rfl (lv_at hl 2 rfl) ?_
            refine vg_tp (nI (tn w0)) hw0.1 ?_
            refine vg_calliW (va_runV (As := [.int (nI (tn v0)), .int (nI (tn w0))]) (rest := []) ⟨hx, hb, hml, hown, hts⟩ (kX5_known l D cy H.size mo ad (va_up μ 0 (fun _ => 0)) (tn v0) (tn w0) (by omega) (by omega)) (cwV 2 hts gX5_ofServer_X5_known rfl rfl rfl (by decide +kernel) ⟨Nat.le_of_ble_eq_true rfl, Nat.le_of_ble_eq_true rfl⟩) (vg_P.preV hE hP 0 rfl rfl hP hD) rfl rfl hl.1 rfl (lv_room (Nat.le_of_ble_eq_true rfl)) dX5_ofServer_116 ⟨Nat.le_of_ble_eq_true rfl, Nat.le_of_ble_eq_true rfl⟩) hP hD hS hA (fun r _ H locs hr hP hD hS => ?_)
            subst hr
            refine vg_tp (mKn μ (tn v0) (tn w0)) (mKn_up _ _ _ _) ?_
            have eW : va_up μ 0 (fun _ => 0) = va_up μ 0 (fun _ => mOfsT μ v0 w0) := by simp [hT]
            have hP : va_P D vwCl (Mw cy mo ad (va_up μ 0 (fun _ => mOfsT μ v0 w0))) H := by rw [← eW]; exact hP
            have hD : va_D (va_A (Mw cy mo ad μ) s.heap.size) (Mw cy mo ad (va_up μ 0 (fun _ => mOfsT μ v0 w0))) := by rw [← eW]; exact hD
            refine vg_tp (mOfsR μ v0 w0) (by simp [mOfsR, hT, c1, e4, c2, c3]) ?_
            exact W.iret (v := (mOfsR μ v0 w0)) hx hb hr (fun t ht hW => ⟨⟨(mOfsR μ v0 w0), (), rfl, rfl, (by rw [ht]; exact hP), hD⟩, hS.F ht⟩) hS.2.2 dX5_ofServer_119
          · have c3 : tn w0 = 1 := (nI_eq (a := tn w0) (b := 1) (by omega) (by omega)).mp r3
            refine lv_iload_n hx hb dX5_ofServer_109 rfl (lv_at hl 3 rfl) ?_
            refine lv_goto (tgt := 119) hx hb dX5_ofServer_110 (by decide) ?_
            have eW : va_up μ 0 (fun _ => 0) = va_up μ 0 (fun _ => mOfsT μ v0 w0) := by simp [hT]
            have hP : va_P D vwCl (Mw cy mo ad (va_up μ 0 (fun _ => mOfsT μ v0 w0))) H := by rw [← eW]; exact hP
            have hD : va_D (va_A (Mw cy mo ad μ) s.heap.size) (Mw cy mo ad (va_up μ 0 (fun _ => mOfsT μ v0 w0))) := by rw [← eW]; exact hD
            refine vg_tp (mOfsR μ v0 w0) (by simp [mOfsR, hT, c1, e4, c2, c3]) ?_
            exact W.iret (v := (mOfsR μ v0 w0)) hx hb hr (fun t ht hW => ⟨⟨(mOfsR μ v0 w0), (), rfl, rfl, (by rw [ht]; exact hP), hD⟩, hS.F ht⟩) hS.2.2 dX5_ofServer_119
        · have c2 : tn w0 = 0 := (nI_eq (a := tn w0) (b := 0) (by omega) (by omega)).mp r2
          refine lv_aload_n hx hb dX5_ofServer_88 rfl (lv_at hl 0 rfl) ?_
          refine va_get (D := D) (ci := 6) (v := .ref (ad 25)) (C := RX5) (T := TX5) (N := 26) hx hb hts hin_RX5 hown hE.1 hP 0 rfl rfl 25 (by decide) (hts (.fieldLink RX5 74 "VillagepostModel" "last" "[I") (by decide +kernel)) (fun _ h9 => h9) rfl dX5_ofServer_89 ?_
          refine lv_iload_n hx hb dX5_ofServer_92 rfl (lv_at hl 1 rfl) ?_
          refine vg_tp (nI (tn v0)) hv0.1 ?_
          refine vg_iald hx hb hE.1 hP 22 0 rfl rfl (f := μ 25) (j := (tn v0)) (by omega) (by decide) dX5_ofServer_93 ?_
          obtain ⟨hN4, hM4⟩ := hla (tn v0) (by omega)
          refine vg_tp (nI (tn ((μ 25) (tn v0)))) hN4 ?_
          refine lv_aload_n hx hb dX5_ofServer_94 rfl (lv_at hl 0 rfl) ?_
          refine va_get (D := D) (ci := 6) (v := .ref (ad 24)) (C := RX5) (T := TX5) (N := 26) hx hb hts hin_RX5 hown hE.1 hP 0 rfl rfl 24 (by decide) (hts (.fieldLink RX5 71 "VillagepostModel" "first" "[I") (by decide +kernel)) (fun _ h9 => h9) rfl dX5_ofServer_95 ?_
          refine lv_iload_n hx hb dX5_ofServer_98 rfl (lv_at hl 1 rfl) ?_
          refine vg_tp (nI (tn v0)) hv0.1 ?_
          refine vg_iald hx hb hE.1 hP 21 0 rfl rfl (f := μ 24) (j := (tn v0)) (by omega) (by decide) dX5_ofServer_99 ?_
          obtain ⟨hN5, hM5⟩ := (hfi (tn v0) (by omega)).1
          refine vg_tp (nI (tn ((μ 24) (tn v0)))) hN5 ?_
          refine lv_isub hx hb dX5_ofServer_100 ?_
          refine lv_goto (tgt := 119) hx hb dX5_ofServer_101 (by decide) ?_
          have eW : va_up μ 0 (fun _ => 0) = va_up μ 0 (fun _ => mOfsT μ v0 w0) := by simp [hT]
          have hP : va_P D vwCl (Mw cy mo ad (va_up μ 0 (fun _ => mOfsT μ v0 w0))) H := by rw [← eW]; exact hP
          have hD : va_D (va_A (Mw cy mo ad μ) s.heap.size) (Mw cy mo ad (va_up μ 0 (fun _ => mOfsT μ v0 w0))) := by rw [← eW]; exact hD
          refine vg_tp (mOfsR μ v0 w0) (by simp [mOfsR, hT, c1, e4, c2]) ?_
          exact W.iret (v := (mOfsR μ v0 w0)) hx hb hr (fun t ht hW => ⟨⟨(mOfsR μ v0 w0), (), rfl, rfl, (by rw [ht]; exact hP), hD⟩, hS.F ht⟩) hS.2.2 dX5_ofServer_119
      · have c1 : a0 < tn ((μ 17) 0) := Nat.lt_of_not_le (fun q => r1 ((nI_leI (a := tn ((μ 17) 0)) (b := a0) (by omega) (by omega)).mpr q))
        refine lv_iload_n hx hb dX5_ofServer_54 rfl (lv_at hl 3 rfl) ?_
        refine lv_aload_n hx hb dX5_ofServer_55 rfl (lv_at hl 0 rfl) ?_
        refine va_get (D := D) (ci := 6) (v := .ref (ad 22)) (C := RX5) (T := TX5) (N := 26) hx hb hts hin_RX5 hown hE.1 hP 0 rfl rfl 22 (by decide) (hts (.fieldLink RX5 65 "VillagepostModel" "isDone" "[Z") (by decide +kernel)) (fun _ h9 => h9) rfl dX5_ofServer_56 ?_
        refine lv_sipush (v := 600) hx hb dX5_ofServer_59 (by decide) ?_
        refine lv_iload_n hx hb dX5_ofServer_62 rfl (lv_at hl 1 rfl) ?_
        refine vg_tp (nI (tn v0)) hv0.1 ?_
        refine lv_imul hx hb dX5_ofServer_63 ?_
        refine vg_tp (nI (600 * (tn v0))) (pk_mul 600 (tn v0)) ?_
        refine lv_iload hx hb dX5_ofServer_64 (lv_at hl 4 rfl) ?_
        refine lv_iadd hx hb dX5_ofServer_66 ?_
        refine vg_tp (nI (600 * (tn v0) + a0)) (nI_add (600 * (tn v0)) a0) ?_
        refine vg_zald hx hb hE.1 hP 19 2 rfl rfl (f := μ 22) (j := (600 * (tn v0) + a0)) (by omega) (by decide) dX5_ofServer_67 ?_
        refine lv_if_eq (tgt := 75) hx hb dX5_ofServer_68 (by decide) (fun r6 => ?_) (fun r6 => ?_)
        · have c6 := r6
          refine lv_iconst (v := 0) hx hb dX5_ofServer_75 (by decide) ?_
          refine lv_iadd hx hb dX5_ofServer_76 ?_
          refine lv_istore_n (lv' := [(3, .int ((mKnR μ 22 (tn v0) 600 a0) + 0)), (0, .ref mo), (1, .int v0), (2, .int w0), (4, .int (nI a0))]) hx hb dX5_ofServer_77 rfl hl (by decide) rfl (fun ls hl => ?_)
          have hl : lv_has ls 5 [(0, .ref mo), (1, .int v0), (2, .int w0), (3, .int ((mKnR μ 22 (tn v0) 600 a0) + 0)), (4, .int (nI a0))] := lv_sub hl [1, 2, 3, 0, 4] rfl
          refine lv_iinc (v := (nI (a0 + 1))) (lv' := [(4, .int (nI (a0 + 1))), (0, .ref mo), (1, .int v0), (2, .int w0), (3, .int ((mKnR μ 22 (tn v0) 600 a0) + 0))]) hx hb dX5_ofServer_78 hl (k := 4) rfl (by first | rfl | exact nI_add _ _ | decide) (by decide) rfl (fun ls hl => ?_)
          have hl : lv_has ls 5 [(0, .ref mo), (1, .int v0), (2, .int w0), (3, .int ((mKnR μ 22 (tn v0) 600 a0) + 0)), (4, .int (nI (a0 + 1)))] := lv_sub hl [1, 2, 3, 4, 0] rfl
          refine lv_goto (tgt := 45) hx hb dX5_ofServer_81 (by decide) ?_
          have q7 : ((mKnR μ 22 (tn v0) 600 (a0 + 1)) : Int32) = ((mKnR μ 22 (tn v0) 600 a0) + 0) := by simp [mKnR, c1, c6]
          exact ih (a0 + 1) (by omega) (by omega) (hv0) (hw0) (hT) _ _ hP hD hS ls (by rw [q7]; exact lv_sub hl [0, 1, 2, 3, 4] rfl)
        · have c6 := r6
          refine lv_iconst (v := 1) hx hb dX5_ofServer_71 (by decide) ?_
          refine lv_goto (tgt := 76) hx hb dX5_ofServer_72 (by decide) ?_
          refine lv_iadd hx hb dX5_ofServer_76 ?_
          refine lv_istore_n (lv' := [(3, .int ((mKnR μ 22 (tn v0) 600 a0) + 1)), (0, .ref mo), (1, .int v0), (2, .int w0), (4, .int (nI a0))]) hx hb dX5_ofServer_77 rfl hl (by decide) rfl (fun ls hl => ?_)
          have hl : lv_has ls 5 [(0, .ref mo), (1, .int v0), (2, .int w0), (3, .int ((mKnR μ 22 (tn v0) 600 a0) + 1)), (4, .int (nI a0))] := lv_sub hl [1, 2, 3, 0, 4] rfl
          refine lv_iinc (v := (nI (a0 + 1))) (lv' := [(4, .int (nI (a0 + 1))), (0, .ref mo), (1, .int v0), (2, .int w0), (3, .int ((mKnR μ 22 (tn v0) 600 a0) + 1))]) hx hb dX5_ofServer_78 hl (k := 4) rfl (by first | rfl | exact nI_add _ _ | decide) (by decide) rfl (fun ls hl => ?_)
          have hl : lv_has ls 5 [(0, .ref mo), (1, .int v0), (2, .int w0), (3, .int ((mKnR μ 22 (tn v0) 600 a0) + 1)), (4, .int (nI (a0 + 1)))] := lv_sub hl [1, 2, 3, 4, 0] rfl
          refine lv_goto (tgt := 45) hx hb dX5_ofServer_81 (by decide) ?_
          have q8 : ((mKnR μ 22 (tn v0) 600 (a0 + 1)) : Int32) = ((mKnR μ 22 (tn v0) 600 a0) + 1) := by simp [mKnR, c1, c6]
          exact ih (a0 + 1) (by omega) (by omega) (hv0) (hw0) (hT) _ _ hP hD hS ls (by rw [q8]; exact lv_sub hl [0, 1, 2, 3, 4] rfl)
  refine lv_aload_n hx hb dX5_ofServer_0 rfl (lv_at hl 0 rfl) ?_
  refine lv_iload_n hx hb dX5_ofServer_1 rfl (lv_at hl 1 rfl) ?_
  refine lv_iconst (v := 0) hx hb dX5_ofServer_2 (by decide) ?_
  refine lv_iconst (v := 3) hx hb dX5_ofServer_3 (by decide) ?_
  refine vg_calliP (va_runS (As := [.int v0, .int 0, .int 3]) (rest := [.ref mo]) ⟨hx, hb, hml, hown, hts⟩ (kX5_in l D cy s.heap.size v0 0 3) (va_cwS 3 hts gX5_ofServer_X5_in rfl rfl rfl (by decide +kernel) ⟨Nat.le_of_ble_eq_true rfl, Nat.le_of_ble_eq_true rfl⟩) (vg_P.preS hE vg_P0 (A := fun _ => True) vg_D0) rfl rfl hl.1 rfl (lv_room (Nat.le_of_ble_eq_true rfl)) dX5_ofServer_4 ⟨Nat.le_of_ble_eq_true rfl, Nat.le_of_ble_eq_true rfl⟩) hP hD hS hA (fun r _ H locs hr hP hD hS => ?_)
  subst hr
  refine lv_if_ne (tgt := 14) hx hb dX5_ofServer_7 (by decide) (fun r9 => ?_) (fun r9 => ?_)
  · have c9 : (mIn v0 0 3) = true := bI_n0.mp r9
    refine lv_iload_n hx hb dX5_ofServer_14 rfl (lv_at hl 2 rfl) ?_
    refine lv_iconst (v := 0) hx hb dX5_ofServer_15 (by decide) ?_
    refine lv_iconst (v := 5) hx hb dX5_ofServer_16 (by decide) ?_
    refine vg_calliP (va_runS (As := [.int w0, .int 0, .int 5]) (rest := [.ref mo]) ⟨hx, hb, hml, hown, hts⟩ (kX5_in l D cy H.size w0 0 5) (va_cwS 3 hts gX5_ofServer_X5_in rfl rfl rfl (by decide +kernel) ⟨Nat.le_of_ble_eq_true rfl, Nat.le_of_ble_eq_true rfl⟩) (vg_P.preS hE vg_P0 (A := fun _ => True) vg_D0) rfl rfl hl.1 rfl (lv_room (Nat.le_of_ble_eq_true rfl)) dX5_ofServer_17 ⟨Nat.le_of_ble_eq_true rfl, Nat.le_of_ble_eq_true rfl⟩) hP hD hS hA (fun r _ H locs hr hP hD hS => ?_)
    subst hr
    refine lv_if_ne (tgt := 27) hx hb dX5_ofServer_20 (by decide) (fun r10 => ?_) (fun r10 => ?_)
    · have c10 : (mIn w0 0 5) = true := bI_n0.mp r10
      refine lv_iconst (v := 0) hx hb dX5_ofServer_27 (by decide) ?_
      refine va_put (D := (D)) (ci := 6) (v := .int 0) (ty := .int) (C := RX5) (T := TX5) (N := 26) hx hb hts hin_RX5 tyX5 tyX5_ok nmX5 hown hE.1 hP hD hS 0 rfl rfl 0 (by decide) (hts (.fieldLink RX5 77 "VillagepostModel" "thrown" "I") (by decide +kernel)) (fun _ h9 => h9) rfl (by decide +kernel) rfl rfl (Nat.le_of_ble_eq_true rfl) dX5_ofServer_28 (fun H locs hP hD hS => ?_)
      have hP : va_P D vwCl (Mw cy mo ad (va_up μ 0 (fun _ => 0))) H := hP
      have hD : va_D (va_A (Mw cy mo ad μ) s.heap.size) (Mw cy mo ad (va_up μ 0 (fun _ => 0))) := hD
      refine lv_aload_n hx hb dX5_ofServer_31 rfl (lv_at hl 0 rfl) ?_
      refine va_get (D := D) (ci := 6) (v := .int 0) (C := RX5) (T := TX5) (N := 26) hx hb hts hin_RX5 hown hE.1 hP 0 rfl rfl 0 (by decide) (hts (.fieldLink RX5 77 "VillagepostModel" "thrown" "I") (by decide +kernel)) (fun _ h9 => h9) rfl dX5_ofServer_32 ?_
      refine lv_if_eq (tgt := 40) hx hb dX5_ofServer_35 (by decide) (fun _ => ?_) (fun c9 => False.elim (by revert c9; decide))
      have hv0 : isN v0 4 := mIn_3 c9
      have hv02 := hv0.2
      have hw0 : isN w0 6 := mIn_5 c10
      have hw02 := hw0.2
      refine lv_iconst (v := 0) hx hb dX5_ofServer_40 (by decide) ?_
      refine lv_istore_n (lv' := [(3, .int 0), (0, .ref mo), (1, .int v0), (2, .int w0)]) hx hb dX5_ofServer_41 rfl hl (by decide) rfl (fun ls hl => ?_)
      have hl : lv_has ls 5 [(0, .ref mo), (1, .int v0), (2, .int w0), (3, .int 0)] := lv_sub hl [1, 2, 3, 0] rfl
      refine lv_iconst (v := 0) hx hb dX5_ofServer_42 (by decide) ?_
      refine lv_istore (lv' := [(4, .int 0), (0, .ref mo), (1, .int v0), (2, .int w0), (3, .int 0)]) hx hb dX5_ofServer_43 hl (by decide) rfl (fun ls hl => ?_)
      have hl : lv_has ls 5 [(0, .ref mo), (1, .int v0), (2, .int w0), (3, .int 0), (4, .int 0)] := lv_sub hl [1, 2, 3, 4, 0] rfl
      have q12 : ((mKnR μ 22 (tn v0) 600 0) : Int32) = 0 := by first | rfl | simp [c9, c10]
      have q13 : ((nI 0) : Int32) = 0 := by first | rfl | simp [c9, c10]
      exact L45 ((tn (μ 17 0) - 0) + 1) 0 (by omega) (by omega) (hv0) (hw0) (by simp [mOfsT, c9, c10]) _ _ hP hD hS ls (by rw [q12, q13]; exact lv_sub hl [0, 1, 2, 3, 4] rfl)
    · have c10 : (mIn w0 0 5) = false := bI_0.mp r10
      refine lv_iconst (v := 2) hx hb dX5_ofServer_23 (by decide) ?_
      refine lv_goto (tgt := 28) hx hb dX5_ofServer_24 (by decide) ?_
      refine va_put (D := (D)) (ci := 6) (v := .int 2) (ty := .int) (C := RX5) (T := TX5) (N := 26) hx hb hts hin_RX5 tyX5 tyX5_ok nmX5 hown hE.1 hP hD hS 0 rfl rfl 0 (by decide) (hts (.fieldLink RX5 77 "VillagepostModel" "thrown" "I") (by decide +kernel)) (fun _ h9 => h9) rfl (by decide +kernel) rfl rfl (Nat.le_of_ble_eq_true rfl) dX5_ofServer_28 (fun H locs hP hD hS => ?_)
      have hP : va_P D vwCl (Mw cy mo ad (va_up μ 0 (fun _ => 2))) H := hP
      have hD : va_D (va_A (Mw cy mo ad μ) s.heap.size) (Mw cy mo ad (va_up μ 0 (fun _ => 2))) := hD
      refine lv_aload_n hx hb dX5_ofServer_31 rfl (lv_at hl 0 rfl) ?_
      refine va_get (D := D) (ci := 6) (v := .int 2) (C := RX5) (T := TX5) (N := 26) hx hb hts hin_RX5 hown hE.1 hP 0 rfl rfl 0 (by decide) (hts (.fieldLink RX5 77 "VillagepostModel" "thrown" "I") (by decide +kernel)) (fun _ h9 => h9) rfl dX5_ofServer_32 ?_
      refine lv_if_eq (tgt := 40) hx hb dX5_ofServer_35 (by decide) (fun c9 => False.elim (by revert c9; decide)) (fun _ => ?_)
      refine lv_iconst (v := 0) hx hb dX5_ofServer_38 (by decide) ?_
      have eW : va_up μ 0 (fun _ => 2) = va_up μ 0 (fun _ => mOfsT μ v0 w0) := by simp [mOfsT, c9, c10]
      have hP : va_P D vwCl (Mw cy mo ad (va_up μ 0 (fun _ => mOfsT μ v0 w0))) H := by rw [← eW]; exact hP
      have hD : va_D (va_A (Mw cy mo ad μ) s.heap.size) (Mw cy mo ad (va_up μ 0 (fun _ => mOfsT μ v0 w0))) := by rw [← eW]; exact hD
      refine vg_tp (mOfsR μ v0 w0) (by simp [mOfsR, mOfsT, c9, c10]) ?_
      exact W.iret (v := (mOfsR μ v0 w0)) hx hb hr (fun t ht hW => ⟨⟨(mOfsR μ v0 w0), (), rfl, rfl, (by rw [ht]; exact hP), hD⟩, hS.F ht⟩) hS.2.2 dX5_ofServer_39
  · have c9 : (mIn v0 0 3) = false := bI_0.mp r9
    refine lv_iconst (v := 1) hx hb dX5_ofServer_10 (by decide) ?_
    refine lv_goto (tgt := 28) hx hb dX5_ofServer_11 (by decide) ?_
    refine va_put (D := (D)) (ci := 6) (v := .int 1) (ty := .int) (C := RX5) (T := TX5) (N := 26) hx hb hts hin_RX5 tyX5 tyX5_ok nmX5 hown hE.1 hP hD hS 0 rfl rfl 0 (by decide) (hts (.fieldLink RX5 77 "VillagepostModel" "thrown" "I") (by decide +kernel)) (fun _ h9 => h9) rfl (by decide +kernel) rfl rfl (Nat.le_of_ble_eq_true rfl) dX5_ofServer_28 (fun H locs hP hD hS => ?_)
    have hP : va_P D vwCl (Mw cy mo ad (va_up μ 0 (fun _ => 1))) H := hP
    have hD : va_D (va_A (Mw cy mo ad μ) s.heap.size) (Mw cy mo ad (va_up μ 0 (fun _ => 1))) := hD
    refine lv_aload_n hx hb dX5_ofServer_31 rfl (lv_at hl 0 rfl) ?_
    refine va_get (D := D) (ci := 6) (v := .int 1) (C := RX5) (T := TX5) (N := 26) hx hb hts hin_RX5 hown hE.1 hP 0 rfl rfl 0 (by decide) (hts (.fieldLink RX5 77 "VillagepostModel" "thrown" "I") (by decide +kernel)) (fun _ h9 => h9) rfl dX5_ofServer_32 ?_
    refine lv_if_eq (tgt := 40) hx hb dX5_ofServer_35 (by decide) (fun c9 => False.elim (by revert c9; decide)) (fun _ => ?_)
    refine lv_iconst (v := 0) hx hb dX5_ofServer_38 (by decide) ?_
    have eW : va_up μ 0 (fun _ => 1) = va_up μ 0 (fun _ => mOfsT μ v0 w0) := by simp [mOfsT, c9]
    have hP : va_P D vwCl (Mw cy mo ad (va_up μ 0 (fun _ => mOfsT μ v0 w0))) H := by rw [← eW]; exact hP
    have hD : va_D (va_A (Mw cy mo ad μ) s.heap.size) (Mw cy mo ad (va_up μ 0 (fun _ => mOfsT μ v0 w0))) := by rw [← eW]; exact hD
    refine vg_tp (mOfsR μ v0 w0) (by simp [mOfsR, mOfsT, c9]) ?_
    exact W.iret (v := (mOfsR μ v0 w0)) hx hb hr (fun t ht hW => ⟨⟨(mOfsR μ v0 w0), (), rfl, rfl, (by rw [ht]; exact hP), hD⟩, hS.F ht⟩) hS.2.2 dX5_ofServer_39

set_option maxHeartbeats 4000000 in
set_option maxRecDepth 100000 in
theorem kX5_isAtHome (l : Launch) (D : va_G) (cy : Nat → ClassId) (sz : Nat) (mo : Nat) (ad : Nat → Nat) (μ : Nat → Nat → Int32) (pi : Nat) (ni : Nat) (hw : mWF μ) (hp : pi < 10) (hn : ni < 50) : Met l yX5_isAtHome wsX5_isAtHome ({ frames := 3, cells := 0, slots := 0, locals := 70 }) (vg_P D cy [.ref mo, .int (nI pi), .int (nI ni)] sz (Mw cy mo ad μ)) (vg_Qi (S := Unit) D sz (Mw cy mo ad μ) (fun r _ => r = (bI (mAtH μ pi ni))) (fun _ => Mw cy mo ad μ)) 0 0 (va_A (Mw cy mo ad μ) sz) := by
  refine Met.ofW (cc := cX5_isAtHome) (maxL := 6) (ret := (some .boolean)) (by decide) rfl ?_
  intro p e s m args below meth c s₁ BB hml hv
  obtain ⟨rfl, hsz, hP, hE, hD0⟩ := hv
  have hx := BB.exec
  have hb := BB.bytes
  have hr := BB.returns
  have hts := atoms_spec (ws := wsX5_isAtHome) BB.pre
  have hown : s.vm.findClass RX5 = some m.cls := findClass_of_methodNamed BB.named
  have hlocks := BB.notSynchronized
  subst hsz
  have hD := hD0.self (sz := s.heap.size)
  have hA : ∀ q : Nat, s.heap.size ≤ q → (va_A (Mw cy mo ad μ) s.heap.size) q := fun q h => Or.inr h
  have hS : va_S (va_A (Mw cy mo ad μ) s.heap.size) s.heap s.heap [] := va_S.rf
  have hin_RX5 : ∀ w ∈ u_ws RX5 TX5 26, w ∈ wsX5_isAtHome := by decide +kernel
  have hl := lv_entry ([.ref mo, .int (nI pi), .int (nI ni)]) (n := 6) (Nat.le_of_ble_eq_true rfl)
  rw [lg_entry_eq]
  generalize (lg_sl ([.ref mo, .int (nI pi), .int (nI ni)]) ++ List.replicate (6 - (lg_sl ([.ref mo, .int (nI pi), .int (nI ni)])).length) Slot.unset).toArray = ls at hl ⊢
  have hl : lv_has ls 6 [(0, .ref mo), (1, .int (nI pi)), (2, .int (nI ni))] := hl
  obtain ⟨hpe, hho, hau, hre, hac⟩ := hw
  have hpe2 := hpe.2
  have L55 : ∀ (fuel : Nat) (q0 : Nat), tn (μ 1 0) - q0 < fuel → (q0 ≤ tn (μ 1 0)) → (tn (μ 2 pi) < 4) → ∀ (H : Heap) (locs : List Loc), va_P D vwCl (Mw cy mo ad μ) H → va_D (va_A (Mw cy mo ad μ) s.heap.size) (Mw cy mo ad μ) → va_S (va_A (Mw cy mo ad μ) s.heap.size) s.heap H locs → ∀ ls : Array Slot, lv_has ls 6 [(0, .ref mo), (1, .int (nI pi)), (2, .int (nI ni)), (3, .int (nI (tn (μ 2 pi)))), (4, .int (bI (mAtHR μ pi ni q0))), (5, .int (nI q0))] → W p l e (headSpec wsX5_isAtHome ({ frames := 3, cells := 0, slots := 0, locals := 70 })).room s m ([.ref mo, .int (nI pi), .int (nI ni)] : List Value).toArray below meth c H locs 0 0 (MQ below (vg_Qi (S := Unit) D s.heap.size (Mw cy mo ad μ) (fun r _ => r = (bI (mAtH μ pi ni))) (fun _ => Mw cy mo ad μ)) ([.ref mo, .int (nI pi), .int (nI ni)] : List Value).toArray s 0 0 (va_A (Mw cy mo ad μ) s.heap.size)) (F0 m 55 ls []) := by
    intro fuel
    induction fuel with
    | zero => intros; omega
    | succ fuel ih =>
      intro q0 hfuel hi hh4 H locs hP hD hS ls hl
      refine lv_iload hx hb dX5_isAtHome_55 (lv_at hl 5 rfl) ?_
      refine lv_aload_n hx hb dX5_isAtHome_57 rfl (lv_at hl 0 rfl) ?_
      refine va_get (D := D) (ci := 6) (v := .int ((μ 1) 0)) (C := RX5) (T := TX5) (N := 26) hx hb hts hin_RX5 hown hE.1 hP 0 rfl rfl 1 (by decide) (hts (.fieldLink RX5 81 "VillagepostModel" "people" "I") (by decide +kernel)) (fun _ h9 => h9) rfl dX5_isAtHome_58 ?_
      refine vg_tp (nI (tn ((μ 1) 0))) hpe.1 ?_
      refine lv_icmp_ge (tgt := 118) hx hb dX5_isAtHome_61 (by decide) (fun r1 => ?_) (fun r1 => ?_)
      · have c1 : tn ((μ 1) 0) ≤ q0 := (nI_leI (a := tn ((μ 1) 0)) (b := q0) (by omega) (by omega)).mp r1
        have e5 : tn (μ 1 0) = q0 := by omega
        refine lv_iload hx hb dX5_isAtHome_118 (lv_at hl 4 rfl) ?_
        refine lv_if_eq (tgt := 136) hx hb dX5_isAtHome_120 (by decide) (fun r2 => ?_) (fun r2 => ?_)
        · have c2 : (mAtHR μ pi ni q0) = false := bI_0.mp r2
          refine lv_iconst (v := 0) hx hb dX5_isAtHome_136 (by decide) ?_
          refine vg_tp (bI (mAtH μ pi ni)) (by simp [mAtH, bI, c1, e5, c2]) ?_
          exact W.zret (v := (bI (mAtH μ pi ni))) (ty := .boolean) hx hb hr (bI_and _) (fun t ht hW => ⟨⟨(bI (mAtH μ pi ni)), (), rfl, rfl, (by rw [ht]; exact hP), hD⟩, hS.F ht⟩) hS.2.2 dX5_isAtHome_137
        · have c2 : (mAtHR μ pi ni q0) = true := bI_n0.mp r2
          refine lv_aload_n hx hb dX5_isAtHome_123 rfl (lv_at hl 0 rfl) ?_
          refine lv_iload_n hx hb dX5_isAtHome_124 rfl (lv_at hl 1 rfl) ?_
          refine lv_iload_n hx hb dX5_isAtHome_125 rfl (lv_at hl 2 rfl) ?_
          refine vg_calliW (va_runV (As := [.int (nI pi), .int (nI ni)]) (rest := []) ⟨hx, hb, hml, hown, hts⟩ (kX5_seen l D cy H.size mo ad μ pi ni (⟨hpe, hho, hau, hre, hac⟩) (by omega) (by omega)) (cwV 2 hts gX5_isAtHome_X5_seen rfl rfl rfl (by decide +kernel) ⟨Nat.le_of_ble_eq_true rfl, Nat.le_of_ble_eq_true rfl⟩) (vg_P.preV hE hP 0 rfl rfl hP hD) rfl rfl hl.1 rfl (lv_room (Nat.le_of_ble_eq_true rfl)) dX5_isAtHome_126 ⟨Nat.le_of_ble_eq_true rfl, Nat.le_of_ble_eq_true rfl⟩) hP hD hS hA (fun r _ H locs hr hP hD hS => ?_)
          subst hr
          refine lv_if_eq (tgt := 136) hx hb dX5_isAtHome_129 (by decide) (fun r3 => ?_) (fun r3 => ?_)
          · have c3 : (mSeen μ pi ni) = false := bI_0.mp r3
            refine lv_iconst (v := 0) hx hb dX5_isAtHome_136 (by decide) ?_
            refine vg_tp (bI (mAtH μ pi ni)) (by simp [mAtH, bI, c1, e5, c2, c3]) ?_
            exact W.zret (v := (bI (mAtH μ pi ni))) (ty := .boolean) hx hb hr (bI_and _) (fun t ht hW => ⟨⟨(bI (mAtH μ pi ni)), (), rfl, rfl, (by rw [ht]; exact hP), hD⟩, hS.F ht⟩) hS.2.2 dX5_isAtHome_137
          · have c3 : (mSeen μ pi ni) = true := bI_n0.mp r3
            refine lv_iconst (v := 1) hx hb dX5_isAtHome_132 (by decide) ?_
            refine lv_goto (tgt := 137) hx hb dX5_isAtHome_133 (by decide) ?_
            refine vg_tp (bI (mAtH μ pi ni)) (by simp [mAtH, bI, c1, e5, c2, c3]) ?_
            exact W.zret (v := (bI (mAtH μ pi ni))) (ty := .boolean) hx hb hr (bI_and _) (fun t ht hW => ⟨⟨(bI (mAtH μ pi ni)), (), rfl, rfl, (by rw [ht]; exact hP), hD⟩, hS.F ht⟩) hS.2.2 dX5_isAtHome_137
      · have c1 : q0 < tn ((μ 1) 0) := Nat.lt_of_not_le (fun q => r1 ((nI_leI (a := tn ((μ 1) 0)) (b := q0) (by omega) (by omega)).mpr q))
        refine lv_iload hx hb dX5_isAtHome_64 (lv_at hl 4 rfl) ?_
        refine lv_if_ne (tgt := 105) hx hb dX5_isAtHome_66 (by decide) (fun r4 => ?_) (fun r4 => ?_)
        · have c4 : (mAtHR μ pi ni q0) = true := bI_n0.mp r4
          refine lv_iconst (v := 1) hx hb dX5_isAtHome_105 (by decide) ?_
          refine lv_goto (tgt := 110) hx hb dX5_isAtHome_106 (by decide) ?_
          refine lv_istore (lv' := [(4, .int 1), (0, .ref mo), (1, .int (nI pi)), (2, .int (nI ni)), (3, .int (nI (tn (μ 2 pi)))), (5, .int (nI q0))]) hx hb dX5_isAtHome_110 hl (by decide) rfl (fun ls hl => ?_)
          have hl : lv_has ls 6 [(0, .ref mo), (1, .int (nI pi)), (2, .int (nI ni)), (3, .int (nI (tn (μ 2 pi)))), (4, .int 1), (5, .int (nI q0))] := lv_sub hl [1, 2, 3, 4, 0, 5] rfl
          refine lv_iinc (v := (nI (q0 + 1))) (lv' := [(5, .int (nI (q0 + 1))), (0, .ref mo), (1, .int (nI pi)), (2, .int (nI ni)), (3, .int (nI (tn (μ 2 pi)))), (4, .int 1)]) hx hb dX5_isAtHome_112 hl (k := 5) rfl (by first | rfl | exact nI_add _ _ | decide) (by decide) rfl (fun ls hl => ?_)
          have hl : lv_has ls 6 [(0, .ref mo), (1, .int (nI pi)), (2, .int (nI ni)), (3, .int (nI (tn (μ 2 pi)))), (4, .int 1), (5, .int (nI (q0 + 1)))] := lv_sub hl [1, 2, 3, 4, 5, 0] rfl
          refine lv_goto (tgt := 55) hx hb dX5_isAtHome_115 (by decide) ?_
          have q5 : ((bI (mAtHR μ pi ni (q0 + 1))) : Int32) = 1 := by simp [mAtHR, bI, c1, c4]
          exact ih (q0 + 1) (by omega) (by omega) (hh4) _ _ hP hD hS ls (by rw [q5]; exact lv_sub hl [0, 1, 2, 3, 4, 5] rfl)
        · have c4 : (mAtHR μ pi ni q0) = false := bI_0.mp r4
          refine lv_aload_n hx hb dX5_isAtHome_69 rfl (lv_at hl 0 rfl) ?_
          refine va_get (D := D) (ci := 6) (v := .ref (ad 4)) (C := RX5) (T := TX5) (N := 26) hx hb hts hin_RX5 hown hE.1 hP 0 rfl rfl 4 (by decide) (hts (.fieldLink RX5 17 "VillagepostModel" "follows" "[Z") (by decide +kernel)) (fun _ h9 => h9) rfl dX5_isAtHome_70 ?_
          refine lv_iload_n hx hb dX5_isAtHome_73 rfl (lv_at hl 3 rfl) ?_
          refine lv_iload_n hx hb dX5_isAtHome_74 rfl (lv_at hl 1 rfl) ?_
          refine lv_iload hx hb dX5_isAtHome_75 (lv_at hl 5 rfl) ?_
          refine vg_calliP (va_runS (As := [.int (nI (tn (μ 2 pi))), .int (nI pi), .int (nI q0)]) (rest := [.ref (ad 4)]) ⟨hx, hb, hml, hown, hts⟩ (kX5_at l D cy H.size (tn (μ 2 pi)) pi q0) (va_cwS 3 hts gX5_isAtHome_X5_at rfl rfl rfl (by decide +kernel) ⟨Nat.le_of_ble_eq_true rfl, Nat.le_of_ble_eq_true rfl⟩) (vg_P.preS hE vg_P0 (A := fun _ => True) vg_D0) rfl rfl hl.1 rfl (lv_room (Nat.le_of_ble_eq_true rfl)) dX5_isAtHome_77 ⟨Nat.le_of_ble_eq_true rfl, Nat.le_of_ble_eq_true rfl⟩) hP hD hS hA (fun r _ H locs hr hP hD hS => ?_)
          subst hr
          refine vg_zald hx hb hE.1 hP 3 2 rfl rfl (f := μ 4) (j := (100 * (tn (μ 2 pi)) + 10 * pi + q0)) (by omega) (by decide) dX5_isAtHome_80 ?_
          refine lv_if_eq (tgt := 109) hx hb dX5_isAtHome_81 (by decide) (fun r6 => ?_) (fun r6 => ?_)
          · have c6 := r6
            refine lv_iconst (v := 0) hx hb dX5_isAtHome_109 (by decide) ?_
            refine lv_istore (lv' := [(4, .int 0), (0, .ref mo), (1, .int (nI pi)), (2, .int (nI ni)), (3, .int (nI (tn (μ 2 pi)))), (5, .int (nI q0))]) hx hb dX5_isAtHome_110 hl (by decide) rfl (fun ls hl => ?_)
            have hl : lv_has ls 6 [(0, .ref mo), (1, .int (nI pi)), (2, .int (nI ni)), (3, .int (nI (tn (μ 2 pi)))), (4, .int 0), (5, .int (nI q0))] := lv_sub hl [1, 2, 3, 4, 0, 5] rfl
            refine lv_iinc (v := (nI (q0 + 1))) (lv' := [(5, .int (nI (q0 + 1))), (0, .ref mo), (1, .int (nI pi)), (2, .int (nI ni)), (3, .int (nI (tn (μ 2 pi)))), (4, .int 0)]) hx hb dX5_isAtHome_112 hl (k := 5) rfl (by first | rfl | exact nI_add _ _ | decide) (by decide) rfl (fun ls hl => ?_)
            have hl : lv_has ls 6 [(0, .ref mo), (1, .int (nI pi)), (2, .int (nI ni)), (3, .int (nI (tn (μ 2 pi)))), (4, .int 0), (5, .int (nI (q0 + 1)))] := lv_sub hl [1, 2, 3, 4, 5, 0] rfl
            refine lv_goto (tgt := 55) hx hb dX5_isAtHome_115 (by decide) ?_
            have q7 : ((bI (mAtHR μ pi ni (q0 + 1))) : Int32) = 0 := by simp [mAtHR, bI, c1, c4, c6]
            exact ih (q0 + 1) (by omega) (by omega) (hh4) _ _ hP hD hS ls (by rw [q7]; exact lv_sub hl [0, 1, 2, 3, 4, 5] rfl)
          · have c6 := r6
            refine lv_aload_n hx hb dX5_isAtHome_84 rfl (lv_at hl 0 rfl) ?_
            refine va_get (D := D) (ci := 6) (v := .ref (ad 10)) (C := RX5) (T := TX5) (N := 26) hx hb hts hin_RX5 hown hE.1 hP 0 rfl rfl 10 (by decide) (hts (.fieldLink RX5 35 "VillagepostModel" "isBoosted" "[Z") (by decide +kernel)) (fun _ h9 => h9) rfl dX5_isAtHome_85 ?_
            refine lv_sipush (v := 500) hx hb dX5_isAtHome_88 (by decide) ?_
            refine lv_iload_n hx hb dX5_isAtHome_91 rfl (lv_at hl 3 rfl) ?_
            refine lv_imul hx hb dX5_isAtHome_92 ?_
            refine vg_tp (nI (500 * (tn (μ 2 pi)))) (pk_mul 500 (tn (μ 2 pi))) ?_
            refine lv_bipush (v := 50) hx hb dX5_isAtHome_93 (by decide) ?_
            refine lv_iload hx hb dX5_isAtHome_95 (lv_at hl 5 rfl) ?_
            refine lv_imul hx hb dX5_isAtHome_97 ?_
            refine vg_tp (nI (50 * q0)) (pk_mul 50 q0) ?_
            refine lv_iadd hx hb dX5_isAtHome_98 ?_
            refine vg_tp (nI (500 * (tn (μ 2 pi)) + (50 * q0))) (nI_add (500 * (tn (μ 2 pi))) (50 * q0)) ?_
            refine lv_iload_n hx hb dX5_isAtHome_99 rfl (lv_at hl 2 rfl) ?_
            refine lv_iadd hx hb dX5_isAtHome_100 ?_
            refine vg_tp (nI (500 * (tn (μ 2 pi)) + (50 * q0) + ni)) (nI_add (500 * (tn (μ 2 pi)) + (50 * q0)) ni) ?_
            refine vg_zald hx hb hE.1 hP 9 2 rfl rfl (f := μ 10) (j := (500 * (tn (μ 2 pi)) + (50 * q0) + ni)) (by omega) (by decide) dX5_isAtHome_101 ?_
            refine lv_if_eq (tgt := 109) hx hb dX5_isAtHome_102 (by decide) (fun r8 => ?_) (fun r8 => ?_)
            · have c8 := r8
              refine lv_iconst (v := 0) hx hb dX5_isAtHome_109 (by decide) ?_
              refine lv_istore (lv' := [(4, .int 0), (0, .ref mo), (1, .int (nI pi)), (2, .int (nI ni)), (3, .int (nI (tn (μ 2 pi)))), (5, .int (nI q0))]) hx hb dX5_isAtHome_110 hl (by decide) rfl (fun ls hl => ?_)
              have hl : lv_has ls 6 [(0, .ref mo), (1, .int (nI pi)), (2, .int (nI ni)), (3, .int (nI (tn (μ 2 pi)))), (4, .int 0), (5, .int (nI q0))] := lv_sub hl [1, 2, 3, 4, 0, 5] rfl
              refine lv_iinc (v := (nI (q0 + 1))) (lv' := [(5, .int (nI (q0 + 1))), (0, .ref mo), (1, .int (nI pi)), (2, .int (nI ni)), (3, .int (nI (tn (μ 2 pi)))), (4, .int 0)]) hx hb dX5_isAtHome_112 hl (k := 5) rfl (by first | rfl | exact nI_add _ _ | decide) (by decide) rfl (fun ls hl => ?_)
              have hl : lv_has ls 6 [(0, .ref mo), (1, .int (nI pi)), (2, .int (nI ni)), (3, .int (nI (tn (μ 2 pi)))), (4, .int 0), (5, .int (nI (q0 + 1)))] := lv_sub hl [1, 2, 3, 4, 5, 0] rfl
              refine lv_goto (tgt := 55) hx hb dX5_isAtHome_115 (by decide) ?_
              have q9 : ((bI (mAtHR μ pi ni (q0 + 1))) : Int32) = 0 := by simp [mAtHR, bI, c1, c4, c6, c8]
              exact ih (q0 + 1) (by omega) (by omega) (hh4) _ _ hP hD hS ls (by rw [q9]; exact lv_sub hl [0, 1, 2, 3, 4, 5] rfl)
            · have c8 := r8
              refine lv_iconst (v := 1) hx hb dX5_isAtHome_105 (by decide) ?_
              refine lv_goto (tgt := 110) hx hb dX5_isAtHome_106 (by decide) ?_
              refine lv_istore (lv' := [(4, .int 1), (0, .ref mo), (1, .int (nI pi)), (2, .int (nI ni)), (3, .int (nI (tn (μ 2 pi)))), (5, .int (nI q0))]) hx hb dX5_isAtHome_110 hl (by decide) rfl (fun ls hl => ?_)
              have hl : lv_has ls 6 [(0, .ref mo), (1, .int (nI pi)), (2, .int (nI ni)), (3, .int (nI (tn (μ 2 pi)))), (4, .int 1), (5, .int (nI q0))] := lv_sub hl [1, 2, 3, 4, 0, 5] rfl
              refine lv_iinc (v := (nI (q0 + 1))) (lv' := [(5, .int (nI (q0 + 1))), (0, .ref mo), (1, .int (nI pi)), (2, .int (nI ni)), (3, .int (nI (tn (μ 2 pi)))), (4, .int 1)]) hx hb dX5_isAtHome_112 hl (k := 5) rfl (by first | rfl | exact nI_add _ _ | decide) (by decide) rfl (fun ls hl => ?_)
              have hl : lv_has ls 6 [(0, .ref mo), (1, .int (nI pi)), (2, .int (nI ni)), (3, .int (nI (tn (μ 2 pi)))), (4, .int 1), (5, .int (nI (q0 + 1)))] := lv_sub hl [1, 2, 3, 4, 5, 0] rfl
              refine lv_goto (tgt := 55) hx hb dX5_isAtHome_115 (by decide) ?_
              have q10 : ((bI (mAtHR μ pi ni (q0 + 1))) : Int32) = 1 := by simp [mAtHR, bI, c1, c4, c6, c8]
              exact ih (q0 + 1) (by omega) (by omega) (hh4) _ _ hP hD hS ls (by rw [q10]; exact lv_sub hl [0, 1, 2, 3, 4, 5] rfl)
  refine lv_aload_n hx hb dX5_isAtHome_0 rfl (lv_at hl 0 rfl) ?_
  refine va_get (D := D) (ci := 6) (v := .ref (ad 2)) (C := RX5) (T := TX5) (N := 26) hx hb hts hin_RX5 hown hE.1 hP 0 rfl rfl 2 (by decide) (hts (.fieldLink RX5 7 "VillagepostModel" "home" "[I") (by decide +kernel)) (fun _ h9 => h9) rfl dX5_isAtHome_1 ?_
  refine lv_iload_n hx hb dX5_isAtHome_4 rfl (lv_at hl 1 rfl) ?_
  refine vg_iald hx hb hE.1 hP 1 0 rfl rfl (f := μ 2) (j := pi) (by omega) (by decide) dX5_isAtHome_5 ?_
  obtain ⟨hN11, hM11⟩ := hho pi (by omega)
  refine vg_tp (nI (tn ((μ 2) pi))) hN11 ?_
  refine lv_istore_n (lv' := [(3, .int (nI (tn ((μ 2) pi)))), (0, .ref mo), (1, .int (nI pi)), (2, .int (nI ni))]) hx hb dX5_isAtHome_6 rfl hl (by decide) rfl (fun ls hl => ?_)
  have hl : lv_has ls 6 [(0, .ref mo), (1, .int (nI pi)), (2, .int (nI ni)), (3, .int (nI (tn ((μ 2) pi))))] := lv_sub hl [1, 2, 3, 0] rfl
  refine lv_aload_n hx hb dX5_isAtHome_7 rfl (lv_at hl 0 rfl) ?_
  refine va_get (D := D) (ci := 6) (v := .ref (ad 12)) (C := RX5) (T := TX5) (N := 26) hx hb hts hin_RX5 hown hE.1 hP 0 rfl rfl 12 (by decide) (hts (.fieldLink RX5 38 "VillagepostModel" "author" "[I") (by decide +kernel)) (fun _ h9 => h9) rfl dX5_isAtHome_8 ?_
  refine lv_iload_n hx hb dX5_isAtHome_11 rfl (lv_at hl 2 rfl) ?_
  refine vg_iald hx hb hE.1 hP 10 0 rfl rfl (f := μ 12) (j := ni) (by omega) (by decide) dX5_isAtHome_12 ?_
  obtain ⟨hN12, hM12⟩ := hau ni (by omega)
  refine vg_tp (nI (tn ((μ 12) ni))) hN12 ?_
  refine lv_iload_n hx hb dX5_isAtHome_13 rfl (lv_at hl 1 rfl) ?_
  refine lv_icmp_eq (tgt := 45) hx hb dX5_isAtHome_14 (by decide) (fun r13 => ?_) (fun r13 => ?_)
  · have c13 : tn ((μ 12) ni) = pi := (nI_eq (a := tn ((μ 12) ni)) (b := pi) (by omega) (by omega)).mp r13
    refine lv_iconst (v := 1) hx hb dX5_isAtHome_45 (by decide) ?_
    refine lv_goto (tgt := 50) hx hb dX5_isAtHome_46 (by decide) ?_
    refine lv_istore (lv' := [(4, .int 1), (0, .ref mo), (1, .int (nI pi)), (2, .int (nI ni)), (3, .int (nI (tn ((μ 2) pi))))]) hx hb dX5_isAtHome_50 hl (by decide) rfl (fun ls hl => ?_)
    have hl : lv_has ls 6 [(0, .ref mo), (1, .int (nI pi)), (2, .int (nI ni)), (3, .int (nI (tn ((μ 2) pi)))), (4, .int 1)] := lv_sub hl [1, 2, 3, 4, 0] rfl
    refine lv_iconst (v := 0) hx hb dX5_isAtHome_52 (by decide) ?_
    refine lv_istore (lv' := [(5, .int 0), (0, .ref mo), (1, .int (nI pi)), (2, .int (nI ni)), (3, .int (nI (tn ((μ 2) pi)))), (4, .int 1)]) hx hb dX5_isAtHome_53 hl (by decide) rfl (fun ls hl => ?_)
    have hl : lv_has ls 6 [(0, .ref mo), (1, .int (nI pi)), (2, .int (nI ni)), (3, .int (nI (tn ((μ 2) pi)))), (4, .int 1), (5, .int 0)] := lv_sub hl [1, 2, 3, 4, 5, 0] rfl
    have q14 : ((bI (mAtHR μ pi ni 0)) : Int32) = 1 := by simp [mAtHR, bI, eq_true c13]
    have q15 : ((nI 0) : Int32) = 0 := by first | rfl | simp [eq_true c13]
    exact L55 ((tn (μ 1 0) - 0) + 1) 0 (by omega) (by omega) ((hho pi hp).2) _ _ hP hD hS ls (by rw [q14, q15]; exact lv_sub hl [0, 1, 2, 3, 4, 5] rfl)
  · have c13 : ¬ tn ((μ 12) ni) = pi := fun q => r13 ((nI_eq (a := tn ((μ 12) ni)) (b := pi) (by omega) (by omega)).mpr q)
    refine lv_aload_n hx hb dX5_isAtHome_17 rfl (lv_at hl 0 rfl) ?_
    refine lv_iload_n hx hb dX5_isAtHome_18 rfl (lv_at hl 2 rfl) ?_
    refine lv_iload_n hx hb dX5_isAtHome_19 rfl (lv_at hl 1 rfl) ?_
    refine vg_calliW (va_runV (As := [.int (nI ni), .int (nI pi)]) (rest := []) ⟨hx, hb, hml, hown, hts⟩ (kX5_isNamed l D cy s.heap.size mo ad μ ni pi (by omega)) (cwV 2 hts gX5_isAtHome_X5_isNamed rfl rfl rfl (by decide +kernel) ⟨Nat.le_of_ble_eq_true rfl, Nat.le_of_ble_eq_true rfl⟩) (vg_P.preV hE hP 0 rfl rfl hP hD) rfl rfl hl.1 rfl (lv_room (Nat.le_of_ble_eq_true rfl)) dX5_isAtHome_20 ⟨Nat.le_of_ble_eq_true rfl, Nat.le_of_ble_eq_true rfl⟩) hP hD hS hA (fun r _ H locs hr hP hD hS => ?_)
    subst hr
    refine lv_if_ne (tgt := 45) hx hb dX5_isAtHome_23 (by decide) (fun r16 => ?_) (fun r16 => ?_)
    · have c16 : (mNam μ ni pi) = true := bI_n0.mp r16
      refine lv_iconst (v := 1) hx hb dX5_isAtHome_45 (by decide) ?_
      refine lv_goto (tgt := 50) hx hb dX5_isAtHome_46 (by decide) ?_
      refine lv_istore (lv' := [(4, .int 1), (0, .ref mo), (1, .int (nI pi)), (2, .int (nI ni)), (3, .int (nI (tn ((μ 2) pi))))]) hx hb dX5_isAtHome_50 hl (by decide) rfl (fun ls hl => ?_)
      have hl : lv_has ls 6 [(0, .ref mo), (1, .int (nI pi)), (2, .int (nI ni)), (3, .int (nI (tn ((μ 2) pi)))), (4, .int 1)] := lv_sub hl [1, 2, 3, 4, 0] rfl
      refine lv_iconst (v := 0) hx hb dX5_isAtHome_52 (by decide) ?_
      refine lv_istore (lv' := [(5, .int 0), (0, .ref mo), (1, .int (nI pi)), (2, .int (nI ni)), (3, .int (nI (tn ((μ 2) pi)))), (4, .int 1)]) hx hb dX5_isAtHome_53 hl (by decide) rfl (fun ls hl => ?_)
      have hl : lv_has ls 6 [(0, .ref mo), (1, .int (nI pi)), (2, .int (nI ni)), (3, .int (nI (tn ((μ 2) pi)))), (4, .int 1), (5, .int 0)] := lv_sub hl [1, 2, 3, 4, 5, 0] rfl
      have q17 : ((bI (mAtHR μ pi ni 0)) : Int32) = 1 := by simp [mAtHR, bI, c13, c16]
      have q18 : ((nI 0) : Int32) = 0 := by first | rfl | simp [c13, c16]
      exact L55 ((tn (μ 1 0) - 0) + 1) 0 (by omega) (by omega) ((hho pi hp).2) _ _ hP hD hS ls (by rw [q17, q18]; exact lv_sub hl [0, 1, 2, 3, 4, 5] rfl)
    · have c16 : (mNam μ ni pi) = false := bI_0.mp r16
      refine lv_aload_n hx hb dX5_isAtHome_26 rfl (lv_at hl 0 rfl) ?_
      refine va_get (D := D) (ci := 6) (v := .ref (ad 4)) (C := RX5) (T := TX5) (N := 26) hx hb hts hin_RX5 hown hE.1 hP 0 rfl rfl 4 (by decide) (hts (.fieldLink RX5 17 "VillagepostModel" "follows" "[Z") (by decide +kernel)) (fun _ h9 => h9) rfl dX5_isAtHome_27 ?_
      refine lv_iload_n hx hb dX5_isAtHome_30 rfl (lv_at hl 3 rfl) ?_
      refine lv_iload_n hx hb dX5_isAtHome_31 rfl (lv_at hl 1 rfl) ?_
      refine lv_aload_n hx hb dX5_isAtHome_32 rfl (lv_at hl 0 rfl) ?_
      refine va_get (D := D) (ci := 6) (v := .ref (ad 12)) (C := RX5) (T := TX5) (N := 26) hx hb hts hin_RX5 hown hE.1 hP 0 rfl rfl 12 (by decide) (hts (.fieldLink RX5 38 "VillagepostModel" "author" "[I") (by decide +kernel)) (fun _ h9 => h9) rfl dX5_isAtHome_33 ?_
      refine lv_iload_n hx hb dX5_isAtHome_36 rfl (lv_at hl 2 rfl) ?_
      refine vg_iald hx hb hE.1 hP 10 0 rfl rfl (f := μ 12) (j := ni) (by omega) (by decide) dX5_isAtHome_37 ?_
      obtain ⟨hN19, hM19⟩ := hau ni (by omega)
      refine vg_tp (nI (tn ((μ 12) ni))) hN19 ?_
      refine vg_calliP (va_runS (As := [.int (nI (tn ((μ 2) pi))), .int (nI pi), .int (nI (tn ((μ 12) ni)))]) (rest := [.ref (ad 4)]) ⟨hx, hb, hml, hown, hts⟩ (kX5_at l D cy H.size (tn ((μ 2) pi)) pi (tn ((μ 12) ni))) (va_cwS 3 hts gX5_isAtHome_X5_at rfl rfl rfl (by decide +kernel) ⟨Nat.le_of_ble_eq_true rfl, Nat.le_of_ble_eq_true rfl⟩) (vg_P.preS hE vg_P0 (A := fun _ => True) vg_D0) rfl rfl hl.1 rfl (lv_room (Nat.le_of_ble_eq_true rfl)) dX5_isAtHome_38 ⟨Nat.le_of_ble_eq_true rfl, Nat.le_of_ble_eq_true rfl⟩) hP hD hS hA (fun r _ H locs hr hP hD hS => ?_)
      subst hr
      refine vg_zald hx hb hE.1 hP 3 2 rfl rfl (f := μ 4) (j := (100 * (tn ((μ 2) pi)) + 10 * pi + (tn ((μ 12) ni)))) (by omega) (by decide) dX5_isAtHome_41 ?_
      refine lv_if_eq (tgt := 49) hx hb dX5_isAtHome_42 (by decide) (fun r20 => ?_) (fun r20 => ?_)
      · have c20 := r20
        refine lv_iconst (v := 0) hx hb dX5_isAtHome_49 (by decide) ?_
        refine lv_istore (lv' := [(4, .int 0), (0, .ref mo), (1, .int (nI pi)), (2, .int (nI ni)), (3, .int (nI (tn ((μ 2) pi))))]) hx hb dX5_isAtHome_50 hl (by decide) rfl (fun ls hl => ?_)
        have hl : lv_has ls 6 [(0, .ref mo), (1, .int (nI pi)), (2, .int (nI ni)), (3, .int (nI (tn ((μ 2) pi)))), (4, .int 0)] := lv_sub hl [1, 2, 3, 4, 0] rfl
        refine lv_iconst (v := 0) hx hb dX5_isAtHome_52 (by decide) ?_
        refine lv_istore (lv' := [(5, .int 0), (0, .ref mo), (1, .int (nI pi)), (2, .int (nI ni)), (3, .int (nI (tn ((μ 2) pi)))), (4, .int 0)]) hx hb dX5_isAtHome_53 hl (by decide) rfl (fun ls hl => ?_)
        have hl : lv_has ls 6 [(0, .ref mo), (1, .int (nI pi)), (2, .int (nI ni)), (3, .int (nI (tn ((μ 2) pi)))), (4, .int 0), (5, .int 0)] := lv_sub hl [1, 2, 3, 4, 5, 0] rfl
        have q21 : ((bI (mAtHR μ pi ni 0)) : Int32) = 0 := by simp [mAtHR, bI, c13, c16, c20]
        have q22 : ((nI 0) : Int32) = 0 := by first | rfl | simp [c13, c16, c20]
        exact L55 ((tn (μ 1 0) - 0) + 1) 0 (by omega) (by omega) ((hho pi hp).2) _ _ hP hD hS ls (by rw [q21, q22]; exact lv_sub hl [0, 1, 2, 3, 4, 5] rfl)
      · have c20 := r20
        refine lv_iconst (v := 1) hx hb dX5_isAtHome_45 (by decide) ?_
        refine lv_goto (tgt := 50) hx hb dX5_isAtHome_46 (by decide) ?_
        refine lv_istore (lv' := [(4, .int 1), (0, .ref mo), (1, .int (nI pi)), (2, .int (nI ni)), (3, .int (nI (tn ((μ 2) pi))))]) hx hb dX5_isAtHome_50 hl (by decide) rfl (fun ls hl => ?_)
        have hl : lv_has ls 6 [(0, .ref mo), (1, .int (nI pi)), (2, .int (nI ni)), (3, .int (nI (tn ((μ 2) pi)))), (4, .int 1)] := lv_sub hl [1, 2, 3, 4, 0] rfl
        refine lv_iconst (v := 0) hx hb dX5_isAtHome_52 (by decide) ?_
        refine lv_istore (lv' := [(5, .int 0), (0, .ref mo), (1, .int (nI pi)), (2, .int (nI ni)), (3, .int (nI (tn ((μ 2) pi)))), (4, .int 1)]) hx hb dX5_isAtHome_53 hl (by decide) rfl (fun ls hl => ?_)
        have hl : lv_has ls 6 [(0, .ref mo), (1, .int (nI pi)), (2, .int (nI ni)), (3, .int (nI (tn ((μ 2) pi)))), (4, .int 1), (5, .int 0)] := lv_sub hl [1, 2, 3, 4, 5, 0] rfl
        have q23 : ((bI (mAtHR μ pi ni 0)) : Int32) = 1 := by simp [mAtHR, bI, c13, c16, c20]
        have q24 : ((nI 0) : Int32) = 0 := by first | rfl | simp [c13, c16, c20]
        exact L55 ((tn (μ 1 0) - 0) + 1) 0 (by omega) (by omega) ((hho pi hp).2) _ _ hP hD hS ls (by rw [q23, q24]; exact lv_sub hl [0, 1, 2, 3, 4, 5] rfl)

set_option maxHeartbeats 4000000 in
set_option maxRecDepth 100000 in
theorem kX5_home (l : Launch) (D : va_G) (cy : Nat → ClassId) (sz : Nat) (mo : Nat) (ad : Nat → Nat) (μ : Nat → Nat → Int32) (p0 : Int32) (w0 : Int32) (hw : mWF μ) (hpo : isN (μ 11 0) 51) : Met l yX5_home wsX5_home ({ frames := 4, cells := 0, slots := 0, locals := 95 }) (vg_P D cy [.ref mo, .int p0, .int w0] sz (Mw cy mo ad μ)) (vg_Qi (S := Unit) D sz (Mw cy mo ad μ) (fun r _ => r = (mHomR μ p0 w0)) (fun _ => Mw cy mo ad (va_up μ 0 (fun _ => mHomT μ p0 w0)))) 0 0 (va_A (Mw cy mo ad μ) sz) := by
  refine Met.ofW (cc := cX5_home) (maxL := 5) (ret := (some .int)) (by decide) rfl ?_
  intro p e s m args below meth c s₁ BB hml hv
  obtain ⟨rfl, hsz, hP, hE, hD0⟩ := hv
  have hx := BB.exec
  have hb := BB.bytes
  have hr := BB.returns
  have hts := atoms_spec (ws := wsX5_home) BB.pre
  have hown : s.vm.findClass RX5 = some m.cls := findClass_of_methodNamed BB.named
  have hlocks := BB.notSynchronized
  subst hsz
  have hD := hD0.self (sz := s.heap.size)
  have hA : ∀ q : Nat, s.heap.size ≤ q → (va_A (Mw cy mo ad μ) s.heap.size) q := fun q h => Or.inr h
  have hS : va_S (va_A (Mw cy mo ad μ) s.heap.size) s.heap s.heap [] := va_S.rf
  have hin_RX5 : ∀ w ∈ u_ws RX5 TX5 26, w ∈ wsX5_home := by decide +kernel
  have hl := lv_entry ([.ref mo, .int p0, .int w0]) (n := 5) (Nat.le_of_ble_eq_true rfl)
  rw [lg_entry_eq]
  generalize (lg_sl ([.ref mo, .int p0, .int w0]) ++ List.replicate (5 - (lg_sl ([.ref mo, .int p0, .int w0])).length) Slot.unset).toArray = ls at hl ⊢
  have hl : lv_has ls 5 [(0, .ref mo), (1, .int p0), (2, .int w0)] := hl
  obtain ⟨hpe, hho, hau, hre, hac⟩ := hw
  have hpe2 := hpe.2
  have hpo2 := hpo.2
  have L40 : ∀ (fuel : Nat) (k0 : Nat) (x0 : Int32), k0 < fuel → (k0 ≤ 50) → (isN p0 10) → (mHomT μ p0 w0 = 0) → (mHomF μ (tn p0) (tn (μ 11 0)) w0 = mHomF μ (tn p0) k0 x0) → ∀ (H : Heap) (locs : List Loc), va_P D vwCl (Mw cy mo ad (va_up μ 0 (fun _ => 0))) H → va_D (va_A (Mw cy mo ad μ) s.heap.size) (Mw cy mo ad (va_up μ 0 (fun _ => 0))) → va_S (va_A (Mw cy mo ad μ) s.heap.size) s.heap H locs → ∀ ls : Array Slot, lv_has ls 5 [(0, .ref mo), (1, .int p0), (3, .int x0), (4, .int (nI k0 - 1))] → W p l e (headSpec wsX5_home ({ frames := 4, cells := 0, slots := 0, locals := 95 })).room s m ([.ref mo, .int p0, .int w0] : List Value).toArray below meth c H locs 0 0 (MQ below (vg_Qi (S := Unit) D s.heap.size (Mw cy mo ad μ) (fun r _ => r = (mHomR μ p0 w0)) (fun _ => Mw cy mo ad (va_up μ 0 (fun _ => mHomT μ p0 w0)))) ([.ref mo, .int p0, .int w0] : List Value).toArray s 0 0 (va_A (Mw cy mo ad μ) s.heap.size)) (F0 m 40 ls []) := by
    intro fuel
    induction fuel with
    | zero => intros; omega
    | succ fuel ih =>
      intro k0 x0 hfuel hi hp0 hT hF H locs hP hD hS ls hl
      have hp02 := hp0.2
      rcases Nat.eq_zero_or_pos k0 with hk | hk
      · have e0 : (nI k0 - 1 : Int32) = -1 := by rw [hk]; decide
        have hl : lv_has ls 5 [(0, .ref mo), (1, .int p0), (3, .int x0), (4, .int (-1))] := by rw [← e0]; exact hl
        refine lv_iload hx hb dX5_home_40 (lv_at hl 3 rfl) ?_
        refine lv_if_lt (tgt := 71) hx hb dX5_home_42 (by decide) (fun _ => ?_) (fun c9 => False.elim (by revert c9; decide))
        refine lv_iconst (v := (-1)) hx hb dX5_home_71 (by decide) ?_
        have eW : va_up μ 0 (fun _ => 0) = va_up μ 0 (fun _ => mHomT μ p0 w0) := by simp [hT]
        have hP : va_P D vwCl (Mw cy mo ad (va_up μ 0 (fun _ => mHomT μ p0 w0))) H := by rw [← eW]; exact hP
        have hD : va_D (va_A (Mw cy mo ad μ) s.heap.size) (Mw cy mo ad (va_up μ 0 (fun _ => mHomT μ p0 w0))) := by rw [← eW]; exact hD
        refine vg_tp (mHomR μ p0 w0) (by first | (simp [mHomR, hT, hF, hk, mHomF, ]; done) | (simp [mHomR, hT, hF, mHomF, ]; done)) ?_
        exact W.iret (v := (mHomR μ p0 w0)) hx hb hr (fun t ht hW => ⟨⟨(mHomR μ p0 w0), (), rfl, rfl, (by rw [ht]; exact hP), hD⟩, hS.F ht⟩) hS.2.2 dX5_home_72
      · obtain ⟨j0, rfl⟩ : ∃ j0, k0 = j0 + 1 := ⟨k0 - 1, by omega⟩
        have e0 : (nI (j0 + 1) - 1 : Int32) = nI j0 := nI_pred j0
        have hl : lv_has ls 5 [(0, .ref mo), (1, .int p0), (3, .int x0), (4, .int (nI j0))] := by rw [← e0]; exact hl
        refine lv_iload hx hb dX5_home_40 (lv_at hl 3 rfl) ?_
        refine lv_if_lt (tgt := 71) hx hb dX5_home_42 (by decide) (fun c9 => absurd c9 (nI_pos (by omega))) (fun _ => ?_)
        refine lv_aload_n hx hb dX5_home_45 rfl (lv_at hl 0 rfl) ?_
        refine lv_iload_n hx hb dX5_home_46 rfl (lv_at hl 1 rfl) ?_
        refine vg_tp (nI (tn p0)) hp0.1 ?_
        refine lv_iload hx hb dX5_home_47 (lv_at hl 3 rfl) ?_
        refine vg_calliW (va_runV (As := [.int (nI (tn p0)), .int (nI j0)]) (rest := []) ⟨hx, hb, hml, hown, hts⟩ (kX5_isAtHome l D cy H.size mo ad (va_up μ 0 (fun _ => 0)) (tn p0) j0 (⟨hpe, hho, hau, hre, hac⟩) (by omega) (by omega)) (cwV 2 hts gX5_home_X5_isAtHome rfl rfl rfl (by decide +kernel) ⟨Nat.le_of_ble_eq_true rfl, Nat.le_of_ble_eq_true rfl⟩) (vg_P.preV hE hP 0 rfl rfl hP hD) rfl rfl hl.1 rfl (lv_room (Nat.le_of_ble_eq_true rfl)) dX5_home_49 ⟨Nat.le_of_ble_eq_true rfl, Nat.le_of_ble_eq_true rfl⟩) hP hD hS hA (fun r _ H locs hr hP hD hS => ?_)
        subst hr
        refine vg_tp (bI (mAtH μ (tn p0) j0)) (by rw [mAtH_up]) ?_
        refine lv_if_eq (tgt := 65) hx hb dX5_home_52 (by decide) (fun r3 => ?_) (fun r3 => ?_)
        · have c3 : (mAtH μ (tn p0) j0) = false := bI_0.mp r3
          refine lv_iinc (v := ((nI j0) + Int32.ofInt (-1))) (lv' := [(4, .int ((nI j0) + Int32.ofInt (-1))), (0, .ref mo), (1, .int p0), (3, .int x0)]) hx hb dX5_home_65 hl (k := 3) rfl (rfl) (by decide) rfl (fun ls hl => ?_)
          have hl : lv_has ls 5 [(0, .ref mo), (1, .int p0), (3, .int x0), (4, .int ((nI j0) + Int32.ofInt (-1)))] := lv_sub hl [1, 2, 3, 0] rfl
          refine lv_goto (tgt := 40) hx hb dX5_home_68 (by decide) ?_
          have q4 : ((nI j0 - 1) : Int32) = ((nI j0) + Int32.ofInt (-1)) := by exact sub1 _
          exact ih j0 x0 (by omega) (by omega) (hp0) (hT) (by rw [hF]; simp [mHomF, c3]) _ _ hP hD hS ls (by rw [q4]; exact lv_sub hl [0, 1, 2, 3] rfl)
        · have c3 : (mAtH μ (tn p0) j0) = true := bI_n0.mp r3
          refine lv_iload_n hx hb dX5_home_55 rfl (lv_at hl 2 rfl) ?_
          refine lv_if_ne (tgt := 62) hx hb dX5_home_56 (by decide) (fun r5 => ?_) (fun r5 => ?_)
          · have c5 := r5
            refine lv_iinc (v := (x0 + Int32.ofInt (-1))) (lv' := [(3, .int (x0 + Int32.ofInt (-1))), (0, .ref mo), (1, .int p0), (4, .int (nI j0))]) hx hb dX5_home_62 hl (k := 2) rfl (rfl) (by decide) rfl (fun ls hl => ?_)
            have hl : lv_has ls 5 [(0, .ref mo), (1, .int p0), (3, .int (x0 + Int32.ofInt (-1))), (4, .int (nI j0))] := lv_sub hl [1, 2, 0, 3] rfl
            refine lv_iinc (v := ((nI j0) + Int32.ofInt (-1))) (lv' := [(4, .int ((nI j0) + Int32.ofInt (-1))), (0, .ref mo), (1, .int p0), (3, .int (x0 + Int32.ofInt (-1)))]) hx hb dX5_home_65 hl (k := 3) rfl (rfl) (by decide) rfl (fun ls hl => ?_)
            have hl : lv_has ls 5 [(0, .ref mo), (1, .int p0), (3, .int (x0 + Int32.ofInt (-1))), (4, .int ((nI j0) + Int32.ofInt (-1)))] := lv_sub hl [1, 2, 3, 0] rfl
            refine lv_goto (tgt := 40) hx hb dX5_home_68 (by decide) ?_
            have q6 : ((nI j0 - 1) : Int32) = ((nI j0) + Int32.ofInt (-1)) := by exact sub1 _
            exact ih j0 (x0 + Int32.ofInt (-1)) (by omega) (by omega) (hp0) (hT) (by rw [hF]; simp [mHomF, c3, c5]) _ _ hP hD hS ls (by rw [q6]; exact lv_sub hl [0, 1, 2, 3] rfl)
          · have c5 := r5
            refine lv_iload hx hb dX5_home_59 (lv_at hl 3 rfl) ?_
            have eW : va_up μ 0 (fun _ => 0) = va_up μ 0 (fun _ => mHomT μ p0 w0) := by simp [hT]
            have hP : va_P D vwCl (Mw cy mo ad (va_up μ 0 (fun _ => mHomT μ p0 w0))) H := by rw [← eW]; exact hP
            have hD : va_D (va_A (Mw cy mo ad μ) s.heap.size) (Mw cy mo ad (va_up μ 0 (fun _ => mHomT μ p0 w0))) := by rw [← eW]; exact hD
            refine vg_tp (mHomR μ p0 w0) (by first | (simp [mHomR, hT, hF, hk, mHomF, c3, c5]; done) | (simp [mHomR, hT, hF, mHomF, c3, c5]; done)) ?_
            exact W.iret (v := (mHomR μ p0 w0)) hx hb hr (fun t ht hW => ⟨⟨(mHomR μ p0 w0), (), rfl, rfl, (by rw [ht]; exact hP), hD⟩, hS.F ht⟩) hS.2.2 dX5_home_61
  refine lv_aload_n hx hb dX5_home_0 rfl (lv_at hl 0 rfl) ?_
  refine lv_aload_n hx hb dX5_home_1 rfl (lv_at hl 0 rfl) ?_
  refine lv_iload_n hx hb dX5_home_2 rfl (lv_at hl 1 rfl) ?_
  refine vg_calliW (va_runV (As := [.int p0]) (rest := [.ref mo]) ⟨hx, hb, hml, hown, hts⟩ (kX5_isOne l D cy s.heap.size mo ad μ p0 ) (cwV 1 hts gX5_home_X5_isOne rfl rfl rfl (by decide +kernel) ⟨Nat.le_of_ble_eq_true rfl, Nat.le_of_ble_eq_true rfl⟩) (vg_P.preV hE hP 0 rfl rfl hP hD) rfl rfl hl.1 rfl (lv_room (Nat.le_of_ble_eq_true rfl)) dX5_home_3 ⟨Nat.le_of_ble_eq_true rfl, Nat.le_of_ble_eq_true rfl⟩) hP hD hS hA (fun r _ H locs hr hP hD hS => ?_)
  subst hr
  refine lv_if_eq (tgt := 17) hx hb dX5_home_6 (by decide) (fun r7 => ?_) (fun r7 => ?_)
  · have c7 : (mIn p0 0 (μ 1 0 - 1)) = false := bI_0.mp r7
    refine lv_iconst (v := 1) hx hb dX5_home_17 (by decide) ?_
    refine va_put (D := (D)) (ci := 6) (v := .int 1) (ty := .int) (C := RX5) (T := TX5) (N := 26) hx hb hts hin_RX5 tyX5 tyX5_ok nmX5 hown hE.1 hP hD hS 0 rfl rfl 0 (by decide) (hts (.fieldLink RX5 77 "VillagepostModel" "thrown" "I") (by decide +kernel)) (fun _ h9 => h9) rfl (by decide +kernel) rfl rfl (Nat.le_of_ble_eq_true rfl) dX5_home_18 (fun H locs hP hD hS => ?_)
    have hP : va_P D vwCl (Mw cy mo ad (va_up μ 0 (fun _ => 1))) H := hP
    have hD : va_D (va_A (Mw cy mo ad μ) s.heap.size) (Mw cy mo ad (va_up μ 0 (fun _ => 1))) := hD
    refine lv_aload_n hx hb dX5_home_21 rfl (lv_at hl 0 rfl) ?_
    refine va_get (D := D) (ci := 6) (v := .int 1) (C := RX5) (T := TX5) (N := 26) hx hb hts hin_RX5 hown hE.1 hP 0 rfl rfl 0 (by decide) (hts (.fieldLink RX5 77 "VillagepostModel" "thrown" "I") (by decide +kernel)) (fun _ h9 => h9) rfl dX5_home_22 ?_
    refine lv_if_eq (tgt := 30) hx hb dX5_home_25 (by decide) (fun c9 => False.elim (by revert c9; decide)) (fun _ => ?_)
    refine lv_iconst (v := 0) hx hb dX5_home_28 (by decide) ?_
    have eW : va_up μ 0 (fun _ => 1) = va_up μ 0 (fun _ => mHomT μ p0 w0) := by simp [mHomT, c7]
    have hP : va_P D vwCl (Mw cy mo ad (va_up μ 0 (fun _ => mHomT μ p0 w0))) H := by rw [← eW]; exact hP
    have hD : va_D (va_A (Mw cy mo ad μ) s.heap.size) (Mw cy mo ad (va_up μ 0 (fun _ => mHomT μ p0 w0))) := by rw [← eW]; exact hD
    refine vg_tp (mHomR μ p0 w0) (by simp [mHomR, mHomT, c7]) ?_
    exact W.iret (v := (mHomR μ p0 w0)) hx hb hr (fun t ht hW => ⟨⟨(mHomR μ p0 w0), (), rfl, rfl, (by rw [ht]; exact hP), hD⟩, hS.F ht⟩) hS.2.2 dX5_home_29
  · have c7 : (mIn p0 0 (μ 1 0 - 1)) = true := bI_n0.mp r7
    refine lv_iload_n hx hb dX5_home_9 rfl (lv_at hl 2 rfl) ?_
    refine lv_if_lt (tgt := 17) hx hb dX5_home_10 (by decide) (fun r9 => ?_) (fun r9 => ?_)
    · have c9 := r9
      have c9n : ¬ 0 ≤ w0 := Int32.not_le.mpr r9
      refine lv_iconst (v := 1) hx hb dX5_home_17 (by decide) ?_
      refine va_put (D := (D)) (ci := 6) (v := .int 1) (ty := .int) (C := RX5) (T := TX5) (N := 26) hx hb hts hin_RX5 tyX5 tyX5_ok nmX5 hown hE.1 hP hD hS 0 rfl rfl 0 (by decide) (hts (.fieldLink RX5 77 "VillagepostModel" "thrown" "I") (by decide +kernel)) (fun _ h9 => h9) rfl (by decide +kernel) rfl rfl (Nat.le_of_ble_eq_true rfl) dX5_home_18 (fun H locs hP hD hS => ?_)
      have hP : va_P D vwCl (Mw cy mo ad (va_up μ 0 (fun _ => 1))) H := hP
      have hD : va_D (va_A (Mw cy mo ad μ) s.heap.size) (Mw cy mo ad (va_up μ 0 (fun _ => 1))) := hD
      refine lv_aload_n hx hb dX5_home_21 rfl (lv_at hl 0 rfl) ?_
      refine va_get (D := D) (ci := 6) (v := .int 1) (C := RX5) (T := TX5) (N := 26) hx hb hts hin_RX5 hown hE.1 hP 0 rfl rfl 0 (by decide) (hts (.fieldLink RX5 77 "VillagepostModel" "thrown" "I") (by decide +kernel)) (fun _ h9 => h9) rfl dX5_home_22 ?_
      refine lv_if_eq (tgt := 30) hx hb dX5_home_25 (by decide) (fun c9 => False.elim (by revert c9; decide)) (fun _ => ?_)
      refine lv_iconst (v := 0) hx hb dX5_home_28 (by decide) ?_
      have eW : va_up μ 0 (fun _ => 1) = va_up μ 0 (fun _ => mHomT μ p0 w0) := by simp [mHomT, c7, c9n, c9]
      have hP : va_P D vwCl (Mw cy mo ad (va_up μ 0 (fun _ => mHomT μ p0 w0))) H := by rw [← eW]; exact hP
      have hD : va_D (va_A (Mw cy mo ad μ) s.heap.size) (Mw cy mo ad (va_up μ 0 (fun _ => mHomT μ p0 w0))) := by rw [← eW]; exact hD
      refine vg_tp (mHomR μ p0 w0) (by simp [mHomR, mHomT, c7, c9n, c9]) ?_
      exact W.iret (v := (mHomR μ p0 w0)) hx hb hr (fun t ht hW => ⟨⟨(mHomR μ p0 w0), (), rfl, rfl, (by rw [ht]; exact hP), hD⟩, hS.F ht⟩) hS.2.2 dX5_home_29
    · have c9 : 0 ≤ w0 := Int32.not_lt.mp r9
      have c9n := r9
      refine lv_iconst (v := 0) hx hb dX5_home_13 (by decide) ?_
      refine lv_goto (tgt := 18) hx hb dX5_home_14 (by decide) ?_
      refine va_put (D := (D)) (ci := 6) (v := .int 0) (ty := .int) (C := RX5) (T := TX5) (N := 26) hx hb hts hin_RX5 tyX5 tyX5_ok nmX5 hown hE.1 hP hD hS 0 rfl rfl 0 (by decide) (hts (.fieldLink RX5 77 "VillagepostModel" "thrown" "I") (by decide +kernel)) (fun _ h9 => h9) rfl (by decide +kernel) rfl rfl (Nat.le_of_ble_eq_true rfl) dX5_home_18 (fun H locs hP hD hS => ?_)
      have hP : va_P D vwCl (Mw cy mo ad (va_up μ 0 (fun _ => 0))) H := hP
      have hD : va_D (va_A (Mw cy mo ad μ) s.heap.size) (Mw cy mo ad (va_up μ 0 (fun _ => 0))) := hD
      refine lv_aload_n hx hb dX5_home_21 rfl (lv_at hl 0 rfl) ?_
      refine va_get (D := D) (ci := 6) (v := .int 0) (C := RX5) (T := TX5) (N := 26) hx hb hts hin_RX5 hown hE.1 hP 0 rfl rfl 0 (by decide) (hts (.fieldLink RX5 77 "VillagepostModel" "thrown" "I") (by decide +kernel)) (fun _ h9 => h9) rfl dX5_home_22 ?_
      refine lv_if_eq (tgt := 30) hx hb dX5_home_25 (by decide) (fun _ => ?_) (fun c9 => False.elim (by revert c9; decide))
      have hp0 : isN p0 10 := (mIn_n hpe (by omega) c7).1
      have hp02 := hp0.2
      refine lv_iload_n hx hb dX5_home_30 rfl (lv_at hl 2 rfl) ?_
      refine lv_istore_n (lv' := [(3, .int w0), (0, .ref mo), (1, .int p0), (2, .int w0)]) hx hb dX5_home_31 rfl hl (by decide) rfl (fun ls hl => ?_)
      have hl : lv_has ls 5 [(0, .ref mo), (1, .int p0), (2, .int w0), (3, .int w0)] := lv_sub hl [1, 2, 3, 0] rfl
      refine lv_aload_n hx hb dX5_home_32 rfl (lv_at hl 0 rfl) ?_
      refine va_get (D := D) (ci := 6) (v := .int ((μ 11) 0)) (C := RX5) (T := TX5) (N := 26) hx hb hts hin_RX5 hown hE.1 hP 0 rfl rfl 11 (by decide) (hts (.fieldLink RX5 136 "VillagepostModel" "posts" "I") (by decide +kernel)) (fun _ h9 => h9) rfl dX5_home_33 ?_
      refine vg_tp (nI (tn ((μ 11) 0))) hpo.1 ?_
      refine lv_iconst (v := 1) hx hb dX5_home_36 (by decide) ?_
      refine lv_isub hx hb dX5_home_37 ?_
      refine lv_istore (lv' := [(4, .int ((nI (tn ((μ 11) 0))) - 1)), (0, .ref mo), (1, .int p0), (2, .int w0), (3, .int w0)]) hx hb dX5_home_38 hl (by decide) rfl (fun ls hl => ?_)
      have hl : lv_has ls 5 [(0, .ref mo), (1, .int p0), (2, .int w0), (3, .int w0), (4, .int ((nI (tn ((μ 11) 0))) - 1))] := lv_sub hl [1, 2, 3, 4, 0] rfl
      have q12 : ((nI (tn (μ 11 0)) - 1) : Int32) = ((nI (tn ((μ 11) 0))) - 1) := by first | rfl | simp [c7, c9n, c9]
      exact L40 (((tn (μ 11 0))) + 1) (tn (μ 11 0)) w0 (by omega) (by omega) (hp0) (by simp [mHomT, c7, c9n, c9]) (rfl) _ _ hP hD hS ls (by rw [q12]; exact lv_sub hl [0, 1, 3, 4] rfl)

set_option maxHeartbeats 4000000 in
set_option maxRecDepth 100000 in
theorem kX5_post (l : Launch) (D : va_G) (cy : Nat → ClassId) (sz : Nat) (mo : Nat) (ad : Nat → Nat) (μ : Nat → Nat → Int32) (p0 : Int32) (k0 : Int32) (a0 : Int32) (r0 : Int32) (hw : mWF μ) (hla : mLast μ 1199) (hac0 : isN (μ 17 0) 600) (hpo : isN (μ 11 0) 51) : Met l yX5_post wsX5_post ({ frames := 6, cells := 0, slots := 0, locals := 145 }) (vg_P D cy [.ref mo, .int p0, .int k0, .int a0, .int r0] sz (Mw cy mo ad μ)) (vg_Qi (S := Unit) D sz (Mw cy mo ad μ) (fun r _ => r = (mPosR μ p0 k0 a0 r0)) (fun _ => Mw cy mo ad (mPos μ p0 k0 a0 r0))) 0 0 (va_A (Mw cy mo ad μ) sz) := by
  refine Met.ofW (cc := cX5_post) (maxL := 10) (ret := (some .int)) (by decide) rfl ?_
  intro p e s m args below meth c s₁ BB hml hv
  obtain ⟨rfl, hsz, hP, hE, hD0⟩ := hv
  have hx := BB.exec
  have hb := BB.bytes
  have hr := BB.returns
  have hts := atoms_spec (ws := wsX5_post) BB.pre
  have hown : s.vm.findClass RX5 = some m.cls := findClass_of_methodNamed BB.named
  have hlocks := BB.notSynchronized
  subst hsz
  have hD := hD0.self (sz := s.heap.size)
  have hA : ∀ q : Nat, s.heap.size ≤ q → (va_A (Mw cy mo ad μ) s.heap.size) q := fun q h => Or.inr h
  have hS : va_S (va_A (Mw cy mo ad μ) s.heap.size) s.heap s.heap [] := va_S.rf
  have hin_RX5 : ∀ w ∈ u_ws RX5 TX5 26, w ∈ wsX5_post := by decide +kernel
  have hl := lv_entry ([.ref mo, .int p0, .int k0, .int a0, .int r0]) (n := 10) (Nat.le_of_ble_eq_true rfl)
  rw [lg_entry_eq]
  generalize (lg_sl ([.ref mo, .int p0, .int k0, .int a0, .int r0]) ++ List.replicate (10 - (lg_sl ([.ref mo, .int p0, .int k0, .int a0, .int r0])).length) Slot.unset).toArray = ls at hl ⊢
  have hl : lv_has ls 10 [(0, .ref mo), (1, .int p0), (2, .int k0), (3, .int a0), (4, .int r0)] := hl
  obtain ⟨hpe, hho, hau, hre, hac⟩ := hw
  have hpe2 := hpe.2
  have hpo2 := hpo.2
  have L192 : ∀ (fuel : Nat) (q0 : Nat), tn (μ 1 0) - q0 < fuel → (q0 ≤ tn (μ 1 0)) → (isN p0 10) → (tn (μ 11 0) < 50) → (r0 < 0 ∨ (isN r0 50 ∧ tn r0 < tn (μ 11 0))) → (mPosT μ p0 k0 a0 r0 = 0) → ∀ (H : Heap) (locs : List Loc), va_P D vwCl (Mw cy mo ad (va_up (va_up (va_up (va_up (va_up μ 0 (fun _ => 0)) 12 (upd (μ 12) (tn ((μ 11) 0)) (nI (tn p0)))) 13 (upd (μ 13) (tn ((μ 11) 0)) k0)) 14 (upd (μ 14) (tn ((μ 11) 0)) a0)) 15 (upd (μ 15) (tn ((μ 11) 0)) r0))) H → va_D (va_A (Mw cy mo ad μ) s.heap.size) (Mw cy mo ad (va_up (va_up (va_up (va_up (va_up μ 0 (fun _ => 0)) 12 (upd (μ 12) (tn ((μ 11) 0)) (nI (tn p0)))) 13 (upd (μ 13) (tn ((μ 11) 0)) k0)) 14 (upd (μ 14) (tn ((μ 11) 0)) a0)) 15 (upd (μ 15) (tn ((μ 11) 0)) r0))) → va_S (va_A (Mw cy mo ad μ) s.heap.size) s.heap H locs → ∀ ls : Array Slot, lv_has ls 10 [(0, .ref mo), (1, .int p0), (2, .int k0), (3, .int a0), (4, .int r0), (7, .int (nI (tn (μ 11 0)))), (8, .int (mToR μ a0 q0 (if k0 = 2 then 0 else mSrv μ (tn (μ 2 (tn p0))) (tn p0)))), (9, .int (nI q0))] → W p l e (headSpec wsX5_post ({ frames := 6, cells := 0, slots := 0, locals := 145 })).room s m ([.ref mo, .int p0, .int k0, .int a0, .int r0] : List Value).toArray below meth c H locs 0 0 (MQ below (vg_Qi (S := Unit) D s.heap.size (Mw cy mo ad μ) (fun r _ => r = (mPosR μ p0 k0 a0 r0)) (fun _ => Mw cy mo ad (mPos μ p0 k0 a0 r0))) ([.ref mo, .int p0, .int k0, .int a0, .int r0] : List Value).toArray s 0 0 (va_A (Mw cy mo ad μ) s.heap.size)) (F0 m 192 ls []) := by
    intro fuel
    induction fuel with
    | zero => intros; omega
    | succ fuel ih =>
      intro q0 hfuel hi hp0 hn5 hrr hT H locs hP hD hS ls hl
      have hp02 := hp0.2
      refine lv_iload hx hb dX5_post_192 (lv_at hl 7 rfl) ?_
      refine lv_aload_n hx hb dX5_post_194 rfl (lv_at hl 0 rfl) ?_
      refine va_get (D := D) (ci := 6) (v := .int ((μ 1) 0)) (C := RX5) (T := TX5) (N := 26) hx hb hts hin_RX5 hown hE.1 hP 0 rfl rfl 1 (by decide) (hts (.fieldLink RX5 81 "VillagepostModel" "people" "I") (by decide +kernel)) (fun _ h9 => h9) rfl dX5_post_195 ?_
      refine vg_tp (nI (tn ((μ 1) 0))) hpe.1 ?_
      refine lv_icmp_ge (tgt := 235) hx hb dX5_post_198 (by decide) (fun r1 => ?_) (fun r1 => ?_)
      · have c1 : tn ((μ 1) 0) ≤ q0 := (nI_leI (a := tn ((μ 1) 0)) (b := q0) (by omega) (by omega)).mp r1
        have e4 : q0 = tn (μ 1 0) := by omega
        refine lv_iload hx hb dX5_post_235 (lv_at hl 6 rfl) ?_
        refine lv_iload hx hb dX5_post_237 (lv_at hl 4 rfl) ?_
        refine lv_if_lt (tgt := 259) hx hb dX5_post_239 (by decide) (fun r2 => ?_) (fun r2 => ?_)
        · have c2 := r2
          have c2n : ¬ 0 ≤ r0 := Int32.not_le.mpr r2
          refine lv_iconst (v := 0) hx hb dX5_post_259 (by decide) ?_
          refine lv_ior hx hb dX5_post_260 ?_
          refine lv_istore (lv' := [(8, .int ((mToR μ a0 q0 (if k0 = 2 then 0 else mSrv μ (tn (μ 2 (tn p0))) (tn p0))) ||| 0)), (0, .ref mo), (1, .int p0), (2, .int k0), (3, .int a0), (4, .int r0), (7, .int (nI (tn (μ 11 0)))), (9, .int (nI q0))]) hx hb dX5_post_261 hl (by decide) rfl (fun ls hl => ?_)
          have hl : lv_has ls 10 [(0, .ref mo), (1, .int p0), (2, .int k0), (3, .int a0), (4, .int r0), (7, .int (nI (tn (μ 11 0)))), (8, .int ((mToR μ a0 q0 (if k0 = 2 then 0 else mSrv μ (tn (μ 2 (tn p0))) (tn p0))) ||| 0)), (9, .int (nI q0))] := lv_sub hl [1, 2, 3, 4, 5, 6, 0, 7] rfl
          refine lv_aload_n hx hb dX5_post_263 rfl (lv_at hl 0 rfl) ?_
          refine va_get (D := D) (ci := 6) (v := .ref (ad 16)) (C := RX5) (T := TX5) (N := 26) hx hb hts hin_RX5 hown hE.1 hP 0 rfl rfl 16 (by decide) (hts (.fieldLink RX5 50 "VillagepostModel" "went" "[I") (by decide +kernel)) (fun _ h9 => h9) rfl dX5_post_264 ?_
          refine lv_iload hx hb dX5_post_267 (lv_at hl 5 rfl) ?_
          refine lv_iload hx hb dX5_post_269 (lv_at hl 6 rfl) ?_
          refine lv_iconst (v := 1) hx hb dX5_post_271 (by decide) ?_
          refine lv_aload_n hx hb dX5_post_272 rfl (lv_at hl 0 rfl) ?_
          refine va_get (D := D) (ci := 6) (v := .ref (ad 2)) (C := RX5) (T := TX5) (N := 26) hx hb hts hin_RX5 hown hE.1 hP 0 rfl rfl 2 (by decide) (hts (.fieldLink RX5 7 "VillagepostModel" "home" "[I") (by decide +kernel)) (fun _ h9 => h9) rfl dX5_post_273 ?_
          refine lv_iload_n hx hb dX5_post_276 rfl (lv_at hl 1 rfl) ?_
          refine vg_tp (nI (tn p0)) hp0.1 ?_
          refine vg_iald hx hb hE.1 hP 1 0 rfl rfl (f := μ 2) (j := (tn p0)) (by omega) (by decide) dX5_post_277 ?_
          obtain ⟨hN3, hM3⟩ := hho (tn p0) (by omega)
          refine vg_tp (nI (tn ((μ 2) (tn p0)))) hN3 ?_
          refine lv_ishl hx hb dX5_post_278 ?_
          refine lv_iconst (v := (-1)) hx hb dX5_post_279 (by decide) ?_
          refine lv_ixor hx hb dX5_post_280 ?_
          refine lv_iand hx hb dX5_post_281 ?_
          refine vg_iast hx hb hE.1 hP hD hS 14 0 rfl rfl (f := μ 16) (j := (tn (μ 11 0))) (by omega) (by decide) dX5_post_282 (fun H locs hP hD hS => ?_)
          have hP : va_P D vwCl (Mw cy mo ad (va_up (va_up (va_up (va_up (va_up (va_up μ 0 (fun _ => 0)) 12 (upd (μ 12) (tn ((μ 11) 0)) (nI (tn p0)))) 13 (upd (μ 13) (tn ((μ 11) 0)) k0)) 14 (upd (μ 14) (tn ((μ 11) 0)) a0)) 15 (upd (μ 15) (tn ((μ 11) 0)) r0)) 16 (upd (μ 16) (tn (μ 11 0)) (((mToR μ a0 q0 (if k0 = 2 then 0 else mSrv μ (tn (μ 2 (tn p0))) (tn p0))) ||| 0) &&& (((1 : Int32) <<< ((nI (tn ((μ 2) (tn p0)))) &&& 31)) ^^^ (-1)))))) H := hP
          have hD : va_D (va_A (Mw cy mo ad μ) s.heap.size) (Mw cy mo ad (va_up (va_up (va_up (va_up (va_up (va_up μ 0 (fun _ => 0)) 12 (upd (μ 12) (tn ((μ 11) 0)) (nI (tn p0)))) 13 (upd (μ 13) (tn ((μ 11) 0)) k0)) 14 (upd (μ 14) (tn ((μ 11) 0)) a0)) 15 (upd (μ 15) (tn ((μ 11) 0)) r0)) 16 (upd (μ 16) (tn (μ 11 0)) (((mToR μ a0 q0 (if k0 = 2 then 0 else mSrv μ (tn (μ 2 (tn p0))) (tn p0))) ||| 0) &&& (((1 : Int32) <<< ((nI (tn ((μ 2) (tn p0)))) &&& 31)) ^^^ (-1)))))) := hD
          refine lv_aload_n hx hb dX5_post_283 rfl (lv_at hl 0 rfl) ?_
          refine lv_dup hx hb dX5_post_284 rfl ?_
          refine va_get (D := D) (ci := 6) (v := .int ((μ 11) 0)) (C := RX5) (T := TX5) (N := 26) hx hb hts hin_RX5 hown hE.1 hP 0 rfl rfl 11 (by decide) (hts (.fieldLink RX5 136 "VillagepostModel" "posts" "I") (by decide +kernel)) (fun _ h9 => h9) rfl dX5_post_285 ?_
          refine vg_tp (nI (tn ((μ 11) 0))) hpo.1 ?_
          refine lv_iconst (v := 1) hx hb dX5_post_288 (by decide) ?_
          refine lv_iadd hx hb dX5_post_289 ?_
          refine vg_tp (nI (tn ((μ 11) 0) + 1)) (nI_add (tn ((μ 11) 0)) 1) ?_
          refine va_put (D := (D)) (ci := 6) (v := .int (nI (tn ((μ 11) 0) + 1))) (ty := .int) (C := RX5) (T := TX5) (N := 26) hx hb hts hin_RX5 tyX5 tyX5_ok nmX5 hown hE.1 hP hD hS 0 rfl rfl 11 (by decide) (hts (.fieldLink RX5 136 "VillagepostModel" "posts" "I") (by decide +kernel)) (fun _ h9 => h9) rfl (by decide +kernel) rfl rfl (Nat.le_of_ble_eq_true rfl) dX5_post_290 (fun H locs hP hD hS => ?_)
          have hP : va_P D vwCl (Mw cy mo ad (va_up (va_up (va_up (va_up (va_up (va_up (va_up μ 0 (fun _ => 0)) 12 (upd (μ 12) (tn ((μ 11) 0)) (nI (tn p0)))) 13 (upd (μ 13) (tn ((μ 11) 0)) k0)) 14 (upd (μ 14) (tn ((μ 11) 0)) a0)) 15 (upd (μ 15) (tn ((μ 11) 0)) r0)) 16 (upd (μ 16) (tn (μ 11 0)) (((mToR μ a0 q0 (if k0 = 2 then 0 else mSrv μ (tn (μ 2 (tn p0))) (tn p0))) ||| 0) &&& (((1 : Int32) <<< ((nI (tn ((μ 2) (tn p0)))) &&& 31)) ^^^ (-1))))) 11 (fun _ => (nI (tn ((μ 11) 0) + 1))))) H := hP
          have hD : va_D (va_A (Mw cy mo ad μ) s.heap.size) (Mw cy mo ad (va_up (va_up (va_up (va_up (va_up (va_up (va_up μ 0 (fun _ => 0)) 12 (upd (μ 12) (tn ((μ 11) 0)) (nI (tn p0)))) 13 (upd (μ 13) (tn ((μ 11) 0)) k0)) 14 (upd (μ 14) (tn ((μ 11) 0)) a0)) 15 (upd (μ 15) (tn ((μ 11) 0)) r0)) 16 (upd (μ 16) (tn (μ 11 0)) (((mToR μ a0 q0 (if k0 = 2 then 0 else mSrv μ (tn (μ 2 (tn p0))) (tn p0))) ||| 0) &&& (((1 : Int32) <<< ((nI (tn ((μ 2) (tn p0)))) &&& 31)) ^^^ (-1))))) 11 (fun _ => (nI (tn ((μ 11) 0) + 1))))) := hD
          refine lv_aload_n hx hb dX5_post_293 rfl (lv_at hl 0 rfl) ?_
          refine lv_bipush (v := 8) hx hb dX5_post_294 (by decide) ?_
          refine lv_iload_n hx hb dX5_post_296 rfl (lv_at hl 1 rfl) ?_
          refine vg_tp (nI (tn p0)) hp0.1 ?_
          refine lv_iload hx hb dX5_post_297 (lv_at hl 5 rfl) ?_
          refine lv_iconst (v := 0) hx hb dX5_post_299 (by decide) ?_
          refine lv_iload hx hb dX5_post_300 (lv_at hl 6 rfl) ?_
          refine vg_callvW (va_runV (As := [.int (nI 8), .int (nI (tn p0)), .int (nI (tn (μ 11 0))), .int 0, .int ((mToR μ a0 q0 (if k0 = 2 then 0 else mSrv μ (tn (μ 2 (tn p0))) (tn p0))) ||| 0)]) (rest := []) ⟨hx, hb, hml, hown, hts⟩ (kX5_acts l D cy H.size mo ad (va_up (va_up (va_up (va_up (va_up (va_up (va_up μ 0 (fun _ => 0)) 12 (upd (μ 12) (tn ((μ 11) 0)) (nI (tn p0)))) 13 (upd (μ 13) (tn ((μ 11) 0)) k0)) 14 (upd (μ 14) (tn ((μ 11) 0)) a0)) 15 (upd (μ 15) (tn ((μ 11) 0)) r0)) 16 (upd (μ 16) (tn (μ 11 0)) (((mToR μ a0 q0 (if k0 = 2 then 0 else mSrv μ (tn (μ 2 (tn p0))) (tn p0))) ||| 0) &&& (((1 : Int32) <<< ((nI (tn ((μ 2) (tn p0)))) &&& 31)) ^^^ (-1))))) 11 (fun _ => (nI (tn ((μ 11) 0) + 1)))) 8 (tn p0) (tn (μ 11 0)) 0 (((mToR μ a0 q0 (if k0 = 2 then 0 else mSrv μ (tn (μ 2 (tn p0))) (tn p0))) ||| 0)) (mWF_post μ ⟨hpe, hho, hau, hre, hac⟩ hp02 (hrr.imp id And.left)) (hla) (hac0) (by omega) (by omega) (by omega) (fun h => by omega)) (cwV 5 hts gX5_post_X5_acts rfl rfl rfl (by decide +kernel) ⟨Nat.le_of_ble_eq_true rfl, Nat.le_of_ble_eq_true rfl⟩) (vg_P.preV hE hP 0 rfl rfl hP hD) rfl rfl hl.1 rfl (lv_room (Nat.le_of_ble_eq_true rfl)) dX5_post_302 ⟨Nat.le_of_ble_eq_true rfl, Nat.le_of_ble_eq_true rfl⟩) hP hD hS hA (fun _ H locs hrv hP hD hS => ?_)
          have hP : va_P D vwCl (Mw cy mo ad (mAct (va_up (va_up (va_up (va_up (va_up (va_up (va_up μ 0 (fun _ => 0)) 12 (upd (μ 12) (tn ((μ 11) 0)) (nI (tn p0)))) 13 (upd (μ 13) (tn ((μ 11) 0)) k0)) 14 (upd (μ 14) (tn ((μ 11) 0)) a0)) 15 (upd (μ 15) (tn ((μ 11) 0)) r0)) 16 (upd (μ 16) (tn (μ 11 0)) (((mToR μ a0 q0 (if k0 = 2 then 0 else mSrv μ (tn (μ 2 (tn p0))) (tn p0))) ||| 0) &&& (((1 : Int32) <<< ((nI (tn ((μ 2) (tn p0)))) &&& 31)) ^^^ (-1))))) 11 (fun _ => (nI (tn ((μ 11) 0) + 1)))) 8 (tn p0) (tn (μ 11 0)) 0 (((mToR μ a0 q0 (if k0 = 2 then 0 else mSrv μ (tn (μ 2 (tn p0))) (tn p0))) ||| 0)))) H := hP
          have hD : va_D (va_A (Mw cy mo ad μ) s.heap.size) (Mw cy mo ad (mAct (va_up (va_up (va_up (va_up (va_up (va_up (va_up μ 0 (fun _ => 0)) 12 (upd (μ 12) (tn ((μ 11) 0)) (nI (tn p0)))) 13 (upd (μ 13) (tn ((μ 11) 0)) k0)) 14 (upd (μ 14) (tn ((μ 11) 0)) a0)) 15 (upd (μ 15) (tn ((μ 11) 0)) r0)) 16 (upd (μ 16) (tn (μ 11 0)) (((mToR μ a0 q0 (if k0 = 2 then 0 else mSrv μ (tn (μ 2 (tn p0))) (tn p0))) ||| 0) &&& (((1 : Int32) <<< ((nI (tn ((μ 2) (tn p0)))) &&& 31)) ^^^ (-1))))) 11 (fun _ => (nI (tn ((μ 11) 0) + 1)))) 8 (tn p0) (tn (μ 11 0)) 0 (((mToR μ a0 q0 (if k0 = 2 then 0 else mSrv μ (tn (μ 2 (tn p0))) (tn p0))) ||| 0)))) := hD
          refine lv_iload hx hb dX5_post_305 (lv_at hl 5 rfl) ?_
          have eW : mAct (va_up (va_up (va_up (va_up (va_up (va_up (va_up μ 0 (fun _ => 0)) 12 (upd (μ 12) (tn ((μ 11) 0)) (nI (tn p0)))) 13 (upd (μ 13) (tn ((μ 11) 0)) k0)) 14 (upd (μ 14) (tn ((μ 11) 0)) a0)) 15 (upd (μ 15) (tn ((μ 11) 0)) r0)) 16 (upd (μ 16) (tn (μ 11 0)) (((mToR μ a0 q0 (if k0 = 2 then 0 else mSrv μ (tn (μ 2 (tn p0))) (tn p0))) ||| 0) &&& (((1 : Int32) <<< ((nI (tn ((μ 2) (tn p0)))) &&& 31)) ^^^ (-1))))) 11 (fun _ => (nI (tn ((μ 11) 0) + 1)))) 8 (tn p0) (tn (μ 11 0)) 0 (((mToR μ a0 q0 (if k0 = 2 then 0 else mSrv μ (tn (μ 2 (tn p0))) (tn p0))) ||| 0)) = mPos μ p0 k0 a0 r0 := by simp [mPos, mPos0, mTo, mHb, hT, bx_uu, c1, e4, c2n, c2]
          have hP : va_P D vwCl (Mw cy mo ad (mPos μ p0 k0 a0 r0)) H := by rw [← eW]; exact hP
          have hD : va_D (va_A (Mw cy mo ad μ) s.heap.size) (Mw cy mo ad (mPos μ p0 k0 a0 r0)) := by rw [← eW]; exact hD
          refine vg_tp (mPosR μ p0 k0 a0 r0) (by simp [mPosR, hT, c1, e4, c2n, c2]) ?_
          exact W.iret (v := (mPosR μ p0 k0 a0 r0)) hx hb hr (fun t ht hW => ⟨⟨(mPosR μ p0 k0 a0 r0), (), rfl, rfl, (by rw [ht]; exact hP), hD⟩, hS.F ht⟩) hS.2.2 dX5_post_307
        · have c2 : 0 ≤ r0 := Int32.not_lt.mp r2
          have c2n := r2
          have hr1 := hrr.resolve_left r2
          have hr2 := hr1.1.2
          have hr3 := hr1.2
          have hr0 : isN r0 50 := hr1.1
          have hr02 := hr0.2
          refine lv_iconst (v := 1) hx hb dX5_post_242 (by decide) ?_
          refine lv_aload_n hx hb dX5_post_243 rfl (lv_at hl 0 rfl) ?_
          refine va_get (D := D) (ci := 6) (v := .ref (ad 2)) (C := RX5) (T := TX5) (N := 26) hx hb hts hin_RX5 hown hE.1 hP 0 rfl rfl 2 (by decide) (hts (.fieldLink RX5 7 "VillagepostModel" "home" "[I") (by decide +kernel)) (fun _ h9 => h9) rfl dX5_post_244 ?_
          refine lv_aload_n hx hb dX5_post_247 rfl (lv_at hl 0 rfl) ?_
          refine va_get (D := D) (ci := 6) (v := .ref (ad 12)) (C := RX5) (T := TX5) (N := 26) hx hb hts hin_RX5 hown hE.1 hP 0 rfl rfl 12 (by decide) (hts (.fieldLink RX5 38 "VillagepostModel" "author" "[I") (by decide +kernel)) (fun _ h9 => h9) rfl dX5_post_248 ?_
          refine lv_iload hx hb dX5_post_251 (lv_at hl 4 rfl) ?_
          refine vg_tp (nI (tn r0)) hr0.1 ?_
          refine vg_iald hx hb hE.1 hP 10 0 rfl rfl (f := upd (μ 12) (tn ((μ 11) 0)) (nI (tn p0))) (j := (tn r0)) (by omega) (by decide) dX5_post_253 ?_
          have hhr := (hau (tn r0) (by omega)).2
          refine vg_tp (nI (tn (μ 12 (tn r0)))) (by simp only [upd, show ¬ tn r0 = tn (μ 11 0) by omega, if_false]; exact (hau _ (by omega)).1) ?_
          refine vg_iald hx hb hE.1 hP 1 0 rfl rfl (f := μ 2) (j := (tn (μ 12 (tn r0)))) (by omega) (by decide) dX5_post_254 ?_
          obtain ⟨hN4, hM4⟩ := hho (tn (μ 12 (tn r0))) (by omega)
          refine vg_tp (nI (tn ((μ 2) (tn (μ 12 (tn r0)))))) hN4 ?_
          refine lv_ishl hx hb dX5_post_255 ?_
          refine lv_goto (tgt := 260) hx hb dX5_post_256 (by decide) ?_
          refine lv_ior hx hb dX5_post_260 ?_
          refine lv_istore (lv' := [(8, .int ((mToR μ a0 q0 (if k0 = 2 then 0 else mSrv μ (tn (μ 2 (tn p0))) (tn p0))) ||| ((1 : Int32) <<< ((nI (tn ((μ 2) (tn (μ 12 (tn r0)))))) &&& 31)))), (0, .ref mo), (1, .int p0), (2, .int k0), (3, .int a0), (4, .int r0), (7, .int (nI (tn (μ 11 0)))), (9, .int (nI q0))]) hx hb dX5_post_261 hl (by decide) rfl (fun ls hl => ?_)
          have hl : lv_has ls 10 [(0, .ref mo), (1, .int p0), (2, .int k0), (3, .int a0), (4, .int r0), (7, .int (nI (tn (μ 11 0)))), (8, .int ((mToR μ a0 q0 (if k0 = 2 then 0 else mSrv μ (tn (μ 2 (tn p0))) (tn p0))) ||| ((1 : Int32) <<< ((nI (tn ((μ 2) (tn (μ 12 (tn r0)))))) &&& 31)))), (9, .int (nI q0))] := lv_sub hl [1, 2, 3, 4, 5, 6, 0, 7] rfl
          refine lv_aload_n hx hb dX5_post_263 rfl (lv_at hl 0 rfl) ?_
          refine va_get (D := D) (ci := 6) (v := .ref (ad 16)) (C := RX5) (T := TX5) (N := 26) hx hb hts hin_RX5 hown hE.1 hP 0 rfl rfl 16 (by decide) (hts (.fieldLink RX5 50 "VillagepostModel" "went" "[I") (by decide +kernel)) (fun _ h9 => h9) rfl dX5_post_264 ?_
          refine lv_iload hx hb dX5_post_267 (lv_at hl 5 rfl) ?_
          refine lv_iload hx hb dX5_post_269 (lv_at hl 6 rfl) ?_
          refine lv_iconst (v := 1) hx hb dX5_post_271 (by decide) ?_
          refine lv_aload_n hx hb dX5_post_272 rfl (lv_at hl 0 rfl) ?_
          refine va_get (D := D) (ci := 6) (v := .ref (ad 2)) (C := RX5) (T := TX5) (N := 26) hx hb hts hin_RX5 hown hE.1 hP 0 rfl rfl 2 (by decide) (hts (.fieldLink RX5 7 "VillagepostModel" "home" "[I") (by decide +kernel)) (fun _ h9 => h9) rfl dX5_post_273 ?_
          refine lv_iload_n hx hb dX5_post_276 rfl (lv_at hl 1 rfl) ?_
          refine vg_tp (nI (tn p0)) hp0.1 ?_
          refine vg_iald hx hb hE.1 hP 1 0 rfl rfl (f := μ 2) (j := (tn p0)) (by omega) (by decide) dX5_post_277 ?_
          obtain ⟨hN5, hM5⟩ := hho (tn p0) (by omega)
          refine vg_tp (nI (tn ((μ 2) (tn p0)))) hN5 ?_
          refine lv_ishl hx hb dX5_post_278 ?_
          refine lv_iconst (v := (-1)) hx hb dX5_post_279 (by decide) ?_
          refine lv_ixor hx hb dX5_post_280 ?_
          refine lv_iand hx hb dX5_post_281 ?_
          refine vg_iast hx hb hE.1 hP hD hS 14 0 rfl rfl (f := μ 16) (j := (tn (μ 11 0))) (by omega) (by decide) dX5_post_282 (fun H locs hP hD hS => ?_)
          have hP : va_P D vwCl (Mw cy mo ad (va_up (va_up (va_up (va_up (va_up (va_up μ 0 (fun _ => 0)) 12 (upd (μ 12) (tn ((μ 11) 0)) (nI (tn p0)))) 13 (upd (μ 13) (tn ((μ 11) 0)) k0)) 14 (upd (μ 14) (tn ((μ 11) 0)) a0)) 15 (upd (μ 15) (tn ((μ 11) 0)) r0)) 16 (upd (μ 16) (tn (μ 11 0)) (((mToR μ a0 q0 (if k0 = 2 then 0 else mSrv μ (tn (μ 2 (tn p0))) (tn p0))) ||| ((1 : Int32) <<< ((nI (tn ((μ 2) (tn (μ 12 (tn r0)))))) &&& 31))) &&& (((1 : Int32) <<< ((nI (tn ((μ 2) (tn p0)))) &&& 31)) ^^^ (-1)))))) H := hP
          have hD : va_D (va_A (Mw cy mo ad μ) s.heap.size) (Mw cy mo ad (va_up (va_up (va_up (va_up (va_up (va_up μ 0 (fun _ => 0)) 12 (upd (μ 12) (tn ((μ 11) 0)) (nI (tn p0)))) 13 (upd (μ 13) (tn ((μ 11) 0)) k0)) 14 (upd (μ 14) (tn ((μ 11) 0)) a0)) 15 (upd (μ 15) (tn ((μ 11) 0)) r0)) 16 (upd (μ 16) (tn (μ 11 0)) (((mToR μ a0 q0 (if k0 = 2 then 0 else mSrv μ (tn (μ 2 (tn p0))) (tn p0))) ||| ((1 : Int32) <<< ((nI (tn ((μ 2) (tn (μ 12 (tn r0)))))) &&& 31))) &&& (((1 : Int32) <<< ((nI (tn ((μ 2) (tn p0)))) &&& 31)) ^^^ (-1)))))) := hD
          refine lv_aload_n hx hb dX5_post_283 rfl (lv_at hl 0 rfl) ?_
          refine lv_dup hx hb dX5_post_284 rfl ?_
          refine va_get (D := D) (ci := 6) (v := .int ((μ 11) 0)) (C := RX5) (T := TX5) (N := 26) hx hb hts hin_RX5 hown hE.1 hP 0 rfl rfl 11 (by decide) (hts (.fieldLink RX5 136 "VillagepostModel" "posts" "I") (by decide +kernel)) (fun _ h9 => h9) rfl dX5_post_285 ?_
          refine vg_tp (nI (tn ((μ 11) 0))) hpo.1 ?_
          refine lv_iconst (v := 1) hx hb dX5_post_288 (by decide) ?_
          refine lv_iadd hx hb dX5_post_289 ?_
          refine vg_tp (nI (tn ((μ 11) 0) + 1)) (nI_add (tn ((μ 11) 0)) 1) ?_
          refine va_put (D := (D)) (ci := 6) (v := .int (nI (tn ((μ 11) 0) + 1))) (ty := .int) (C := RX5) (T := TX5) (N := 26) hx hb hts hin_RX5 tyX5 tyX5_ok nmX5 hown hE.1 hP hD hS 0 rfl rfl 11 (by decide) (hts (.fieldLink RX5 136 "VillagepostModel" "posts" "I") (by decide +kernel)) (fun _ h9 => h9) rfl (by decide +kernel) rfl rfl (Nat.le_of_ble_eq_true rfl) dX5_post_290 (fun H locs hP hD hS => ?_)
          have hP : va_P D vwCl (Mw cy mo ad (va_up (va_up (va_up (va_up (va_up (va_up (va_up μ 0 (fun _ => 0)) 12 (upd (μ 12) (tn ((μ 11) 0)) (nI (tn p0)))) 13 (upd (μ 13) (tn ((μ 11) 0)) k0)) 14 (upd (μ 14) (tn ((μ 11) 0)) a0)) 15 (upd (μ 15) (tn ((μ 11) 0)) r0)) 16 (upd (μ 16) (tn (μ 11 0)) (((mToR μ a0 q0 (if k0 = 2 then 0 else mSrv μ (tn (μ 2 (tn p0))) (tn p0))) ||| ((1 : Int32) <<< ((nI (tn ((μ 2) (tn (μ 12 (tn r0)))))) &&& 31))) &&& (((1 : Int32) <<< ((nI (tn ((μ 2) (tn p0)))) &&& 31)) ^^^ (-1))))) 11 (fun _ => (nI (tn ((μ 11) 0) + 1))))) H := hP
          have hD : va_D (va_A (Mw cy mo ad μ) s.heap.size) (Mw cy mo ad (va_up (va_up (va_up (va_up (va_up (va_up (va_up μ 0 (fun _ => 0)) 12 (upd (μ 12) (tn ((μ 11) 0)) (nI (tn p0)))) 13 (upd (μ 13) (tn ((μ 11) 0)) k0)) 14 (upd (μ 14) (tn ((μ 11) 0)) a0)) 15 (upd (μ 15) (tn ((μ 11) 0)) r0)) 16 (upd (μ 16) (tn (μ 11 0)) (((mToR μ a0 q0 (if k0 = 2 then 0 else mSrv μ (tn (μ 2 (tn p0))) (tn p0))) ||| ((1 : Int32) <<< ((nI (tn ((μ 2) (tn (μ 12 (tn r0)))))) &&& 31))) &&& (((1 : Int32) <<< ((nI (tn ((μ 2) (tn p0)))) &&& 31)) ^^^ (-1))))) 11 (fun _ => (nI (tn ((μ 11) 0) + 1))))) := hD
          refine lv_aload_n hx hb dX5_post_293 rfl (lv_at hl 0 rfl) ?_
          refine lv_bipush (v := 8) hx hb dX5_post_294 (by decide) ?_
          refine lv_iload_n hx hb dX5_post_296 rfl (lv_at hl 1 rfl) ?_
          refine vg_tp (nI (tn p0)) hp0.1 ?_
          refine lv_iload hx hb dX5_post_297 (lv_at hl 5 rfl) ?_
          refine lv_iconst (v := 0) hx hb dX5_post_299 (by decide) ?_
          refine lv_iload hx hb dX5_post_300 (lv_at hl 6 rfl) ?_
          refine vg_callvW (va_runV (As := [.int (nI 8), .int (nI (tn p0)), .int (nI (tn (μ 11 0))), .int 0, .int ((mToR μ a0 q0 (if k0 = 2 then 0 else mSrv μ (tn (μ 2 (tn p0))) (tn p0))) ||| ((1 : Int32) <<< ((nI (tn ((μ 2) (tn (μ 12 (tn r0)))))) &&& 31)))]) (rest := []) ⟨hx, hb, hml, hown, hts⟩ (kX5_acts l D cy H.size mo ad (va_up (va_up (va_up (va_up (va_up (va_up (va_up μ 0 (fun _ => 0)) 12 (upd (μ 12) (tn ((μ 11) 0)) (nI (tn p0)))) 13 (upd (μ 13) (tn ((μ 11) 0)) k0)) 14 (upd (μ 14) (tn ((μ 11) 0)) a0)) 15 (upd (μ 15) (tn ((μ 11) 0)) r0)) 16 (upd (μ 16) (tn (μ 11 0)) (((mToR μ a0 q0 (if k0 = 2 then 0 else mSrv μ (tn (μ 2 (tn p0))) (tn p0))) ||| ((1 : Int32) <<< ((nI (tn ((μ 2) (tn (μ 12 (tn r0)))))) &&& 31))) &&& (((1 : Int32) <<< ((nI (tn ((μ 2) (tn p0)))) &&& 31)) ^^^ (-1))))) 11 (fun _ => (nI (tn ((μ 11) 0) + 1)))) 8 (tn p0) (tn (μ 11 0)) 0 (((mToR μ a0 q0 (if k0 = 2 then 0 else mSrv μ (tn (μ 2 (tn p0))) (tn p0))) ||| ((1 : Int32) <<< ((nI (tn ((μ 2) (tn (μ 12 (tn r0)))))) &&& 31)))) (mWF_post μ ⟨hpe, hho, hau, hre, hac⟩ hp02 (hrr.imp id And.left)) (hla) (hac0) (by omega) (by omega) (by omega) (fun h => by omega)) (cwV 5 hts gX5_post_X5_acts rfl rfl rfl (by decide +kernel) ⟨Nat.le_of_ble_eq_true rfl, Nat.le_of_ble_eq_true rfl⟩) (vg_P.preV hE hP 0 rfl rfl hP hD) rfl rfl hl.1 rfl (lv_room (Nat.le_of_ble_eq_true rfl)) dX5_post_302 ⟨Nat.le_of_ble_eq_true rfl, Nat.le_of_ble_eq_true rfl⟩) hP hD hS hA (fun _ H locs hrv hP hD hS => ?_)
          have hP : va_P D vwCl (Mw cy mo ad (mAct (va_up (va_up (va_up (va_up (va_up (va_up (va_up μ 0 (fun _ => 0)) 12 (upd (μ 12) (tn ((μ 11) 0)) (nI (tn p0)))) 13 (upd (μ 13) (tn ((μ 11) 0)) k0)) 14 (upd (μ 14) (tn ((μ 11) 0)) a0)) 15 (upd (μ 15) (tn ((μ 11) 0)) r0)) 16 (upd (μ 16) (tn (μ 11 0)) (((mToR μ a0 q0 (if k0 = 2 then 0 else mSrv μ (tn (μ 2 (tn p0))) (tn p0))) ||| ((1 : Int32) <<< ((nI (tn ((μ 2) (tn (μ 12 (tn r0)))))) &&& 31))) &&& (((1 : Int32) <<< ((nI (tn ((μ 2) (tn p0)))) &&& 31)) ^^^ (-1))))) 11 (fun _ => (nI (tn ((μ 11) 0) + 1)))) 8 (tn p0) (tn (μ 11 0)) 0 (((mToR μ a0 q0 (if k0 = 2 then 0 else mSrv μ (tn (μ 2 (tn p0))) (tn p0))) ||| ((1 : Int32) <<< ((nI (tn ((μ 2) (tn (μ 12 (tn r0)))))) &&& 31)))))) H := hP
          have hD : va_D (va_A (Mw cy mo ad μ) s.heap.size) (Mw cy mo ad (mAct (va_up (va_up (va_up (va_up (va_up (va_up (va_up μ 0 (fun _ => 0)) 12 (upd (μ 12) (tn ((μ 11) 0)) (nI (tn p0)))) 13 (upd (μ 13) (tn ((μ 11) 0)) k0)) 14 (upd (μ 14) (tn ((μ 11) 0)) a0)) 15 (upd (μ 15) (tn ((μ 11) 0)) r0)) 16 (upd (μ 16) (tn (μ 11 0)) (((mToR μ a0 q0 (if k0 = 2 then 0 else mSrv μ (tn (μ 2 (tn p0))) (tn p0))) ||| ((1 : Int32) <<< ((nI (tn ((μ 2) (tn (μ 12 (tn r0)))))) &&& 31))) &&& (((1 : Int32) <<< ((nI (tn ((μ 2) (tn p0)))) &&& 31)) ^^^ (-1))))) 11 (fun _ => (nI (tn ((μ 11) 0) + 1)))) 8 (tn p0) (tn (μ 11 0)) 0 (((mToR μ a0 q0 (if k0 = 2 then 0 else mSrv μ (tn (μ 2 (tn p0))) (tn p0))) ||| ((1 : Int32) <<< ((nI (tn ((μ 2) (tn (μ 12 (tn r0)))))) &&& 31)))))) := hD
          refine lv_iload hx hb dX5_post_305 (lv_at hl 5 rfl) ?_
          have eW : mAct (va_up (va_up (va_up (va_up (va_up (va_up (va_up μ 0 (fun _ => 0)) 12 (upd (μ 12) (tn ((μ 11) 0)) (nI (tn p0)))) 13 (upd (μ 13) (tn ((μ 11) 0)) k0)) 14 (upd (μ 14) (tn ((μ 11) 0)) a0)) 15 (upd (μ 15) (tn ((μ 11) 0)) r0)) 16 (upd (μ 16) (tn (μ 11 0)) (((mToR μ a0 q0 (if k0 = 2 then 0 else mSrv μ (tn (μ 2 (tn p0))) (tn p0))) ||| ((1 : Int32) <<< ((nI (tn ((μ 2) (tn (μ 12 (tn r0)))))) &&& 31))) &&& (((1 : Int32) <<< ((nI (tn ((μ 2) (tn p0)))) &&& 31)) ^^^ (-1))))) 11 (fun _ => (nI (tn ((μ 11) 0) + 1)))) 8 (tn p0) (tn (μ 11 0)) 0 (((mToR μ a0 q0 (if k0 = 2 then 0 else mSrv μ (tn (μ 2 (tn p0))) (tn p0))) ||| ((1 : Int32) <<< ((nI (tn ((μ 2) (tn (μ 12 (tn r0)))))) &&& 31)))) = mPos μ p0 k0 a0 r0 := by simp [mPos, mPos0, mTo, mHb, hT, bx_uu, c1, e4, c2n, c2]
          have hP : va_P D vwCl (Mw cy mo ad (mPos μ p0 k0 a0 r0)) H := by rw [← eW]; exact hP
          have hD : va_D (va_A (Mw cy mo ad μ) s.heap.size) (Mw cy mo ad (mPos μ p0 k0 a0 r0)) := by rw [← eW]; exact hD
          refine vg_tp (mPosR μ p0 k0 a0 r0) (by simp [mPosR, hT, c1, e4, c2n, c2]) ?_
          exact W.iret (v := (mPosR μ p0 k0 a0 r0)) hx hb hr (fun t ht hW => ⟨⟨(mPosR μ p0 k0 a0 r0), (), rfl, rfl, (by rw [ht]; exact hP), hD⟩, hS.F ht⟩) hS.2.2 dX5_post_307
      · have c1 : q0 < tn ((μ 1) 0) := Nat.lt_of_not_le (fun q => r1 ((nI_leI (a := tn ((μ 1) 0)) (b := q0) (by omega) (by omega)).mpr q))
        refine lv_iload hx hb dX5_post_201 (lv_at hl 6 rfl) ?_
        refine lv_iload_n hx hb dX5_post_203 rfl (lv_at hl 3 rfl) ?_
        refine lv_iload hx hb dX5_post_204 (lv_at hl 7 rfl) ?_
        refine lv_ishr hx hb dX5_post_206 ?_
        refine lv_iconst (v := 1) hx hb dX5_post_207 (by decide) ?_
        refine lv_iand hx hb dX5_post_208 ?_
        refine lv_iconst (v := 1) hx hb dX5_post_209 (by decide) ?_
        refine lv_icmp_ne (tgt := 225) hx hb dX5_post_210 (by decide) (fun r6 => ?_) (fun r6 => ?_)
        · have c6 := r6
          refine lv_iconst (v := 0) hx hb dX5_post_225 (by decide) ?_
          refine lv_ior hx hb dX5_post_226 ?_
          refine lv_istore (lv' := [(8, .int ((mToR μ a0 q0 (if k0 = 2 then 0 else mSrv μ (tn (μ 2 (tn p0))) (tn p0))) ||| 0)), (0, .ref mo), (1, .int p0), (2, .int k0), (3, .int a0), (4, .int r0), (7, .int (nI (tn (μ 11 0)))), (9, .int (nI q0))]) hx hb dX5_post_227 hl (by decide) rfl (fun ls hl => ?_)
          have hl : lv_has ls 10 [(0, .ref mo), (1, .int p0), (2, .int k0), (3, .int a0), (4, .int r0), (7, .int (nI (tn (μ 11 0)))), (8, .int ((mToR μ a0 q0 (if k0 = 2 then 0 else mSrv μ (tn (μ 2 (tn p0))) (tn p0))) ||| 0)), (9, .int (nI q0))] := lv_sub hl [1, 2, 3, 4, 5, 6, 0, 7] rfl
          refine lv_iinc (v := (nI (q0 + 1))) (lv' := [(9, .int (nI (q0 + 1))), (0, .ref mo), (1, .int p0), (2, .int k0), (3, .int a0), (4, .int r0), (7, .int (nI (tn (μ 11 0)))), (8, .int ((mToR μ a0 q0 (if k0 = 2 then 0 else mSrv μ (tn (μ 2 (tn p0))) (tn p0))) ||| 0))]) hx hb dX5_post_229 hl (k := 7) rfl (by first | rfl | exact nI_add _ _ | decide) (by decide) rfl (fun ls hl => ?_)
          have hl : lv_has ls 10 [(0, .ref mo), (1, .int p0), (2, .int k0), (3, .int a0), (4, .int r0), (7, .int (nI (tn (μ 11 0)))), (8, .int ((mToR μ a0 q0 (if k0 = 2 then 0 else mSrv μ (tn (μ 2 (tn p0))) (tn p0))) ||| 0)), (9, .int (nI (q0 + 1)))] := lv_sub hl [1, 2, 3, 4, 5, 6, 7, 0] rfl
          refine lv_goto (tgt := 192) hx hb dX5_post_232 (by decide) ?_
          have q7 : ((mToR μ a0 (q0 + 1) (if k0 = 2 then 0 else mSrv μ (tn (μ 2 (tn p0))) (tn p0))) : Int32) = ((mToR μ a0 q0 (if k0 = 2 then 0 else mSrv μ (tn (μ 2 (tn p0))) (tn p0))) ||| 0) := by simp [mToR, c1, c6]
          exact ih (q0 + 1) (by omega) (by omega) (hp0) (hn5) (hrr) (hT) _ _ hP hD hS ls (by rw [q7]; exact lv_sub hl [0, 1, 2, 3, 4, 5, 6, 7] rfl)
        · have c6 := r6
          refine lv_iconst (v := 1) hx hb dX5_post_213 (by decide) ?_
          refine lv_aload_n hx hb dX5_post_214 rfl (lv_at hl 0 rfl) ?_
          refine va_get (D := D) (ci := 6) (v := .ref (ad 2)) (C := RX5) (T := TX5) (N := 26) hx hb hts hin_RX5 hown hE.1 hP 0 rfl rfl 2 (by decide) (hts (.fieldLink RX5 7 "VillagepostModel" "home" "[I") (by decide +kernel)) (fun _ h9 => h9) rfl dX5_post_215 ?_
          refine lv_iload hx hb dX5_post_218 (lv_at hl 7 rfl) ?_
          refine vg_iald hx hb hE.1 hP 1 0 rfl rfl (f := μ 2) (j := q0) (by omega) (by decide) dX5_post_220 ?_
          refine lv_ishl hx hb dX5_post_221 ?_
          refine lv_goto (tgt := 226) hx hb dX5_post_222 (by decide) ?_
          refine lv_ior hx hb dX5_post_226 ?_
          refine lv_istore (lv' := [(8, .int ((mToR μ a0 q0 (if k0 = 2 then 0 else mSrv μ (tn (μ 2 (tn p0))) (tn p0))) ||| ((1 : Int32) <<< (((μ 2) q0) &&& 31)))), (0, .ref mo), (1, .int p0), (2, .int k0), (3, .int a0), (4, .int r0), (7, .int (nI (tn (μ 11 0)))), (9, .int (nI q0))]) hx hb dX5_post_227 hl (by decide) rfl (fun ls hl => ?_)
          have hl : lv_has ls 10 [(0, .ref mo), (1, .int p0), (2, .int k0), (3, .int a0), (4, .int r0), (7, .int (nI (tn (μ 11 0)))), (8, .int ((mToR μ a0 q0 (if k0 = 2 then 0 else mSrv μ (tn (μ 2 (tn p0))) (tn p0))) ||| ((1 : Int32) <<< (((μ 2) q0) &&& 31)))), (9, .int (nI q0))] := lv_sub hl [1, 2, 3, 4, 5, 6, 0, 7] rfl
          refine lv_iinc (v := (nI (q0 + 1))) (lv' := [(9, .int (nI (q0 + 1))), (0, .ref mo), (1, .int p0), (2, .int k0), (3, .int a0), (4, .int r0), (7, .int (nI (tn (μ 11 0)))), (8, .int ((mToR μ a0 q0 (if k0 = 2 then 0 else mSrv μ (tn (μ 2 (tn p0))) (tn p0))) ||| ((1 : Int32) <<< (((μ 2) q0) &&& 31))))]) hx hb dX5_post_229 hl (k := 7) rfl (by first | rfl | exact nI_add _ _ | decide) (by decide) rfl (fun ls hl => ?_)
          have hl : lv_has ls 10 [(0, .ref mo), (1, .int p0), (2, .int k0), (3, .int a0), (4, .int r0), (7, .int (nI (tn (μ 11 0)))), (8, .int ((mToR μ a0 q0 (if k0 = 2 then 0 else mSrv μ (tn (μ 2 (tn p0))) (tn p0))) ||| ((1 : Int32) <<< (((μ 2) q0) &&& 31)))), (9, .int (nI (q0 + 1)))] := lv_sub hl [1, 2, 3, 4, 5, 6, 7, 0] rfl
          refine lv_goto (tgt := 192) hx hb dX5_post_232 (by decide) ?_
          have q8 : ((mToR μ a0 (q0 + 1) (if k0 = 2 then 0 else mSrv μ (tn (μ 2 (tn p0))) (tn p0))) : Int32) = ((mToR μ a0 q0 (if k0 = 2 then 0 else mSrv μ (tn (μ 2 (tn p0))) (tn p0))) ||| ((1 : Int32) <<< (((μ 2) q0) &&& 31))) := by simp [mToR, c1, c6]
          exact ih (q0 + 1) (by omega) (by omega) (hp0) (hn5) (hrr) (hT) _ _ hP hD hS ls (by rw [q8]; exact lv_sub hl [0, 1, 2, 3, 4, 5, 6, 7] rfl)
  refine lv_aload_n hx hb dX5_post_0 rfl (lv_at hl 0 rfl) ?_
  refine lv_iload_n hx hb dX5_post_1 rfl (lv_at hl 1 rfl) ?_
  refine vg_calliW (va_runV (As := [.int p0]) (rest := []) ⟨hx, hb, hml, hown, hts⟩ (kX5_isOne l D cy s.heap.size mo ad μ p0 ) (cwV 1 hts gX5_post_X5_isOne rfl rfl rfl (by decide +kernel) ⟨Nat.le_of_ble_eq_true rfl, Nat.le_of_ble_eq_true rfl⟩) (vg_P.preV hE hP 0 rfl rfl hP hD) rfl rfl hl.1 rfl (lv_room (Nat.le_of_ble_eq_true rfl)) dX5_post_2 ⟨Nat.le_of_ble_eq_true rfl, Nat.le_of_ble_eq_true rfl⟩) hP hD hS hA (fun r _ H locs hr hP hD hS => ?_)
  subst hr
  refine lv_if_eq (tgt := 29) hx hb dX5_post_5 (by decide) (fun r9 => ?_) (fun r9 => ?_)
  · have c9 : (mIn p0 0 (μ 1 0 - 1)) = false := bI_0.mp r9
    refine lv_iconst (v := 1) hx hb dX5_post_29 (by decide) ?_
    refine lv_goto (tgt := 34) hx hb dX5_post_30 (by decide) ?_
    refine lv_istore (lv' := [(5, .int 1), (0, .ref mo), (1, .int p0), (2, .int k0), (3, .int a0), (4, .int r0)]) hx hb dX5_post_34 hl (by decide) rfl (fun ls hl => ?_)
    have hl : lv_has ls 10 [(0, .ref mo), (1, .int p0), (2, .int k0), (3, .int a0), (4, .int r0), (5, .int 1)] := lv_sub hl [1, 2, 3, 4, 5, 0] rfl
    refine lv_iload_n hx hb dX5_post_36 rfl (lv_at hl 2 rfl) ?_
    refine lv_iconst (v := 0) hx hb dX5_post_37 (by decide) ?_
    refine lv_iconst (v := 2) hx hb dX5_post_38 (by decide) ?_
    refine vg_calliP (va_runS (As := [.int k0, .int 0, .int 2]) (rest := []) ⟨hx, hb, hml, hown, hts⟩ (kX5_in l D cy H.size k0 0 2) (va_cwS 3 hts gX5_post_X5_in rfl rfl rfl (by decide +kernel) ⟨Nat.le_of_ble_eq_true rfl, Nat.le_of_ble_eq_true rfl⟩) (vg_P.preS hE vg_P0 (A := fun _ => True) vg_D0) rfl rfl hl.1 rfl (lv_room (Nat.le_of_ble_eq_true rfl)) dX5_post_39 ⟨Nat.le_of_ble_eq_true rfl, Nat.le_of_ble_eq_true rfl⟩) hP hD hS hA (fun r _ H locs hr hP hD hS => ?_)
    subst hr
    refine lv_if_eq (tgt := 61) hx hb dX5_post_42 (by decide) (fun r10 => ?_) (fun r10 => ?_)
    · have c10 : (mIn k0 0 2) = false := bI_0.mp r10
      refine lv_iconst (v := 1) hx hb dX5_post_61 (by decide) ?_
      refine lv_goto (tgt := 66) hx hb dX5_post_62 (by decide) ?_
      refine lv_istore (lv' := [(6, .int 1), (0, .ref mo), (1, .int p0), (2, .int k0), (3, .int a0), (4, .int r0), (5, .int 1)]) hx hb dX5_post_66 hl (by decide) rfl (fun ls hl => ?_)
      have hl : lv_has ls 10 [(0, .ref mo), (1, .int p0), (2, .int k0), (3, .int a0), (4, .int r0), (5, .int 1), (6, .int 1)] := lv_sub hl [1, 2, 3, 4, 5, 6, 0] rfl
      refine lv_aload_n hx hb dX5_post_68 rfl (lv_at hl 0 rfl) ?_
      refine lv_iload hx hb dX5_post_69 (lv_at hl 5 rfl) ?_
      refine lv_if_eq (tgt := 78) hx hb dX5_post_71 (by decide) (fun c9 => False.elim (by revert c9; decide)) (fun _ => ?_)
      refine lv_iconst (v := 1) hx hb dX5_post_74 (by decide) ?_
      refine lv_goto (tgt := 116) hx hb dX5_post_75 (by decide) ?_
      refine va_put (D := (D)) (ci := 6) (v := .int 1) (ty := .int) (C := RX5) (T := TX5) (N := 26) hx hb hts hin_RX5 tyX5 tyX5_ok nmX5 hown hE.1 hP hD hS 0 rfl rfl 0 (by decide) (hts (.fieldLink RX5 77 "VillagepostModel" "thrown" "I") (by decide +kernel)) (fun _ h9 => h9) rfl (by decide +kernel) rfl rfl (Nat.le_of_ble_eq_true rfl) dX5_post_116 (fun H locs hP hD hS => ?_)
      have hP : va_P D vwCl (Mw cy mo ad (va_up μ 0 (fun _ => 1))) H := hP
      have hD : va_D (va_A (Mw cy mo ad μ) s.heap.size) (Mw cy mo ad (va_up μ 0 (fun _ => 1))) := hD
      refine lv_aload_n hx hb dX5_post_119 rfl (lv_at hl 0 rfl) ?_
      refine va_get (D := D) (ci := 6) (v := .int 1) (C := RX5) (T := TX5) (N := 26) hx hb hts hin_RX5 hown hE.1 hP 0 rfl rfl 0 (by decide) (hts (.fieldLink RX5 77 "VillagepostModel" "thrown" "I") (by decide +kernel)) (fun _ h9 => h9) rfl dX5_post_120 ?_
      refine lv_if_eq (tgt := 128) hx hb dX5_post_123 (by decide) (fun c9 => False.elim (by revert c9; decide)) (fun _ => ?_)
      refine lv_iconst (v := 0) hx hb dX5_post_126 (by decide) ?_
      have eW : va_up μ 0 (fun _ => 1) = mPos μ p0 k0 a0 r0 := by simp [mPos, mPosT, c9, c10]
      have hP : va_P D vwCl (Mw cy mo ad (mPos μ p0 k0 a0 r0)) H := by rw [← eW]; exact hP
      have hD : va_D (va_A (Mw cy mo ad μ) s.heap.size) (Mw cy mo ad (mPos μ p0 k0 a0 r0)) := by rw [← eW]; exact hD
      refine vg_tp (mPosR μ p0 k0 a0 r0) (by simp [mPosR, mPosT, c9, c10]) ?_
      exact W.iret (v := (mPosR μ p0 k0 a0 r0)) hx hb hr (fun t ht hW => ⟨⟨(mPosR μ p0 k0 a0 r0), (), rfl, rfl, (by rw [ht]; exact hP), hD⟩, hS.F ht⟩) hS.2.2 dX5_post_127
    · have c10 : (mIn k0 0 2) = true := bI_n0.mp r10
      refine lv_iload_n hx hb dX5_post_45 rfl (lv_at hl 3 rfl) ?_
      refine lv_iconst (v := 0) hx hb dX5_post_46 (by decide) ?_
      refine lv_iconst (v := 1) hx hb dX5_post_47 (by decide) ?_
      refine lv_aload_n hx hb dX5_post_48 rfl (lv_at hl 0 rfl) ?_
      refine va_get (D := D) (ci := 6) (v := .int ((μ 1) 0)) (C := RX5) (T := TX5) (N := 26) hx hb hts hin_RX5 hown hE.1 hP 0 rfl rfl 1 (by decide) (hts (.fieldLink RX5 81 "VillagepostModel" "people" "I") (by decide +kernel)) (fun _ h9 => h9) rfl dX5_post_49 ?_
      refine lv_ishl hx hb dX5_post_52 ?_
      refine lv_iconst (v := 1) hx hb dX5_post_53 (by decide) ?_
      refine lv_isub hx hb dX5_post_54 ?_
      refine vg_calliP (va_runS (As := [.int a0, .int 0, .int (((1 : Int32) <<< (((μ 1) 0) &&& 31)) - 1)]) (rest := []) ⟨hx, hb, hml, hown, hts⟩ (kX5_in l D cy H.size a0 0 ((((1 : Int32) <<< (((μ 1) 0) &&& 31)) - 1))) (va_cwS 3 hts gX5_post_X5_in rfl rfl rfl (by decide +kernel) ⟨Nat.le_of_ble_eq_true rfl, Nat.le_of_ble_eq_true rfl⟩) (vg_P.preS hE vg_P0 (A := fun _ => True) vg_D0) rfl rfl hl.1 rfl (lv_room (Nat.le_of_ble_eq_true rfl)) dX5_post_55 ⟨Nat.le_of_ble_eq_true rfl, Nat.le_of_ble_eq_true rfl⟩) hP hD hS hA (fun r _ H locs hr hP hD hS => ?_)
      subst hr
      refine lv_if_ne (tgt := 65) hx hb dX5_post_58 (by decide) (fun r13 => ?_) (fun r13 => ?_)
      · have c13 : (mIn a0 0 ((((1 : Int32) <<< (((μ 1) 0) &&& 31)) - 1))) = true := bI_n0.mp r13
        refine lv_iconst (v := 0) hx hb dX5_post_65 (by decide) ?_
        refine lv_istore (lv' := [(6, .int 0), (0, .ref mo), (1, .int p0), (2, .int k0), (3, .int a0), (4, .int r0), (5, .int 1)]) hx hb dX5_post_66 hl (by decide) rfl (fun ls hl => ?_)
        have hl : lv_has ls 10 [(0, .ref mo), (1, .int p0), (2, .int k0), (3, .int a0), (4, .int r0), (5, .int 1), (6, .int 0)] := lv_sub hl [1, 2, 3, 4, 5, 6, 0] rfl
        refine lv_aload_n hx hb dX5_post_68 rfl (lv_at hl 0 rfl) ?_
        refine lv_iload hx hb dX5_post_69 (lv_at hl 5 rfl) ?_
        refine lv_if_eq (tgt := 78) hx hb dX5_post_71 (by decide) (fun c9 => False.elim (by revert c9; decide)) (fun _ => ?_)
        refine lv_iconst (v := 1) hx hb dX5_post_74 (by decide) ?_
        refine lv_goto (tgt := 116) hx hb dX5_post_75 (by decide) ?_
        refine va_put (D := (D)) (ci := 6) (v := .int 1) (ty := .int) (C := RX5) (T := TX5) (N := 26) hx hb hts hin_RX5 tyX5 tyX5_ok nmX5 hown hE.1 hP hD hS 0 rfl rfl 0 (by decide) (hts (.fieldLink RX5 77 "VillagepostModel" "thrown" "I") (by decide +kernel)) (fun _ h9 => h9) rfl (by decide +kernel) rfl rfl (Nat.le_of_ble_eq_true rfl) dX5_post_116 (fun H locs hP hD hS => ?_)
        have hP : va_P D vwCl (Mw cy mo ad (va_up μ 0 (fun _ => 1))) H := hP
        have hD : va_D (va_A (Mw cy mo ad μ) s.heap.size) (Mw cy mo ad (va_up μ 0 (fun _ => 1))) := hD
        refine lv_aload_n hx hb dX5_post_119 rfl (lv_at hl 0 rfl) ?_
        refine va_get (D := D) (ci := 6) (v := .int 1) (C := RX5) (T := TX5) (N := 26) hx hb hts hin_RX5 hown hE.1 hP 0 rfl rfl 0 (by decide) (hts (.fieldLink RX5 77 "VillagepostModel" "thrown" "I") (by decide +kernel)) (fun _ h9 => h9) rfl dX5_post_120 ?_
        refine lv_if_eq (tgt := 128) hx hb dX5_post_123 (by decide) (fun c9 => False.elim (by revert c9; decide)) (fun _ => ?_)
        refine lv_iconst (v := 0) hx hb dX5_post_126 (by decide) ?_
        have eW : va_up μ 0 (fun _ => 1) = mPos μ p0 k0 a0 r0 := by simp [mPos, mPosT, c9, c10, c13]
        have hP : va_P D vwCl (Mw cy mo ad (mPos μ p0 k0 a0 r0)) H := by rw [← eW]; exact hP
        have hD : va_D (va_A (Mw cy mo ad μ) s.heap.size) (Mw cy mo ad (mPos μ p0 k0 a0 r0)) := by rw [← eW]; exact hD
        refine vg_tp (mPosR μ p0 k0 a0 r0) (by simp [mPosR, mPosT, c9, c10, c13]) ?_
        exact W.iret (v := (mPosR μ p0 k0 a0 r0)) hx hb hr (fun t ht hW => ⟨⟨(mPosR μ p0 k0 a0 r0), (), rfl, rfl, (by rw [ht]; exact hP), hD⟩, hS.F ht⟩) hS.2.2 dX5_post_127
      · have c13 : (mIn a0 0 ((((1 : Int32) <<< (((μ 1) 0) &&& 31)) - 1))) = false := bI_0.mp r13
        refine lv_iconst (v := 1) hx hb dX5_post_61 (by decide) ?_
        refine lv_goto (tgt := 66) hx hb dX5_post_62 (by decide) ?_
        refine lv_istore (lv' := [(6, .int 1), (0, .ref mo), (1, .int p0), (2, .int k0), (3, .int a0), (4, .int r0), (5, .int 1)]) hx hb dX5_post_66 hl (by decide) rfl (fun ls hl => ?_)
        have hl : lv_has ls 10 [(0, .ref mo), (1, .int p0), (2, .int k0), (3, .int a0), (4, .int r0), (5, .int 1), (6, .int 1)] := lv_sub hl [1, 2, 3, 4, 5, 6, 0] rfl
        refine lv_aload_n hx hb dX5_post_68 rfl (lv_at hl 0 rfl) ?_
        refine lv_iload hx hb dX5_post_69 (lv_at hl 5 rfl) ?_
        refine lv_if_eq (tgt := 78) hx hb dX5_post_71 (by decide) (fun c9 => False.elim (by revert c9; decide)) (fun _ => ?_)
        refine lv_iconst (v := 1) hx hb dX5_post_74 (by decide) ?_
        refine lv_goto (tgt := 116) hx hb dX5_post_75 (by decide) ?_
        refine va_put (D := (D)) (ci := 6) (v := .int 1) (ty := .int) (C := RX5) (T := TX5) (N := 26) hx hb hts hin_RX5 tyX5 tyX5_ok nmX5 hown hE.1 hP hD hS 0 rfl rfl 0 (by decide) (hts (.fieldLink RX5 77 "VillagepostModel" "thrown" "I") (by decide +kernel)) (fun _ h9 => h9) rfl (by decide +kernel) rfl rfl (Nat.le_of_ble_eq_true rfl) dX5_post_116 (fun H locs hP hD hS => ?_)
        have hP : va_P D vwCl (Mw cy mo ad (va_up μ 0 (fun _ => 1))) H := hP
        have hD : va_D (va_A (Mw cy mo ad μ) s.heap.size) (Mw cy mo ad (va_up μ 0 (fun _ => 1))) := hD
        refine lv_aload_n hx hb dX5_post_119 rfl (lv_at hl 0 rfl) ?_
        refine va_get (D := D) (ci := 6) (v := .int 1) (C := RX5) (T := TX5) (N := 26) hx hb hts hin_RX5 hown hE.1 hP 0 rfl rfl 0 (by decide) (hts (.fieldLink RX5 77 "VillagepostModel" "thrown" "I") (by decide +kernel)) (fun _ h9 => h9) rfl dX5_post_120 ?_
        refine lv_if_eq (tgt := 128) hx hb dX5_post_123 (by decide) (fun c9 => False.elim (by revert c9; decide)) (fun _ => ?_)
        refine lv_iconst (v := 0) hx hb dX5_post_126 (by decide) ?_
        have eW : va_up μ 0 (fun _ => 1) = mPos μ p0 k0 a0 r0 := by simp [mPos, mPosT, c9, c10, c13]
        have hP : va_P D vwCl (Mw cy mo ad (mPos μ p0 k0 a0 r0)) H := by rw [← eW]; exact hP
        have hD : va_D (va_A (Mw cy mo ad μ) s.heap.size) (Mw cy mo ad (mPos μ p0 k0 a0 r0)) := by rw [← eW]; exact hD
        refine vg_tp (mPosR μ p0 k0 a0 r0) (by simp [mPosR, mPosT, c9, c10, c13]) ?_
        exact W.iret (v := (mPosR μ p0 k0 a0 r0)) hx hb hr (fun t ht hW => ⟨⟨(mPosR μ p0 k0 a0 r0), (), rfl, rfl, (by rw [ht]; exact hP), hD⟩, hS.F ht⟩) hS.2.2 dX5_post_127
  · have c9 : (mIn p0 0 (μ 1 0 - 1)) = true := bI_n0.mp r9
    have hp0 : isN p0 10 := (mIn_n hpe (by omega) c9).1
    have hp02 := hp0.2
    refine lv_iload hx hb dX5_post_8 (lv_at hl 4 rfl) ?_
    refine lv_iconst (v := (-1)) hx hb dX5_post_10 (by decide) ?_
    refine lv_icmp_eq (tgt := 33) hx hb dX5_post_11 (by decide) (fun r18 => ?_) (fun r18 => ?_)
    · have c18 := r18
      refine lv_iconst (v := 0) hx hb dX5_post_33 (by decide) ?_
      refine lv_istore (lv' := [(5, .int 0), (0, .ref mo), (1, .int p0), (2, .int k0), (3, .int a0), (4, .int r0)]) hx hb dX5_post_34 hl (by decide) rfl (fun ls hl => ?_)
      have hl : lv_has ls 10 [(0, .ref mo), (1, .int p0), (2, .int k0), (3, .int a0), (4, .int r0), (5, .int 0)] := lv_sub hl [1, 2, 3, 4, 5, 0] rfl
      refine lv_iload_n hx hb dX5_post_36 rfl (lv_at hl 2 rfl) ?_
      refine lv_iconst (v := 0) hx hb dX5_post_37 (by decide) ?_
      refine lv_iconst (v := 2) hx hb dX5_post_38 (by decide) ?_
      refine vg_calliP (va_runS (As := [.int k0, .int 0, .int 2]) (rest := []) ⟨hx, hb, hml, hown, hts⟩ (kX5_in l D cy H.size k0 0 2) (va_cwS 3 hts gX5_post_X5_in rfl rfl rfl (by decide +kernel) ⟨Nat.le_of_ble_eq_true rfl, Nat.le_of_ble_eq_true rfl⟩) (vg_P.preS hE vg_P0 (A := fun _ => True) vg_D0) rfl rfl hl.1 rfl (lv_room (Nat.le_of_ble_eq_true rfl)) dX5_post_39 ⟨Nat.le_of_ble_eq_true rfl, Nat.le_of_ble_eq_true rfl⟩) hP hD hS hA (fun r _ H locs hr hP hD hS => ?_)
      subst hr
      refine lv_if_eq (tgt := 61) hx hb dX5_post_42 (by decide) (fun r19 => ?_) (fun r19 => ?_)
      · have c19 : (mIn k0 0 2) = false := bI_0.mp r19
        refine lv_iconst (v := 1) hx hb dX5_post_61 (by decide) ?_
        refine lv_goto (tgt := 66) hx hb dX5_post_62 (by decide) ?_
        refine lv_istore (lv' := [(6, .int 1), (0, .ref mo), (1, .int p0), (2, .int k0), (3, .int a0), (4, .int r0), (5, .int 0)]) hx hb dX5_post_66 hl (by decide) rfl (fun ls hl => ?_)
        have hl : lv_has ls 10 [(0, .ref mo), (1, .int p0), (2, .int k0), (3, .int a0), (4, .int r0), (5, .int 0), (6, .int 1)] := lv_sub hl [1, 2, 3, 4, 5, 6, 0] rfl
        refine lv_aload_n hx hb dX5_post_68 rfl (lv_at hl 0 rfl) ?_
        refine lv_iload hx hb dX5_post_69 (lv_at hl 5 rfl) ?_
        refine lv_if_eq (tgt := 78) hx hb dX5_post_71 (by decide) (fun _ => ?_) (fun c9 => False.elim (by revert c9; decide))
        refine lv_iload hx hb dX5_post_78 (lv_at hl 6 rfl) ?_
        refine lv_if_eq (tgt := 87) hx hb dX5_post_80 (by decide) (fun c9 => False.elim (by revert c9; decide)) (fun _ => ?_)
        refine lv_iconst (v := 2) hx hb dX5_post_83 (by decide) ?_
        refine lv_goto (tgt := 116) hx hb dX5_post_84 (by decide) ?_
        refine va_put (D := (D)) (ci := 6) (v := .int 2) (ty := .int) (C := RX5) (T := TX5) (N := 26) hx hb hts hin_RX5 tyX5 tyX5_ok nmX5 hown hE.1 hP hD hS 0 rfl rfl 0 (by decide) (hts (.fieldLink RX5 77 "VillagepostModel" "thrown" "I") (by decide +kernel)) (fun _ h9 => h9) rfl (by decide +kernel) rfl rfl (Nat.le_of_ble_eq_true rfl) dX5_post_116 (fun H locs hP hD hS => ?_)
        have hP : va_P D vwCl (Mw cy mo ad (va_up μ 0 (fun _ => 2))) H := hP
        have hD : va_D (va_A (Mw cy mo ad μ) s.heap.size) (Mw cy mo ad (va_up μ 0 (fun _ => 2))) := hD
        refine lv_aload_n hx hb dX5_post_119 rfl (lv_at hl 0 rfl) ?_
        refine va_get (D := D) (ci := 6) (v := .int 2) (C := RX5) (T := TX5) (N := 26) hx hb hts hin_RX5 hown hE.1 hP 0 rfl rfl 0 (by decide) (hts (.fieldLink RX5 77 "VillagepostModel" "thrown" "I") (by decide +kernel)) (fun _ h9 => h9) rfl dX5_post_120 ?_
        refine lv_if_eq (tgt := 128) hx hb dX5_post_123 (by decide) (fun c9 => False.elim (by revert c9; decide)) (fun _ => ?_)
        refine lv_iconst (v := 0) hx hb dX5_post_126 (by decide) ?_
        have eW : va_up μ 0 (fun _ => 2) = mPos μ p0 k0 a0 r0 := by simp [mPos, mPosT, c9, c18, c19]
        have hP : va_P D vwCl (Mw cy mo ad (mPos μ p0 k0 a0 r0)) H := by rw [← eW]; exact hP
        have hD : va_D (va_A (Mw cy mo ad μ) s.heap.size) (Mw cy mo ad (mPos μ p0 k0 a0 r0)) := by rw [← eW]; exact hD
        refine vg_tp (mPosR μ p0 k0 a0 r0) (by simp [mPosR, mPosT, c9, c18, c19]) ?_
        exact W.iret (v := (mPosR μ p0 k0 a0 r0)) hx hb hr (fun t ht hW => ⟨⟨(mPosR μ p0 k0 a0 r0), (), rfl, rfl, (by rw [ht]; exact hP), hD⟩, hS.F ht⟩) hS.2.2 dX5_post_127
      · have c19 : (mIn k0 0 2) = true := bI_n0.mp r19
        refine lv_iload_n hx hb dX5_post_45 rfl (lv_at hl 3 rfl) ?_
        refine lv_iconst (v := 0) hx hb dX5_post_46 (by decide) ?_
        refine lv_iconst (v := 1) hx hb dX5_post_47 (by decide) ?_
        refine lv_aload_n hx hb dX5_post_48 rfl (lv_at hl 0 rfl) ?_
        refine va_get (D := D) (ci := 6) (v := .int ((μ 1) 0)) (C := RX5) (T := TX5) (N := 26) hx hb hts hin_RX5 hown hE.1 hP 0 rfl rfl 1 (by decide) (hts (.fieldLink RX5 81 "VillagepostModel" "people" "I") (by decide +kernel)) (fun _ h9 => h9) rfl dX5_post_49 ?_
        refine lv_ishl hx hb dX5_post_52 ?_
        refine lv_iconst (v := 1) hx hb dX5_post_53 (by decide) ?_
        refine lv_isub hx hb dX5_post_54 ?_
        refine vg_calliP (va_runS (As := [.int a0, .int 0, .int (((1 : Int32) <<< (((μ 1) 0) &&& 31)) - 1)]) (rest := []) ⟨hx, hb, hml, hown, hts⟩ (kX5_in l D cy H.size a0 0 ((((1 : Int32) <<< (((μ 1) 0) &&& 31)) - 1))) (va_cwS 3 hts gX5_post_X5_in rfl rfl rfl (by decide +kernel) ⟨Nat.le_of_ble_eq_true rfl, Nat.le_of_ble_eq_true rfl⟩) (vg_P.preS hE vg_P0 (A := fun _ => True) vg_D0) rfl rfl hl.1 rfl (lv_room (Nat.le_of_ble_eq_true rfl)) dX5_post_55 ⟨Nat.le_of_ble_eq_true rfl, Nat.le_of_ble_eq_true rfl⟩) hP hD hS hA (fun r _ H locs hr hP hD hS => ?_)
        subst hr
        refine lv_if_ne (tgt := 65) hx hb dX5_post_58 (by decide) (fun r23 => ?_) (fun r23 => ?_)
        · have c23 : (mIn a0 0 ((((1 : Int32) <<< (((μ 1) 0) &&& 31)) - 1))) = true := bI_n0.mp r23
          refine lv_iconst (v := 0) hx hb dX5_post_65 (by decide) ?_
          refine lv_istore (lv' := [(6, .int 0), (0, .ref mo), (1, .int p0), (2, .int k0), (3, .int a0), (4, .int r0), (5, .int 0)]) hx hb dX5_post_66 hl (by decide) rfl (fun ls hl => ?_)
          have hl : lv_has ls 10 [(0, .ref mo), (1, .int p0), (2, .int k0), (3, .int a0), (4, .int r0), (5, .int 0), (6, .int 0)] := lv_sub hl [1, 2, 3, 4, 5, 6, 0] rfl
          refine lv_aload_n hx hb dX5_post_68 rfl (lv_at hl 0 rfl) ?_
          refine lv_iload hx hb dX5_post_69 (lv_at hl 5 rfl) ?_
          refine lv_if_eq (tgt := 78) hx hb dX5_post_71 (by decide) (fun _ => ?_) (fun c9 => False.elim (by revert c9; decide))
          refine lv_iload hx hb dX5_post_78 (lv_at hl 6 rfl) ?_
          refine lv_if_eq (tgt := 87) hx hb dX5_post_80 (by decide) (fun _ => ?_) (fun c9 => False.elim (by revert c9; decide))
          refine lv_aload_n hx hb dX5_post_87 rfl (lv_at hl 0 rfl) ?_
          refine va_get (D := D) (ci := 6) (v := .int ((μ 11) 0)) (C := RX5) (T := TX5) (N := 26) hx hb hts hin_RX5 hown hE.1 hP 0 rfl rfl 11 (by decide) (hts (.fieldLink RX5 136 "VillagepostModel" "posts" "I") (by decide +kernel)) (fun _ h9 => h9) rfl dX5_post_88 ?_
          refine vg_tp (nI (tn ((μ 11) 0))) hpo.1 ?_
          refine lv_bipush (v := 50) hx hb dX5_post_91 (by decide) ?_
          refine lv_icmp_eq (tgt := 111) hx hb dX5_post_93 (by decide) (fun r26 => ?_) (fun r26 => ?_)
          · have c26 : tn ((μ 11) 0) = 50 := (nI_eq (a := tn ((μ 11) 0)) (b := 50) (by omega) (by omega)).mp r26
            refine lv_iconst (v := 3) hx hb dX5_post_111 (by decide) ?_
            refine lv_goto (tgt := 116) hx hb dX5_post_112 (by decide) ?_
            refine va_put (D := (D)) (ci := 6) (v := .int 3) (ty := .int) (C := RX5) (T := TX5) (N := 26) hx hb hts hin_RX5 tyX5 tyX5_ok nmX5 hown hE.1 hP hD hS 0 rfl rfl 0 (by decide) (hts (.fieldLink RX5 77 "VillagepostModel" "thrown" "I") (by decide +kernel)) (fun _ h9 => h9) rfl (by decide +kernel) rfl rfl (Nat.le_of_ble_eq_true rfl) dX5_post_116 (fun H locs hP hD hS => ?_)
            have hP : va_P D vwCl (Mw cy mo ad (va_up μ 0 (fun _ => 3))) H := hP
            have hD : va_D (va_A (Mw cy mo ad μ) s.heap.size) (Mw cy mo ad (va_up μ 0 (fun _ => 3))) := hD
            refine lv_aload_n hx hb dX5_post_119 rfl (lv_at hl 0 rfl) ?_
            refine va_get (D := D) (ci := 6) (v := .int 3) (C := RX5) (T := TX5) (N := 26) hx hb hts hin_RX5 hown hE.1 hP 0 rfl rfl 0 (by decide) (hts (.fieldLink RX5 77 "VillagepostModel" "thrown" "I") (by decide +kernel)) (fun _ h9 => h9) rfl dX5_post_120 ?_
            refine lv_if_eq (tgt := 128) hx hb dX5_post_123 (by decide) (fun c9 => False.elim (by revert c9; decide)) (fun _ => ?_)
            refine lv_iconst (v := 0) hx hb dX5_post_126 (by decide) ?_
            have eW : va_up μ 0 (fun _ => 3) = mPos μ p0 k0 a0 r0 := by simp [mPos, mPosT, c9, c18, c19, c23, c26]
            have hP : va_P D vwCl (Mw cy mo ad (mPos μ p0 k0 a0 r0)) H := by rw [← eW]; exact hP
            have hD : va_D (va_A (Mw cy mo ad μ) s.heap.size) (Mw cy mo ad (mPos μ p0 k0 a0 r0)) := by rw [← eW]; exact hD
            refine vg_tp (mPosR μ p0 k0 a0 r0) (by simp [mPosR, mPosT, c9, c18, c19, c23, c26]) ?_
            exact W.iret (v := (mPosR μ p0 k0 a0 r0)) hx hb hr (fun t ht hW => ⟨⟨(mPosR μ p0 k0 a0 r0), (), rfl, rfl, (by rw [ht]; exact hP), hD⟩, hS.F ht⟩) hS.2.2 dX5_post_127
          · have c26 : ¬ tn ((μ 11) 0) = 50 := fun q => r26 ((nI_eq (a := tn ((μ 11) 0)) (b := 50) (by omega) (by omega)).mpr q)
            refine lv_iload hx hb dX5_post_96 (lv_at hl 4 rfl) ?_
            refine lv_if_lt (tgt := 115) hx hb dX5_post_98 (by decide) (fun _ => ?_) (fun c9 => absurd (by rw [r18]; decide) c9)
            refine lv_iconst (v := 0) hx hb dX5_post_115 (by decide) ?_
            refine va_put (D := (D)) (ci := 6) (v := .int 0) (ty := .int) (C := RX5) (T := TX5) (N := 26) hx hb hts hin_RX5 tyX5 tyX5_ok nmX5 hown hE.1 hP hD hS 0 rfl rfl 0 (by decide) (hts (.fieldLink RX5 77 "VillagepostModel" "thrown" "I") (by decide +kernel)) (fun _ h9 => h9) rfl (by decide +kernel) rfl rfl (Nat.le_of_ble_eq_true rfl) dX5_post_116 (fun H locs hP hD hS => ?_)
            have hP : va_P D vwCl (Mw cy mo ad (va_up μ 0 (fun _ => 0))) H := hP
            have hD : va_D (va_A (Mw cy mo ad μ) s.heap.size) (Mw cy mo ad (va_up μ 0 (fun _ => 0))) := hD
            refine lv_aload_n hx hb dX5_post_119 rfl (lv_at hl 0 rfl) ?_
            refine va_get (D := D) (ci := 6) (v := .int 0) (C := RX5) (T := TX5) (N := 26) hx hb hts hin_RX5 hown hE.1 hP 0 rfl rfl 0 (by decide) (hts (.fieldLink RX5 77 "VillagepostModel" "thrown" "I") (by decide +kernel)) (fun _ h9 => h9) rfl dX5_post_120 ?_
            refine lv_if_eq (tgt := 128) hx hb dX5_post_123 (by decide) (fun _ => ?_) (fun c9 => False.elim (by revert c9; decide))
            refine lv_aload_n hx hb dX5_post_128 rfl (lv_at hl 0 rfl) ?_
            refine va_get (D := D) (ci := 6) (v := .int ((μ 11) 0)) (C := RX5) (T := TX5) (N := 26) hx hb hts hin_RX5 hown hE.1 hP 0 rfl rfl 11 (by decide) (hts (.fieldLink RX5 136 "VillagepostModel" "posts" "I") (by decide +kernel)) (fun _ h9 => h9) rfl dX5_post_129 ?_
            refine vg_tp (nI (tn ((μ 11) 0))) hpo.1 ?_
            refine lv_istore (lv' := [(7, .int (nI (tn ((μ 11) 0)))), (0, .ref mo), (1, .int p0), (2, .int k0), (3, .int a0), (4, .int r0), (5, .int 0), (6, .int 0)]) hx hb dX5_post_132 hl (by decide) rfl (fun ls hl => ?_)
            have hl : lv_has ls 10 [(0, .ref mo), (1, .int p0), (2, .int k0), (3, .int a0), (4, .int r0), (5, .int 0), (6, .int 0), (7, .int (nI (tn ((μ 11) 0))))] := lv_sub hl [1, 2, 3, 4, 5, 6, 7, 0] rfl
            refine lv_aload_n hx hb dX5_post_134 rfl (lv_at hl 0 rfl) ?_
            refine va_get (D := D) (ci := 6) (v := .ref (ad 12)) (C := RX5) (T := TX5) (N := 26) hx hb hts hin_RX5 hown hE.1 hP 0 rfl rfl 12 (by decide) (hts (.fieldLink RX5 38 "VillagepostModel" "author" "[I") (by decide +kernel)) (fun _ h9 => h9) rfl dX5_post_135 ?_
            refine lv_iload hx hb dX5_post_138 (lv_at hl 7 rfl) ?_
            refine lv_iload_n hx hb dX5_post_140 rfl (lv_at hl 1 rfl) ?_
            refine vg_tp (nI (tn p0)) hp0.1 ?_
            refine vg_iast hx hb hE.1 hP hD hS 10 0 rfl rfl (f := μ 12) (j := (tn ((μ 11) 0))) (by omega) (by decide) dX5_post_141 (fun H locs hP hD hS => ?_)
            have hP : va_P D vwCl (Mw cy mo ad (va_up (va_up μ 0 (fun _ => 0)) 12 (upd (μ 12) (tn ((μ 11) 0)) (nI (tn p0))))) H := hP
            have hD : va_D (va_A (Mw cy mo ad μ) s.heap.size) (Mw cy mo ad (va_up (va_up μ 0 (fun _ => 0)) 12 (upd (μ 12) (tn ((μ 11) 0)) (nI (tn p0))))) := hD
            refine lv_aload_n hx hb dX5_post_142 rfl (lv_at hl 0 rfl) ?_
            refine va_get (D := D) (ci := 6) (v := .ref (ad 13)) (C := RX5) (T := TX5) (N := 26) hx hb hts hin_RX5 hown hE.1 hP 0 rfl rfl 13 (by decide) (hts (.fieldLink RX5 41 "VillagepostModel" "kind" "[I") (by decide +kernel)) (fun _ h9 => h9) rfl dX5_post_143 ?_
            refine lv_iload hx hb dX5_post_146 (lv_at hl 7 rfl) ?_
            refine lv_iload_n hx hb dX5_post_148 rfl (lv_at hl 2 rfl) ?_
            refine vg_iast hx hb hE.1 hP hD hS 11 0 rfl rfl (f := μ 13) (j := (tn ((μ 11) 0))) (by omega) (by decide) dX5_post_149 (fun H locs hP hD hS => ?_)
            have hP : va_P D vwCl (Mw cy mo ad (va_up (va_up (va_up μ 0 (fun _ => 0)) 12 (upd (μ 12) (tn ((μ 11) 0)) (nI (tn p0)))) 13 (upd (μ 13) (tn ((μ 11) 0)) k0))) H := hP
            have hD : va_D (va_A (Mw cy mo ad μ) s.heap.size) (Mw cy mo ad (va_up (va_up (va_up μ 0 (fun _ => 0)) 12 (upd (μ 12) (tn ((μ 11) 0)) (nI (tn p0)))) 13 (upd (μ 13) (tn ((μ 11) 0)) k0))) := hD
            refine lv_aload_n hx hb dX5_post_150 rfl (lv_at hl 0 rfl) ?_
            refine va_get (D := D) (ci := 6) (v := .ref (ad 14)) (C := RX5) (T := TX5) (N := 26) hx hb hts hin_RX5 hown hE.1 hP 0 rfl rfl 14 (by decide) (hts (.fieldLink RX5 44 "VillagepostModel" "named" "[I") (by decide +kernel)) (fun _ h9 => h9) rfl dX5_post_151 ?_
            refine lv_iload hx hb dX5_post_154 (lv_at hl 7 rfl) ?_
            refine lv_iload_n hx hb dX5_post_156 rfl (lv_at hl 3 rfl) ?_
            refine vg_iast hx hb hE.1 hP hD hS 12 0 rfl rfl (f := μ 14) (j := (tn ((μ 11) 0))) (by omega) (by decide) dX5_post_157 (fun H locs hP hD hS => ?_)
            have hP : va_P D vwCl (Mw cy mo ad (va_up (va_up (va_up (va_up μ 0 (fun _ => 0)) 12 (upd (μ 12) (tn ((μ 11) 0)) (nI (tn p0)))) 13 (upd (μ 13) (tn ((μ 11) 0)) k0)) 14 (upd (μ 14) (tn ((μ 11) 0)) a0))) H := hP
            have hD : va_D (va_A (Mw cy mo ad μ) s.heap.size) (Mw cy mo ad (va_up (va_up (va_up (va_up μ 0 (fun _ => 0)) 12 (upd (μ 12) (tn ((μ 11) 0)) (nI (tn p0)))) 13 (upd (μ 13) (tn ((μ 11) 0)) k0)) 14 (upd (μ 14) (tn ((μ 11) 0)) a0))) := hD
            refine lv_aload_n hx hb dX5_post_158 rfl (lv_at hl 0 rfl) ?_
            refine va_get (D := D) (ci := 6) (v := .ref (ad 15)) (C := RX5) (T := TX5) (N := 26) hx hb hts hin_RX5 hown hE.1 hP 0 rfl rfl 15 (by decide) (hts (.fieldLink RX5 47 "VillagepostModel" "reply" "[I") (by decide +kernel)) (fun _ h9 => h9) rfl dX5_post_159 ?_
            refine lv_iload hx hb dX5_post_162 (lv_at hl 7 rfl) ?_
            refine lv_iload hx hb dX5_post_164 (lv_at hl 4 rfl) ?_
            refine vg_iast hx hb hE.1 hP hD hS 13 0 rfl rfl (f := μ 15) (j := (tn ((μ 11) 0))) (by omega) (by decide) dX5_post_166 (fun H locs hP hD hS => ?_)
            have hP : va_P D vwCl (Mw cy mo ad (va_up (va_up (va_up (va_up (va_up μ 0 (fun _ => 0)) 12 (upd (μ 12) (tn ((μ 11) 0)) (nI (tn p0)))) 13 (upd (μ 13) (tn ((μ 11) 0)) k0)) 14 (upd (μ 14) (tn ((μ 11) 0)) a0)) 15 (upd (μ 15) (tn ((μ 11) 0)) r0))) H := hP
            have hD : va_D (va_A (Mw cy mo ad μ) s.heap.size) (Mw cy mo ad (va_up (va_up (va_up (va_up (va_up μ 0 (fun _ => 0)) 12 (upd (μ 12) (tn ((μ 11) 0)) (nI (tn p0)))) 13 (upd (μ 13) (tn ((μ 11) 0)) k0)) 14 (upd (μ 14) (tn ((μ 11) 0)) a0)) 15 (upd (μ 15) (tn ((μ 11) 0)) r0))) := hD
            refine lv_iload_n hx hb dX5_post_167 rfl (lv_at hl 2 rfl) ?_
            refine lv_iconst (v := 2) hx hb dX5_post_168 (by decide) ?_
            refine lv_icmp_ne (tgt := 176) hx hb dX5_post_169 (by decide) (fun r30 => ?_) (fun r30 => ?_)
            · have c30 := r30
              refine lv_aload_n hx hb dX5_post_176 rfl (lv_at hl 0 rfl) ?_
              refine lv_aload_n hx hb dX5_post_177 rfl (lv_at hl 0 rfl) ?_
              refine va_get (D := D) (ci := 6) (v := .ref (ad 2)) (C := RX5) (T := TX5) (N := 26) hx hb hts hin_RX5 hown hE.1 hP 0 rfl rfl 2 (by decide) (hts (.fieldLink RX5 7 "VillagepostModel" "home" "[I") (by decide +kernel)) (fun _ h9 => h9) rfl dX5_post_178 ?_
              refine lv_iload_n hx hb dX5_post_181 rfl (lv_at hl 1 rfl) ?_
              refine vg_tp (nI (tn p0)) hp0.1 ?_
              refine vg_iald hx hb hE.1 hP 1 0 rfl rfl (f := μ 2) (j := (tn p0)) (by omega) (by decide) dX5_post_182 ?_
              obtain ⟨hN31, hM31⟩ := hho (tn p0) (by omega)
              refine vg_tp (nI (tn ((μ 2) (tn p0)))) hN31 ?_
              refine lv_iload_n hx hb dX5_post_183 rfl (lv_at hl 1 rfl) ?_
              refine vg_tp (nI (tn p0)) hp0.1 ?_
              refine vg_calliW (va_runV (As := [.int (nI (tn ((μ 2) (tn p0)))), .int (nI (tn p0))]) (rest := []) ⟨hx, hb, hml, hown, hts⟩ (kX5_servers l D cy H.size mo ad (va_up (va_up (va_up (va_up (va_up μ 0 (fun _ => 0)) 12 (upd (μ 12) (tn ((μ 11) 0)) (nI (tn p0)))) 13 (upd (μ 13) (tn ((μ 11) 0)) k0)) 14 (upd (μ 14) (tn ((μ 11) 0)) a0)) 15 (upd (μ 15) (tn ((μ 11) 0)) r0)) (tn ((μ 2) (tn p0))) (tn p0) (hpe) (by omega) (by omega)) (cwV 2 hts gX5_post_X5_servers rfl rfl rfl (by decide +kernel) ⟨Nat.le_of_ble_eq_true rfl, Nat.le_of_ble_eq_true rfl⟩) (vg_P.preV hE hP 0 rfl rfl hP hD) rfl rfl hl.1 rfl (lv_room (Nat.le_of_ble_eq_true rfl)) dX5_post_184 ⟨Nat.le_of_ble_eq_true rfl, Nat.le_of_ble_eq_true rfl⟩) hP hD hS hA (fun r _ H locs hr hP hD hS => ?_)
              subst hr
              refine vg_tp (mSrv μ (tn (μ 2 (tn p0))) (tn p0)) (by simp [mSrv_up]) ?_
              refine lv_istore (lv' := [(8, .int (mSrv μ (tn (μ 2 (tn p0))) (tn p0))), (0, .ref mo), (1, .int p0), (2, .int k0), (3, .int a0), (4, .int r0), (5, .int 0), (6, .int 0), (7, .int (nI (tn ((μ 11) 0))))]) hx hb dX5_post_187 hl (by decide) rfl (fun ls hl => ?_)
              have hl : lv_has ls 10 [(0, .ref mo), (1, .int p0), (2, .int k0), (3, .int a0), (4, .int r0), (5, .int 0), (6, .int 0), (7, .int (nI (tn ((μ 11) 0)))), (8, .int (mSrv μ (tn (μ 2 (tn p0))) (tn p0)))] := lv_sub hl [1, 2, 3, 4, 5, 6, 7, 8, 0] rfl
              refine lv_iconst (v := 0) hx hb dX5_post_189 (by decide) ?_
              refine lv_istore (lv' := [(9, .int 0), (0, .ref mo), (1, .int p0), (2, .int k0), (3, .int a0), (4, .int r0), (5, .int 0), (6, .int 0), (7, .int (nI (tn ((μ 11) 0)))), (8, .int (mSrv μ (tn (μ 2 (tn p0))) (tn p0)))]) hx hb dX5_post_190 hl (by decide) rfl (fun ls hl => ?_)
              have hl : lv_has ls 10 [(0, .ref mo), (1, .int p0), (2, .int k0), (3, .int a0), (4, .int r0), (5, .int 0), (6, .int 0), (7, .int (nI (tn ((μ 11) 0)))), (8, .int (mSrv μ (tn (μ 2 (tn p0))) (tn p0))), (9, .int 0)] := lv_sub hl [1, 2, 3, 4, 5, 6, 7, 8, 9, 0] rfl
              have q32 : ((mToR μ a0 0 (if k0 = 2 then 0 else mSrv μ (tn (μ 2 (tn p0))) (tn p0))) : Int32) = (mSrv μ (tn (μ 2 (tn p0))) (tn p0)) := by simp [mToR, c9, c18, c19, c23, c26, c30]
              have q33 : ((nI 0) : Int32) = 0 := by first | rfl | simp [c9, c18, c19, c23, c26, c30]
              exact L192 ((tn (μ 1 0) - 0) + 1) 0 (by omega) (by omega) (hp0) (by omega) (Or.inl (by rw [r18]; decide)) (by simp [mPosT, show mIn 2 0 2 = true from by decide, c9, c18, c19, c23, c26, c30]) _ _ hP hD hS ls (by rw [q32, q33]; exact lv_sub hl [0, 1, 2, 3, 4, 7, 8, 9] rfl)
            · have c30 := r30
              refine lv_iconst (v := 0) hx hb dX5_post_172 (by decide) ?_
              refine lv_goto (tgt := 187) hx hb dX5_post_173 (by decide) ?_
              refine lv_istore (lv' := [(8, .int 0), (0, .ref mo), (1, .int p0), (2, .int k0), (3, .int a0), (4, .int r0), (5, .int 0), (6, .int 0), (7, .int (nI (tn ((μ 11) 0))))]) hx hb dX5_post_187 hl (by decide) rfl (fun ls hl => ?_)
              have hl : lv_has ls 10 [(0, .ref mo), (1, .int p0), (2, .int k0), (3, .int a0), (4, .int r0), (5, .int 0), (6, .int 0), (7, .int (nI (tn ((μ 11) 0)))), (8, .int 0)] := lv_sub hl [1, 2, 3, 4, 5, 6, 7, 8, 0] rfl
              refine lv_iconst (v := 0) hx hb dX5_post_189 (by decide) ?_
              refine lv_istore (lv' := [(9, .int 0), (0, .ref mo), (1, .int p0), (2, .int k0), (3, .int a0), (4, .int r0), (5, .int 0), (6, .int 0), (7, .int (nI (tn ((μ 11) 0)))), (8, .int 0)]) hx hb dX5_post_190 hl (by decide) rfl (fun ls hl => ?_)
              have hl : lv_has ls 10 [(0, .ref mo), (1, .int p0), (2, .int k0), (3, .int a0), (4, .int r0), (5, .int 0), (6, .int 0), (7, .int (nI (tn ((μ 11) 0)))), (8, .int 0), (9, .int 0)] := lv_sub hl [1, 2, 3, 4, 5, 6, 7, 8, 9, 0] rfl
              have q34 : ((mToR μ a0 0 (if k0 = 2 then 0 else mSrv μ (tn (μ 2 (tn p0))) (tn p0))) : Int32) = 0 := by simp [mToR, c9, c18, c19, c23, c26, c30]
              have q35 : ((nI 0) : Int32) = 0 := by first | rfl | simp [c9, c18, c19, c23, c26, c30]
              exact L192 ((tn (μ 1 0) - 0) + 1) 0 (by omega) (by omega) (hp0) (by omega) (Or.inl (by rw [r18]; decide)) (by simp [mPosT, show mIn 2 0 2 = true from by decide, c9, c18, c19, c23, c26, c30]) _ _ hP hD hS ls (by rw [q34, q35]; exact lv_sub hl [0, 1, 2, 3, 4, 7, 8, 9] rfl)
        · have c23 : (mIn a0 0 ((((1 : Int32) <<< (((μ 1) 0) &&& 31)) - 1))) = false := bI_0.mp r23
          refine lv_iconst (v := 1) hx hb dX5_post_61 (by decide) ?_
          refine lv_goto (tgt := 66) hx hb dX5_post_62 (by decide) ?_
          refine lv_istore (lv' := [(6, .int 1), (0, .ref mo), (1, .int p0), (2, .int k0), (3, .int a0), (4, .int r0), (5, .int 0)]) hx hb dX5_post_66 hl (by decide) rfl (fun ls hl => ?_)
          have hl : lv_has ls 10 [(0, .ref mo), (1, .int p0), (2, .int k0), (3, .int a0), (4, .int r0), (5, .int 0), (6, .int 1)] := lv_sub hl [1, 2, 3, 4, 5, 6, 0] rfl
          refine lv_aload_n hx hb dX5_post_68 rfl (lv_at hl 0 rfl) ?_
          refine lv_iload hx hb dX5_post_69 (lv_at hl 5 rfl) ?_
          refine lv_if_eq (tgt := 78) hx hb dX5_post_71 (by decide) (fun _ => ?_) (fun c9 => False.elim (by revert c9; decide))
          refine lv_iload hx hb dX5_post_78 (lv_at hl 6 rfl) ?_
          refine lv_if_eq (tgt := 87) hx hb dX5_post_80 (by decide) (fun c9 => False.elim (by revert c9; decide)) (fun _ => ?_)
          refine lv_iconst (v := 2) hx hb dX5_post_83 (by decide) ?_
          refine lv_goto (tgt := 116) hx hb dX5_post_84 (by decide) ?_
          refine va_put (D := (D)) (ci := 6) (v := .int 2) (ty := .int) (C := RX5) (T := TX5) (N := 26) hx hb hts hin_RX5 tyX5 tyX5_ok nmX5 hown hE.1 hP hD hS 0 rfl rfl 0 (by decide) (hts (.fieldLink RX5 77 "VillagepostModel" "thrown" "I") (by decide +kernel)) (fun _ h9 => h9) rfl (by decide +kernel) rfl rfl (Nat.le_of_ble_eq_true rfl) dX5_post_116 (fun H locs hP hD hS => ?_)
          have hP : va_P D vwCl (Mw cy mo ad (va_up μ 0 (fun _ => 2))) H := hP
          have hD : va_D (va_A (Mw cy mo ad μ) s.heap.size) (Mw cy mo ad (va_up μ 0 (fun _ => 2))) := hD
          refine lv_aload_n hx hb dX5_post_119 rfl (lv_at hl 0 rfl) ?_
          refine va_get (D := D) (ci := 6) (v := .int 2) (C := RX5) (T := TX5) (N := 26) hx hb hts hin_RX5 hown hE.1 hP 0 rfl rfl 0 (by decide) (hts (.fieldLink RX5 77 "VillagepostModel" "thrown" "I") (by decide +kernel)) (fun _ h9 => h9) rfl dX5_post_120 ?_
          refine lv_if_eq (tgt := 128) hx hb dX5_post_123 (by decide) (fun c9 => False.elim (by revert c9; decide)) (fun _ => ?_)
          refine lv_iconst (v := 0) hx hb dX5_post_126 (by decide) ?_
          have eW : va_up μ 0 (fun _ => 2) = mPos μ p0 k0 a0 r0 := by simp [mPos, mPosT, c9, c18, c19, c23]
          have hP : va_P D vwCl (Mw cy mo ad (mPos μ p0 k0 a0 r0)) H := by rw [← eW]; exact hP
          have hD : va_D (va_A (Mw cy mo ad μ) s.heap.size) (Mw cy mo ad (mPos μ p0 k0 a0 r0)) := by rw [← eW]; exact hD
          refine vg_tp (mPosR μ p0 k0 a0 r0) (by simp [mPosR, mPosT, c9, c18, c19, c23]) ?_
          exact W.iret (v := (mPosR μ p0 k0 a0 r0)) hx hb hr (fun t ht hW => ⟨⟨(mPosR μ p0 k0 a0 r0), (), rfl, rfl, (by rw [ht]; exact hP), hD⟩, hS.F ht⟩) hS.2.2 dX5_post_127
    · have c18 := r18
      refine lv_iload hx hb dX5_post_14 (lv_at hl 4 rfl) ?_
      refine lv_iconst (v := 0) hx hb dX5_post_16 (by decide) ?_
      refine lv_aload_n hx hb dX5_post_17 rfl (lv_at hl 0 rfl) ?_
      refine va_get (D := D) (ci := 6) (v := .int ((μ 11) 0)) (C := RX5) (T := TX5) (N := 26) hx hb hts hin_RX5 hown hE.1 hP 0 rfl rfl 11 (by decide) (hts (.fieldLink RX5 136 "VillagepostModel" "posts" "I") (by decide +kernel)) (fun _ h9 => h9) rfl dX5_post_18 ?_
      refine lv_iconst (v := 1) hx hb dX5_post_21 (by decide) ?_
      refine lv_isub hx hb dX5_post_22 ?_
      refine vg_calliP (va_runS (As := [.int r0, .int 0, .int (((μ 11) 0) - 1)]) (rest := []) ⟨hx, hb, hml, hown, hts⟩ (kX5_in l D cy H.size r0 0 ((((μ 11) 0) - 1))) (va_cwS 3 hts gX5_post_X5_in rfl rfl rfl (by decide +kernel) ⟨Nat.le_of_ble_eq_true rfl, Nat.le_of_ble_eq_true rfl⟩) (vg_P.preS hE vg_P0 (A := fun _ => True) vg_D0) rfl rfl hl.1 rfl (lv_room (Nat.le_of_ble_eq_true rfl)) dX5_post_23 ⟨Nat.le_of_ble_eq_true rfl, Nat.le_of_ble_eq_true rfl⟩) hP hD hS hA (fun r _ H locs hr hP hD hS => ?_)
      subst hr
      refine lv_if_ne (tgt := 33) hx hb dX5_post_26 (by decide) (fun r39 => ?_) (fun r39 => ?_)
      · have c39 : (mIn r0 0 ((((μ 11) 0) - 1))) = true := bI_n0.mp r39
        refine lv_iconst (v := 0) hx hb dX5_post_33 (by decide) ?_
        refine lv_istore (lv' := [(5, .int 0), (0, .ref mo), (1, .int p0), (2, .int k0), (3, .int a0), (4, .int r0)]) hx hb dX5_post_34 hl (by decide) rfl (fun ls hl => ?_)
        have hl : lv_has ls 10 [(0, .ref mo), (1, .int p0), (2, .int k0), (3, .int a0), (4, .int r0), (5, .int 0)] := lv_sub hl [1, 2, 3, 4, 5, 0] rfl
        refine lv_iload_n hx hb dX5_post_36 rfl (lv_at hl 2 rfl) ?_
        refine lv_iconst (v := 0) hx hb dX5_post_37 (by decide) ?_
        refine lv_iconst (v := 2) hx hb dX5_post_38 (by decide) ?_
        refine vg_calliP (va_runS (As := [.int k0, .int 0, .int 2]) (rest := []) ⟨hx, hb, hml, hown, hts⟩ (kX5_in l D cy H.size k0 0 2) (va_cwS 3 hts gX5_post_X5_in rfl rfl rfl (by decide +kernel) ⟨Nat.le_of_ble_eq_true rfl, Nat.le_of_ble_eq_true rfl⟩) (vg_P.preS hE vg_P0 (A := fun _ => True) vg_D0) rfl rfl hl.1 rfl (lv_room (Nat.le_of_ble_eq_true rfl)) dX5_post_39 ⟨Nat.le_of_ble_eq_true rfl, Nat.le_of_ble_eq_true rfl⟩) hP hD hS hA (fun r _ H locs hr hP hD hS => ?_)
        subst hr
        refine lv_if_eq (tgt := 61) hx hb dX5_post_42 (by decide) (fun r40 => ?_) (fun r40 => ?_)
        · have c40 : (mIn k0 0 2) = false := bI_0.mp r40
          refine lv_iconst (v := 1) hx hb dX5_post_61 (by decide) ?_
          refine lv_goto (tgt := 66) hx hb dX5_post_62 (by decide) ?_
          refine lv_istore (lv' := [(6, .int 1), (0, .ref mo), (1, .int p0), (2, .int k0), (3, .int a0), (4, .int r0), (5, .int 0)]) hx hb dX5_post_66 hl (by decide) rfl (fun ls hl => ?_)
          have hl : lv_has ls 10 [(0, .ref mo), (1, .int p0), (2, .int k0), (3, .int a0), (4, .int r0), (5, .int 0), (6, .int 1)] := lv_sub hl [1, 2, 3, 4, 5, 6, 0] rfl
          refine lv_aload_n hx hb dX5_post_68 rfl (lv_at hl 0 rfl) ?_
          refine lv_iload hx hb dX5_post_69 (lv_at hl 5 rfl) ?_
          refine lv_if_eq (tgt := 78) hx hb dX5_post_71 (by decide) (fun _ => ?_) (fun c9 => False.elim (by revert c9; decide))
          refine lv_iload hx hb dX5_post_78 (lv_at hl 6 rfl) ?_
          refine lv_if_eq (tgt := 87) hx hb dX5_post_80 (by decide) (fun c9 => False.elim (by revert c9; decide)) (fun _ => ?_)
          refine lv_iconst (v := 2) hx hb dX5_post_83 (by decide) ?_
          refine lv_goto (tgt := 116) hx hb dX5_post_84 (by decide) ?_
          refine va_put (D := (D)) (ci := 6) (v := .int 2) (ty := .int) (C := RX5) (T := TX5) (N := 26) hx hb hts hin_RX5 tyX5 tyX5_ok nmX5 hown hE.1 hP hD hS 0 rfl rfl 0 (by decide) (hts (.fieldLink RX5 77 "VillagepostModel" "thrown" "I") (by decide +kernel)) (fun _ h9 => h9) rfl (by decide +kernel) rfl rfl (Nat.le_of_ble_eq_true rfl) dX5_post_116 (fun H locs hP hD hS => ?_)
          have hP : va_P D vwCl (Mw cy mo ad (va_up μ 0 (fun _ => 2))) H := hP
          have hD : va_D (va_A (Mw cy mo ad μ) s.heap.size) (Mw cy mo ad (va_up μ 0 (fun _ => 2))) := hD
          refine lv_aload_n hx hb dX5_post_119 rfl (lv_at hl 0 rfl) ?_
          refine va_get (D := D) (ci := 6) (v := .int 2) (C := RX5) (T := TX5) (N := 26) hx hb hts hin_RX5 hown hE.1 hP 0 rfl rfl 0 (by decide) (hts (.fieldLink RX5 77 "VillagepostModel" "thrown" "I") (by decide +kernel)) (fun _ h9 => h9) rfl dX5_post_120 ?_
          refine lv_if_eq (tgt := 128) hx hb dX5_post_123 (by decide) (fun c9 => False.elim (by revert c9; decide)) (fun _ => ?_)
          refine lv_iconst (v := 0) hx hb dX5_post_126 (by decide) ?_
          have eW : va_up μ 0 (fun _ => 2) = mPos μ p0 k0 a0 r0 := by simp [mPos, mPosT, c9, c18, c39, c40]
          have hP : va_P D vwCl (Mw cy mo ad (mPos μ p0 k0 a0 r0)) H := by rw [← eW]; exact hP
          have hD : va_D (va_A (Mw cy mo ad μ) s.heap.size) (Mw cy mo ad (mPos μ p0 k0 a0 r0)) := by rw [← eW]; exact hD
          refine vg_tp (mPosR μ p0 k0 a0 r0) (by simp [mPosR, mPosT, c9, c18, c39, c40]) ?_
          exact W.iret (v := (mPosR μ p0 k0 a0 r0)) hx hb hr (fun t ht hW => ⟨⟨(mPosR μ p0 k0 a0 r0), (), rfl, rfl, (by rw [ht]; exact hP), hD⟩, hS.F ht⟩) hS.2.2 dX5_post_127
        · have c40 : (mIn k0 0 2) = true := bI_n0.mp r40
          refine lv_iload_n hx hb dX5_post_45 rfl (lv_at hl 3 rfl) ?_
          refine lv_iconst (v := 0) hx hb dX5_post_46 (by decide) ?_
          refine lv_iconst (v := 1) hx hb dX5_post_47 (by decide) ?_
          refine lv_aload_n hx hb dX5_post_48 rfl (lv_at hl 0 rfl) ?_
          refine va_get (D := D) (ci := 6) (v := .int ((μ 1) 0)) (C := RX5) (T := TX5) (N := 26) hx hb hts hin_RX5 hown hE.1 hP 0 rfl rfl 1 (by decide) (hts (.fieldLink RX5 81 "VillagepostModel" "people" "I") (by decide +kernel)) (fun _ h9 => h9) rfl dX5_post_49 ?_
          refine lv_ishl hx hb dX5_post_52 ?_
          refine lv_iconst (v := 1) hx hb dX5_post_53 (by decide) ?_
          refine lv_isub hx hb dX5_post_54 ?_
          refine vg_calliP (va_runS (As := [.int a0, .int 0, .int (((1 : Int32) <<< (((μ 1) 0) &&& 31)) - 1)]) (rest := []) ⟨hx, hb, hml, hown, hts⟩ (kX5_in l D cy H.size a0 0 ((((1 : Int32) <<< (((μ 1) 0) &&& 31)) - 1))) (va_cwS 3 hts gX5_post_X5_in rfl rfl rfl (by decide +kernel) ⟨Nat.le_of_ble_eq_true rfl, Nat.le_of_ble_eq_true rfl⟩) (vg_P.preS hE vg_P0 (A := fun _ => True) vg_D0) rfl rfl hl.1 rfl (lv_room (Nat.le_of_ble_eq_true rfl)) dX5_post_55 ⟨Nat.le_of_ble_eq_true rfl, Nat.le_of_ble_eq_true rfl⟩) hP hD hS hA (fun r _ H locs hr hP hD hS => ?_)
          subst hr
          refine lv_if_ne (tgt := 65) hx hb dX5_post_58 (by decide) (fun r44 => ?_) (fun r44 => ?_)
          · have c44 : (mIn a0 0 ((((1 : Int32) <<< (((μ 1) 0) &&& 31)) - 1))) = true := bI_n0.mp r44
            refine lv_iconst (v := 0) hx hb dX5_post_65 (by decide) ?_
            refine lv_istore (lv' := [(6, .int 0), (0, .ref mo), (1, .int p0), (2, .int k0), (3, .int a0), (4, .int r0), (5, .int 0)]) hx hb dX5_post_66 hl (by decide) rfl (fun ls hl => ?_)
            have hl : lv_has ls 10 [(0, .ref mo), (1, .int p0), (2, .int k0), (3, .int a0), (4, .int r0), (5, .int 0), (6, .int 0)] := lv_sub hl [1, 2, 3, 4, 5, 6, 0] rfl
            refine lv_aload_n hx hb dX5_post_68 rfl (lv_at hl 0 rfl) ?_
            refine lv_iload hx hb dX5_post_69 (lv_at hl 5 rfl) ?_
            refine lv_if_eq (tgt := 78) hx hb dX5_post_71 (by decide) (fun _ => ?_) (fun c9 => False.elim (by revert c9; decide))
            refine lv_iload hx hb dX5_post_78 (lv_at hl 6 rfl) ?_
            refine lv_if_eq (tgt := 87) hx hb dX5_post_80 (by decide) (fun _ => ?_) (fun c9 => False.elim (by revert c9; decide))
            refine lv_aload_n hx hb dX5_post_87 rfl (lv_at hl 0 rfl) ?_
            refine va_get (D := D) (ci := 6) (v := .int ((μ 11) 0)) (C := RX5) (T := TX5) (N := 26) hx hb hts hin_RX5 hown hE.1 hP 0 rfl rfl 11 (by decide) (hts (.fieldLink RX5 136 "VillagepostModel" "posts" "I") (by decide +kernel)) (fun _ h9 => h9) rfl dX5_post_88 ?_
            refine vg_tp (nI (tn ((μ 11) 0))) hpo.1 ?_
            refine lv_bipush (v := 50) hx hb dX5_post_91 (by decide) ?_
            refine lv_icmp_eq (tgt := 111) hx hb dX5_post_93 (by decide) (fun r47 => ?_) (fun r47 => ?_)
            · have c47 : tn ((μ 11) 0) = 50 := (nI_eq (a := tn ((μ 11) 0)) (b := 50) (by omega) (by omega)).mp r47
              refine lv_iconst (v := 3) hx hb dX5_post_111 (by decide) ?_
              refine lv_goto (tgt := 116) hx hb dX5_post_112 (by decide) ?_
              refine va_put (D := (D)) (ci := 6) (v := .int 3) (ty := .int) (C := RX5) (T := TX5) (N := 26) hx hb hts hin_RX5 tyX5 tyX5_ok nmX5 hown hE.1 hP hD hS 0 rfl rfl 0 (by decide) (hts (.fieldLink RX5 77 "VillagepostModel" "thrown" "I") (by decide +kernel)) (fun _ h9 => h9) rfl (by decide +kernel) rfl rfl (Nat.le_of_ble_eq_true rfl) dX5_post_116 (fun H locs hP hD hS => ?_)
              have hP : va_P D vwCl (Mw cy mo ad (va_up μ 0 (fun _ => 3))) H := hP
              have hD : va_D (va_A (Mw cy mo ad μ) s.heap.size) (Mw cy mo ad (va_up μ 0 (fun _ => 3))) := hD
              refine lv_aload_n hx hb dX5_post_119 rfl (lv_at hl 0 rfl) ?_
              refine va_get (D := D) (ci := 6) (v := .int 3) (C := RX5) (T := TX5) (N := 26) hx hb hts hin_RX5 hown hE.1 hP 0 rfl rfl 0 (by decide) (hts (.fieldLink RX5 77 "VillagepostModel" "thrown" "I") (by decide +kernel)) (fun _ h9 => h9) rfl dX5_post_120 ?_
              refine lv_if_eq (tgt := 128) hx hb dX5_post_123 (by decide) (fun c9 => False.elim (by revert c9; decide)) (fun _ => ?_)
              refine lv_iconst (v := 0) hx hb dX5_post_126 (by decide) ?_
              have eW : va_up μ 0 (fun _ => 3) = mPos μ p0 k0 a0 r0 := by simp [mPos, mPosT, c9, c18, c39, c40, c44, c47]
              have hP : va_P D vwCl (Mw cy mo ad (mPos μ p0 k0 a0 r0)) H := by rw [← eW]; exact hP
              have hD : va_D (va_A (Mw cy mo ad μ) s.heap.size) (Mw cy mo ad (mPos μ p0 k0 a0 r0)) := by rw [← eW]; exact hD
              refine vg_tp (mPosR μ p0 k0 a0 r0) (by simp [mPosR, mPosT, c9, c18, c39, c40, c44, c47]) ?_
              exact W.iret (v := (mPosR μ p0 k0 a0 r0)) hx hb hr (fun t ht hW => ⟨⟨(mPosR μ p0 k0 a0 r0), (), rfl, rfl, (by rw [ht]; exact hP), hD⟩, hS.F ht⟩) hS.2.2 dX5_post_127
            · have c47 : ¬ tn ((μ 11) 0) = 50 := fun q => r47 ((nI_eq (a := tn ((μ 11) 0)) (b := 50) (by omega) (by omega)).mpr q)
              have hr0 : isN r0 50 := (mIn_n hpo (by omega) c39).1
              have hr02 := hr0.2
              have nr0 : ¬ r0 < 0 := by rw [hr0.1]; exact nI_pos (by omega)
              refine lv_iload hx hb dX5_post_96 (lv_at hl 4 rfl) ?_
              refine vg_tp (nI (tn r0)) hr0.1 ?_
              refine lv_if_lt (tgt := 115) hx hb dX5_post_98 (by decide) (fun c9 => absurd c9 (nI_pos (by omega))) (fun _ => ?_)
              refine lv_aload_n hx hb dX5_post_101 rfl (lv_at hl 0 rfl) ?_
              refine lv_iload_n hx hb dX5_post_102 rfl (lv_at hl 1 rfl) ?_
              refine vg_tp (nI (tn p0)) hp0.1 ?_
              refine lv_iload hx hb dX5_post_103 (lv_at hl 4 rfl) ?_
              refine vg_tp (nI (tn r0)) hr0.1 ?_
              refine vg_calliW (va_runV (As := [.int (nI (tn p0)), .int (nI (tn r0))]) (rest := [.ref mo]) ⟨hx, hb, hml, hown, hts⟩ (kX5_seen l D cy H.size mo ad μ (tn p0) (tn r0) (⟨hpe, hho, hau, hre, hac⟩) (by omega) (by omega)) (cwV 2 hts gX5_post_X5_seen rfl rfl rfl (by decide +kernel) ⟨Nat.le_of_ble_eq_true rfl, Nat.le_of_ble_eq_true rfl⟩) (vg_P.preV hE hP 0 rfl rfl hP hD) rfl rfl hl.1 rfl (lv_room (Nat.le_of_ble_eq_true rfl)) dX5_post_105 ⟨Nat.le_of_ble_eq_true rfl, Nat.le_of_ble_eq_true rfl⟩) hP hD hS hA (fun r _ H locs hr hP hD hS => ?_)
              subst hr
              refine lv_if_ne (tgt := 115) hx hb dX5_post_108 (by decide) (fun r50 => ?_) (fun r50 => ?_)
              · have c50 : (mSeen μ (tn p0) (tn r0)) = true := bI_n0.mp r50
                refine lv_iconst (v := 0) hx hb dX5_post_115 (by decide) ?_
                refine va_put (D := (D)) (ci := 6) (v := .int 0) (ty := .int) (C := RX5) (T := TX5) (N := 26) hx hb hts hin_RX5 tyX5 tyX5_ok nmX5 hown hE.1 hP hD hS 0 rfl rfl 0 (by decide) (hts (.fieldLink RX5 77 "VillagepostModel" "thrown" "I") (by decide +kernel)) (fun _ h9 => h9) rfl (by decide +kernel) rfl rfl (Nat.le_of_ble_eq_true rfl) dX5_post_116 (fun H locs hP hD hS => ?_)
                have hP : va_P D vwCl (Mw cy mo ad (va_up μ 0 (fun _ => 0))) H := hP
                have hD : va_D (va_A (Mw cy mo ad μ) s.heap.size) (Mw cy mo ad (va_up μ 0 (fun _ => 0))) := hD
                refine lv_aload_n hx hb dX5_post_119 rfl (lv_at hl 0 rfl) ?_
                refine va_get (D := D) (ci := 6) (v := .int 0) (C := RX5) (T := TX5) (N := 26) hx hb hts hin_RX5 hown hE.1 hP 0 rfl rfl 0 (by decide) (hts (.fieldLink RX5 77 "VillagepostModel" "thrown" "I") (by decide +kernel)) (fun _ h9 => h9) rfl dX5_post_120 ?_
                refine lv_if_eq (tgt := 128) hx hb dX5_post_123 (by decide) (fun _ => ?_) (fun c9 => False.elim (by revert c9; decide))
                refine lv_aload_n hx hb dX5_post_128 rfl (lv_at hl 0 rfl) ?_
                refine va_get (D := D) (ci := 6) (v := .int ((μ 11) 0)) (C := RX5) (T := TX5) (N := 26) hx hb hts hin_RX5 hown hE.1 hP 0 rfl rfl 11 (by decide) (hts (.fieldLink RX5 136 "VillagepostModel" "posts" "I") (by decide +kernel)) (fun _ h9 => h9) rfl dX5_post_129 ?_
                refine vg_tp (nI (tn ((μ 11) 0))) hpo.1 ?_
                refine lv_istore (lv' := [(7, .int (nI (tn ((μ 11) 0)))), (0, .ref mo), (1, .int p0), (2, .int k0), (3, .int a0), (4, .int r0), (5, .int 0), (6, .int 0)]) hx hb dX5_post_132 hl (by decide) rfl (fun ls hl => ?_)
                have hl : lv_has ls 10 [(0, .ref mo), (1, .int p0), (2, .int k0), (3, .int a0), (4, .int r0), (5, .int 0), (6, .int 0), (7, .int (nI (tn ((μ 11) 0))))] := lv_sub hl [1, 2, 3, 4, 5, 6, 7, 0] rfl
                refine lv_aload_n hx hb dX5_post_134 rfl (lv_at hl 0 rfl) ?_
                refine va_get (D := D) (ci := 6) (v := .ref (ad 12)) (C := RX5) (T := TX5) (N := 26) hx hb hts hin_RX5 hown hE.1 hP 0 rfl rfl 12 (by decide) (hts (.fieldLink RX5 38 "VillagepostModel" "author" "[I") (by decide +kernel)) (fun _ h9 => h9) rfl dX5_post_135 ?_
                refine lv_iload hx hb dX5_post_138 (lv_at hl 7 rfl) ?_
                refine lv_iload_n hx hb dX5_post_140 rfl (lv_at hl 1 rfl) ?_
                refine vg_tp (nI (tn p0)) hp0.1 ?_
                refine vg_iast hx hb hE.1 hP hD hS 10 0 rfl rfl (f := μ 12) (j := (tn ((μ 11) 0))) (by omega) (by decide) dX5_post_141 (fun H locs hP hD hS => ?_)
                have hP : va_P D vwCl (Mw cy mo ad (va_up (va_up μ 0 (fun _ => 0)) 12 (upd (μ 12) (tn ((μ 11) 0)) (nI (tn p0))))) H := hP
                have hD : va_D (va_A (Mw cy mo ad μ) s.heap.size) (Mw cy mo ad (va_up (va_up μ 0 (fun _ => 0)) 12 (upd (μ 12) (tn ((μ 11) 0)) (nI (tn p0))))) := hD
                refine lv_aload_n hx hb dX5_post_142 rfl (lv_at hl 0 rfl) ?_
                refine va_get (D := D) (ci := 6) (v := .ref (ad 13)) (C := RX5) (T := TX5) (N := 26) hx hb hts hin_RX5 hown hE.1 hP 0 rfl rfl 13 (by decide) (hts (.fieldLink RX5 41 "VillagepostModel" "kind" "[I") (by decide +kernel)) (fun _ h9 => h9) rfl dX5_post_143 ?_
                refine lv_iload hx hb dX5_post_146 (lv_at hl 7 rfl) ?_
                refine lv_iload_n hx hb dX5_post_148 rfl (lv_at hl 2 rfl) ?_
                refine vg_iast hx hb hE.1 hP hD hS 11 0 rfl rfl (f := μ 13) (j := (tn ((μ 11) 0))) (by omega) (by decide) dX5_post_149 (fun H locs hP hD hS => ?_)
                have hP : va_P D vwCl (Mw cy mo ad (va_up (va_up (va_up μ 0 (fun _ => 0)) 12 (upd (μ 12) (tn ((μ 11) 0)) (nI (tn p0)))) 13 (upd (μ 13) (tn ((μ 11) 0)) k0))) H := hP
                have hD : va_D (va_A (Mw cy mo ad μ) s.heap.size) (Mw cy mo ad (va_up (va_up (va_up μ 0 (fun _ => 0)) 12 (upd (μ 12) (tn ((μ 11) 0)) (nI (tn p0)))) 13 (upd (μ 13) (tn ((μ 11) 0)) k0))) := hD
                refine lv_aload_n hx hb dX5_post_150 rfl (lv_at hl 0 rfl) ?_
                refine va_get (D := D) (ci := 6) (v := .ref (ad 14)) (C := RX5) (T := TX5) (N := 26) hx hb hts hin_RX5 hown hE.1 hP 0 rfl rfl 14 (by decide) (hts (.fieldLink RX5 44 "VillagepostModel" "named" "[I") (by decide +kernel)) (fun _ h9 => h9) rfl dX5_post_151 ?_
                refine lv_iload hx hb dX5_post_154 (lv_at hl 7 rfl) ?_
                refine lv_iload_n hx hb dX5_post_156 rfl (lv_at hl 3 rfl) ?_
                refine vg_iast hx hb hE.1 hP hD hS 12 0 rfl rfl (f := μ 14) (j := (tn ((μ 11) 0))) (by omega) (by decide) dX5_post_157 (fun H locs hP hD hS => ?_)
                have hP : va_P D vwCl (Mw cy mo ad (va_up (va_up (va_up (va_up μ 0 (fun _ => 0)) 12 (upd (μ 12) (tn ((μ 11) 0)) (nI (tn p0)))) 13 (upd (μ 13) (tn ((μ 11) 0)) k0)) 14 (upd (μ 14) (tn ((μ 11) 0)) a0))) H := hP
                have hD : va_D (va_A (Mw cy mo ad μ) s.heap.size) (Mw cy mo ad (va_up (va_up (va_up (va_up μ 0 (fun _ => 0)) 12 (upd (μ 12) (tn ((μ 11) 0)) (nI (tn p0)))) 13 (upd (μ 13) (tn ((μ 11) 0)) k0)) 14 (upd (μ 14) (tn ((μ 11) 0)) a0))) := hD
                refine lv_aload_n hx hb dX5_post_158 rfl (lv_at hl 0 rfl) ?_
                refine va_get (D := D) (ci := 6) (v := .ref (ad 15)) (C := RX5) (T := TX5) (N := 26) hx hb hts hin_RX5 hown hE.1 hP 0 rfl rfl 15 (by decide) (hts (.fieldLink RX5 47 "VillagepostModel" "reply" "[I") (by decide +kernel)) (fun _ h9 => h9) rfl dX5_post_159 ?_
                refine lv_iload hx hb dX5_post_162 (lv_at hl 7 rfl) ?_
                refine lv_iload hx hb dX5_post_164 (lv_at hl 4 rfl) ?_
                refine vg_iast hx hb hE.1 hP hD hS 13 0 rfl rfl (f := μ 15) (j := (tn ((μ 11) 0))) (by omega) (by decide) dX5_post_166 (fun H locs hP hD hS => ?_)
                have hP : va_P D vwCl (Mw cy mo ad (va_up (va_up (va_up (va_up (va_up μ 0 (fun _ => 0)) 12 (upd (μ 12) (tn ((μ 11) 0)) (nI (tn p0)))) 13 (upd (μ 13) (tn ((μ 11) 0)) k0)) 14 (upd (μ 14) (tn ((μ 11) 0)) a0)) 15 (upd (μ 15) (tn ((μ 11) 0)) r0))) H := hP
                have hD : va_D (va_A (Mw cy mo ad μ) s.heap.size) (Mw cy mo ad (va_up (va_up (va_up (va_up (va_up μ 0 (fun _ => 0)) 12 (upd (μ 12) (tn ((μ 11) 0)) (nI (tn p0)))) 13 (upd (μ 13) (tn ((μ 11) 0)) k0)) 14 (upd (μ 14) (tn ((μ 11) 0)) a0)) 15 (upd (μ 15) (tn ((μ 11) 0)) r0))) := hD
                refine lv_iload_n hx hb dX5_post_167 rfl (lv_at hl 2 rfl) ?_
                refine lv_iconst (v := 2) hx hb dX5_post_168 (by decide) ?_
                refine lv_icmp_ne (tgt := 176) hx hb dX5_post_169 (by decide) (fun r52 => ?_) (fun r52 => ?_)
                · have c52 := r52
                  refine lv_aload_n hx hb dX5_post_176 rfl (lv_at hl 0 rfl) ?_
                  refine lv_aload_n hx hb dX5_post_177 rfl (lv_at hl 0 rfl) ?_
                  refine va_get (D := D) (ci := 6) (v := .ref (ad 2)) (C := RX5) (T := TX5) (N := 26) hx hb hts hin_RX5 hown hE.1 hP 0 rfl rfl 2 (by decide) (hts (.fieldLink RX5 7 "VillagepostModel" "home" "[I") (by decide +kernel)) (fun _ h9 => h9) rfl dX5_post_178 ?_
                  refine lv_iload_n hx hb dX5_post_181 rfl (lv_at hl 1 rfl) ?_
                  refine vg_tp (nI (tn p0)) hp0.1 ?_
                  refine vg_iald hx hb hE.1 hP 1 0 rfl rfl (f := μ 2) (j := (tn p0)) (by omega) (by decide) dX5_post_182 ?_
                  obtain ⟨hN53, hM53⟩ := hho (tn p0) (by omega)
                  refine vg_tp (nI (tn ((μ 2) (tn p0)))) hN53 ?_
                  refine lv_iload_n hx hb dX5_post_183 rfl (lv_at hl 1 rfl) ?_
                  refine vg_tp (nI (tn p0)) hp0.1 ?_
                  refine vg_calliW (va_runV (As := [.int (nI (tn ((μ 2) (tn p0)))), .int (nI (tn p0))]) (rest := []) ⟨hx, hb, hml, hown, hts⟩ (kX5_servers l D cy H.size mo ad (va_up (va_up (va_up (va_up (va_up μ 0 (fun _ => 0)) 12 (upd (μ 12) (tn ((μ 11) 0)) (nI (tn p0)))) 13 (upd (μ 13) (tn ((μ 11) 0)) k0)) 14 (upd (μ 14) (tn ((μ 11) 0)) a0)) 15 (upd (μ 15) (tn ((μ 11) 0)) r0)) (tn ((μ 2) (tn p0))) (tn p0) (hpe) (by omega) (by omega)) (cwV 2 hts gX5_post_X5_servers rfl rfl rfl (by decide +kernel) ⟨Nat.le_of_ble_eq_true rfl, Nat.le_of_ble_eq_true rfl⟩) (vg_P.preV hE hP 0 rfl rfl hP hD) rfl rfl hl.1 rfl (lv_room (Nat.le_of_ble_eq_true rfl)) dX5_post_184 ⟨Nat.le_of_ble_eq_true rfl, Nat.le_of_ble_eq_true rfl⟩) hP hD hS hA (fun r _ H locs hr hP hD hS => ?_)
                  subst hr
                  refine vg_tp (mSrv μ (tn (μ 2 (tn p0))) (tn p0)) (by simp [mSrv_up]) ?_
                  refine lv_istore (lv' := [(8, .int (mSrv μ (tn (μ 2 (tn p0))) (tn p0))), (0, .ref mo), (1, .int p0), (2, .int k0), (3, .int a0), (4, .int r0), (5, .int 0), (6, .int 0), (7, .int (nI (tn ((μ 11) 0))))]) hx hb dX5_post_187 hl (by decide) rfl (fun ls hl => ?_)
                  have hl : lv_has ls 10 [(0, .ref mo), (1, .int p0), (2, .int k0), (3, .int a0), (4, .int r0), (5, .int 0), (6, .int 0), (7, .int (nI (tn ((μ 11) 0)))), (8, .int (mSrv μ (tn (μ 2 (tn p0))) (tn p0)))] := lv_sub hl [1, 2, 3, 4, 5, 6, 7, 8, 0] rfl
                  refine lv_iconst (v := 0) hx hb dX5_post_189 (by decide) ?_
                  refine lv_istore (lv' := [(9, .int 0), (0, .ref mo), (1, .int p0), (2, .int k0), (3, .int a0), (4, .int r0), (5, .int 0), (6, .int 0), (7, .int (nI (tn ((μ 11) 0)))), (8, .int (mSrv μ (tn (μ 2 (tn p0))) (tn p0)))]) hx hb dX5_post_190 hl (by decide) rfl (fun ls hl => ?_)
                  have hl : lv_has ls 10 [(0, .ref mo), (1, .int p0), (2, .int k0), (3, .int a0), (4, .int r0), (5, .int 0), (6, .int 0), (7, .int (nI (tn ((μ 11) 0)))), (8, .int (mSrv μ (tn (μ 2 (tn p0))) (tn p0))), (9, .int 0)] := lv_sub hl [1, 2, 3, 4, 5, 6, 7, 8, 9, 0] rfl
                  have q54 : ((mToR μ a0 0 (if k0 = 2 then 0 else mSrv μ (tn (μ 2 (tn p0))) (tn p0))) : Int32) = (mSrv μ (tn (μ 2 (tn p0))) (tn p0)) := by simp [mToR, c9, c18, c39, c40, c44, c47, nr0, c50, c52]
                  have q55 : ((nI 0) : Int32) = 0 := by first | rfl | simp [c9, c18, c39, c40, c44, c47, nr0, c50, c52]
                  exact L192 ((tn (μ 1 0) - 0) + 1) 0 (by omega) (by omega) (hp0) (by omega) (Or.inr ⟨hr0, (mIn_n hpo (by omega) c39).2⟩) (by simp [mPosT, show mIn 2 0 2 = true from by decide, c9, c18, c39, c40, c44, c47, nr0, c50, c52, show ¬ r0 < 0 from by rw [hr0.1]; exact nI_pos (by omega)]) _ _ hP hD hS ls (by rw [q54, q55]; exact lv_sub hl [0, 1, 2, 3, 4, 7, 8, 9] rfl)
                · have c52 := r52
                  refine lv_iconst (v := 0) hx hb dX5_post_172 (by decide) ?_
                  refine lv_goto (tgt := 187) hx hb dX5_post_173 (by decide) ?_
                  refine lv_istore (lv' := [(8, .int 0), (0, .ref mo), (1, .int p0), (2, .int k0), (3, .int a0), (4, .int r0), (5, .int 0), (6, .int 0), (7, .int (nI (tn ((μ 11) 0))))]) hx hb dX5_post_187 hl (by decide) rfl (fun ls hl => ?_)
                  have hl : lv_has ls 10 [(0, .ref mo), (1, .int p0), (2, .int k0), (3, .int a0), (4, .int r0), (5, .int 0), (6, .int 0), (7, .int (nI (tn ((μ 11) 0)))), (8, .int 0)] := lv_sub hl [1, 2, 3, 4, 5, 6, 7, 8, 0] rfl
                  refine lv_iconst (v := 0) hx hb dX5_post_189 (by decide) ?_
                  refine lv_istore (lv' := [(9, .int 0), (0, .ref mo), (1, .int p0), (2, .int k0), (3, .int a0), (4, .int r0), (5, .int 0), (6, .int 0), (7, .int (nI (tn ((μ 11) 0)))), (8, .int 0)]) hx hb dX5_post_190 hl (by decide) rfl (fun ls hl => ?_)
                  have hl : lv_has ls 10 [(0, .ref mo), (1, .int p0), (2, .int k0), (3, .int a0), (4, .int r0), (5, .int 0), (6, .int 0), (7, .int (nI (tn ((μ 11) 0)))), (8, .int 0), (9, .int 0)] := lv_sub hl [1, 2, 3, 4, 5, 6, 7, 8, 9, 0] rfl
                  have q56 : ((mToR μ a0 0 (if k0 = 2 then 0 else mSrv μ (tn (μ 2 (tn p0))) (tn p0))) : Int32) = 0 := by simp [mToR, c9, c18, c39, c40, c44, c47, nr0, c50, c52]
                  have q57 : ((nI 0) : Int32) = 0 := by first | rfl | simp [c9, c18, c39, c40, c44, c47, nr0, c50, c52]
                  exact L192 ((tn (μ 1 0) - 0) + 1) 0 (by omega) (by omega) (hp0) (by omega) (Or.inr ⟨hr0, (mIn_n hpo (by omega) c39).2⟩) (by simp [mPosT, show mIn 2 0 2 = true from by decide, c9, c18, c39, c40, c44, c47, nr0, c50, c52, show ¬ r0 < 0 from by rw [hr0.1]; exact nI_pos (by omega)]) _ _ hP hD hS ls (by rw [q56, q57]; exact lv_sub hl [0, 1, 2, 3, 4, 7, 8, 9] rfl)
              · have c50 : (mSeen μ (tn p0) (tn r0)) = false := bI_0.mp r50
                refine lv_iconst (v := 3) hx hb dX5_post_111 (by decide) ?_
                refine lv_goto (tgt := 116) hx hb dX5_post_112 (by decide) ?_
                refine va_put (D := (D)) (ci := 6) (v := .int 3) (ty := .int) (C := RX5) (T := TX5) (N := 26) hx hb hts hin_RX5 tyX5 tyX5_ok nmX5 hown hE.1 hP hD hS 0 rfl rfl 0 (by decide) (hts (.fieldLink RX5 77 "VillagepostModel" "thrown" "I") (by decide +kernel)) (fun _ h9 => h9) rfl (by decide +kernel) rfl rfl (Nat.le_of_ble_eq_true rfl) dX5_post_116 (fun H locs hP hD hS => ?_)
                have hP : va_P D vwCl (Mw cy mo ad (va_up μ 0 (fun _ => 3))) H := hP
                have hD : va_D (va_A (Mw cy mo ad μ) s.heap.size) (Mw cy mo ad (va_up μ 0 (fun _ => 3))) := hD
                refine lv_aload_n hx hb dX5_post_119 rfl (lv_at hl 0 rfl) ?_
                refine va_get (D := D) (ci := 6) (v := .int 3) (C := RX5) (T := TX5) (N := 26) hx hb hts hin_RX5 hown hE.1 hP 0 rfl rfl 0 (by decide) (hts (.fieldLink RX5 77 "VillagepostModel" "thrown" "I") (by decide +kernel)) (fun _ h9 => h9) rfl dX5_post_120 ?_
                refine lv_if_eq (tgt := 128) hx hb dX5_post_123 (by decide) (fun c9 => False.elim (by revert c9; decide)) (fun _ => ?_)
                refine lv_iconst (v := 0) hx hb dX5_post_126 (by decide) ?_
                have eW : va_up μ 0 (fun _ => 3) = mPos μ p0 k0 a0 r0 := by simp [mPos, mPosT, c9, c18, c39, c40, c44, c47, nr0, c50]
                have hP : va_P D vwCl (Mw cy mo ad (mPos μ p0 k0 a0 r0)) H := by rw [← eW]; exact hP
                have hD : va_D (va_A (Mw cy mo ad μ) s.heap.size) (Mw cy mo ad (mPos μ p0 k0 a0 r0)) := by rw [← eW]; exact hD
                refine vg_tp (mPosR μ p0 k0 a0 r0) (by simp [mPosR, mPosT, c9, c18, c39, c40, c44, c47, nr0, c50]) ?_
                exact W.iret (v := (mPosR μ p0 k0 a0 r0)) hx hb hr (fun t ht hW => ⟨⟨(mPosR μ p0 k0 a0 r0), (), rfl, rfl, (by rw [ht]; exact hP), hD⟩, hS.F ht⟩) hS.2.2 dX5_post_127
          · have c44 : (mIn a0 0 ((((1 : Int32) <<< (((μ 1) 0) &&& 31)) - 1))) = false := bI_0.mp r44
            refine lv_iconst (v := 1) hx hb dX5_post_61 (by decide) ?_
            refine lv_goto (tgt := 66) hx hb dX5_post_62 (by decide) ?_
            refine lv_istore (lv' := [(6, .int 1), (0, .ref mo), (1, .int p0), (2, .int k0), (3, .int a0), (4, .int r0), (5, .int 0)]) hx hb dX5_post_66 hl (by decide) rfl (fun ls hl => ?_)
            have hl : lv_has ls 10 [(0, .ref mo), (1, .int p0), (2, .int k0), (3, .int a0), (4, .int r0), (5, .int 0), (6, .int 1)] := lv_sub hl [1, 2, 3, 4, 5, 6, 0] rfl
            refine lv_aload_n hx hb dX5_post_68 rfl (lv_at hl 0 rfl) ?_
            refine lv_iload hx hb dX5_post_69 (lv_at hl 5 rfl) ?_
            refine lv_if_eq (tgt := 78) hx hb dX5_post_71 (by decide) (fun _ => ?_) (fun c9 => False.elim (by revert c9; decide))
            refine lv_iload hx hb dX5_post_78 (lv_at hl 6 rfl) ?_
            refine lv_if_eq (tgt := 87) hx hb dX5_post_80 (by decide) (fun c9 => False.elim (by revert c9; decide)) (fun _ => ?_)
            refine lv_iconst (v := 2) hx hb dX5_post_83 (by decide) ?_
            refine lv_goto (tgt := 116) hx hb dX5_post_84 (by decide) ?_
            refine va_put (D := (D)) (ci := 6) (v := .int 2) (ty := .int) (C := RX5) (T := TX5) (N := 26) hx hb hts hin_RX5 tyX5 tyX5_ok nmX5 hown hE.1 hP hD hS 0 rfl rfl 0 (by decide) (hts (.fieldLink RX5 77 "VillagepostModel" "thrown" "I") (by decide +kernel)) (fun _ h9 => h9) rfl (by decide +kernel) rfl rfl (Nat.le_of_ble_eq_true rfl) dX5_post_116 (fun H locs hP hD hS => ?_)
            have hP : va_P D vwCl (Mw cy mo ad (va_up μ 0 (fun _ => 2))) H := hP
            have hD : va_D (va_A (Mw cy mo ad μ) s.heap.size) (Mw cy mo ad (va_up μ 0 (fun _ => 2))) := hD
            refine lv_aload_n hx hb dX5_post_119 rfl (lv_at hl 0 rfl) ?_
            refine va_get (D := D) (ci := 6) (v := .int 2) (C := RX5) (T := TX5) (N := 26) hx hb hts hin_RX5 hown hE.1 hP 0 rfl rfl 0 (by decide) (hts (.fieldLink RX5 77 "VillagepostModel" "thrown" "I") (by decide +kernel)) (fun _ h9 => h9) rfl dX5_post_120 ?_
            refine lv_if_eq (tgt := 128) hx hb dX5_post_123 (by decide) (fun c9 => False.elim (by revert c9; decide)) (fun _ => ?_)
            refine lv_iconst (v := 0) hx hb dX5_post_126 (by decide) ?_
            have eW : va_up μ 0 (fun _ => 2) = mPos μ p0 k0 a0 r0 := by simp [mPos, mPosT, c9, c18, c39, c40, c44]
            have hP : va_P D vwCl (Mw cy mo ad (mPos μ p0 k0 a0 r0)) H := by rw [← eW]; exact hP
            have hD : va_D (va_A (Mw cy mo ad μ) s.heap.size) (Mw cy mo ad (mPos μ p0 k0 a0 r0)) := by rw [← eW]; exact hD
            refine vg_tp (mPosR μ p0 k0 a0 r0) (by simp [mPosR, mPosT, c9, c18, c39, c40, c44]) ?_
            exact W.iret (v := (mPosR μ p0 k0 a0 r0)) hx hb hr (fun t ht hW => ⟨⟨(mPosR μ p0 k0 a0 r0), (), rfl, rfl, (by rw [ht]; exact hP), hD⟩, hS.F ht⟩) hS.2.2 dX5_post_127
      · have c39 : (mIn r0 0 ((((μ 11) 0) - 1))) = false := bI_0.mp r39
        refine lv_iconst (v := 1) hx hb dX5_post_29 (by decide) ?_
        refine lv_goto (tgt := 34) hx hb dX5_post_30 (by decide) ?_
        refine lv_istore (lv' := [(5, .int 1), (0, .ref mo), (1, .int p0), (2, .int k0), (3, .int a0), (4, .int r0)]) hx hb dX5_post_34 hl (by decide) rfl (fun ls hl => ?_)
        have hl : lv_has ls 10 [(0, .ref mo), (1, .int p0), (2, .int k0), (3, .int a0), (4, .int r0), (5, .int 1)] := lv_sub hl [1, 2, 3, 4, 5, 0] rfl
        refine lv_iload_n hx hb dX5_post_36 rfl (lv_at hl 2 rfl) ?_
        refine lv_iconst (v := 0) hx hb dX5_post_37 (by decide) ?_
        refine lv_iconst (v := 2) hx hb dX5_post_38 (by decide) ?_
        refine vg_calliP (va_runS (As := [.int k0, .int 0, .int 2]) (rest := []) ⟨hx, hb, hml, hown, hts⟩ (kX5_in l D cy H.size k0 0 2) (va_cwS 3 hts gX5_post_X5_in rfl rfl rfl (by decide +kernel) ⟨Nat.le_of_ble_eq_true rfl, Nat.le_of_ble_eq_true rfl⟩) (vg_P.preS hE vg_P0 (A := fun _ => True) vg_D0) rfl rfl hl.1 rfl (lv_room (Nat.le_of_ble_eq_true rfl)) dX5_post_39 ⟨Nat.le_of_ble_eq_true rfl, Nat.le_of_ble_eq_true rfl⟩) hP hD hS hA (fun r _ H locs hr hP hD hS => ?_)
        subst hr
        refine lv_if_eq (tgt := 61) hx hb dX5_post_42 (by decide) (fun r62 => ?_) (fun r62 => ?_)
        · have c62 : (mIn k0 0 2) = false := bI_0.mp r62
          refine lv_iconst (v := 1) hx hb dX5_post_61 (by decide) ?_
          refine lv_goto (tgt := 66) hx hb dX5_post_62 (by decide) ?_
          refine lv_istore (lv' := [(6, .int 1), (0, .ref mo), (1, .int p0), (2, .int k0), (3, .int a0), (4, .int r0), (5, .int 1)]) hx hb dX5_post_66 hl (by decide) rfl (fun ls hl => ?_)
          have hl : lv_has ls 10 [(0, .ref mo), (1, .int p0), (2, .int k0), (3, .int a0), (4, .int r0), (5, .int 1), (6, .int 1)] := lv_sub hl [1, 2, 3, 4, 5, 6, 0] rfl
          refine lv_aload_n hx hb dX5_post_68 rfl (lv_at hl 0 rfl) ?_
          refine lv_iload hx hb dX5_post_69 (lv_at hl 5 rfl) ?_
          refine lv_if_eq (tgt := 78) hx hb dX5_post_71 (by decide) (fun c9 => False.elim (by revert c9; decide)) (fun _ => ?_)
          refine lv_iconst (v := 1) hx hb dX5_post_74 (by decide) ?_
          refine lv_goto (tgt := 116) hx hb dX5_post_75 (by decide) ?_
          refine va_put (D := (D)) (ci := 6) (v := .int 1) (ty := .int) (C := RX5) (T := TX5) (N := 26) hx hb hts hin_RX5 tyX5 tyX5_ok nmX5 hown hE.1 hP hD hS 0 rfl rfl 0 (by decide) (hts (.fieldLink RX5 77 "VillagepostModel" "thrown" "I") (by decide +kernel)) (fun _ h9 => h9) rfl (by decide +kernel) rfl rfl (Nat.le_of_ble_eq_true rfl) dX5_post_116 (fun H locs hP hD hS => ?_)
          have hP : va_P D vwCl (Mw cy mo ad (va_up μ 0 (fun _ => 1))) H := hP
          have hD : va_D (va_A (Mw cy mo ad μ) s.heap.size) (Mw cy mo ad (va_up μ 0 (fun _ => 1))) := hD
          refine lv_aload_n hx hb dX5_post_119 rfl (lv_at hl 0 rfl) ?_
          refine va_get (D := D) (ci := 6) (v := .int 1) (C := RX5) (T := TX5) (N := 26) hx hb hts hin_RX5 hown hE.1 hP 0 rfl rfl 0 (by decide) (hts (.fieldLink RX5 77 "VillagepostModel" "thrown" "I") (by decide +kernel)) (fun _ h9 => h9) rfl dX5_post_120 ?_
          refine lv_if_eq (tgt := 128) hx hb dX5_post_123 (by decide) (fun c9 => False.elim (by revert c9; decide)) (fun _ => ?_)
          refine lv_iconst (v := 0) hx hb dX5_post_126 (by decide) ?_
          have eW : va_up μ 0 (fun _ => 1) = mPos μ p0 k0 a0 r0 := by simp [mPos, mPosT, c9, c18, c39, c62]
          have hP : va_P D vwCl (Mw cy mo ad (mPos μ p0 k0 a0 r0)) H := by rw [← eW]; exact hP
          have hD : va_D (va_A (Mw cy mo ad μ) s.heap.size) (Mw cy mo ad (mPos μ p0 k0 a0 r0)) := by rw [← eW]; exact hD
          refine vg_tp (mPosR μ p0 k0 a0 r0) (by simp [mPosR, mPosT, c9, c18, c39, c62]) ?_
          exact W.iret (v := (mPosR μ p0 k0 a0 r0)) hx hb hr (fun t ht hW => ⟨⟨(mPosR μ p0 k0 a0 r0), (), rfl, rfl, (by rw [ht]; exact hP), hD⟩, hS.F ht⟩) hS.2.2 dX5_post_127
        · have c62 : (mIn k0 0 2) = true := bI_n0.mp r62
          refine lv_iload_n hx hb dX5_post_45 rfl (lv_at hl 3 rfl) ?_
          refine lv_iconst (v := 0) hx hb dX5_post_46 (by decide) ?_
          refine lv_iconst (v := 1) hx hb dX5_post_47 (by decide) ?_
          refine lv_aload_n hx hb dX5_post_48 rfl (lv_at hl 0 rfl) ?_
          refine va_get (D := D) (ci := 6) (v := .int ((μ 1) 0)) (C := RX5) (T := TX5) (N := 26) hx hb hts hin_RX5 hown hE.1 hP 0 rfl rfl 1 (by decide) (hts (.fieldLink RX5 81 "VillagepostModel" "people" "I") (by decide +kernel)) (fun _ h9 => h9) rfl dX5_post_49 ?_
          refine lv_ishl hx hb dX5_post_52 ?_
          refine lv_iconst (v := 1) hx hb dX5_post_53 (by decide) ?_
          refine lv_isub hx hb dX5_post_54 ?_
          refine vg_calliP (va_runS (As := [.int a0, .int 0, .int (((1 : Int32) <<< (((μ 1) 0) &&& 31)) - 1)]) (rest := []) ⟨hx, hb, hml, hown, hts⟩ (kX5_in l D cy H.size a0 0 ((((1 : Int32) <<< (((μ 1) 0) &&& 31)) - 1))) (va_cwS 3 hts gX5_post_X5_in rfl rfl rfl (by decide +kernel) ⟨Nat.le_of_ble_eq_true rfl, Nat.le_of_ble_eq_true rfl⟩) (vg_P.preS hE vg_P0 (A := fun _ => True) vg_D0) rfl rfl hl.1 rfl (lv_room (Nat.le_of_ble_eq_true rfl)) dX5_post_55 ⟨Nat.le_of_ble_eq_true rfl, Nat.le_of_ble_eq_true rfl⟩) hP hD hS hA (fun r _ H locs hr hP hD hS => ?_)
          subst hr
          refine lv_if_ne (tgt := 65) hx hb dX5_post_58 (by decide) (fun r65 => ?_) (fun r65 => ?_)
          · have c65 : (mIn a0 0 ((((1 : Int32) <<< (((μ 1) 0) &&& 31)) - 1))) = true := bI_n0.mp r65
            refine lv_iconst (v := 0) hx hb dX5_post_65 (by decide) ?_
            refine lv_istore (lv' := [(6, .int 0), (0, .ref mo), (1, .int p0), (2, .int k0), (3, .int a0), (4, .int r0), (5, .int 1)]) hx hb dX5_post_66 hl (by decide) rfl (fun ls hl => ?_)
            have hl : lv_has ls 10 [(0, .ref mo), (1, .int p0), (2, .int k0), (3, .int a0), (4, .int r0), (5, .int 1), (6, .int 0)] := lv_sub hl [1, 2, 3, 4, 5, 6, 0] rfl
            refine lv_aload_n hx hb dX5_post_68 rfl (lv_at hl 0 rfl) ?_
            refine lv_iload hx hb dX5_post_69 (lv_at hl 5 rfl) ?_
            refine lv_if_eq (tgt := 78) hx hb dX5_post_71 (by decide) (fun c9 => False.elim (by revert c9; decide)) (fun _ => ?_)
            refine lv_iconst (v := 1) hx hb dX5_post_74 (by decide) ?_
            refine lv_goto (tgt := 116) hx hb dX5_post_75 (by decide) ?_
            refine va_put (D := (D)) (ci := 6) (v := .int 1) (ty := .int) (C := RX5) (T := TX5) (N := 26) hx hb hts hin_RX5 tyX5 tyX5_ok nmX5 hown hE.1 hP hD hS 0 rfl rfl 0 (by decide) (hts (.fieldLink RX5 77 "VillagepostModel" "thrown" "I") (by decide +kernel)) (fun _ h9 => h9) rfl (by decide +kernel) rfl rfl (Nat.le_of_ble_eq_true rfl) dX5_post_116 (fun H locs hP hD hS => ?_)
            have hP : va_P D vwCl (Mw cy mo ad (va_up μ 0 (fun _ => 1))) H := hP
            have hD : va_D (va_A (Mw cy mo ad μ) s.heap.size) (Mw cy mo ad (va_up μ 0 (fun _ => 1))) := hD
            refine lv_aload_n hx hb dX5_post_119 rfl (lv_at hl 0 rfl) ?_
            refine va_get (D := D) (ci := 6) (v := .int 1) (C := RX5) (T := TX5) (N := 26) hx hb hts hin_RX5 hown hE.1 hP 0 rfl rfl 0 (by decide) (hts (.fieldLink RX5 77 "VillagepostModel" "thrown" "I") (by decide +kernel)) (fun _ h9 => h9) rfl dX5_post_120 ?_
            refine lv_if_eq (tgt := 128) hx hb dX5_post_123 (by decide) (fun c9 => False.elim (by revert c9; decide)) (fun _ => ?_)
            refine lv_iconst (v := 0) hx hb dX5_post_126 (by decide) ?_
            have eW : va_up μ 0 (fun _ => 1) = mPos μ p0 k0 a0 r0 := by simp [mPos, mPosT, c9, c18, c39, c62, c65]
            have hP : va_P D vwCl (Mw cy mo ad (mPos μ p0 k0 a0 r0)) H := by rw [← eW]; exact hP
            have hD : va_D (va_A (Mw cy mo ad μ) s.heap.size) (Mw cy mo ad (mPos μ p0 k0 a0 r0)) := by rw [← eW]; exact hD
            refine vg_tp (mPosR μ p0 k0 a0 r0) (by simp [mPosR, mPosT, c9, c18, c39, c62, c65]) ?_
            exact W.iret (v := (mPosR μ p0 k0 a0 r0)) hx hb hr (fun t ht hW => ⟨⟨(mPosR μ p0 k0 a0 r0), (), rfl, rfl, (by rw [ht]; exact hP), hD⟩, hS.F ht⟩) hS.2.2 dX5_post_127
          · have c65 : (mIn a0 0 ((((1 : Int32) <<< (((μ 1) 0) &&& 31)) - 1))) = false := bI_0.mp r65
            refine lv_iconst (v := 1) hx hb dX5_post_61 (by decide) ?_
            refine lv_goto (tgt := 66) hx hb dX5_post_62 (by decide) ?_
            refine lv_istore (lv' := [(6, .int 1), (0, .ref mo), (1, .int p0), (2, .int k0), (3, .int a0), (4, .int r0), (5, .int 1)]) hx hb dX5_post_66 hl (by decide) rfl (fun ls hl => ?_)
            have hl : lv_has ls 10 [(0, .ref mo), (1, .int p0), (2, .int k0), (3, .int a0), (4, .int r0), (5, .int 1), (6, .int 1)] := lv_sub hl [1, 2, 3, 4, 5, 6, 0] rfl
            refine lv_aload_n hx hb dX5_post_68 rfl (lv_at hl 0 rfl) ?_
            refine lv_iload hx hb dX5_post_69 (lv_at hl 5 rfl) ?_
            refine lv_if_eq (tgt := 78) hx hb dX5_post_71 (by decide) (fun c9 => False.elim (by revert c9; decide)) (fun _ => ?_)
            refine lv_iconst (v := 1) hx hb dX5_post_74 (by decide) ?_
            refine lv_goto (tgt := 116) hx hb dX5_post_75 (by decide) ?_
            refine va_put (D := (D)) (ci := 6) (v := .int 1) (ty := .int) (C := RX5) (T := TX5) (N := 26) hx hb hts hin_RX5 tyX5 tyX5_ok nmX5 hown hE.1 hP hD hS 0 rfl rfl 0 (by decide) (hts (.fieldLink RX5 77 "VillagepostModel" "thrown" "I") (by decide +kernel)) (fun _ h9 => h9) rfl (by decide +kernel) rfl rfl (Nat.le_of_ble_eq_true rfl) dX5_post_116 (fun H locs hP hD hS => ?_)
            have hP : va_P D vwCl (Mw cy mo ad (va_up μ 0 (fun _ => 1))) H := hP
            have hD : va_D (va_A (Mw cy mo ad μ) s.heap.size) (Mw cy mo ad (va_up μ 0 (fun _ => 1))) := hD
            refine lv_aload_n hx hb dX5_post_119 rfl (lv_at hl 0 rfl) ?_
            refine va_get (D := D) (ci := 6) (v := .int 1) (C := RX5) (T := TX5) (N := 26) hx hb hts hin_RX5 hown hE.1 hP 0 rfl rfl 0 (by decide) (hts (.fieldLink RX5 77 "VillagepostModel" "thrown" "I") (by decide +kernel)) (fun _ h9 => h9) rfl dX5_post_120 ?_
            refine lv_if_eq (tgt := 128) hx hb dX5_post_123 (by decide) (fun c9 => False.elim (by revert c9; decide)) (fun _ => ?_)
            refine lv_iconst (v := 0) hx hb dX5_post_126 (by decide) ?_
            have eW : va_up μ 0 (fun _ => 1) = mPos μ p0 k0 a0 r0 := by simp [mPos, mPosT, c9, c18, c39, c62, c65]
            have hP : va_P D vwCl (Mw cy mo ad (mPos μ p0 k0 a0 r0)) H := by rw [← eW]; exact hP
            have hD : va_D (va_A (Mw cy mo ad μ) s.heap.size) (Mw cy mo ad (mPos μ p0 k0 a0 r0)) := by rw [← eW]; exact hD
            refine vg_tp (mPosR μ p0 k0 a0 r0) (by simp [mPosR, mPosT, c9, c18, c39, c62, c65]) ?_
            exact W.iret (v := (mPosR μ p0 k0 a0 r0)) hx hb hr (fun t ht hW => ⟨⟨(mPosR μ p0 k0 a0 r0), (), rfl, rfl, (by rw [ht]; exact hP), hD⟩, hS.F ht⟩) hS.2.2 dX5_post_127
