set_option maxHeartbeats 4000000 in
set_option maxRecDepth 100000 in
theorem kX5_thrown (l : Launch) (D : va_G) (cy : Nat → ClassId) (sz : Nat) (mo : Nat) (ad : Nat → Nat) (μ : Nat → Nat → Int32)  : Met l yX5_thrown wsX5_thrown ({ frames := 0, cells := 0, slots := 0, locals := 0 }) (vg_P D cy [.ref mo] sz (Mw cy mo ad μ)) (vg_Qi (S := Unit) D sz (Mw cy mo ad μ) (fun r _ => r = (μ 0 0)) (fun _ => Mw cy mo ad μ)) 0 0 (va_A (Mw cy mo ad μ) sz) := by
  refine Met.ofW (cc := cX5_thrown) (maxL := 1) (ret := (some .int)) (by decide) rfl ?_
  intro p e s m args below meth c s₁ BB hml hv
  obtain ⟨rfl, hsz, hP, hE, hD0⟩ := hv
  have hx := BB.exec
  have hb := BB.bytes
  have hr := BB.returns
  have hts := atoms_spec (ws := wsX5_thrown) BB.pre
  have hown : s.vm.findClass RX5 = some m.cls := findClass_of_methodNamed BB.named
  have hlocks := BB.notSynchronized
  subst hsz
  have hD := hD0.self (sz := s.heap.size)
  have hA : ∀ q : Nat, s.heap.size ≤ q → (va_A (Mw cy mo ad μ) s.heap.size) q := fun q h => Or.inr h
  have hS : va_S (va_A (Mw cy mo ad μ) s.heap.size) s.heap s.heap [] := va_S.rf
  have hin_RX5 : ∀ w ∈ u_ws RX5 TX5 26, w ∈ wsX5_thrown := by decide +kernel
  have hl := lv_entry ([.ref mo]) (n := 1) (Nat.le_of_ble_eq_true rfl)
  rw [lg_entry_eq]
  generalize (lg_sl ([.ref mo]) ++ List.replicate (1 - (lg_sl ([.ref mo])).length) Slot.unset).toArray = ls at hl ⊢
  have hl : lv_has ls 1 [(0, .ref mo)] := hl
  refine lv_aload_n hx hb dX5_thrown_0 rfl (lv_at hl 0 rfl) ?_
  refine va_get (D := D) (ci := 6) (v := .int ((μ 0) 0)) (C := RX5) (T := TX5) (N := 26) hx hb hts hin_RX5 hown hE.1 hP 0 rfl rfl 0 (by decide) (hts (.fieldLink RX5 77 "VillagepostModel" "thrown" "I") (by decide +kernel)) (fun _ h9 => h9) rfl dX5_thrown_1 ?_
  refine vg_tp (μ 0 0) (by first | rfl | simp []) ?_
  exact W.iret (v := (μ 0 0)) hx hb hr (fun t ht hW => ⟨⟨(μ 0 0), (), rfl, rfl, (by rw [ht]; exact hP), hD⟩, hS.F ht⟩) hS.2.2 dX5_thrown_4

set_option maxHeartbeats 4000000 in
set_option maxRecDepth 100000 in
theorem kX5_person (l : Launch) (D : va_G) (cy : Nat → ClassId) (sz : Nat) (mo : Nat) (ad : Nat → Nat) (μ : Nat → Nat → Int32) (v0 : Int32) (hw : mWF μ) : Met l yX5_person wsX5_person ({ frames := 1, cells := 0, slots := 0, locals := 22 }) (vg_P D cy [.ref mo, .int v0] sz (Mw cy mo ad μ)) (vg_Qi (S := Unit) D sz (Mw cy mo ad μ) (fun r _ => r = (mPerR μ v0)) (fun _ => Mw cy mo ad (mPer μ v0))) 0 0 (va_A (Mw cy mo ad μ) sz) := by
  refine Met.ofW (cc := cX5_person) (maxL := 2) (ret := (some .int)) (by decide) rfl ?_
  intro p e s m args below meth c s₁ BB hml hv
  obtain ⟨rfl, hsz, hP, hE, hD0⟩ := hv
  have hx := BB.exec
  have hb := BB.bytes
  have hr := BB.returns
  have hts := atoms_spec (ws := wsX5_person) BB.pre
  have hown : s.vm.findClass RX5 = some m.cls := findClass_of_methodNamed BB.named
  have hlocks := BB.notSynchronized
  subst hsz
  have hD := hD0.self (sz := s.heap.size)
  have hA : ∀ q : Nat, s.heap.size ≤ q → (va_A (Mw cy mo ad μ) s.heap.size) q := fun q h => Or.inr h
  have hS : va_S (va_A (Mw cy mo ad μ) s.heap.size) s.heap s.heap [] := va_S.rf
  have hin_RX5 : ∀ w ∈ u_ws RX5 TX5 26, w ∈ wsX5_person := by decide +kernel
  have hl := lv_entry ([.ref mo, .int v0]) (n := 2) (Nat.le_of_ble_eq_true rfl)
  rw [lg_entry_eq]
  generalize (lg_sl ([.ref mo, .int v0]) ++ List.replicate (2 - (lg_sl ([.ref mo, .int v0])).length) Slot.unset).toArray = ls at hl ⊢
  have hl : lv_has ls 2 [(0, .ref mo), (1, .int v0)] := hl
  obtain ⟨hpe, hho, hau, hre, hac⟩ := hw
  have hpe2 := hpe.2
  refine lv_aload_n hx hb dX5_person_0 rfl (lv_at hl 0 rfl) ?_
  refine lv_iload_n hx hb dX5_person_1 rfl (lv_at hl 1 rfl) ?_
  refine lv_iconst (v := 0) hx hb dX5_person_2 (by decide) ?_
  refine lv_iconst (v := 3) hx hb dX5_person_3 (by decide) ?_
  refine vg_calliP (va_runS (As := [.int v0, .int 0, .int 3]) (rest := [.ref mo]) ⟨hx, hb, hml, hown, hts⟩ (kX5_in l D cy s.heap.size v0 0 3) (va_cwS 3 hts gX5_person_X5_in rfl rfl rfl (by decide +kernel) ⟨Nat.le_of_ble_eq_true rfl, Nat.le_of_ble_eq_true rfl⟩) (vg_P.preS hE vg_P0 (A := fun _ => True) vg_D0) rfl rfl hl.1 rfl (lv_room (Nat.le_of_ble_eq_true rfl)) dX5_person_4 ⟨Nat.le_of_ble_eq_true rfl, Nat.le_of_ble_eq_true rfl⟩) hP hD hS hA (fun r _ H locs hr hP hD hS => ?_)
  subst hr
  refine lv_if_ne (tgt := 14) hx hb dX5_person_7 (by decide) (fun r1 => ?_) (fun r1 => ?_)
  · have c1 : (mIn v0 0 3) = true := bI_n0.mp r1
    refine lv_aload_n hx hb dX5_person_14 rfl (lv_at hl 0 rfl) ?_
    refine va_get (D := D) (ci := 6) (v := .int ((μ 1) 0)) (C := RX5) (T := TX5) (N := 26) hx hb hts hin_RX5 hown hE.1 hP 0 rfl rfl 1 (by decide) (hts (.fieldLink RX5 81 "VillagepostModel" "people" "I") (by decide +kernel)) (fun _ h9 => h9) rfl dX5_person_15 ?_
    refine vg_tp (nI (tn ((μ 1) 0))) hpe.1 ?_
    refine lv_bipush (v := 10) hx hb dX5_person_18 (by decide) ?_
    refine lv_icmp_ne (tgt := 27) hx hb dX5_person_20 (by decide) (fun r2 => ?_) (fun r2 => ?_)
    · have c2 : ¬ tn ((μ 1) 0) = 10 := fun q => r2 ((nI_eq (a := tn ((μ 1) 0)) (b := 10) (by omega) (by omega)).mpr q)
      refine lv_iconst (v := 0) hx hb dX5_person_27 (by decide) ?_
      refine va_put (D := (D)) (ci := 6) (v := .int 0) (ty := .int) (C := RX5) (T := TX5) (N := 26) hx hb hts hin_RX5 tyX5 tyX5_ok nmX5 hown hE.1 hP hD hS 0 rfl rfl 0 (by decide) (hts (.fieldLink RX5 77 "VillagepostModel" "thrown" "I") (by decide +kernel)) (fun _ h9 => h9) rfl (by decide +kernel) rfl rfl (Nat.le_of_ble_eq_true rfl) dX5_person_28 (fun H locs hP hD hS => ?_)
      have hP : va_P D vwCl (Mw cy mo ad (va_up μ 0 (fun _ => 0))) H := hP
      have hD : va_D (va_A (Mw cy mo ad μ) s.heap.size) (Mw cy mo ad (va_up μ 0 (fun _ => 0))) := hD
      refine lv_aload_n hx hb dX5_person_31 rfl (lv_at hl 0 rfl) ?_
      refine va_get (D := D) (ci := 6) (v := .int 0) (C := RX5) (T := TX5) (N := 26) hx hb hts hin_RX5 hown hE.1 hP 0 rfl rfl 0 (by decide) (hts (.fieldLink RX5 77 "VillagepostModel" "thrown" "I") (by decide +kernel)) (fun _ h9 => h9) rfl dX5_person_32 ?_
      refine lv_if_eq (tgt := 40) hx hb dX5_person_35 (by decide) (fun _ => ?_) (fun c9 => False.elim (by revert c9; decide))
      refine lv_aload_n hx hb dX5_person_40 rfl (lv_at hl 0 rfl) ?_
      refine va_get (D := D) (ci := 6) (v := .ref (ad 2)) (C := RX5) (T := TX5) (N := 26) hx hb hts hin_RX5 hown hE.1 hP 0 rfl rfl 2 (by decide) (hts (.fieldLink RX5 7 "VillagepostModel" "home" "[I") (by decide +kernel)) (fun _ h9 => h9) rfl dX5_person_41 ?_
      refine lv_aload_n hx hb dX5_person_44 rfl (lv_at hl 0 rfl) ?_
      refine va_get (D := D) (ci := 6) (v := .int ((μ 1) 0)) (C := RX5) (T := TX5) (N := 26) hx hb hts hin_RX5 hown hE.1 hP 0 rfl rfl 1 (by decide) (hts (.fieldLink RX5 81 "VillagepostModel" "people" "I") (by decide +kernel)) (fun _ h9 => h9) rfl dX5_person_45 ?_
      refine vg_tp (nI (tn ((μ 1) 0))) hpe.1 ?_
      refine lv_iload_n hx hb dX5_person_48 rfl (lv_at hl 1 rfl) ?_
      refine vg_iast hx hb hE.1 hP hD hS 1 0 rfl rfl (f := μ 2) (j := (tn ((μ 1) 0))) (by omega) (by decide) dX5_person_49 (fun H locs hP hD hS => ?_)
      have hP : va_P D vwCl (Mw cy mo ad (va_up (va_up μ 0 (fun _ => 0)) 2 (upd (μ 2) (tn ((μ 1) 0)) v0))) H := hP
      have hD : va_D (va_A (Mw cy mo ad μ) s.heap.size) (Mw cy mo ad (va_up (va_up μ 0 (fun _ => 0)) 2 (upd (μ 2) (tn ((μ 1) 0)) v0))) := hD
      refine lv_aload_n hx hb dX5_person_50 rfl (lv_at hl 0 rfl) ?_
      refine lv_dup hx hb dX5_person_51 rfl ?_
      refine va_get (D := D) (ci := 6) (v := .int ((μ 1) 0)) (C := RX5) (T := TX5) (N := 26) hx hb hts hin_RX5 hown hE.1 hP 0 rfl rfl 1 (by decide) (hts (.fieldLink RX5 81 "VillagepostModel" "people" "I") (by decide +kernel)) (fun _ h9 => h9) rfl dX5_person_52 ?_
      refine vg_tp (nI (tn ((μ 1) 0))) hpe.1 ?_
      refine lv_iconst (v := 1) hx hb dX5_person_55 (by decide) ?_
      refine lv_iadd hx hb dX5_person_56 ?_
      refine vg_tp (nI (tn ((μ 1) 0) + 1)) (nI_add (tn ((μ 1) 0)) 1) ?_
      refine va_put (D := (D)) (ci := 6) (v := .int (nI (tn ((μ 1) 0) + 1))) (ty := .int) (C := RX5) (T := TX5) (N := 26) hx hb hts hin_RX5 tyX5 tyX5_ok nmX5 hown hE.1 hP hD hS 0 rfl rfl 1 (by decide) (hts (.fieldLink RX5 81 "VillagepostModel" "people" "I") (by decide +kernel)) (fun _ h9 => h9) rfl (by decide +kernel) rfl rfl (Nat.le_of_ble_eq_true rfl) dX5_person_57 (fun H locs hP hD hS => ?_)
      have hP : va_P D vwCl (Mw cy mo ad (va_up (va_up (va_up μ 0 (fun _ => 0)) 2 (upd (μ 2) (tn ((μ 1) 0)) v0)) 1 (fun _ => (nI (tn ((μ 1) 0) + 1))))) H := hP
      have hD : va_D (va_A (Mw cy mo ad μ) s.heap.size) (Mw cy mo ad (va_up (va_up (va_up μ 0 (fun _ => 0)) 2 (upd (μ 2) (tn ((μ 1) 0)) v0)) 1 (fun _ => (nI (tn ((μ 1) 0) + 1))))) := hD
      refine lv_aload_n hx hb dX5_person_60 rfl (lv_at hl 0 rfl) ?_
      refine va_get (D := D) (ci := 6) (v := .int (nI (tn ((μ 1) 0) + 1))) (C := RX5) (T := TX5) (N := 26) hx hb hts hin_RX5 hown hE.1 hP 0 rfl rfl 1 (by decide) (hts (.fieldLink RX5 81 "VillagepostModel" "people" "I") (by decide +kernel)) (fun _ h9 => h9) rfl dX5_person_61 ?_
      refine lv_iconst (v := 1) hx hb dX5_person_64 (by decide) ?_
      refine lv_isub hx hb dX5_person_65 ?_
      refine vg_tp (nI (tn ((μ 1) 0) + 1 - 1)) (pk_sub (a := tn ((μ 1) 0) + 1) (b := 1) (by omega)) ?_
      have eW : va_up (va_up (va_up μ 0 (fun _ => 0)) 2 (upd (μ 2) (tn ((μ 1) 0)) v0)) 1 (fun _ => (nI (tn ((μ 1) 0) + 1))) = mPer μ v0 := by simp [mPer, c1, c2]
      have hP : va_P D vwCl (Mw cy mo ad (mPer μ v0)) H := by rw [← eW]; exact hP
      have hD : va_D (va_A (Mw cy mo ad μ) s.heap.size) (Mw cy mo ad (mPer μ v0)) := by rw [← eW]; exact hD
      refine vg_tp (mPerR μ v0) (by simp [mPerR, c1, c2]) ?_
      exact W.iret (v := (mPerR μ v0)) hx hb hr (fun t ht hW => ⟨⟨(mPerR μ v0), (), rfl, rfl, (by rw [ht]; exact hP), hD⟩, hS.F ht⟩) hS.2.2 dX5_person_66
    · have c2 : tn ((μ 1) 0) = 10 := (nI_eq (a := tn ((μ 1) 0)) (b := 10) (by omega) (by omega)).mp r2
      refine lv_iconst (v := 2) hx hb dX5_person_23 (by decide) ?_
      refine lv_goto (tgt := 28) hx hb dX5_person_24 (by decide) ?_
      refine va_put (D := (D)) (ci := 6) (v := .int 2) (ty := .int) (C := RX5) (T := TX5) (N := 26) hx hb hts hin_RX5 tyX5 tyX5_ok nmX5 hown hE.1 hP hD hS 0 rfl rfl 0 (by decide) (hts (.fieldLink RX5 77 "VillagepostModel" "thrown" "I") (by decide +kernel)) (fun _ h9 => h9) rfl (by decide +kernel) rfl rfl (Nat.le_of_ble_eq_true rfl) dX5_person_28 (fun H locs hP hD hS => ?_)
      have hP : va_P D vwCl (Mw cy mo ad (va_up μ 0 (fun _ => 2))) H := hP
      have hD : va_D (va_A (Mw cy mo ad μ) s.heap.size) (Mw cy mo ad (va_up μ 0 (fun _ => 2))) := hD
      refine lv_aload_n hx hb dX5_person_31 rfl (lv_at hl 0 rfl) ?_
      refine va_get (D := D) (ci := 6) (v := .int 2) (C := RX5) (T := TX5) (N := 26) hx hb hts hin_RX5 hown hE.1 hP 0 rfl rfl 0 (by decide) (hts (.fieldLink RX5 77 "VillagepostModel" "thrown" "I") (by decide +kernel)) (fun _ h9 => h9) rfl dX5_person_32 ?_
      refine lv_if_eq (tgt := 40) hx hb dX5_person_35 (by decide) (fun c9 => False.elim (by revert c9; decide)) (fun _ => ?_)
      refine lv_iconst (v := 0) hx hb dX5_person_38 (by decide) ?_
      have eW : va_up μ 0 (fun _ => 2) = mPer μ v0 := by simp [mPer, c1, c2]
      have hP : va_P D vwCl (Mw cy mo ad (mPer μ v0)) H := by rw [← eW]; exact hP
      have hD : va_D (va_A (Mw cy mo ad μ) s.heap.size) (Mw cy mo ad (mPer μ v0)) := by rw [← eW]; exact hD
      refine vg_tp (mPerR μ v0) (by simp [mPerR, c1, c2]) ?_
      exact W.iret (v := (mPerR μ v0)) hx hb hr (fun t ht hW => ⟨⟨(mPerR μ v0), (), rfl, rfl, (by rw [ht]; exact hP), hD⟩, hS.F ht⟩) hS.2.2 dX5_person_39
  · have c1 : (mIn v0 0 3) = false := bI_0.mp r1
    refine lv_iconst (v := 1) hx hb dX5_person_10 (by decide) ?_
    refine lv_goto (tgt := 28) hx hb dX5_person_11 (by decide) ?_
    refine va_put (D := (D)) (ci := 6) (v := .int 1) (ty := .int) (C := RX5) (T := TX5) (N := 26) hx hb hts hin_RX5 tyX5 tyX5_ok nmX5 hown hE.1 hP hD hS 0 rfl rfl 0 (by decide) (hts (.fieldLink RX5 77 "VillagepostModel" "thrown" "I") (by decide +kernel)) (fun _ h9 => h9) rfl (by decide +kernel) rfl rfl (Nat.le_of_ble_eq_true rfl) dX5_person_28 (fun H locs hP hD hS => ?_)
    have hP : va_P D vwCl (Mw cy mo ad (va_up μ 0 (fun _ => 1))) H := hP
    have hD : va_D (va_A (Mw cy mo ad μ) s.heap.size) (Mw cy mo ad (va_up μ 0 (fun _ => 1))) := hD
    refine lv_aload_n hx hb dX5_person_31 rfl (lv_at hl 0 rfl) ?_
    refine va_get (D := D) (ci := 6) (v := .int 1) (C := RX5) (T := TX5) (N := 26) hx hb hts hin_RX5 hown hE.1 hP 0 rfl rfl 0 (by decide) (hts (.fieldLink RX5 77 "VillagepostModel" "thrown" "I") (by decide +kernel)) (fun _ h9 => h9) rfl dX5_person_32 ?_
    refine lv_if_eq (tgt := 40) hx hb dX5_person_35 (by decide) (fun c9 => False.elim (by revert c9; decide)) (fun _ => ?_)
    refine lv_iconst (v := 0) hx hb dX5_person_38 (by decide) ?_
    have eW : va_up μ 0 (fun _ => 1) = mPer μ v0 := by simp [mPer, c1]
    have hP : va_P D vwCl (Mw cy mo ad (mPer μ v0)) H := by rw [← eW]; exact hP
    have hD : va_D (va_A (Mw cy mo ad μ) s.heap.size) (Mw cy mo ad (mPer μ v0)) := by rw [← eW]; exact hD
    refine vg_tp (mPerR μ v0) (by simp [mPerR, c1]) ?_
    exact W.iret (v := (mPerR μ v0)) hx hb hr (fun t ht hW => ⟨⟨(mPerR μ v0), (), rfl, rfl, (by rw [ht]; exact hP), hD⟩, hS.F ht⟩) hS.2.2 dX5_person_39

set_option maxHeartbeats 4000000 in
set_option maxRecDepth 100000 in
theorem kX5_follow (l : Launch) (D : va_G) (cy : Nat → ClassId) (sz : Nat) (mo : Nat) (ad : Nat → Nat) (μ : Nat → Nat → Int32) (p0 : Int32) (q0 : Int32) (hw : mWF μ) (hla : mLast μ 1199) (hac0 : isN (μ 17 0) 600) : Met l yX5_follow wsX5_follow ({ frames := 6, cells := 0, slots := 0, locals := 145 }) (vg_P D cy [.ref mo, .int p0, .int q0] sz (Mw cy mo ad μ)) (vg_Qv (S := Unit) D sz (Mw cy mo ad μ) (fun _ => True) (fun _ => Mw cy mo ad (mFlw μ p0 q0))) 0 0 (va_A (Mw cy mo ad μ) sz) := by
  refine Met.ofW (cc := cX5_follow) (maxL := 4) (ret := none) (by decide) rfl ?_
  intro p e s m args below meth c s₁ BB hml hv
  obtain ⟨rfl, hsz, hP, hE, hD0⟩ := hv
  have hx := BB.exec
  have hb := BB.bytes
  have hr := BB.returns
  have hts := atoms_spec (ws := wsX5_follow) BB.pre
  have hown : s.vm.findClass RX5 = some m.cls := findClass_of_methodNamed BB.named
  have hlocks := BB.notSynchronized
  subst hsz
  have hD := hD0.self (sz := s.heap.size)
  have hA : ∀ q : Nat, s.heap.size ≤ q → (va_A (Mw cy mo ad μ) s.heap.size) q := fun q h => Or.inr h
  have hS : va_S (va_A (Mw cy mo ad μ) s.heap.size) s.heap s.heap [] := va_S.rf
  have hin_RX5 : ∀ w ∈ u_ws RX5 TX5 26, w ∈ wsX5_follow := by decide +kernel
  have hl := lv_entry ([.ref mo, .int p0, .int q0]) (n := 4) (Nat.le_of_ble_eq_true rfl)
  rw [lg_entry_eq]
  generalize (lg_sl ([.ref mo, .int p0, .int q0]) ++ List.replicate (4 - (lg_sl ([.ref mo, .int p0, .int q0])).length) Slot.unset).toArray = ls at hl ⊢
  have hl : lv_has ls 4 [(0, .ref mo), (1, .int p0), (2, .int q0)] := hl
  obtain ⟨hpe, hho, hau, hre, hac⟩ := hw
  have hpe2 := hpe.2
  refine lv_aload_n hx hb dX5_follow_0 rfl (lv_at hl 0 rfl) ?_
  refine lv_aload_n hx hb dX5_follow_1 rfl (lv_at hl 0 rfl) ?_
  refine lv_iload_n hx hb dX5_follow_2 rfl (lv_at hl 1 rfl) ?_
  refine vg_calliW (va_runV (As := [.int p0]) (rest := [.ref mo]) ⟨hx, hb, hml, hown, hts⟩ (kX5_isOne l D cy s.heap.size mo ad μ p0 ) (cwV 1 hts gX5_follow_X5_isOne rfl rfl rfl (by decide +kernel) ⟨Nat.le_of_ble_eq_true rfl, Nat.le_of_ble_eq_true rfl⟩) (vg_P.preV hE hP 0 rfl rfl hP hD) rfl rfl hl.1 rfl (lv_room (Nat.le_of_ble_eq_true rfl)) dX5_follow_3 ⟨Nat.le_of_ble_eq_true rfl, Nat.le_of_ble_eq_true rfl⟩) hP hD hS hA (fun r _ H locs hr hP hD hS => ?_)
  subst hr
  refine lv_if_eq (tgt := 17) hx hb dX5_follow_6 (by decide) (fun r1 => ?_) (fun r1 => ?_)
  · have c1 : (mIn p0 0 (μ 1 0 - 1)) = false := bI_0.mp r1
    refine lv_iconst (v := 1) hx hb dX5_follow_17 (by decide) ?_
    refine lv_goto (tgt := 31) hx hb dX5_follow_18 (by decide) ?_
    refine va_put (D := (D)) (ci := 6) (v := .int 1) (ty := .int) (C := RX5) (T := TX5) (N := 26) hx hb hts hin_RX5 tyX5 tyX5_ok nmX5 hown hE.1 hP hD hS 0 rfl rfl 0 (by decide) (hts (.fieldLink RX5 77 "VillagepostModel" "thrown" "I") (by decide +kernel)) (fun _ h9 => h9) rfl (by decide +kernel) rfl rfl (Nat.le_of_ble_eq_true rfl) dX5_follow_31 (fun H locs hP hD hS => ?_)
    have hP : va_P D vwCl (Mw cy mo ad (va_up μ 0 (fun _ => 1))) H := hP
    have hD : va_D (va_A (Mw cy mo ad μ) s.heap.size) (Mw cy mo ad (va_up μ 0 (fun _ => 1))) := hD
    refine lv_aload_n hx hb dX5_follow_34 rfl (lv_at hl 0 rfl) ?_
    refine va_get (D := D) (ci := 6) (v := .int 1) (C := RX5) (T := TX5) (N := 26) hx hb hts hin_RX5 hown hE.1 hP 0 rfl rfl 0 (by decide) (hts (.fieldLink RX5 77 "VillagepostModel" "thrown" "I") (by decide +kernel)) (fun _ h9 => h9) rfl dX5_follow_35 ?_
    refine lv_if_eq (tgt := 42) hx hb dX5_follow_38 (by decide) (fun c9 => False.elim (by revert c9; decide)) (fun _ => ?_)
    have eW : va_up μ 0 (fun _ => 1) = mFlw μ p0 q0 := by simp [mFlw, mTwo, mHb, bx_uu, c1]
    have hP : va_P D vwCl (Mw cy mo ad (mFlw μ p0 q0)) H := by rw [← eW]; exact hP
    have hD : va_D (va_A (Mw cy mo ad μ) s.heap.size) (Mw cy mo ad (mFlw μ p0 q0)) := by rw [← eW]; exact hD
    exact W.vret hx hb hr (fun t ht hW => ⟨⟨(), rfl, trivial, (by rw [ht]; exact hP), hD⟩, hS.F ht⟩) hS.2.2 dX5_follow_41
  · have c1 : (mIn p0 0 (μ 1 0 - 1)) = true := bI_n0.mp r1
    refine lv_aload_n hx hb dX5_follow_9 rfl (lv_at hl 0 rfl) ?_
    refine lv_iload_n hx hb dX5_follow_10 rfl (lv_at hl 2 rfl) ?_
    refine vg_calliW (va_runV (As := [.int q0]) (rest := [.ref mo]) ⟨hx, hb, hml, hown, hts⟩ (kX5_isOne l D cy H.size mo ad μ q0 ) (cwV 1 hts gX5_follow_X5_isOne rfl rfl rfl (by decide +kernel) ⟨Nat.le_of_ble_eq_true rfl, Nat.le_of_ble_eq_true rfl⟩) (vg_P.preV hE hP 0 rfl rfl hP hD) rfl rfl hl.1 rfl (lv_room (Nat.le_of_ble_eq_true rfl)) dX5_follow_11 ⟨Nat.le_of_ble_eq_true rfl, Nat.le_of_ble_eq_true rfl⟩) hP hD hS hA (fun r _ H locs hr hP hD hS => ?_)
    subst hr
    refine lv_if_ne (tgt := 21) hx hb dX5_follow_14 (by decide) (fun r3 => ?_) (fun r3 => ?_)
    · have c3 : (mIn q0 0 (μ 1 0 - 1)) = true := bI_n0.mp r3
      have hp0 : isN p0 10 := (mIn_n hpe (by omega) c1).1
      have hp02 := hp0.2
      have hq0 : isN q0 10 := (mIn_n hpe (by omega) c3).1
      have hq02 := hq0.2
      refine lv_iload_n hx hb dX5_follow_21 rfl (lv_at hl 1 rfl) ?_
      refine vg_tp (nI (tn p0)) hp0.1 ?_
      refine lv_iload_n hx hb dX5_follow_22 rfl (lv_at hl 2 rfl) ?_
      refine vg_tp (nI (tn q0)) hq0.1 ?_
      refine lv_icmp_ne (tgt := 30) hx hb dX5_follow_23 (by decide) (fun r4 => ?_) (fun r4 => ?_)
      · have c4 : ¬ tn p0 = tn q0 := fun q => r4 ((nI_eq (a := tn p0) (b := tn q0) (by omega) (by omega)).mpr q)
        refine lv_iconst (v := 0) hx hb dX5_follow_30 (by decide) ?_
        refine va_put (D := (D)) (ci := 6) (v := .int 0) (ty := .int) (C := RX5) (T := TX5) (N := 26) hx hb hts hin_RX5 tyX5 tyX5_ok nmX5 hown hE.1 hP hD hS 0 rfl rfl 0 (by decide) (hts (.fieldLink RX5 77 "VillagepostModel" "thrown" "I") (by decide +kernel)) (fun _ h9 => h9) rfl (by decide +kernel) rfl rfl (Nat.le_of_ble_eq_true rfl) dX5_follow_31 (fun H locs hP hD hS => ?_)
        have hP : va_P D vwCl (Mw cy mo ad (va_up μ 0 (fun _ => 0))) H := hP
        have hD : va_D (va_A (Mw cy mo ad μ) s.heap.size) (Mw cy mo ad (va_up μ 0 (fun _ => 0))) := hD
        refine lv_aload_n hx hb dX5_follow_34 rfl (lv_at hl 0 rfl) ?_
        refine va_get (D := D) (ci := 6) (v := .int 0) (C := RX5) (T := TX5) (N := 26) hx hb hts hin_RX5 hown hE.1 hP 0 rfl rfl 0 (by decide) (hts (.fieldLink RX5 77 "VillagepostModel" "thrown" "I") (by decide +kernel)) (fun _ h9 => h9) rfl dX5_follow_35 ?_
        refine lv_if_eq (tgt := 42) hx hb dX5_follow_38 (by decide) (fun _ => ?_) (fun c9 => False.elim (by revert c9; decide))
        refine lv_aload_n hx hb dX5_follow_42 rfl (lv_at hl 0 rfl) ?_
        refine va_get (D := D) (ci := 6) (v := .ref (ad 2)) (C := RX5) (T := TX5) (N := 26) hx hb hts hin_RX5 hown hE.1 hP 0 rfl rfl 2 (by decide) (hts (.fieldLink RX5 7 "VillagepostModel" "home" "[I") (by decide +kernel)) (fun _ h9 => h9) rfl dX5_follow_43 ?_
        refine lv_iload_n hx hb dX5_follow_46 rfl (lv_at hl 1 rfl) ?_
        refine vg_tp (nI (tn p0)) hp0.1 ?_
        refine vg_iald hx hb hE.1 hP 1 0 rfl rfl (f := μ 2) (j := (tn p0)) (by omega) (by decide) dX5_follow_47 ?_
        obtain ⟨hN6, hM6⟩ := hho (tn p0) (by omega)
        refine vg_tp (nI (tn ((μ 2) (tn p0)))) hN6 ?_
        refine lv_iload_n hx hb dX5_follow_48 rfl (lv_at hl 1 rfl) ?_
        refine vg_tp (nI (tn p0)) hp0.1 ?_
        refine lv_iload_n hx hb dX5_follow_49 rfl (lv_at hl 2 rfl) ?_
        refine vg_tp (nI (tn q0)) hq0.1 ?_
        refine vg_calliP (va_runS (As := [.int (nI (tn ((μ 2) (tn p0)))), .int (nI (tn p0)), .int (nI (tn q0))]) (rest := []) ⟨hx, hb, hml, hown, hts⟩ (kX5_at l D cy H.size (tn ((μ 2) (tn p0))) (tn p0) (tn q0)) (va_cwS 3 hts gX5_follow_X5_at rfl rfl rfl (by decide +kernel) ⟨Nat.le_of_ble_eq_true rfl, Nat.le_of_ble_eq_true rfl⟩) (vg_P.preS hE vg_P0 (A := fun _ => True) vg_D0) rfl rfl hl.1 rfl (lv_room (Nat.le_of_ble_eq_true rfl)) dX5_follow_50 ⟨Nat.le_of_ble_eq_true rfl, Nat.le_of_ble_eq_true rfl⟩) hP hD hS hA (fun r _ H locs hr hP hD hS => ?_)
        subst hr
        refine lv_istore_n (lv' := [(3, .int (nI (100 * (tn ((μ 2) (tn p0))) + 10 * (tn p0) + (tn q0)))), (0, .ref mo), (1, .int p0), (2, .int q0)]) hx hb dX5_follow_53 rfl hl (by decide) rfl (fun ls hl => ?_)
        have hl : lv_has ls 4 [(0, .ref mo), (1, .int p0), (2, .int q0), (3, .int (nI (100 * (tn ((μ 2) (tn p0))) + 10 * (tn p0) + (tn q0))))] := lv_sub hl [1, 2, 3, 0] rfl
        refine lv_aload_n hx hb dX5_follow_54 rfl (lv_at hl 0 rfl) ?_
        refine lv_aload_n hx hb dX5_follow_55 rfl (lv_at hl 0 rfl) ?_
        refine va_get (D := D) (ci := 6) (v := .ref (ad 3)) (C := RX5) (T := TX5) (N := 26) hx hb hts hin_RX5 hown hE.1 hP 0 rfl rfl 3 (by decide) (hts (.fieldLink RX5 13 "VillagepostModel" "asks" "[Z") (by decide +kernel)) (fun _ h9 => h9) rfl dX5_follow_56 ?_
        refine lv_iload_n hx hb dX5_follow_59 rfl (lv_at hl 3 rfl) ?_
        refine vg_zald hx hb hE.1 hP 2 2 rfl rfl (f := μ 3) (j := (100 * (tn ((μ 2) (tn p0))) + 10 * (tn p0) + (tn q0))) (by omega) (by decide) dX5_follow_60 ?_
        refine lv_if_ne (tgt := 88) hx hb dX5_follow_61 (by decide) (fun r7 => ?_) (fun r7 => ?_)
        · have c7 := r7
          refine lv_iconst (v := 3) hx hb dX5_follow_88 (by decide) ?_
          refine lv_goto (tgt := 93) hx hb dX5_follow_89 (by decide) ?_
          refine va_put (D := (D)) (ci := 6) (v := .int 3) (ty := .int) (C := RX5) (T := TX5) (N := 26) hx hb hts hin_RX5 tyX5 tyX5_ok nmX5 hown hE.1 hP hD hS 0 rfl rfl 0 (by decide) (hts (.fieldLink RX5 77 "VillagepostModel" "thrown" "I") (by decide +kernel)) (fun _ h9 => h9) rfl (by decide +kernel) rfl rfl (Nat.le_of_ble_eq_true rfl) dX5_follow_93 (fun H locs hP hD hS => ?_)
          have hP : va_P D vwCl (Mw cy mo ad (va_up (va_up μ 0 (fun _ => 0)) 0 (fun _ => 3))) H := hP
          have hD : va_D (va_A (Mw cy mo ad μ) s.heap.size) (Mw cy mo ad (va_up (va_up μ 0 (fun _ => 0)) 0 (fun _ => 3))) := hD
          refine lv_aload_n hx hb dX5_follow_96 rfl (lv_at hl 0 rfl) ?_
          refine va_get (D := D) (ci := 6) (v := .int 3) (C := RX5) (T := TX5) (N := 26) hx hb hts hin_RX5 hown hE.1 hP 0 rfl rfl 0 (by decide) (hts (.fieldLink RX5 77 "VillagepostModel" "thrown" "I") (by decide +kernel)) (fun _ h9 => h9) rfl dX5_follow_97 ?_
          refine lv_if_ne (tgt := 119) hx hb dX5_follow_100 (by decide) (fun _ => ?_) (fun c9 => False.elim (by revert c9; decide))
          have eW : va_up (va_up μ 0 (fun _ => 0)) 0 (fun _ => 3) = mFlw μ p0 q0 := by simp [mFlw, mTwo, mHb, bx_uu, c1, c3, c4, c7]
          have hP : va_P D vwCl (Mw cy mo ad (mFlw μ p0 q0)) H := by rw [← eW]; exact hP
          have hD : va_D (va_A (Mw cy mo ad μ) s.heap.size) (Mw cy mo ad (mFlw μ p0 q0)) := by rw [← eW]; exact hD
          exact W.vret hx hb hr (fun t ht hW => ⟨⟨(), rfl, trivial, (by rw [ht]; exact hP), hD⟩, hS.F ht⟩) hS.2.2 dX5_follow_119
        · have c7 := r7
          refine lv_aload_n hx hb dX5_follow_64 rfl (lv_at hl 0 rfl) ?_
          refine va_get (D := D) (ci := 6) (v := .ref (ad 4)) (C := RX5) (T := TX5) (N := 26) hx hb hts hin_RX5 hown hE.1 hP 0 rfl rfl 4 (by decide) (hts (.fieldLink RX5 17 "VillagepostModel" "follows" "[Z") (by decide +kernel)) (fun _ h9 => h9) rfl dX5_follow_65 ?_
          refine lv_iload_n hx hb dX5_follow_68 rfl (lv_at hl 3 rfl) ?_
          refine vg_zald hx hb hE.1 hP 3 2 rfl rfl (f := μ 4) (j := (100 * (tn ((μ 2) (tn p0))) + 10 * (tn p0) + (tn q0))) (by omega) (by decide) dX5_follow_69 ?_
          refine lv_if_ne (tgt := 88) hx hb dX5_follow_70 (by decide) (fun r9 => ?_) (fun r9 => ?_)
          · have c9 := r9
            refine lv_iconst (v := 3) hx hb dX5_follow_88 (by decide) ?_
            refine lv_goto (tgt := 93) hx hb dX5_follow_89 (by decide) ?_
            refine va_put (D := (D)) (ci := 6) (v := .int 3) (ty := .int) (C := RX5) (T := TX5) (N := 26) hx hb hts hin_RX5 tyX5 tyX5_ok nmX5 hown hE.1 hP hD hS 0 rfl rfl 0 (by decide) (hts (.fieldLink RX5 77 "VillagepostModel" "thrown" "I") (by decide +kernel)) (fun _ h9 => h9) rfl (by decide +kernel) rfl rfl (Nat.le_of_ble_eq_true rfl) dX5_follow_93 (fun H locs hP hD hS => ?_)
            have hP : va_P D vwCl (Mw cy mo ad (va_up (va_up μ 0 (fun _ => 0)) 0 (fun _ => 3))) H := hP
            have hD : va_D (va_A (Mw cy mo ad μ) s.heap.size) (Mw cy mo ad (va_up (va_up μ 0 (fun _ => 0)) 0 (fun _ => 3))) := hD
            refine lv_aload_n hx hb dX5_follow_96 rfl (lv_at hl 0 rfl) ?_
            refine va_get (D := D) (ci := 6) (v := .int 3) (C := RX5) (T := TX5) (N := 26) hx hb hts hin_RX5 hown hE.1 hP 0 rfl rfl 0 (by decide) (hts (.fieldLink RX5 77 "VillagepostModel" "thrown" "I") (by decide +kernel)) (fun _ h9 => h9) rfl dX5_follow_97 ?_
            refine lv_if_ne (tgt := 119) hx hb dX5_follow_100 (by decide) (fun _ => ?_) (fun c9 => False.elim (by revert c9; decide))
            have eW : va_up (va_up μ 0 (fun _ => 0)) 0 (fun _ => 3) = mFlw μ p0 q0 := by simp [mFlw, mTwo, mHb, bx_uu, c1, c3, c4, c7, c9]
            have hP : va_P D vwCl (Mw cy mo ad (mFlw μ p0 q0)) H := by rw [← eW]; exact hP
            have hD : va_D (va_A (Mw cy mo ad μ) s.heap.size) (Mw cy mo ad (mFlw μ p0 q0)) := by rw [← eW]; exact hD
            exact W.vret hx hb hr (fun t ht hW => ⟨⟨(), rfl, trivial, (by rw [ht]; exact hP), hD⟩, hS.F ht⟩) hS.2.2 dX5_follow_119
          · have c9 := r9
            refine lv_aload_n hx hb dX5_follow_73 rfl (lv_at hl 0 rfl) ?_
            refine lv_aload_n hx hb dX5_follow_74 rfl (lv_at hl 0 rfl) ?_
            refine va_get (D := D) (ci := 6) (v := .ref (ad 2)) (C := RX5) (T := TX5) (N := 26) hx hb hts hin_RX5 hown hE.1 hP 0 rfl rfl 2 (by decide) (hts (.fieldLink RX5 7 "VillagepostModel" "home" "[I") (by decide +kernel)) (fun _ h9 => h9) rfl dX5_follow_75 ?_
            refine lv_iload_n hx hb dX5_follow_78 rfl (lv_at hl 1 rfl) ?_
            refine vg_tp (nI (tn p0)) hp0.1 ?_
            refine vg_iald hx hb hE.1 hP 1 0 rfl rfl (f := μ 2) (j := (tn p0)) (by omega) (by decide) dX5_follow_79 ?_
            obtain ⟨hN11, hM11⟩ := hho (tn p0) (by omega)
            refine vg_tp (nI (tn ((μ 2) (tn p0)))) hN11 ?_
            refine lv_iload_n hx hb dX5_follow_80 rfl (lv_at hl 1 rfl) ?_
            refine vg_tp (nI (tn p0)) hp0.1 ?_
            refine lv_iload_n hx hb dX5_follow_81 rfl (lv_at hl 2 rfl) ?_
            refine vg_tp (nI (tn q0)) hq0.1 ?_
            refine vg_calliW (va_runV (As := [.int (nI (tn ((μ 2) (tn p0)))), .int (nI (tn p0)), .int (nI (tn q0))]) (rest := [.ref mo]) ⟨hx, hb, hml, hown, hts⟩ (kX5_isApart l D cy H.size mo ad (va_up μ 0 (fun _ => 0)) (tn ((μ 2) (tn p0))) (tn p0) (tn q0) (by omega) (by omega) (by omega)) (cwV 3 hts gX5_follow_X5_isApart rfl rfl rfl (by decide +kernel) ⟨Nat.le_of_ble_eq_true rfl, Nat.le_of_ble_eq_true rfl⟩) (vg_P.preV hE hP 0 rfl rfl hP hD) rfl rfl hl.1 rfl (lv_room (Nat.le_of_ble_eq_true rfl)) dX5_follow_82 ⟨Nat.le_of_ble_eq_true rfl, Nat.le_of_ble_eq_true rfl⟩) hP hD hS hA (fun r _ H locs hr hP hD hS => ?_)
            subst hr
            refine lv_if_eq (tgt := 92) hx hb dX5_follow_85 (by decide) (fun r12 => ?_) (fun r12 => ?_)
            · have c12 : (mIsA μ (tn ((μ 2) (tn p0))) (tn p0) (tn q0)) = false := bI_0.mp r12
              refine lv_iconst (v := 0) hx hb dX5_follow_92 (by decide) ?_
              refine va_put (D := (D)) (ci := 6) (v := .int 0) (ty := .int) (C := RX5) (T := TX5) (N := 26) hx hb hts hin_RX5 tyX5 tyX5_ok nmX5 hown hE.1 hP hD hS 0 rfl rfl 0 (by decide) (hts (.fieldLink RX5 77 "VillagepostModel" "thrown" "I") (by decide +kernel)) (fun _ h9 => h9) rfl (by decide +kernel) rfl rfl (Nat.le_of_ble_eq_true rfl) dX5_follow_93 (fun H locs hP hD hS => ?_)
              have hP : va_P D vwCl (Mw cy mo ad (va_up (va_up μ 0 (fun _ => 0)) 0 (fun _ => 0))) H := hP
              have hD : va_D (va_A (Mw cy mo ad μ) s.heap.size) (Mw cy mo ad (va_up (va_up μ 0 (fun _ => 0)) 0 (fun _ => 0))) := hD
              refine lv_aload_n hx hb dX5_follow_96 rfl (lv_at hl 0 rfl) ?_
              refine va_get (D := D) (ci := 6) (v := .int 0) (C := RX5) (T := TX5) (N := 26) hx hb hts hin_RX5 hown hE.1 hP 0 rfl rfl 0 (by decide) (hts (.fieldLink RX5 77 "VillagepostModel" "thrown" "I") (by decide +kernel)) (fun _ h9 => h9) rfl dX5_follow_97 ?_
              refine lv_if_ne (tgt := 119) hx hb dX5_follow_100 (by decide) (fun c9 => False.elim (by revert c9; decide)) (fun _ => ?_)
              refine lv_aload_n hx hb dX5_follow_103 rfl (lv_at hl 0 rfl) ?_
              refine lv_iconst (v := 0) hx hb dX5_follow_104 (by decide) ?_
              refine lv_iload_n hx hb dX5_follow_105 rfl (lv_at hl 1 rfl) ?_
              refine vg_tp (nI (tn p0)) hp0.1 ?_
              refine lv_iload_n hx hb dX5_follow_106 rfl (lv_at hl 2 rfl) ?_
              refine vg_tp (nI (tn q0)) hq0.1 ?_
              refine lv_iconst (v := 0) hx hb dX5_follow_107 (by decide) ?_
              refine lv_iconst (v := 1) hx hb dX5_follow_108 (by decide) ?_
              refine lv_aload_n hx hb dX5_follow_109 rfl (lv_at hl 0 rfl) ?_
              refine va_get (D := D) (ci := 6) (v := .ref (ad 2)) (C := RX5) (T := TX5) (N := 26) hx hb hts hin_RX5 hown hE.1 hP 0 rfl rfl 2 (by decide) (hts (.fieldLink RX5 7 "VillagepostModel" "home" "[I") (by decide +kernel)) (fun _ h9 => h9) rfl dX5_follow_110 ?_
              refine lv_iload_n hx hb dX5_follow_113 rfl (lv_at hl 2 rfl) ?_
              refine vg_tp (nI (tn q0)) hq0.1 ?_
              refine vg_iald hx hb hE.1 hP 1 0 rfl rfl (f := μ 2) (j := (tn q0)) (by omega) (by decide) dX5_follow_114 ?_
              obtain ⟨hN14, hM14⟩ := hho (tn q0) (by omega)
              refine vg_tp (nI (tn ((μ 2) (tn q0)))) hN14 ?_
              refine lv_ishl hx hb dX5_follow_115 ?_
              refine vg_callvW (va_runV (As := [.int (nI 0), .int (nI (tn p0)), .int (nI (tn q0)), .int 0, .int ((1 : Int32) <<< ((nI (tn ((μ 2) (tn q0)))) &&& 31))]) (rest := []) ⟨hx, hb, hml, hown, hts⟩ (kX5_acts l D cy H.size mo ad (va_up (va_up μ 0 (fun _ => 0)) 0 (fun _ => 0)) 0 (tn p0) (tn q0) 0 (((1 : Int32) <<< ((nI (tn ((μ 2) (tn q0)))) &&& 31))) (⟨hpe, hho, hau, hre, hac⟩) (hla) (hac0) (by omega) (by omega) (by omega) (fun _ => by omega)) (cwV 5 hts gX5_follow_X5_acts rfl rfl rfl (by decide +kernel) ⟨Nat.le_of_ble_eq_true rfl, Nat.le_of_ble_eq_true rfl⟩) (vg_P.preV hE hP 0 rfl rfl hP hD) rfl rfl hl.1 rfl (lv_room (Nat.le_of_ble_eq_true rfl)) dX5_follow_116 ⟨Nat.le_of_ble_eq_true rfl, Nat.le_of_ble_eq_true rfl⟩) hP hD hS hA (fun _ H locs hrv hP hD hS => ?_)
              have hP : va_P D vwCl (Mw cy mo ad (mAct (va_up (va_up μ 0 (fun _ => 0)) 0 (fun _ => 0)) 0 (tn p0) (tn q0) 0 (((1 : Int32) <<< ((nI (tn ((μ 2) (tn q0)))) &&& 31))))) H := hP
              have hD : va_D (va_A (Mw cy mo ad μ) s.heap.size) (Mw cy mo ad (mAct (va_up (va_up μ 0 (fun _ => 0)) 0 (fun _ => 0)) 0 (tn p0) (tn q0) 0 (((1 : Int32) <<< ((nI (tn ((μ 2) (tn q0)))) &&& 31))))) := hD
              have eW : mAct (va_up (va_up μ 0 (fun _ => 0)) 0 (fun _ => 0)) 0 (tn p0) (tn q0) 0 (((1 : Int32) <<< ((nI (tn ((μ 2) (tn q0)))) &&& 31))) = mFlw μ p0 q0 := by simp [mFlw, mTwo, mHb, bx_uu, c1, c3, c4, c7, c9, c12]
              have hP : va_P D vwCl (Mw cy mo ad (mFlw μ p0 q0)) H := by rw [← eW]; exact hP
              have hD : va_D (va_A (Mw cy mo ad μ) s.heap.size) (Mw cy mo ad (mFlw μ p0 q0)) := by rw [← eW]; exact hD
              exact W.vret hx hb hr (fun t ht hW => ⟨⟨(), rfl, trivial, (by rw [ht]; exact hP), hD⟩, hS.F ht⟩) hS.2.2 dX5_follow_119
            · have c12 : (mIsA μ (tn ((μ 2) (tn p0))) (tn p0) (tn q0)) = true := bI_n0.mp r12
              refine lv_iconst (v := 3) hx hb dX5_follow_88 (by decide) ?_
              refine lv_goto (tgt := 93) hx hb dX5_follow_89 (by decide) ?_
              refine va_put (D := (D)) (ci := 6) (v := .int 3) (ty := .int) (C := RX5) (T := TX5) (N := 26) hx hb hts hin_RX5 tyX5 tyX5_ok nmX5 hown hE.1 hP hD hS 0 rfl rfl 0 (by decide) (hts (.fieldLink RX5 77 "VillagepostModel" "thrown" "I") (by decide +kernel)) (fun _ h9 => h9) rfl (by decide +kernel) rfl rfl (Nat.le_of_ble_eq_true rfl) dX5_follow_93 (fun H locs hP hD hS => ?_)
              have hP : va_P D vwCl (Mw cy mo ad (va_up (va_up μ 0 (fun _ => 0)) 0 (fun _ => 3))) H := hP
              have hD : va_D (va_A (Mw cy mo ad μ) s.heap.size) (Mw cy mo ad (va_up (va_up μ 0 (fun _ => 0)) 0 (fun _ => 3))) := hD
              refine lv_aload_n hx hb dX5_follow_96 rfl (lv_at hl 0 rfl) ?_
              refine va_get (D := D) (ci := 6) (v := .int 3) (C := RX5) (T := TX5) (N := 26) hx hb hts hin_RX5 hown hE.1 hP 0 rfl rfl 0 (by decide) (hts (.fieldLink RX5 77 "VillagepostModel" "thrown" "I") (by decide +kernel)) (fun _ h9 => h9) rfl dX5_follow_97 ?_
              refine lv_if_ne (tgt := 119) hx hb dX5_follow_100 (by decide) (fun _ => ?_) (fun c9 => False.elim (by revert c9; decide))
              have eW : va_up (va_up μ 0 (fun _ => 0)) 0 (fun _ => 3) = mFlw μ p0 q0 := by simp [mFlw, mTwo, mHb, bx_uu, c1, c3, c4, c7, c9, c12]
              have hP : va_P D vwCl (Mw cy mo ad (mFlw μ p0 q0)) H := by rw [← eW]; exact hP
              have hD : va_D (va_A (Mw cy mo ad μ) s.heap.size) (Mw cy mo ad (mFlw μ p0 q0)) := by rw [← eW]; exact hD
              exact W.vret hx hb hr (fun t ht hW => ⟨⟨(), rfl, trivial, (by rw [ht]; exact hP), hD⟩, hS.F ht⟩) hS.2.2 dX5_follow_119
      · have c4 : tn p0 = tn q0 := (nI_eq (a := tn p0) (b := tn q0) (by omega) (by omega)).mp r4
        refine lv_iconst (v := 2) hx hb dX5_follow_26 (by decide) ?_
        refine lv_goto (tgt := 31) hx hb dX5_follow_27 (by decide) ?_
        refine va_put (D := (D)) (ci := 6) (v := .int 2) (ty := .int) (C := RX5) (T := TX5) (N := 26) hx hb hts hin_RX5 tyX5 tyX5_ok nmX5 hown hE.1 hP hD hS 0 rfl rfl 0 (by decide) (hts (.fieldLink RX5 77 "VillagepostModel" "thrown" "I") (by decide +kernel)) (fun _ h9 => h9) rfl (by decide +kernel) rfl rfl (Nat.le_of_ble_eq_true rfl) dX5_follow_31 (fun H locs hP hD hS => ?_)
        have hP : va_P D vwCl (Mw cy mo ad (va_up μ 0 (fun _ => 2))) H := hP
        have hD : va_D (va_A (Mw cy mo ad μ) s.heap.size) (Mw cy mo ad (va_up μ 0 (fun _ => 2))) := hD
        refine lv_aload_n hx hb dX5_follow_34 rfl (lv_at hl 0 rfl) ?_
        refine va_get (D := D) (ci := 6) (v := .int 2) (C := RX5) (T := TX5) (N := 26) hx hb hts hin_RX5 hown hE.1 hP 0 rfl rfl 0 (by decide) (hts (.fieldLink RX5 77 "VillagepostModel" "thrown" "I") (by decide +kernel)) (fun _ h9 => h9) rfl dX5_follow_35 ?_
        refine lv_if_eq (tgt := 42) hx hb dX5_follow_38 (by decide) (fun c9 => False.elim (by revert c9; decide)) (fun _ => ?_)
        have eW : va_up μ 0 (fun _ => 2) = mFlw μ p0 q0 := by simp [mFlw, mTwo, mHb, bx_uu, c1, c3, eq_true c4]
        have hP : va_P D vwCl (Mw cy mo ad (mFlw μ p0 q0)) H := by rw [← eW]; exact hP
        have hD : va_D (va_A (Mw cy mo ad μ) s.heap.size) (Mw cy mo ad (mFlw μ p0 q0)) := by rw [← eW]; exact hD
        exact W.vret hx hb hr (fun t ht hW => ⟨⟨(), rfl, trivial, (by rw [ht]; exact hP), hD⟩, hS.F ht⟩) hS.2.2 dX5_follow_41
    · have c3 : (mIn q0 0 (μ 1 0 - 1)) = false := bI_0.mp r3
      refine lv_iconst (v := 1) hx hb dX5_follow_17 (by decide) ?_
      refine lv_goto (tgt := 31) hx hb dX5_follow_18 (by decide) ?_
      refine va_put (D := (D)) (ci := 6) (v := .int 1) (ty := .int) (C := RX5) (T := TX5) (N := 26) hx hb hts hin_RX5 tyX5 tyX5_ok nmX5 hown hE.1 hP hD hS 0 rfl rfl 0 (by decide) (hts (.fieldLink RX5 77 "VillagepostModel" "thrown" "I") (by decide +kernel)) (fun _ h9 => h9) rfl (by decide +kernel) rfl rfl (Nat.le_of_ble_eq_true rfl) dX5_follow_31 (fun H locs hP hD hS => ?_)
      have hP : va_P D vwCl (Mw cy mo ad (va_up μ 0 (fun _ => 1))) H := hP
      have hD : va_D (va_A (Mw cy mo ad μ) s.heap.size) (Mw cy mo ad (va_up μ 0 (fun _ => 1))) := hD
      refine lv_aload_n hx hb dX5_follow_34 rfl (lv_at hl 0 rfl) ?_
      refine va_get (D := D) (ci := 6) (v := .int 1) (C := RX5) (T := TX5) (N := 26) hx hb hts hin_RX5 hown hE.1 hP 0 rfl rfl 0 (by decide) (hts (.fieldLink RX5 77 "VillagepostModel" "thrown" "I") (by decide +kernel)) (fun _ h9 => h9) rfl dX5_follow_35 ?_
      refine lv_if_eq (tgt := 42) hx hb dX5_follow_38 (by decide) (fun c9 => False.elim (by revert c9; decide)) (fun _ => ?_)
      have eW : va_up μ 0 (fun _ => 1) = mFlw μ p0 q0 := by simp [mFlw, mTwo, mHb, bx_uu, c1, c3]
      have hP : va_P D vwCl (Mw cy mo ad (mFlw μ p0 q0)) H := by rw [← eW]; exact hP
      have hD : va_D (va_A (Mw cy mo ad μ) s.heap.size) (Mw cy mo ad (mFlw μ p0 q0)) := by rw [← eW]; exact hD
      exact W.vret hx hb hr (fun t ht hW => ⟨⟨(), rfl, trivial, (by rw [ht]; exact hP), hD⟩, hS.F ht⟩) hS.2.2 dX5_follow_41

set_option maxHeartbeats 4000000 in
set_option maxRecDepth 100000 in
theorem kX5_answer (l : Launch) (D : va_G) (cy : Nat → ClassId) (sz : Nat) (mo : Nat) (ad : Nat → Nat) (μ : Nat → Nat → Int32) (p0 : Int32) (q0 : Int32) (b0 : Bool) (hw : mWF μ) (hla : mLast μ 1199) (hac0 : isN (μ 17 0) 600) : Met l yX5_answer wsX5_answer ({ frames := 6, cells := 0, slots := 0, locals := 145 }) (vg_P D cy [.ref mo, .int p0, .int q0, .int (bI b0)] sz (Mw cy mo ad μ)) (vg_Qv (S := Unit) D sz (Mw cy mo ad μ) (fun _ => True) (fun _ => Mw cy mo ad (mAns μ p0 q0 b0))) 0 0 (va_A (Mw cy mo ad μ) sz) := by
  refine Met.ofW (cc := cX5_answer) (maxL := 4) (ret := none) (by decide) rfl ?_
  intro p e s m args below meth c s₁ BB hml hv
  obtain ⟨rfl, hsz, hP, hE, hD0⟩ := hv
  have hx := BB.exec
  have hb := BB.bytes
  have hr := BB.returns
  have hts := atoms_spec (ws := wsX5_answer) BB.pre
  have hown : s.vm.findClass RX5 = some m.cls := findClass_of_methodNamed BB.named
  have hlocks := BB.notSynchronized
  subst hsz
  have hD := hD0.self (sz := s.heap.size)
  have hA : ∀ q : Nat, s.heap.size ≤ q → (va_A (Mw cy mo ad μ) s.heap.size) q := fun q h => Or.inr h
  have hS : va_S (va_A (Mw cy mo ad μ) s.heap.size) s.heap s.heap [] := va_S.rf
  have hin_RX5 : ∀ w ∈ u_ws RX5 TX5 26, w ∈ wsX5_answer := by decide +kernel
  have hl := lv_entry ([.ref mo, .int p0, .int q0, .int (bI b0)]) (n := 4) (Nat.le_of_ble_eq_true rfl)
  rw [lg_entry_eq]
  generalize (lg_sl ([.ref mo, .int p0, .int q0, .int (bI b0)]) ++ List.replicate (4 - (lg_sl ([.ref mo, .int p0, .int q0, .int (bI b0)])).length) Slot.unset).toArray = ls at hl ⊢
  have hl : lv_has ls 4 [(0, .ref mo), (1, .int p0), (2, .int q0), (3, .int (bI b0))] := hl
  obtain ⟨hpe, hho, hau, hre, hac⟩ := hw
  have hpe2 := hpe.2
  refine lv_aload_n hx hb dX5_answer_0 rfl (lv_at hl 0 rfl) ?_
  refine lv_aload_n hx hb dX5_answer_1 rfl (lv_at hl 0 rfl) ?_
  refine lv_iload_n hx hb dX5_answer_2 rfl (lv_at hl 1 rfl) ?_
  refine vg_calliW (va_runV (As := [.int p0]) (rest := [.ref mo]) ⟨hx, hb, hml, hown, hts⟩ (kX5_isOne l D cy s.heap.size mo ad μ p0 ) (cwV 1 hts gX5_answer_X5_isOne rfl rfl rfl (by decide +kernel) ⟨Nat.le_of_ble_eq_true rfl, Nat.le_of_ble_eq_true rfl⟩) (vg_P.preV hE hP 0 rfl rfl hP hD) rfl rfl hl.1 rfl (lv_room (Nat.le_of_ble_eq_true rfl)) dX5_answer_3 ⟨Nat.le_of_ble_eq_true rfl, Nat.le_of_ble_eq_true rfl⟩) hP hD hS hA (fun r _ H locs hr hP hD hS => ?_)
  subst hr
  refine lv_if_eq (tgt := 17) hx hb dX5_answer_6 (by decide) (fun r1 => ?_) (fun r1 => ?_)
  · have c1 : (mIn p0 0 (μ 1 0 - 1)) = false := bI_0.mp r1
    refine lv_iconst (v := 1) hx hb dX5_answer_17 (by decide) ?_
    refine lv_goto (tgt := 45) hx hb dX5_answer_18 (by decide) ?_
    refine va_put (D := (D)) (ci := 6) (v := .int 1) (ty := .int) (C := RX5) (T := TX5) (N := 26) hx hb hts hin_RX5 tyX5 tyX5_ok nmX5 hown hE.1 hP hD hS 0 rfl rfl 0 (by decide) (hts (.fieldLink RX5 77 "VillagepostModel" "thrown" "I") (by decide +kernel)) (fun _ h9 => h9) rfl (by decide +kernel) rfl rfl (Nat.le_of_ble_eq_true rfl) dX5_answer_45 (fun H locs hP hD hS => ?_)
    have hP : va_P D vwCl (Mw cy mo ad (va_up μ 0 (fun _ => 1))) H := hP
    have hD : va_D (va_A (Mw cy mo ad μ) s.heap.size) (Mw cy mo ad (va_up μ 0 (fun _ => 1))) := hD
    refine lv_aload_n hx hb dX5_answer_48 rfl (lv_at hl 0 rfl) ?_
    refine va_get (D := D) (ci := 6) (v := .int 1) (C := RX5) (T := TX5) (N := 26) hx hb hts hin_RX5 hown hE.1 hP 0 rfl rfl 0 (by decide) (hts (.fieldLink RX5 77 "VillagepostModel" "thrown" "I") (by decide +kernel)) (fun _ h9 => h9) rfl dX5_answer_49 ?_
    refine lv_if_ne (tgt := 79) hx hb dX5_answer_52 (by decide) (fun _ => ?_) (fun c9 => False.elim (by revert c9; decide))
    have eW : va_up μ 0 (fun _ => 1) = mAns μ p0 q0 b0 := by simp [mAns, mTwo, mHb, bx_uu, c1]
    have hP : va_P D vwCl (Mw cy mo ad (mAns μ p0 q0 b0)) H := by rw [← eW]; exact hP
    have hD : va_D (va_A (Mw cy mo ad μ) s.heap.size) (Mw cy mo ad (mAns μ p0 q0 b0)) := by rw [← eW]; exact hD
    exact W.vret hx hb hr (fun t ht hW => ⟨⟨(), rfl, trivial, (by rw [ht]; exact hP), hD⟩, hS.F ht⟩) hS.2.2 dX5_answer_79
  · have c1 : (mIn p0 0 (μ 1 0 - 1)) = true := bI_n0.mp r1
    refine lv_aload_n hx hb dX5_answer_9 rfl (lv_at hl 0 rfl) ?_
    refine lv_iload_n hx hb dX5_answer_10 rfl (lv_at hl 2 rfl) ?_
    refine vg_calliW (va_runV (As := [.int q0]) (rest := [.ref mo]) ⟨hx, hb, hml, hown, hts⟩ (kX5_isOne l D cy H.size mo ad μ q0 ) (cwV 1 hts gX5_answer_X5_isOne rfl rfl rfl (by decide +kernel) ⟨Nat.le_of_ble_eq_true rfl, Nat.le_of_ble_eq_true rfl⟩) (vg_P.preV hE hP 0 rfl rfl hP hD) rfl rfl hl.1 rfl (lv_room (Nat.le_of_ble_eq_true rfl)) dX5_answer_11 ⟨Nat.le_of_ble_eq_true rfl, Nat.le_of_ble_eq_true rfl⟩) hP hD hS hA (fun r _ H locs hr hP hD hS => ?_)
    subst hr
    refine lv_if_ne (tgt := 21) hx hb dX5_answer_14 (by decide) (fun r3 => ?_) (fun r3 => ?_)
    · have c3 : (mIn q0 0 (μ 1 0 - 1)) = true := bI_n0.mp r3
      have hp0 : isN p0 10 := (mIn_n hpe (by omega) c1).1
      have hp02 := hp0.2
      have hq0 : isN q0 10 := (mIn_n hpe (by omega) c3).1
      have hq02 := hq0.2
      refine lv_aload_n hx hb dX5_answer_21 rfl (lv_at hl 0 rfl) ?_
      refine va_get (D := D) (ci := 6) (v := .ref (ad 3)) (C := RX5) (T := TX5) (N := 26) hx hb hts hin_RX5 hown hE.1 hP 0 rfl rfl 3 (by decide) (hts (.fieldLink RX5 13 "VillagepostModel" "asks" "[Z") (by decide +kernel)) (fun _ h9 => h9) rfl dX5_answer_22 ?_
      refine lv_aload_n hx hb dX5_answer_25 rfl (lv_at hl 0 rfl) ?_
      refine va_get (D := D) (ci := 6) (v := .ref (ad 2)) (C := RX5) (T := TX5) (N := 26) hx hb hts hin_RX5 hown hE.1 hP 0 rfl rfl 2 (by decide) (hts (.fieldLink RX5 7 "VillagepostModel" "home" "[I") (by decide +kernel)) (fun _ h9 => h9) rfl dX5_answer_26 ?_
      refine lv_iload_n hx hb dX5_answer_29 rfl (lv_at hl 1 rfl) ?_
      refine vg_tp (nI (tn p0)) hp0.1 ?_
      refine vg_iald hx hb hE.1 hP 1 0 rfl rfl (f := μ 2) (j := (tn p0)) (by omega) (by decide) dX5_answer_30 ?_
      obtain ⟨hN4, hM4⟩ := hho (tn p0) (by omega)
      refine vg_tp (nI (tn ((μ 2) (tn p0)))) hN4 ?_
      refine lv_iload_n hx hb dX5_answer_31 rfl (lv_at hl 2 rfl) ?_
      refine vg_tp (nI (tn q0)) hq0.1 ?_
      refine lv_iload_n hx hb dX5_answer_32 rfl (lv_at hl 1 rfl) ?_
      refine vg_tp (nI (tn p0)) hp0.1 ?_
      refine vg_calliP (va_runS (As := [.int (nI (tn ((μ 2) (tn p0)))), .int (nI (tn q0)), .int (nI (tn p0))]) (rest := [.ref (ad 3), .ref mo]) ⟨hx, hb, hml, hown, hts⟩ (kX5_at l D cy H.size (tn ((μ 2) (tn p0))) (tn q0) (tn p0)) (va_cwS 3 hts gX5_answer_X5_at rfl rfl rfl (by decide +kernel) ⟨Nat.le_of_ble_eq_true rfl, Nat.le_of_ble_eq_true rfl⟩) (vg_P.preS hE vg_P0 (A := fun _ => True) vg_D0) rfl rfl hl.1 rfl (lv_room (Nat.le_of_ble_eq_true rfl)) dX5_answer_33 ⟨Nat.le_of_ble_eq_true rfl, Nat.le_of_ble_eq_true rfl⟩) hP hD hS hA (fun r _ H locs hr hP hD hS => ?_)
      subst hr
      refine vg_zald hx hb hE.1 hP 2 2 rfl rfl (f := μ 3) (j := (100 * (tn ((μ 2) (tn p0))) + 10 * (tn q0) + (tn p0))) (by omega) (by decide) dX5_answer_36 ?_
      refine lv_if_ne (tgt := 44) hx hb dX5_answer_37 (by decide) (fun r5 => ?_) (fun r5 => ?_)
      · have c5 := r5
        refine lv_iconst (v := 0) hx hb dX5_answer_44 (by decide) ?_
        refine va_put (D := (D)) (ci := 6) (v := .int 0) (ty := .int) (C := RX5) (T := TX5) (N := 26) hx hb hts hin_RX5 tyX5 tyX5_ok nmX5 hown hE.1 hP hD hS 0 rfl rfl 0 (by decide) (hts (.fieldLink RX5 77 "VillagepostModel" "thrown" "I") (by decide +kernel)) (fun _ h9 => h9) rfl (by decide +kernel) rfl rfl (Nat.le_of_ble_eq_true rfl) dX5_answer_45 (fun H locs hP hD hS => ?_)
        have hP : va_P D vwCl (Mw cy mo ad (va_up μ 0 (fun _ => 0))) H := hP
        have hD : va_D (va_A (Mw cy mo ad μ) s.heap.size) (Mw cy mo ad (va_up μ 0 (fun _ => 0))) := hD
        refine lv_aload_n hx hb dX5_answer_48 rfl (lv_at hl 0 rfl) ?_
        refine va_get (D := D) (ci := 6) (v := .int 0) (C := RX5) (T := TX5) (N := 26) hx hb hts hin_RX5 hown hE.1 hP 0 rfl rfl 0 (by decide) (hts (.fieldLink RX5 77 "VillagepostModel" "thrown" "I") (by decide +kernel)) (fun _ h9 => h9) rfl dX5_answer_49 ?_
        refine lv_if_ne (tgt := 79) hx hb dX5_answer_52 (by decide) (fun c9 => False.elim (by revert c9; decide)) (fun _ => ?_)
        refine lv_aload_n hx hb dX5_answer_55 rfl (lv_at hl 0 rfl) ?_
        refine lv_iload_n hx hb dX5_answer_56 rfl (lv_at hl 3 rfl) ?_
        refine lv_if_eq (tgt := 64) hx hb dX5_answer_57 (by decide) (fun r7 => ?_) (fun r7 => ?_)
        · have c7 : b0 = false := bI_0.mp r7
          refine lv_iconst (v := 2) hx hb dX5_answer_64 (by decide) ?_
          refine lv_iload_n hx hb dX5_answer_65 rfl (lv_at hl 1 rfl) ?_
          refine vg_tp (nI (tn p0)) hp0.1 ?_
          refine lv_iload_n hx hb dX5_answer_66 rfl (lv_at hl 2 rfl) ?_
          refine vg_tp (nI (tn q0)) hq0.1 ?_
          refine lv_iconst (v := 0) hx hb dX5_answer_67 (by decide) ?_
          refine lv_iconst (v := 1) hx hb dX5_answer_68 (by decide) ?_
          refine lv_aload_n hx hb dX5_answer_69 rfl (lv_at hl 0 rfl) ?_
          refine va_get (D := D) (ci := 6) (v := .ref (ad 2)) (C := RX5) (T := TX5) (N := 26) hx hb hts hin_RX5 hown hE.1 hP 0 rfl rfl 2 (by decide) (hts (.fieldLink RX5 7 "VillagepostModel" "home" "[I") (by decide +kernel)) (fun _ h9 => h9) rfl dX5_answer_70 ?_
          refine lv_iload_n hx hb dX5_answer_73 rfl (lv_at hl 2 rfl) ?_
          refine vg_tp (nI (tn q0)) hq0.1 ?_
          refine vg_iald hx hb hE.1 hP 1 0 rfl rfl (f := μ 2) (j := (tn q0)) (by omega) (by decide) dX5_answer_74 ?_
          obtain ⟨hN8, hM8⟩ := hho (tn q0) (by omega)
          refine vg_tp (nI (tn ((μ 2) (tn q0)))) hN8 ?_
          refine lv_ishl hx hb dX5_answer_75 ?_
          refine vg_callvW (va_runV (As := [.int (nI 2), .int (nI (tn p0)), .int (nI (tn q0)), .int 0, .int ((1 : Int32) <<< ((nI (tn ((μ 2) (tn q0)))) &&& 31))]) (rest := []) ⟨hx, hb, hml, hown, hts⟩ (kX5_acts l D cy H.size mo ad (va_up μ 0 (fun _ => 0)) 2 (tn p0) (tn q0) 0 (((1 : Int32) <<< ((nI (tn ((μ 2) (tn q0)))) &&& 31))) (⟨hpe, hho, hau, hre, hac⟩) (hla) (hac0) (by omega) (by omega) (by omega) (fun _ => by omega)) (cwV 5 hts gX5_answer_X5_acts rfl rfl rfl (by decide +kernel) ⟨Nat.le_of_ble_eq_true rfl, Nat.le_of_ble_eq_true rfl⟩) (vg_P.preV hE hP 0 rfl rfl hP hD) rfl rfl hl.1 rfl (lv_room (Nat.le_of_ble_eq_true rfl)) dX5_answer_76 ⟨Nat.le_of_ble_eq_true rfl, Nat.le_of_ble_eq_true rfl⟩) hP hD hS hA (fun _ H locs hrv hP hD hS => ?_)
          have hP : va_P D vwCl (Mw cy mo ad (mAct (va_up μ 0 (fun _ => 0)) 2 (tn p0) (tn q0) 0 (((1 : Int32) <<< ((nI (tn ((μ 2) (tn q0)))) &&& 31))))) H := hP
          have hD : va_D (va_A (Mw cy mo ad μ) s.heap.size) (Mw cy mo ad (mAct (va_up μ 0 (fun _ => 0)) 2 (tn p0) (tn q0) 0 (((1 : Int32) <<< ((nI (tn ((μ 2) (tn q0)))) &&& 31))))) := hD
          have eW : mAct (va_up μ 0 (fun _ => 0)) 2 (tn p0) (tn q0) 0 (((1 : Int32) <<< ((nI (tn ((μ 2) (tn q0)))) &&& 31))) = mAns μ p0 q0 b0 := by simp [mAns, mTwo, mHb, bx_uu, c1, c3, c5, c7]
          have hP : va_P D vwCl (Mw cy mo ad (mAns μ p0 q0 b0)) H := by rw [← eW]; exact hP
          have hD : va_D (va_A (Mw cy mo ad μ) s.heap.size) (Mw cy mo ad (mAns μ p0 q0 b0)) := by rw [← eW]; exact hD
          exact W.vret hx hb hr (fun t ht hW => ⟨⟨(), rfl, trivial, (by rw [ht]; exact hP), hD⟩, hS.F ht⟩) hS.2.2 dX5_answer_79
        · have c7 : b0 = true := bI_n0.mp r7
          refine lv_iconst (v := 1) hx hb dX5_answer_60 (by decide) ?_
          refine lv_goto (tgt := 65) hx hb dX5_answer_61 (by decide) ?_
          refine lv_iload_n hx hb dX5_answer_65 rfl (lv_at hl 1 rfl) ?_
          refine vg_tp (nI (tn p0)) hp0.1 ?_
          refine lv_iload_n hx hb dX5_answer_66 rfl (lv_at hl 2 rfl) ?_
          refine vg_tp (nI (tn q0)) hq0.1 ?_
          refine lv_iconst (v := 0) hx hb dX5_answer_67 (by decide) ?_
          refine lv_iconst (v := 1) hx hb dX5_answer_68 (by decide) ?_
          refine lv_aload_n hx hb dX5_answer_69 rfl (lv_at hl 0 rfl) ?_
          refine va_get (D := D) (ci := 6) (v := .ref (ad 2)) (C := RX5) (T := TX5) (N := 26) hx hb hts hin_RX5 hown hE.1 hP 0 rfl rfl 2 (by decide) (hts (.fieldLink RX5 7 "VillagepostModel" "home" "[I") (by decide +kernel)) (fun _ h9 => h9) rfl dX5_answer_70 ?_
          refine lv_iload_n hx hb dX5_answer_73 rfl (lv_at hl 2 rfl) ?_
          refine vg_tp (nI (tn q0)) hq0.1 ?_
          refine vg_iald hx hb hE.1 hP 1 0 rfl rfl (f := μ 2) (j := (tn q0)) (by omega) (by decide) dX5_answer_74 ?_
          obtain ⟨hN9, hM9⟩ := hho (tn q0) (by omega)
          refine vg_tp (nI (tn ((μ 2) (tn q0)))) hN9 ?_
          refine lv_ishl hx hb dX5_answer_75 ?_
          refine vg_callvW (va_runV (As := [.int (nI 1), .int (nI (tn p0)), .int (nI (tn q0)), .int 0, .int ((1 : Int32) <<< ((nI (tn ((μ 2) (tn q0)))) &&& 31))]) (rest := []) ⟨hx, hb, hml, hown, hts⟩ (kX5_acts l D cy H.size mo ad (va_up μ 0 (fun _ => 0)) 1 (tn p0) (tn q0) 0 (((1 : Int32) <<< ((nI (tn ((μ 2) (tn q0)))) &&& 31))) (⟨hpe, hho, hau, hre, hac⟩) (hla) (hac0) (by omega) (by omega) (by omega) (fun _ => by omega)) (cwV 5 hts gX5_answer_X5_acts rfl rfl rfl (by decide +kernel) ⟨Nat.le_of_ble_eq_true rfl, Nat.le_of_ble_eq_true rfl⟩) (vg_P.preV hE hP 0 rfl rfl hP hD) rfl rfl hl.1 rfl (lv_room (Nat.le_of_ble_eq_true rfl)) dX5_answer_76 ⟨Nat.le_of_ble_eq_true rfl, Nat.le_of_ble_eq_true rfl⟩) hP hD hS hA (fun _ H locs hrv hP hD hS => ?_)
          have hP : va_P D vwCl (Mw cy mo ad (mAct (va_up μ 0 (fun _ => 0)) 1 (tn p0) (tn q0) 0 (((1 : Int32) <<< ((nI (tn ((μ 2) (tn q0)))) &&& 31))))) H := hP
          have hD : va_D (va_A (Mw cy mo ad μ) s.heap.size) (Mw cy mo ad (mAct (va_up μ 0 (fun _ => 0)) 1 (tn p0) (tn q0) 0 (((1 : Int32) <<< ((nI (tn ((μ 2) (tn q0)))) &&& 31))))) := hD
          have eW : mAct (va_up μ 0 (fun _ => 0)) 1 (tn p0) (tn q0) 0 (((1 : Int32) <<< ((nI (tn ((μ 2) (tn q0)))) &&& 31))) = mAns μ p0 q0 b0 := by simp [mAns, mTwo, mHb, bx_uu, c1, c3, c5, c7]
          have hP : va_P D vwCl (Mw cy mo ad (mAns μ p0 q0 b0)) H := by rw [← eW]; exact hP
          have hD : va_D (va_A (Mw cy mo ad μ) s.heap.size) (Mw cy mo ad (mAns μ p0 q0 b0)) := by rw [← eW]; exact hD
          exact W.vret hx hb hr (fun t ht hW => ⟨⟨(), rfl, trivial, (by rw [ht]; exact hP), hD⟩, hS.F ht⟩) hS.2.2 dX5_answer_79
      · have c5 := r5
        refine lv_iconst (v := 2) hx hb dX5_answer_40 (by decide) ?_
        refine lv_goto (tgt := 45) hx hb dX5_answer_41 (by decide) ?_
        refine va_put (D := (D)) (ci := 6) (v := .int 2) (ty := .int) (C := RX5) (T := TX5) (N := 26) hx hb hts hin_RX5 tyX5 tyX5_ok nmX5 hown hE.1 hP hD hS 0 rfl rfl 0 (by decide) (hts (.fieldLink RX5 77 "VillagepostModel" "thrown" "I") (by decide +kernel)) (fun _ h9 => h9) rfl (by decide +kernel) rfl rfl (Nat.le_of_ble_eq_true rfl) dX5_answer_45 (fun H locs hP hD hS => ?_)
        have hP : va_P D vwCl (Mw cy mo ad (va_up μ 0 (fun _ => 2))) H := hP
        have hD : va_D (va_A (Mw cy mo ad μ) s.heap.size) (Mw cy mo ad (va_up μ 0 (fun _ => 2))) := hD
        refine lv_aload_n hx hb dX5_answer_48 rfl (lv_at hl 0 rfl) ?_
        refine va_get (D := D) (ci := 6) (v := .int 2) (C := RX5) (T := TX5) (N := 26) hx hb hts hin_RX5 hown hE.1 hP 0 rfl rfl 0 (by decide) (hts (.fieldLink RX5 77 "VillagepostModel" "thrown" "I") (by decide +kernel)) (fun _ h9 => h9) rfl dX5_answer_49 ?_
        refine lv_if_ne (tgt := 79) hx hb dX5_answer_52 (by decide) (fun _ => ?_) (fun c9 => False.elim (by revert c9; decide))
        have eW : va_up μ 0 (fun _ => 2) = mAns μ p0 q0 b0 := by simp [mAns, mTwo, mHb, bx_uu, c1, c3, c5]
        have hP : va_P D vwCl (Mw cy mo ad (mAns μ p0 q0 b0)) H := by rw [← eW]; exact hP
        have hD : va_D (va_A (Mw cy mo ad μ) s.heap.size) (Mw cy mo ad (mAns μ p0 q0 b0)) := by rw [← eW]; exact hD
        exact W.vret hx hb hr (fun t ht hW => ⟨⟨(), rfl, trivial, (by rw [ht]; exact hP), hD⟩, hS.F ht⟩) hS.2.2 dX5_answer_79
    · have c3 : (mIn q0 0 (μ 1 0 - 1)) = false := bI_0.mp r3
      refine lv_iconst (v := 1) hx hb dX5_answer_17 (by decide) ?_
      refine lv_goto (tgt := 45) hx hb dX5_answer_18 (by decide) ?_
      refine va_put (D := (D)) (ci := 6) (v := .int 1) (ty := .int) (C := RX5) (T := TX5) (N := 26) hx hb hts hin_RX5 tyX5 tyX5_ok nmX5 hown hE.1 hP hD hS 0 rfl rfl 0 (by decide) (hts (.fieldLink RX5 77 "VillagepostModel" "thrown" "I") (by decide +kernel)) (fun _ h9 => h9) rfl (by decide +kernel) rfl rfl (Nat.le_of_ble_eq_true rfl) dX5_answer_45 (fun H locs hP hD hS => ?_)
      have hP : va_P D vwCl (Mw cy mo ad (va_up μ 0 (fun _ => 1))) H := hP
      have hD : va_D (va_A (Mw cy mo ad μ) s.heap.size) (Mw cy mo ad (va_up μ 0 (fun _ => 1))) := hD
      refine lv_aload_n hx hb dX5_answer_48 rfl (lv_at hl 0 rfl) ?_
      refine va_get (D := D) (ci := 6) (v := .int 1) (C := RX5) (T := TX5) (N := 26) hx hb hts hin_RX5 hown hE.1 hP 0 rfl rfl 0 (by decide) (hts (.fieldLink RX5 77 "VillagepostModel" "thrown" "I") (by decide +kernel)) (fun _ h9 => h9) rfl dX5_answer_49 ?_
      refine lv_if_ne (tgt := 79) hx hb dX5_answer_52 (by decide) (fun _ => ?_) (fun c9 => False.elim (by revert c9; decide))
      have eW : va_up μ 0 (fun _ => 1) = mAns μ p0 q0 b0 := by simp [mAns, mTwo, mHb, bx_uu, c1, c3]
      have hP : va_P D vwCl (Mw cy mo ad (mAns μ p0 q0 b0)) H := by rw [← eW]; exact hP
      have hD : va_D (va_A (Mw cy mo ad μ) s.heap.size) (Mw cy mo ad (mAns μ p0 q0 b0)) := by rw [← eW]; exact hD
      exact W.vret hx hb hr (fun t ht hW => ⟨⟨(), rfl, trivial, (by rw [ht]; exact hP), hD⟩, hS.F ht⟩) hS.2.2 dX5_answer_79

set_option maxHeartbeats 4000000 in
set_option maxRecDepth 100000 in
theorem kX5_leave (l : Launch) (D : va_G) (cy : Nat → ClassId) (sz : Nat) (mo : Nat) (ad : Nat → Nat) (μ : Nat → Nat → Int32) (p0 : Int32) (q0 : Int32) (hw : mWF μ) (hla : mLast μ 1199) (hac0 : isN (μ 17 0) 600) : Met l yX5_leave wsX5_leave ({ frames := 6, cells := 0, slots := 0, locals := 145 }) (vg_P D cy [.ref mo, .int p0, .int q0] sz (Mw cy mo ad μ)) (vg_Qv (S := Unit) D sz (Mw cy mo ad μ) (fun _ => True) (fun _ => Mw cy mo ad (mLea μ p0 q0))) 0 0 (va_A (Mw cy mo ad μ) sz) := by
  refine Met.ofW (cc := cX5_leave) (maxL := 3) (ret := none) (by decide) rfl ?_
  intro p e s m args below meth c s₁ BB hml hv
  obtain ⟨rfl, hsz, hP, hE, hD0⟩ := hv
  have hx := BB.exec
  have hb := BB.bytes
  have hr := BB.returns
  have hts := atoms_spec (ws := wsX5_leave) BB.pre
  have hown : s.vm.findClass RX5 = some m.cls := findClass_of_methodNamed BB.named
  have hlocks := BB.notSynchronized
  subst hsz
  have hD := hD0.self (sz := s.heap.size)
  have hA : ∀ q : Nat, s.heap.size ≤ q → (va_A (Mw cy mo ad μ) s.heap.size) q := fun q h => Or.inr h
  have hS : va_S (va_A (Mw cy mo ad μ) s.heap.size) s.heap s.heap [] := va_S.rf
  have hin_RX5 : ∀ w ∈ u_ws RX5 TX5 26, w ∈ wsX5_leave := by decide +kernel
  have hl := lv_entry ([.ref mo, .int p0, .int q0]) (n := 3) (Nat.le_of_ble_eq_true rfl)
  rw [lg_entry_eq]
  generalize (lg_sl ([.ref mo, .int p0, .int q0]) ++ List.replicate (3 - (lg_sl ([.ref mo, .int p0, .int q0])).length) Slot.unset).toArray = ls at hl ⊢
  have hl : lv_has ls 3 [(0, .ref mo), (1, .int p0), (2, .int q0)] := hl
  obtain ⟨hpe, hho, hau, hre, hac⟩ := hw
  have hpe2 := hpe.2
  refine lv_aload_n hx hb dX5_leave_0 rfl (lv_at hl 0 rfl) ?_
  refine lv_aload_n hx hb dX5_leave_1 rfl (lv_at hl 0 rfl) ?_
  refine lv_iload_n hx hb dX5_leave_2 rfl (lv_at hl 1 rfl) ?_
  refine vg_calliW (va_runV (As := [.int p0]) (rest := [.ref mo]) ⟨hx, hb, hml, hown, hts⟩ (kX5_isOne l D cy s.heap.size mo ad μ p0 ) (cwV 1 hts gX5_leave_X5_isOne rfl rfl rfl (by decide +kernel) ⟨Nat.le_of_ble_eq_true rfl, Nat.le_of_ble_eq_true rfl⟩) (vg_P.preV hE hP 0 rfl rfl hP hD) rfl rfl hl.1 rfl (lv_room (Nat.le_of_ble_eq_true rfl)) dX5_leave_3 ⟨Nat.le_of_ble_eq_true rfl, Nat.le_of_ble_eq_true rfl⟩) hP hD hS hA (fun r _ H locs hr hP hD hS => ?_)
  subst hr
  refine lv_if_eq (tgt := 17) hx hb dX5_leave_6 (by decide) (fun r1 => ?_) (fun r1 => ?_)
  · have c1 : (mIn p0 0 (μ 1 0 - 1)) = false := bI_0.mp r1
    refine lv_iconst (v := 1) hx hb dX5_leave_17 (by decide) ?_
    refine lv_goto (tgt := 64) hx hb dX5_leave_18 (by decide) ?_
    refine va_put (D := (D)) (ci := 6) (v := .int 1) (ty := .int) (C := RX5) (T := TX5) (N := 26) hx hb hts hin_RX5 tyX5 tyX5_ok nmX5 hown hE.1 hP hD hS 0 rfl rfl 0 (by decide) (hts (.fieldLink RX5 77 "VillagepostModel" "thrown" "I") (by decide +kernel)) (fun _ h9 => h9) rfl (by decide +kernel) rfl rfl (Nat.le_of_ble_eq_true rfl) dX5_leave_64 (fun H locs hP hD hS => ?_)
    have hP : va_P D vwCl (Mw cy mo ad (va_up μ 0 (fun _ => 1))) H := hP
    have hD : va_D (va_A (Mw cy mo ad μ) s.heap.size) (Mw cy mo ad (va_up μ 0 (fun _ => 1))) := hD
    refine lv_aload_n hx hb dX5_leave_67 rfl (lv_at hl 0 rfl) ?_
    refine va_get (D := D) (ci := 6) (v := .int 1) (C := RX5) (T := TX5) (N := 26) hx hb hts hin_RX5 hown hE.1 hP 0 rfl rfl 0 (by decide) (hts (.fieldLink RX5 77 "VillagepostModel" "thrown" "I") (by decide +kernel)) (fun _ h9 => h9) rfl dX5_leave_68 ?_
    refine lv_if_ne (tgt := 90) hx hb dX5_leave_71 (by decide) (fun _ => ?_) (fun c9 => False.elim (by revert c9; decide))
    have eW : va_up μ 0 (fun _ => 1) = mLea μ p0 q0 := by simp [mLea, mTwo, mHb, bx_uu, c1]
    have hP : va_P D vwCl (Mw cy mo ad (mLea μ p0 q0)) H := by rw [← eW]; exact hP
    have hD : va_D (va_A (Mw cy mo ad μ) s.heap.size) (Mw cy mo ad (mLea μ p0 q0)) := by rw [← eW]; exact hD
    exact W.vret hx hb hr (fun t ht hW => ⟨⟨(), rfl, trivial, (by rw [ht]; exact hP), hD⟩, hS.F ht⟩) hS.2.2 dX5_leave_90
  · have c1 : (mIn p0 0 (μ 1 0 - 1)) = true := bI_n0.mp r1
    refine lv_aload_n hx hb dX5_leave_9 rfl (lv_at hl 0 rfl) ?_
    refine lv_iload_n hx hb dX5_leave_10 rfl (lv_at hl 2 rfl) ?_
    refine vg_calliW (va_runV (As := [.int q0]) (rest := [.ref mo]) ⟨hx, hb, hml, hown, hts⟩ (kX5_isOne l D cy H.size mo ad μ q0 ) (cwV 1 hts gX5_leave_X5_isOne rfl rfl rfl (by decide +kernel) ⟨Nat.le_of_ble_eq_true rfl, Nat.le_of_ble_eq_true rfl⟩) (vg_P.preV hE hP 0 rfl rfl hP hD) rfl rfl hl.1 rfl (lv_room (Nat.le_of_ble_eq_true rfl)) dX5_leave_11 ⟨Nat.le_of_ble_eq_true rfl, Nat.le_of_ble_eq_true rfl⟩) hP hD hS hA (fun r _ H locs hr hP hD hS => ?_)
    subst hr
    refine lv_if_ne (tgt := 21) hx hb dX5_leave_14 (by decide) (fun r3 => ?_) (fun r3 => ?_)
    · have c3 : (mIn q0 0 (μ 1 0 - 1)) = true := bI_n0.mp r3
      have hp0 : isN p0 10 := (mIn_n hpe (by omega) c1).1
      have hp02 := hp0.2
      have hq0 : isN q0 10 := (mIn_n hpe (by omega) c3).1
      have hq02 := hq0.2
      refine lv_aload_n hx hb dX5_leave_21 rfl (lv_at hl 0 rfl) ?_
      refine va_get (D := D) (ci := 6) (v := .ref (ad 3)) (C := RX5) (T := TX5) (N := 26) hx hb hts hin_RX5 hown hE.1 hP 0 rfl rfl 3 (by decide) (hts (.fieldLink RX5 13 "VillagepostModel" "asks" "[Z") (by decide +kernel)) (fun _ h9 => h9) rfl dX5_leave_22 ?_
      refine lv_aload_n hx hb dX5_leave_25 rfl (lv_at hl 0 rfl) ?_
      refine va_get (D := D) (ci := 6) (v := .ref (ad 2)) (C := RX5) (T := TX5) (N := 26) hx hb hts hin_RX5 hown hE.1 hP 0 rfl rfl 2 (by decide) (hts (.fieldLink RX5 7 "VillagepostModel" "home" "[I") (by decide +kernel)) (fun _ h9 => h9) rfl dX5_leave_26 ?_
      refine lv_iload_n hx hb dX5_leave_29 rfl (lv_at hl 1 rfl) ?_
      refine vg_tp (nI (tn p0)) hp0.1 ?_
      refine vg_iald hx hb hE.1 hP 1 0 rfl rfl (f := μ 2) (j := (tn p0)) (by omega) (by decide) dX5_leave_30 ?_
      obtain ⟨hN4, hM4⟩ := hho (tn p0) (by omega)
      refine vg_tp (nI (tn ((μ 2) (tn p0)))) hN4 ?_
      refine lv_iload_n hx hb dX5_leave_31 rfl (lv_at hl 1 rfl) ?_
      refine vg_tp (nI (tn p0)) hp0.1 ?_
      refine lv_iload_n hx hb dX5_leave_32 rfl (lv_at hl 2 rfl) ?_
      refine vg_tp (nI (tn q0)) hq0.1 ?_
      refine vg_calliP (va_runS (As := [.int (nI (tn ((μ 2) (tn p0)))), .int (nI (tn p0)), .int (nI (tn q0))]) (rest := [.ref (ad 3), .ref mo]) ⟨hx, hb, hml, hown, hts⟩ (kX5_at l D cy H.size (tn ((μ 2) (tn p0))) (tn p0) (tn q0)) (va_cwS 3 hts gX5_leave_X5_at rfl rfl rfl (by decide +kernel) ⟨Nat.le_of_ble_eq_true rfl, Nat.le_of_ble_eq_true rfl⟩) (vg_P.preS hE vg_P0 (A := fun _ => True) vg_D0) rfl rfl hl.1 rfl (lv_room (Nat.le_of_ble_eq_true rfl)) dX5_leave_33 ⟨Nat.le_of_ble_eq_true rfl, Nat.le_of_ble_eq_true rfl⟩) hP hD hS hA (fun r _ H locs hr hP hD hS => ?_)
      subst hr
      refine vg_zald hx hb hE.1 hP 2 2 rfl rfl (f := μ 3) (j := (100 * (tn ((μ 2) (tn p0))) + 10 * (tn p0) + (tn q0))) (by omega) (by decide) dX5_leave_36 ?_
      refine lv_if_ne (tgt := 63) hx hb dX5_leave_37 (by decide) (fun r5 => ?_) (fun r5 => ?_)
      · have c5 := r5
        refine lv_iconst (v := 0) hx hb dX5_leave_63 (by decide) ?_
        refine va_put (D := (D)) (ci := 6) (v := .int 0) (ty := .int) (C := RX5) (T := TX5) (N := 26) hx hb hts hin_RX5 tyX5 tyX5_ok nmX5 hown hE.1 hP hD hS 0 rfl rfl 0 (by decide) (hts (.fieldLink RX5 77 "VillagepostModel" "thrown" "I") (by decide +kernel)) (fun _ h9 => h9) rfl (by decide +kernel) rfl rfl (Nat.le_of_ble_eq_true rfl) dX5_leave_64 (fun H locs hP hD hS => ?_)
        have hP : va_P D vwCl (Mw cy mo ad (va_up μ 0 (fun _ => 0))) H := hP
        have hD : va_D (va_A (Mw cy mo ad μ) s.heap.size) (Mw cy mo ad (va_up μ 0 (fun _ => 0))) := hD
        refine lv_aload_n hx hb dX5_leave_67 rfl (lv_at hl 0 rfl) ?_
        refine va_get (D := D) (ci := 6) (v := .int 0) (C := RX5) (T := TX5) (N := 26) hx hb hts hin_RX5 hown hE.1 hP 0 rfl rfl 0 (by decide) (hts (.fieldLink RX5 77 "VillagepostModel" "thrown" "I") (by decide +kernel)) (fun _ h9 => h9) rfl dX5_leave_68 ?_
        refine lv_if_ne (tgt := 90) hx hb dX5_leave_71 (by decide) (fun c9 => False.elim (by revert c9; decide)) (fun _ => ?_)
        refine lv_aload_n hx hb dX5_leave_74 rfl (lv_at hl 0 rfl) ?_
        refine lv_iconst (v := 3) hx hb dX5_leave_75 (by decide) ?_
        refine lv_iload_n hx hb dX5_leave_76 rfl (lv_at hl 1 rfl) ?_
        refine vg_tp (nI (tn p0)) hp0.1 ?_
        refine lv_iload_n hx hb dX5_leave_77 rfl (lv_at hl 2 rfl) ?_
        refine vg_tp (nI (tn q0)) hq0.1 ?_
        refine lv_iconst (v := 0) hx hb dX5_leave_78 (by decide) ?_
        refine lv_iconst (v := 1) hx hb dX5_leave_79 (by decide) ?_
        refine lv_aload_n hx hb dX5_leave_80 rfl (lv_at hl 0 rfl) ?_
        refine va_get (D := D) (ci := 6) (v := .ref (ad 2)) (C := RX5) (T := TX5) (N := 26) hx hb hts hin_RX5 hown hE.1 hP 0 rfl rfl 2 (by decide) (hts (.fieldLink RX5 7 "VillagepostModel" "home" "[I") (by decide +kernel)) (fun _ h9 => h9) rfl dX5_leave_81 ?_
        refine lv_iload_n hx hb dX5_leave_84 rfl (lv_at hl 2 rfl) ?_
        refine vg_tp (nI (tn q0)) hq0.1 ?_
        refine vg_iald hx hb hE.1 hP 1 0 rfl rfl (f := μ 2) (j := (tn q0)) (by omega) (by decide) dX5_leave_85 ?_
        obtain ⟨hN7, hM7⟩ := hho (tn q0) (by omega)
        refine vg_tp (nI (tn ((μ 2) (tn q0)))) hN7 ?_
        refine lv_ishl hx hb dX5_leave_86 ?_
        refine vg_callvW (va_runV (As := [.int (nI 3), .int (nI (tn p0)), .int (nI (tn q0)), .int 0, .int ((1 : Int32) <<< ((nI (tn ((μ 2) (tn q0)))) &&& 31))]) (rest := []) ⟨hx, hb, hml, hown, hts⟩ (kX5_acts l D cy H.size mo ad (va_up μ 0 (fun _ => 0)) 3 (tn p0) (tn q0) 0 (((1 : Int32) <<< ((nI (tn ((μ 2) (tn q0)))) &&& 31))) (⟨hpe, hho, hau, hre, hac⟩) (hla) (hac0) (by omega) (by omega) (by omega) (fun _ => by omega)) (cwV 5 hts gX5_leave_X5_acts rfl rfl rfl (by decide +kernel) ⟨Nat.le_of_ble_eq_true rfl, Nat.le_of_ble_eq_true rfl⟩) (vg_P.preV hE hP 0 rfl rfl hP hD) rfl rfl hl.1 rfl (lv_room (Nat.le_of_ble_eq_true rfl)) dX5_leave_87 ⟨Nat.le_of_ble_eq_true rfl, Nat.le_of_ble_eq_true rfl⟩) hP hD hS hA (fun _ H locs hrv hP hD hS => ?_)
        have hP : va_P D vwCl (Mw cy mo ad (mAct (va_up μ 0 (fun _ => 0)) 3 (tn p0) (tn q0) 0 (((1 : Int32) <<< ((nI (tn ((μ 2) (tn q0)))) &&& 31))))) H := hP
        have hD : va_D (va_A (Mw cy mo ad μ) s.heap.size) (Mw cy mo ad (mAct (va_up μ 0 (fun _ => 0)) 3 (tn p0) (tn q0) 0 (((1 : Int32) <<< ((nI (tn ((μ 2) (tn q0)))) &&& 31))))) := hD
        have eW : mAct (va_up μ 0 (fun _ => 0)) 3 (tn p0) (tn q0) 0 (((1 : Int32) <<< ((nI (tn ((μ 2) (tn q0)))) &&& 31))) = mLea μ p0 q0 := by simp [mLea, mTwo, mHb, bx_uu, c1, c3, c5]
        have hP : va_P D vwCl (Mw cy mo ad (mLea μ p0 q0)) H := by rw [← eW]; exact hP
        have hD : va_D (va_A (Mw cy mo ad μ) s.heap.size) (Mw cy mo ad (mLea μ p0 q0)) := by rw [← eW]; exact hD
        exact W.vret hx hb hr (fun t ht hW => ⟨⟨(), rfl, trivial, (by rw [ht]; exact hP), hD⟩, hS.F ht⟩) hS.2.2 dX5_leave_90
      · have c5 := r5
        refine lv_aload_n hx hb dX5_leave_40 rfl (lv_at hl 0 rfl) ?_
        refine va_get (D := D) (ci := 6) (v := .ref (ad 4)) (C := RX5) (T := TX5) (N := 26) hx hb hts hin_RX5 hown hE.1 hP 0 rfl rfl 4 (by decide) (hts (.fieldLink RX5 17 "VillagepostModel" "follows" "[Z") (by decide +kernel)) (fun _ h9 => h9) rfl dX5_leave_41 ?_
        refine lv_aload_n hx hb dX5_leave_44 rfl (lv_at hl 0 rfl) ?_
        refine va_get (D := D) (ci := 6) (v := .ref (ad 2)) (C := RX5) (T := TX5) (N := 26) hx hb hts hin_RX5 hown hE.1 hP 0 rfl rfl 2 (by decide) (hts (.fieldLink RX5 7 "VillagepostModel" "home" "[I") (by decide +kernel)) (fun _ h9 => h9) rfl dX5_leave_45 ?_
        refine lv_iload_n hx hb dX5_leave_48 rfl (lv_at hl 1 rfl) ?_
        refine vg_tp (nI (tn p0)) hp0.1 ?_
        refine vg_iald hx hb hE.1 hP 1 0 rfl rfl (f := μ 2) (j := (tn p0)) (by omega) (by decide) dX5_leave_49 ?_
        obtain ⟨hN8, hM8⟩ := hho (tn p0) (by omega)
        refine vg_tp (nI (tn ((μ 2) (tn p0)))) hN8 ?_
        refine lv_iload_n hx hb dX5_leave_50 rfl (lv_at hl 1 rfl) ?_
        refine vg_tp (nI (tn p0)) hp0.1 ?_
        refine lv_iload_n hx hb dX5_leave_51 rfl (lv_at hl 2 rfl) ?_
        refine vg_tp (nI (tn q0)) hq0.1 ?_
        refine vg_calliP (va_runS (As := [.int (nI (tn ((μ 2) (tn p0)))), .int (nI (tn p0)), .int (nI (tn q0))]) (rest := [.ref (ad 4), .ref mo]) ⟨hx, hb, hml, hown, hts⟩ (kX5_at l D cy H.size (tn ((μ 2) (tn p0))) (tn p0) (tn q0)) (va_cwS 3 hts gX5_leave_X5_at rfl rfl rfl (by decide +kernel) ⟨Nat.le_of_ble_eq_true rfl, Nat.le_of_ble_eq_true rfl⟩) (vg_P.preS hE vg_P0 (A := fun _ => True) vg_D0) rfl rfl hl.1 rfl (lv_room (Nat.le_of_ble_eq_true rfl)) dX5_leave_52 ⟨Nat.le_of_ble_eq_true rfl, Nat.le_of_ble_eq_true rfl⟩) hP hD hS hA (fun r _ H locs hr hP hD hS => ?_)
        subst hr
        refine vg_zald hx hb hE.1 hP 3 2 rfl rfl (f := μ 4) (j := (100 * (tn ((μ 2) (tn p0))) + 10 * (tn p0) + (tn q0))) (by omega) (by decide) dX5_leave_55 ?_
        refine lv_if_ne (tgt := 63) hx hb dX5_leave_56 (by decide) (fun r9 => ?_) (fun r9 => ?_)
        · have c9 := r9
          refine lv_iconst (v := 0) hx hb dX5_leave_63 (by decide) ?_
          refine va_put (D := (D)) (ci := 6) (v := .int 0) (ty := .int) (C := RX5) (T := TX5) (N := 26) hx hb hts hin_RX5 tyX5 tyX5_ok nmX5 hown hE.1 hP hD hS 0 rfl rfl 0 (by decide) (hts (.fieldLink RX5 77 "VillagepostModel" "thrown" "I") (by decide +kernel)) (fun _ h9 => h9) rfl (by decide +kernel) rfl rfl (Nat.le_of_ble_eq_true rfl) dX5_leave_64 (fun H locs hP hD hS => ?_)
          have hP : va_P D vwCl (Mw cy mo ad (va_up μ 0 (fun _ => 0))) H := hP
          have hD : va_D (va_A (Mw cy mo ad μ) s.heap.size) (Mw cy mo ad (va_up μ 0 (fun _ => 0))) := hD
          refine lv_aload_n hx hb dX5_leave_67 rfl (lv_at hl 0 rfl) ?_
          refine va_get (D := D) (ci := 6) (v := .int 0) (C := RX5) (T := TX5) (N := 26) hx hb hts hin_RX5 hown hE.1 hP 0 rfl rfl 0 (by decide) (hts (.fieldLink RX5 77 "VillagepostModel" "thrown" "I") (by decide +kernel)) (fun _ h9 => h9) rfl dX5_leave_68 ?_
          refine lv_if_ne (tgt := 90) hx hb dX5_leave_71 (by decide) (fun c9 => False.elim (by revert c9; decide)) (fun _ => ?_)
          refine lv_aload_n hx hb dX5_leave_74 rfl (lv_at hl 0 rfl) ?_
          refine lv_iconst (v := 3) hx hb dX5_leave_75 (by decide) ?_
          refine lv_iload_n hx hb dX5_leave_76 rfl (lv_at hl 1 rfl) ?_
          refine vg_tp (nI (tn p0)) hp0.1 ?_
          refine lv_iload_n hx hb dX5_leave_77 rfl (lv_at hl 2 rfl) ?_
          refine vg_tp (nI (tn q0)) hq0.1 ?_
          refine lv_iconst (v := 0) hx hb dX5_leave_78 (by decide) ?_
          refine lv_iconst (v := 1) hx hb dX5_leave_79 (by decide) ?_
          refine lv_aload_n hx hb dX5_leave_80 rfl (lv_at hl 0 rfl) ?_
          refine va_get (D := D) (ci := 6) (v := .ref (ad 2)) (C := RX5) (T := TX5) (N := 26) hx hb hts hin_RX5 hown hE.1 hP 0 rfl rfl 2 (by decide) (hts (.fieldLink RX5 7 "VillagepostModel" "home" "[I") (by decide +kernel)) (fun _ h9 => h9) rfl dX5_leave_81 ?_
          refine lv_iload_n hx hb dX5_leave_84 rfl (lv_at hl 2 rfl) ?_
          refine vg_tp (nI (tn q0)) hq0.1 ?_
          refine vg_iald hx hb hE.1 hP 1 0 rfl rfl (f := μ 2) (j := (tn q0)) (by omega) (by decide) dX5_leave_85 ?_
          obtain ⟨hN11, hM11⟩ := hho (tn q0) (by omega)
          refine vg_tp (nI (tn ((μ 2) (tn q0)))) hN11 ?_
          refine lv_ishl hx hb dX5_leave_86 ?_
          refine vg_callvW (va_runV (As := [.int (nI 3), .int (nI (tn p0)), .int (nI (tn q0)), .int 0, .int ((1 : Int32) <<< ((nI (tn ((μ 2) (tn q0)))) &&& 31))]) (rest := []) ⟨hx, hb, hml, hown, hts⟩ (kX5_acts l D cy H.size mo ad (va_up μ 0 (fun _ => 0)) 3 (tn p0) (tn q0) 0 (((1 : Int32) <<< ((nI (tn ((μ 2) (tn q0)))) &&& 31))) (⟨hpe, hho, hau, hre, hac⟩) (hla) (hac0) (by omega) (by omega) (by omega) (fun _ => by omega)) (cwV 5 hts gX5_leave_X5_acts rfl rfl rfl (by decide +kernel) ⟨Nat.le_of_ble_eq_true rfl, Nat.le_of_ble_eq_true rfl⟩) (vg_P.preV hE hP 0 rfl rfl hP hD) rfl rfl hl.1 rfl (lv_room (Nat.le_of_ble_eq_true rfl)) dX5_leave_87 ⟨Nat.le_of_ble_eq_true rfl, Nat.le_of_ble_eq_true rfl⟩) hP hD hS hA (fun _ H locs hrv hP hD hS => ?_)
          have hP : va_P D vwCl (Mw cy mo ad (mAct (va_up μ 0 (fun _ => 0)) 3 (tn p0) (tn q0) 0 (((1 : Int32) <<< ((nI (tn ((μ 2) (tn q0)))) &&& 31))))) H := hP
          have hD : va_D (va_A (Mw cy mo ad μ) s.heap.size) (Mw cy mo ad (mAct (va_up μ 0 (fun _ => 0)) 3 (tn p0) (tn q0) 0 (((1 : Int32) <<< ((nI (tn ((μ 2) (tn q0)))) &&& 31))))) := hD
          have eW : mAct (va_up μ 0 (fun _ => 0)) 3 (tn p0) (tn q0) 0 (((1 : Int32) <<< ((nI (tn ((μ 2) (tn q0)))) &&& 31))) = mLea μ p0 q0 := by simp [mLea, mTwo, mHb, bx_uu, c1, c3, c5, c9]
          have hP : va_P D vwCl (Mw cy mo ad (mLea μ p0 q0)) H := by rw [← eW]; exact hP
          have hD : va_D (va_A (Mw cy mo ad μ) s.heap.size) (Mw cy mo ad (mLea μ p0 q0)) := by rw [← eW]; exact hD
          exact W.vret hx hb hr (fun t ht hW => ⟨⟨(), rfl, trivial, (by rw [ht]; exact hP), hD⟩, hS.F ht⟩) hS.2.2 dX5_leave_90
        · have c9 := r9
          refine lv_iconst (v := 2) hx hb dX5_leave_59 (by decide) ?_
          refine lv_goto (tgt := 64) hx hb dX5_leave_60 (by decide) ?_
          refine va_put (D := (D)) (ci := 6) (v := .int 2) (ty := .int) (C := RX5) (T := TX5) (N := 26) hx hb hts hin_RX5 tyX5 tyX5_ok nmX5 hown hE.1 hP hD hS 0 rfl rfl 0 (by decide) (hts (.fieldLink RX5 77 "VillagepostModel" "thrown" "I") (by decide +kernel)) (fun _ h9 => h9) rfl (by decide +kernel) rfl rfl (Nat.le_of_ble_eq_true rfl) dX5_leave_64 (fun H locs hP hD hS => ?_)
          have hP : va_P D vwCl (Mw cy mo ad (va_up μ 0 (fun _ => 2))) H := hP
          have hD : va_D (va_A (Mw cy mo ad μ) s.heap.size) (Mw cy mo ad (va_up μ 0 (fun _ => 2))) := hD
          refine lv_aload_n hx hb dX5_leave_67 rfl (lv_at hl 0 rfl) ?_
          refine va_get (D := D) (ci := 6) (v := .int 2) (C := RX5) (T := TX5) (N := 26) hx hb hts hin_RX5 hown hE.1 hP 0 rfl rfl 0 (by decide) (hts (.fieldLink RX5 77 "VillagepostModel" "thrown" "I") (by decide +kernel)) (fun _ h9 => h9) rfl dX5_leave_68 ?_
          refine lv_if_ne (tgt := 90) hx hb dX5_leave_71 (by decide) (fun _ => ?_) (fun c9 => False.elim (by revert c9; decide))
          have eW : va_up μ 0 (fun _ => 2) = mLea μ p0 q0 := by simp [mLea, mTwo, mHb, bx_uu, c1, c3, c5, c9]
          have hP : va_P D vwCl (Mw cy mo ad (mLea μ p0 q0)) H := by rw [← eW]; exact hP
          have hD : va_D (va_A (Mw cy mo ad μ) s.heap.size) (Mw cy mo ad (mLea μ p0 q0)) := by rw [← eW]; exact hD
          exact W.vret hx hb hr (fun t ht hW => ⟨⟨(), rfl, trivial, (by rw [ht]; exact hP), hD⟩, hS.F ht⟩) hS.2.2 dX5_leave_90
    · have c3 : (mIn q0 0 (μ 1 0 - 1)) = false := bI_0.mp r3
      refine lv_iconst (v := 1) hx hb dX5_leave_17 (by decide) ?_
      refine lv_goto (tgt := 64) hx hb dX5_leave_18 (by decide) ?_
      refine va_put (D := (D)) (ci := 6) (v := .int 1) (ty := .int) (C := RX5) (T := TX5) (N := 26) hx hb hts hin_RX5 tyX5 tyX5_ok nmX5 hown hE.1 hP hD hS 0 rfl rfl 0 (by decide) (hts (.fieldLink RX5 77 "VillagepostModel" "thrown" "I") (by decide +kernel)) (fun _ h9 => h9) rfl (by decide +kernel) rfl rfl (Nat.le_of_ble_eq_true rfl) dX5_leave_64 (fun H locs hP hD hS => ?_)
      have hP : va_P D vwCl (Mw cy mo ad (va_up μ 0 (fun _ => 1))) H := hP
      have hD : va_D (va_A (Mw cy mo ad μ) s.heap.size) (Mw cy mo ad (va_up μ 0 (fun _ => 1))) := hD
      refine lv_aload_n hx hb dX5_leave_67 rfl (lv_at hl 0 rfl) ?_
      refine va_get (D := D) (ci := 6) (v := .int 1) (C := RX5) (T := TX5) (N := 26) hx hb hts hin_RX5 hown hE.1 hP 0 rfl rfl 0 (by decide) (hts (.fieldLink RX5 77 "VillagepostModel" "thrown" "I") (by decide +kernel)) (fun _ h9 => h9) rfl dX5_leave_68 ?_
      refine lv_if_ne (tgt := 90) hx hb dX5_leave_71 (by decide) (fun _ => ?_) (fun c9 => False.elim (by revert c9; decide))
      have eW : va_up μ 0 (fun _ => 1) = mLea μ p0 q0 := by simp [mLea, mTwo, mHb, bx_uu, c1, c3]
      have hP : va_P D vwCl (Mw cy mo ad (mLea μ p0 q0)) H := by rw [← eW]; exact hP
      have hD : va_D (va_A (Mw cy mo ad μ) s.heap.size) (Mw cy mo ad (mLea μ p0 q0)) := by rw [← eW]; exact hD
      exact W.vret hx hb hr (fun t ht hW => ⟨⟨(), rfl, trivial, (by rw [ht]; exact hP), hD⟩, hS.F ht⟩) hS.2.2 dX5_leave_90

set_option maxHeartbeats 4000000 in
set_option maxRecDepth 100000 in
theorem kX5_block (l : Launch) (D : va_G) (cy : Nat → ClassId) (sz : Nat) (mo : Nat) (ad : Nat → Nat) (μ : Nat → Nat → Int32) (p0 : Int32) (q0 : Int32) (b0 : Bool) (hw : mWF μ) (hla : mLast μ 1199) (hac0 : isN (μ 17 0) 600) : Met l yX5_block wsX5_block ({ frames := 6, cells := 0, slots := 0, locals := 145 }) (vg_P D cy [.ref mo, .int p0, .int q0, .int (bI b0)] sz (Mw cy mo ad μ)) (vg_Qv (S := Unit) D sz (Mw cy mo ad μ) (fun _ => True) (fun _ => Mw cy mo ad (mBlo μ p0 q0 b0))) 0 0 (va_A (Mw cy mo ad μ) sz) := by
  refine Met.ofW (cc := cX5_block) (maxL := 4) (ret := none) (by decide) rfl ?_
  intro p e s m args below meth c s₁ BB hml hv
  obtain ⟨rfl, hsz, hP, hE, hD0⟩ := hv
  have hx := BB.exec
  have hb := BB.bytes
  have hr := BB.returns
  have hts := atoms_spec (ws := wsX5_block) BB.pre
  have hown : s.vm.findClass RX5 = some m.cls := findClass_of_methodNamed BB.named
  have hlocks := BB.notSynchronized
  subst hsz
  have hD := hD0.self (sz := s.heap.size)
  have hA : ∀ q : Nat, s.heap.size ≤ q → (va_A (Mw cy mo ad μ) s.heap.size) q := fun q h => Or.inr h
  have hS : va_S (va_A (Mw cy mo ad μ) s.heap.size) s.heap s.heap [] := va_S.rf
  have hin_RX5 : ∀ w ∈ u_ws RX5 TX5 26, w ∈ wsX5_block := by decide +kernel
  have hl := lv_entry ([.ref mo, .int p0, .int q0, .int (bI b0)]) (n := 4) (Nat.le_of_ble_eq_true rfl)
  rw [lg_entry_eq]
  generalize (lg_sl ([.ref mo, .int p0, .int q0, .int (bI b0)]) ++ List.replicate (4 - (lg_sl ([.ref mo, .int p0, .int q0, .int (bI b0)])).length) Slot.unset).toArray = ls at hl ⊢
  have hl : lv_has ls 4 [(0, .ref mo), (1, .int p0), (2, .int q0), (3, .int (bI b0))] := hl
  obtain ⟨hpe, hho, hau, hre, hac⟩ := hw
  have hpe2 := hpe.2
  refine lv_aload_n hx hb dX5_block_0 rfl (lv_at hl 0 rfl) ?_
  refine lv_aload_n hx hb dX5_block_1 rfl (lv_at hl 0 rfl) ?_
  refine lv_iload_n hx hb dX5_block_2 rfl (lv_at hl 1 rfl) ?_
  refine vg_calliW (va_runV (As := [.int p0]) (rest := [.ref mo]) ⟨hx, hb, hml, hown, hts⟩ (kX5_isOne l D cy s.heap.size mo ad μ p0 ) (cwV 1 hts gX5_block_X5_isOne rfl rfl rfl (by decide +kernel) ⟨Nat.le_of_ble_eq_true rfl, Nat.le_of_ble_eq_true rfl⟩) (vg_P.preV hE hP 0 rfl rfl hP hD) rfl rfl hl.1 rfl (lv_room (Nat.le_of_ble_eq_true rfl)) dX5_block_3 ⟨Nat.le_of_ble_eq_true rfl, Nat.le_of_ble_eq_true rfl⟩) hP hD hS hA (fun r _ H locs hr hP hD hS => ?_)
  subst hr
  refine lv_if_eq (tgt := 17) hx hb dX5_block_6 (by decide) (fun r1 => ?_) (fun r1 => ?_)
  · have c1 : (mIn p0 0 (μ 1 0 - 1)) = false := bI_0.mp r1
    refine lv_iconst (v := 1) hx hb dX5_block_17 (by decide) ?_
    refine lv_goto (tgt := 55) hx hb dX5_block_18 (by decide) ?_
    refine va_put (D := (D)) (ci := 6) (v := .int 1) (ty := .int) (C := RX5) (T := TX5) (N := 26) hx hb hts hin_RX5 tyX5 tyX5_ok nmX5 hown hE.1 hP hD hS 0 rfl rfl 0 (by decide) (hts (.fieldLink RX5 77 "VillagepostModel" "thrown" "I") (by decide +kernel)) (fun _ h9 => h9) rfl (by decide +kernel) rfl rfl (Nat.le_of_ble_eq_true rfl) dX5_block_55 (fun H locs hP hD hS => ?_)
    have hP : va_P D vwCl (Mw cy mo ad (va_up μ 0 (fun _ => 1))) H := hP
    have hD : va_D (va_A (Mw cy mo ad μ) s.heap.size) (Mw cy mo ad (va_up μ 0 (fun _ => 1))) := hD
    refine lv_aload_n hx hb dX5_block_58 rfl (lv_at hl 0 rfl) ?_
    refine va_get (D := D) (ci := 6) (v := .int 1) (C := RX5) (T := TX5) (N := 26) hx hb hts hin_RX5 hown hE.1 hP 0 rfl rfl 0 (by decide) (hts (.fieldLink RX5 77 "VillagepostModel" "thrown" "I") (by decide +kernel)) (fun _ h9 => h9) rfl dX5_block_59 ?_
    refine lv_if_ne (tgt := 89) hx hb dX5_block_62 (by decide) (fun _ => ?_) (fun c9 => False.elim (by revert c9; decide))
    have eW : va_up μ 0 (fun _ => 1) = mBlo μ p0 q0 b0 := by first | (simp [mBlo, mTwo, mHb, bx_uu, c1]; done)
    have hP : va_P D vwCl (Mw cy mo ad (mBlo μ p0 q0 b0)) H := by rw [← eW]; exact hP
    have hD : va_D (va_A (Mw cy mo ad μ) s.heap.size) (Mw cy mo ad (mBlo μ p0 q0 b0)) := by rw [← eW]; exact hD
    exact W.vret hx hb hr (fun t ht hW => ⟨⟨(), rfl, trivial, (by rw [ht]; exact hP), hD⟩, hS.F ht⟩) hS.2.2 dX5_block_89
  · have c1 : (mIn p0 0 (μ 1 0 - 1)) = true := bI_n0.mp r1
    refine lv_aload_n hx hb dX5_block_9 rfl (lv_at hl 0 rfl) ?_
    refine lv_iload_n hx hb dX5_block_10 rfl (lv_at hl 2 rfl) ?_
    refine vg_calliW (va_runV (As := [.int q0]) (rest := [.ref mo]) ⟨hx, hb, hml, hown, hts⟩ (kX5_isOne l D cy H.size mo ad μ q0 ) (cwV 1 hts gX5_block_X5_isOne rfl rfl rfl (by decide +kernel) ⟨Nat.le_of_ble_eq_true rfl, Nat.le_of_ble_eq_true rfl⟩) (vg_P.preV hE hP 0 rfl rfl hP hD) rfl rfl hl.1 rfl (lv_room (Nat.le_of_ble_eq_true rfl)) dX5_block_11 ⟨Nat.le_of_ble_eq_true rfl, Nat.le_of_ble_eq_true rfl⟩) hP hD hS hA (fun r _ H locs hr hP hD hS => ?_)
    subst hr
    refine lv_if_ne (tgt := 21) hx hb dX5_block_14 (by decide) (fun r3 => ?_) (fun r3 => ?_)
    · have c3 : (mIn q0 0 (μ 1 0 - 1)) = true := bI_n0.mp r3
      have hp0 : isN p0 10 := (mIn_n hpe (by omega) c1).1
      have hp02 := hp0.2
      have hq0 : isN q0 10 := (mIn_n hpe (by omega) c3).1
      have hq02 := hq0.2
      refine lv_iload_n hx hb dX5_block_21 rfl (lv_at hl 1 rfl) ?_
      refine vg_tp (nI (tn p0)) hp0.1 ?_
      refine lv_iload_n hx hb dX5_block_22 rfl (lv_at hl 2 rfl) ?_
      refine vg_tp (nI (tn q0)) hq0.1 ?_
      refine lv_icmp_ne (tgt := 30) hx hb dX5_block_23 (by decide) (fun r4 => ?_) (fun r4 => ?_)
      · have c4 : ¬ tn p0 = tn q0 := fun q => r4 ((nI_eq (a := tn p0) (b := tn q0) (by omega) (by omega)).mpr q)
        refine lv_aload_n hx hb dX5_block_30 rfl (lv_at hl 0 rfl) ?_
        refine va_get (D := D) (ci := 6) (v := .ref (ad 5)) (C := RX5) (T := TX5) (N := 26) hx hb hts hin_RX5 hown hE.1 hP 0 rfl rfl 5 (by decide) (hts (.fieldLink RX5 20 "VillagepostModel" "blocks" "[Z") (by decide +kernel)) (fun _ h9 => h9) rfl dX5_block_31 ?_
        refine lv_aload_n hx hb dX5_block_34 rfl (lv_at hl 0 rfl) ?_
        refine va_get (D := D) (ci := 6) (v := .ref (ad 2)) (C := RX5) (T := TX5) (N := 26) hx hb hts hin_RX5 hown hE.1 hP 0 rfl rfl 2 (by decide) (hts (.fieldLink RX5 7 "VillagepostModel" "home" "[I") (by decide +kernel)) (fun _ h9 => h9) rfl dX5_block_35 ?_
        refine lv_iload_n hx hb dX5_block_38 rfl (lv_at hl 1 rfl) ?_
        refine vg_tp (nI (tn p0)) hp0.1 ?_
        refine vg_iald hx hb hE.1 hP 1 0 rfl rfl (f := μ 2) (j := (tn p0)) (by omega) (by decide) dX5_block_39 ?_
        obtain ⟨hN5, hM5⟩ := hho (tn p0) (by omega)
        refine vg_tp (nI (tn ((μ 2) (tn p0)))) hN5 ?_
        refine lv_iload_n hx hb dX5_block_40 rfl (lv_at hl 1 rfl) ?_
        refine vg_tp (nI (tn p0)) hp0.1 ?_
        refine lv_iload_n hx hb dX5_block_41 rfl (lv_at hl 2 rfl) ?_
        refine vg_tp (nI (tn q0)) hq0.1 ?_
        refine vg_calliP (va_runS (As := [.int (nI (tn ((μ 2) (tn p0)))), .int (nI (tn p0)), .int (nI (tn q0))]) (rest := [.ref (ad 5), .ref mo]) ⟨hx, hb, hml, hown, hts⟩ (kX5_at l D cy H.size (tn ((μ 2) (tn p0))) (tn p0) (tn q0)) (va_cwS 3 hts gX5_block_X5_at rfl rfl rfl (by decide +kernel) ⟨Nat.le_of_ble_eq_true rfl, Nat.le_of_ble_eq_true rfl⟩) (vg_P.preS hE vg_P0 (A := fun _ => True) vg_D0) rfl rfl hl.1 rfl (lv_room (Nat.le_of_ble_eq_true rfl)) dX5_block_42 ⟨Nat.le_of_ble_eq_true rfl, Nat.le_of_ble_eq_true rfl⟩) hP hD hS hA (fun r _ H locs hr hP hD hS => ?_)
        subst hr
        refine vg_zald hx hb hE.1 hP 4 2 rfl rfl (f := μ 5) (j := (100 * (tn ((μ 2) (tn p0))) + 10 * (tn p0) + (tn q0))) (by omega) (by decide) dX5_block_45 ?_
        refine lv_iload_n hx hb dX5_block_46 rfl (lv_at hl 3 rfl) ?_
        refine lv_icmp_ne (tgt := 54) hx hb dX5_block_47 (by decide) (fun r6 => ?_) (fun r6 => ?_)
        · have c6 := r6
          refine lv_iconst (v := 0) hx hb dX5_block_54 (by decide) ?_
          refine va_put (D := (D)) (ci := 6) (v := .int 0) (ty := .int) (C := RX5) (T := TX5) (N := 26) hx hb hts hin_RX5 tyX5 tyX5_ok nmX5 hown hE.1 hP hD hS 0 rfl rfl 0 (by decide) (hts (.fieldLink RX5 77 "VillagepostModel" "thrown" "I") (by decide +kernel)) (fun _ h9 => h9) rfl (by decide +kernel) rfl rfl (Nat.le_of_ble_eq_true rfl) dX5_block_55 (fun H locs hP hD hS => ?_)
          have hP : va_P D vwCl (Mw cy mo ad (va_up μ 0 (fun _ => 0))) H := hP
          have hD : va_D (va_A (Mw cy mo ad μ) s.heap.size) (Mw cy mo ad (va_up μ 0 (fun _ => 0))) := hD
          refine lv_aload_n hx hb dX5_block_58 rfl (lv_at hl 0 rfl) ?_
          refine va_get (D := D) (ci := 6) (v := .int 0) (C := RX5) (T := TX5) (N := 26) hx hb hts hin_RX5 hown hE.1 hP 0 rfl rfl 0 (by decide) (hts (.fieldLink RX5 77 "VillagepostModel" "thrown" "I") (by decide +kernel)) (fun _ h9 => h9) rfl dX5_block_59 ?_
          refine lv_if_ne (tgt := 89) hx hb dX5_block_62 (by decide) (fun c9 => False.elim (by revert c9; decide)) (fun _ => ?_)
          refine lv_aload_n hx hb dX5_block_65 rfl (lv_at hl 0 rfl) ?_
          refine lv_iload_n hx hb dX5_block_66 rfl (lv_at hl 3 rfl) ?_
          refine lv_if_eq (tgt := 74) hx hb dX5_block_67 (by decide) (fun r8 => ?_) (fun r8 => ?_)
          · have c8 : b0 = false := bI_0.mp r8
            refine lv_iconst (v := 5) hx hb dX5_block_74 (by decide) ?_
            refine lv_iload_n hx hb dX5_block_75 rfl (lv_at hl 1 rfl) ?_
            refine vg_tp (nI (tn p0)) hp0.1 ?_
            refine lv_iload_n hx hb dX5_block_76 rfl (lv_at hl 2 rfl) ?_
            refine vg_tp (nI (tn q0)) hq0.1 ?_
            refine lv_iconst (v := 0) hx hb dX5_block_77 (by decide) ?_
            refine lv_iconst (v := 1) hx hb dX5_block_78 (by decide) ?_
            refine lv_aload_n hx hb dX5_block_79 rfl (lv_at hl 0 rfl) ?_
            refine va_get (D := D) (ci := 6) (v := .ref (ad 2)) (C := RX5) (T := TX5) (N := 26) hx hb hts hin_RX5 hown hE.1 hP 0 rfl rfl 2 (by decide) (hts (.fieldLink RX5 7 "VillagepostModel" "home" "[I") (by decide +kernel)) (fun _ h9 => h9) rfl dX5_block_80 ?_
            refine lv_iload_n hx hb dX5_block_83 rfl (lv_at hl 2 rfl) ?_
            refine vg_tp (nI (tn q0)) hq0.1 ?_
            refine vg_iald hx hb hE.1 hP 1 0 rfl rfl (f := μ 2) (j := (tn q0)) (by omega) (by decide) dX5_block_84 ?_
            obtain ⟨hN9, hM9⟩ := hho (tn q0) (by omega)
            refine vg_tp (nI (tn ((μ 2) (tn q0)))) hN9 ?_
            refine lv_ishl hx hb dX5_block_85 ?_
            refine vg_callvW (va_runV (As := [.int (nI 5), .int (nI (tn p0)), .int (nI (tn q0)), .int 0, .int ((1 : Int32) <<< ((nI (tn ((μ 2) (tn q0)))) &&& 31))]) (rest := []) ⟨hx, hb, hml, hown, hts⟩ (kX5_acts l D cy H.size mo ad (va_up μ 0 (fun _ => 0)) 5 (tn p0) (tn q0) 0 (((1 : Int32) <<< ((nI (tn ((μ 2) (tn q0)))) &&& 31))) (⟨hpe, hho, hau, hre, hac⟩) (hla) (hac0) (by omega) (by omega) (by omega) (fun _ => by omega)) (cwV 5 hts gX5_block_X5_acts rfl rfl rfl (by decide +kernel) ⟨Nat.le_of_ble_eq_true rfl, Nat.le_of_ble_eq_true rfl⟩) (vg_P.preV hE hP 0 rfl rfl hP hD) rfl rfl hl.1 rfl (lv_room (Nat.le_of_ble_eq_true rfl)) dX5_block_86 ⟨Nat.le_of_ble_eq_true rfl, Nat.le_of_ble_eq_true rfl⟩) hP hD hS hA (fun _ H locs hrv hP hD hS => ?_)
            have hP : va_P D vwCl (Mw cy mo ad (mAct (va_up μ 0 (fun _ => 0)) 5 (tn p0) (tn q0) 0 (((1 : Int32) <<< ((nI (tn ((μ 2) (tn q0)))) &&& 31))))) H := hP
            have hD : va_D (va_A (Mw cy mo ad μ) s.heap.size) (Mw cy mo ad (mAct (va_up μ 0 (fun _ => 0)) 5 (tn p0) (tn q0) 0 (((1 : Int32) <<< ((nI (tn ((μ 2) (tn q0)))) &&& 31))))) := hD
            have eW : mAct (va_up μ 0 (fun _ => 0)) 5 (tn p0) (tn q0) 0 (((1 : Int32) <<< ((nI (tn ((μ 2) (tn q0)))) &&& 31))) = mBlo μ p0 q0 b0 := by first | (simp [mBlo, mTwo, mHb, bx_uu, c1, c3, c4, c6, c8]; done) | (rw [mBlo, if_neg (by simp [mTwo, c1, c3, c4, c6, c8]), if_neg (by simp [c1, c3, c4, c6, c8]), if_neg r6]; simp [mHb, bx_uu, c1, c3, c4, c6, c8])
            have hP : va_P D vwCl (Mw cy mo ad (mBlo μ p0 q0 b0)) H := by rw [← eW]; exact hP
            have hD : va_D (va_A (Mw cy mo ad μ) s.heap.size) (Mw cy mo ad (mBlo μ p0 q0 b0)) := by rw [← eW]; exact hD
            exact W.vret hx hb hr (fun t ht hW => ⟨⟨(), rfl, trivial, (by rw [ht]; exact hP), hD⟩, hS.F ht⟩) hS.2.2 dX5_block_89
          · have c8 : b0 = true := bI_n0.mp r8
            refine lv_iconst (v := 4) hx hb dX5_block_70 (by decide) ?_
            refine lv_goto (tgt := 75) hx hb dX5_block_71 (by decide) ?_
            refine lv_iload_n hx hb dX5_block_75 rfl (lv_at hl 1 rfl) ?_
            refine vg_tp (nI (tn p0)) hp0.1 ?_
            refine lv_iload_n hx hb dX5_block_76 rfl (lv_at hl 2 rfl) ?_
            refine vg_tp (nI (tn q0)) hq0.1 ?_
            refine lv_iconst (v := 0) hx hb dX5_block_77 (by decide) ?_
            refine lv_iconst (v := 1) hx hb dX5_block_78 (by decide) ?_
            refine lv_aload_n hx hb dX5_block_79 rfl (lv_at hl 0 rfl) ?_
            refine va_get (D := D) (ci := 6) (v := .ref (ad 2)) (C := RX5) (T := TX5) (N := 26) hx hb hts hin_RX5 hown hE.1 hP 0 rfl rfl 2 (by decide) (hts (.fieldLink RX5 7 "VillagepostModel" "home" "[I") (by decide +kernel)) (fun _ h9 => h9) rfl dX5_block_80 ?_
            refine lv_iload_n hx hb dX5_block_83 rfl (lv_at hl 2 rfl) ?_
            refine vg_tp (nI (tn q0)) hq0.1 ?_
            refine vg_iald hx hb hE.1 hP 1 0 rfl rfl (f := μ 2) (j := (tn q0)) (by omega) (by decide) dX5_block_84 ?_
            obtain ⟨hN10, hM10⟩ := hho (tn q0) (by omega)
            refine vg_tp (nI (tn ((μ 2) (tn q0)))) hN10 ?_
            refine lv_ishl hx hb dX5_block_85 ?_
            refine vg_callvW (va_runV (As := [.int (nI 4), .int (nI (tn p0)), .int (nI (tn q0)), .int 0, .int ((1 : Int32) <<< ((nI (tn ((μ 2) (tn q0)))) &&& 31))]) (rest := []) ⟨hx, hb, hml, hown, hts⟩ (kX5_acts l D cy H.size mo ad (va_up μ 0 (fun _ => 0)) 4 (tn p0) (tn q0) 0 (((1 : Int32) <<< ((nI (tn ((μ 2) (tn q0)))) &&& 31))) (⟨hpe, hho, hau, hre, hac⟩) (hla) (hac0) (by omega) (by omega) (by omega) (fun _ => by omega)) (cwV 5 hts gX5_block_X5_acts rfl rfl rfl (by decide +kernel) ⟨Nat.le_of_ble_eq_true rfl, Nat.le_of_ble_eq_true rfl⟩) (vg_P.preV hE hP 0 rfl rfl hP hD) rfl rfl hl.1 rfl (lv_room (Nat.le_of_ble_eq_true rfl)) dX5_block_86 ⟨Nat.le_of_ble_eq_true rfl, Nat.le_of_ble_eq_true rfl⟩) hP hD hS hA (fun _ H locs hrv hP hD hS => ?_)
            have hP : va_P D vwCl (Mw cy mo ad (mAct (va_up μ 0 (fun _ => 0)) 4 (tn p0) (tn q0) 0 (((1 : Int32) <<< ((nI (tn ((μ 2) (tn q0)))) &&& 31))))) H := hP
            have hD : va_D (va_A (Mw cy mo ad μ) s.heap.size) (Mw cy mo ad (mAct (va_up μ 0 (fun _ => 0)) 4 (tn p0) (tn q0) 0 (((1 : Int32) <<< ((nI (tn ((μ 2) (tn q0)))) &&& 31))))) := hD
            have eW : mAct (va_up μ 0 (fun _ => 0)) 4 (tn p0) (tn q0) 0 (((1 : Int32) <<< ((nI (tn ((μ 2) (tn q0)))) &&& 31))) = mBlo μ p0 q0 b0 := by first | (simp [mBlo, mTwo, mHb, bx_uu, c1, c3, c4, c6, c8]; done) | (rw [mBlo, if_neg (by simp [mTwo, c1, c3, c4, c6, c8]), if_neg (by simp [c1, c3, c4, c6, c8]), if_neg r6]; simp [mHb, bx_uu, c1, c3, c4, c6, c8])
            have hP : va_P D vwCl (Mw cy mo ad (mBlo μ p0 q0 b0)) H := by rw [← eW]; exact hP
            have hD : va_D (va_A (Mw cy mo ad μ) s.heap.size) (Mw cy mo ad (mBlo μ p0 q0 b0)) := by rw [← eW]; exact hD
            exact W.vret hx hb hr (fun t ht hW => ⟨⟨(), rfl, trivial, (by rw [ht]; exact hP), hD⟩, hS.F ht⟩) hS.2.2 dX5_block_89
        · have c6 := r6
          refine lv_iconst (v := 3) hx hb dX5_block_50 (by decide) ?_
          refine lv_goto (tgt := 55) hx hb dX5_block_51 (by decide) ?_
          refine va_put (D := (D)) (ci := 6) (v := .int 3) (ty := .int) (C := RX5) (T := TX5) (N := 26) hx hb hts hin_RX5 tyX5 tyX5_ok nmX5 hown hE.1 hP hD hS 0 rfl rfl 0 (by decide) (hts (.fieldLink RX5 77 "VillagepostModel" "thrown" "I") (by decide +kernel)) (fun _ h9 => h9) rfl (by decide +kernel) rfl rfl (Nat.le_of_ble_eq_true rfl) dX5_block_55 (fun H locs hP hD hS => ?_)
          have hP : va_P D vwCl (Mw cy mo ad (va_up μ 0 (fun _ => 3))) H := hP
          have hD : va_D (va_A (Mw cy mo ad μ) s.heap.size) (Mw cy mo ad (va_up μ 0 (fun _ => 3))) := hD
          refine lv_aload_n hx hb dX5_block_58 rfl (lv_at hl 0 rfl) ?_
          refine va_get (D := D) (ci := 6) (v := .int 3) (C := RX5) (T := TX5) (N := 26) hx hb hts hin_RX5 hown hE.1 hP 0 rfl rfl 0 (by decide) (hts (.fieldLink RX5 77 "VillagepostModel" "thrown" "I") (by decide +kernel)) (fun _ h9 => h9) rfl dX5_block_59 ?_
          refine lv_if_ne (tgt := 89) hx hb dX5_block_62 (by decide) (fun _ => ?_) (fun c9 => False.elim (by revert c9; decide))
          have eW : va_up μ 0 (fun _ => 3) = mBlo μ p0 q0 b0 := by first | (simp [mBlo, mTwo, mHb, bx_uu, c1, c3, c4, c6]; done)
          have hP : va_P D vwCl (Mw cy mo ad (mBlo μ p0 q0 b0)) H := by rw [← eW]; exact hP
          have hD : va_D (va_A (Mw cy mo ad μ) s.heap.size) (Mw cy mo ad (mBlo μ p0 q0 b0)) := by rw [← eW]; exact hD
          exact W.vret hx hb hr (fun t ht hW => ⟨⟨(), rfl, trivial, (by rw [ht]; exact hP), hD⟩, hS.F ht⟩) hS.2.2 dX5_block_89
      · have c4 : tn p0 = tn q0 := (nI_eq (a := tn p0) (b := tn q0) (by omega) (by omega)).mp r4
        refine lv_iconst (v := 2) hx hb dX5_block_26 (by decide) ?_
        refine lv_goto (tgt := 55) hx hb dX5_block_27 (by decide) ?_
        refine va_put (D := (D)) (ci := 6) (v := .int 2) (ty := .int) (C := RX5) (T := TX5) (N := 26) hx hb hts hin_RX5 tyX5 tyX5_ok nmX5 hown hE.1 hP hD hS 0 rfl rfl 0 (by decide) (hts (.fieldLink RX5 77 "VillagepostModel" "thrown" "I") (by decide +kernel)) (fun _ h9 => h9) rfl (by decide +kernel) rfl rfl (Nat.le_of_ble_eq_true rfl) dX5_block_55 (fun H locs hP hD hS => ?_)
        have hP : va_P D vwCl (Mw cy mo ad (va_up μ 0 (fun _ => 2))) H := hP
        have hD : va_D (va_A (Mw cy mo ad μ) s.heap.size) (Mw cy mo ad (va_up μ 0 (fun _ => 2))) := hD
        refine lv_aload_n hx hb dX5_block_58 rfl (lv_at hl 0 rfl) ?_
        refine va_get (D := D) (ci := 6) (v := .int 2) (C := RX5) (T := TX5) (N := 26) hx hb hts hin_RX5 hown hE.1 hP 0 rfl rfl 0 (by decide) (hts (.fieldLink RX5 77 "VillagepostModel" "thrown" "I") (by decide +kernel)) (fun _ h9 => h9) rfl dX5_block_59 ?_
        refine lv_if_ne (tgt := 89) hx hb dX5_block_62 (by decide) (fun _ => ?_) (fun c9 => False.elim (by revert c9; decide))
        have eW : va_up μ 0 (fun _ => 2) = mBlo μ p0 q0 b0 := by first | (simp [mBlo, mTwo, mHb, bx_uu, c1, c3, eq_true c4]; done)
        have hP : va_P D vwCl (Mw cy mo ad (mBlo μ p0 q0 b0)) H := by rw [← eW]; exact hP
        have hD : va_D (va_A (Mw cy mo ad μ) s.heap.size) (Mw cy mo ad (mBlo μ p0 q0 b0)) := by rw [← eW]; exact hD
        exact W.vret hx hb hr (fun t ht hW => ⟨⟨(), rfl, trivial, (by rw [ht]; exact hP), hD⟩, hS.F ht⟩) hS.2.2 dX5_block_89
    · have c3 : (mIn q0 0 (μ 1 0 - 1)) = false := bI_0.mp r3
      refine lv_iconst (v := 1) hx hb dX5_block_17 (by decide) ?_
      refine lv_goto (tgt := 55) hx hb dX5_block_18 (by decide) ?_
      refine va_put (D := (D)) (ci := 6) (v := .int 1) (ty := .int) (C := RX5) (T := TX5) (N := 26) hx hb hts hin_RX5 tyX5 tyX5_ok nmX5 hown hE.1 hP hD hS 0 rfl rfl 0 (by decide) (hts (.fieldLink RX5 77 "VillagepostModel" "thrown" "I") (by decide +kernel)) (fun _ h9 => h9) rfl (by decide +kernel) rfl rfl (Nat.le_of_ble_eq_true rfl) dX5_block_55 (fun H locs hP hD hS => ?_)
      have hP : va_P D vwCl (Mw cy mo ad (va_up μ 0 (fun _ => 1))) H := hP
      have hD : va_D (va_A (Mw cy mo ad μ) s.heap.size) (Mw cy mo ad (va_up μ 0 (fun _ => 1))) := hD
      refine lv_aload_n hx hb dX5_block_58 rfl (lv_at hl 0 rfl) ?_
      refine va_get (D := D) (ci := 6) (v := .int 1) (C := RX5) (T := TX5) (N := 26) hx hb hts hin_RX5 hown hE.1 hP 0 rfl rfl 0 (by decide) (hts (.fieldLink RX5 77 "VillagepostModel" "thrown" "I") (by decide +kernel)) (fun _ h9 => h9) rfl dX5_block_59 ?_
      refine lv_if_ne (tgt := 89) hx hb dX5_block_62 (by decide) (fun _ => ?_) (fun c9 => False.elim (by revert c9; decide))
      have eW : va_up μ 0 (fun _ => 1) = mBlo μ p0 q0 b0 := by first | (simp [mBlo, mTwo, mHb, bx_uu, c1, c3]; done)
      have hP : va_P D vwCl (Mw cy mo ad (mBlo μ p0 q0 b0)) H := by rw [← eW]; exact hP
      have hD : va_D (va_A (Mw cy mo ad μ) s.heap.size) (Mw cy mo ad (mBlo μ p0 q0 b0)) := by rw [← eW]; exact hD
      exact W.vret hx hb hr (fun t ht hW => ⟨⟨(), rfl, trivial, (by rw [ht]; exact hP), hD⟩, hS.F ht⟩) hS.2.2 dX5_block_89

set_option maxHeartbeats 4000000 in
set_option maxRecDepth 100000 in
theorem kX5_alias (l : Launch) (D : va_G) (cy : Nat → ClassId) (sz : Nat) (mo : Nat) (ad : Nat → Nat) (μ : Nat → Nat → Int32) (p0 : Int32) (q0 : Int32) (hw : mWF μ) (hla : mLast μ 1199) (hac0 : isN (μ 17 0) 600) : Met l yX5_alias wsX5_alias ({ frames := 6, cells := 0, slots := 0, locals := 145 }) (vg_P D cy [.ref mo, .int p0, .int q0] sz (Mw cy mo ad μ)) (vg_Qv (S := Unit) D sz (Mw cy mo ad μ) (fun _ => True) (fun _ => Mw cy mo ad (mAli μ p0 q0))) 0 0 (va_A (Mw cy mo ad μ) sz) := by
  refine Met.ofW (cc := cX5_alias) (maxL := 3) (ret := none) (by decide) rfl ?_
  intro p e s m args below meth c s₁ BB hml hv
  obtain ⟨rfl, hsz, hP, hE, hD0⟩ := hv
  have hx := BB.exec
  have hb := BB.bytes
  have hr := BB.returns
  have hts := atoms_spec (ws := wsX5_alias) BB.pre
  have hown : s.vm.findClass RX5 = some m.cls := findClass_of_methodNamed BB.named
  have hlocks := BB.notSynchronized
  subst hsz
  have hD := hD0.self (sz := s.heap.size)
  have hA : ∀ q : Nat, s.heap.size ≤ q → (va_A (Mw cy mo ad μ) s.heap.size) q := fun q h => Or.inr h
  have hS : va_S (va_A (Mw cy mo ad μ) s.heap.size) s.heap s.heap [] := va_S.rf
  have hin_RX5 : ∀ w ∈ u_ws RX5 TX5 26, w ∈ wsX5_alias := by decide +kernel
  have hl := lv_entry ([.ref mo, .int p0, .int q0]) (n := 3) (Nat.le_of_ble_eq_true rfl)
  rw [lg_entry_eq]
  generalize (lg_sl ([.ref mo, .int p0, .int q0]) ++ List.replicate (3 - (lg_sl ([.ref mo, .int p0, .int q0])).length) Slot.unset).toArray = ls at hl ⊢
  have hl : lv_has ls 3 [(0, .ref mo), (1, .int p0), (2, .int q0)] := hl
  obtain ⟨hpe, hho, hau, hre, hac⟩ := hw
  have hpe2 := hpe.2
  refine lv_aload_n hx hb dX5_alias_0 rfl (lv_at hl 0 rfl) ?_
  refine lv_aload_n hx hb dX5_alias_1 rfl (lv_at hl 0 rfl) ?_
  refine lv_iload_n hx hb dX5_alias_2 rfl (lv_at hl 1 rfl) ?_
  refine vg_calliW (va_runV (As := [.int p0]) (rest := [.ref mo]) ⟨hx, hb, hml, hown, hts⟩ (kX5_isOne l D cy s.heap.size mo ad μ p0 ) (cwV 1 hts gX5_alias_X5_isOne rfl rfl rfl (by decide +kernel) ⟨Nat.le_of_ble_eq_true rfl, Nat.le_of_ble_eq_true rfl⟩) (vg_P.preV hE hP 0 rfl rfl hP hD) rfl rfl hl.1 rfl (lv_room (Nat.le_of_ble_eq_true rfl)) dX5_alias_3 ⟨Nat.le_of_ble_eq_true rfl, Nat.le_of_ble_eq_true rfl⟩) hP hD hS hA (fun r _ H locs hr hP hD hS => ?_)
  subst hr
  refine lv_if_eq (tgt := 17) hx hb dX5_alias_6 (by decide) (fun r1 => ?_) (fun r1 => ?_)
  · have c1 : (mIn p0 0 (μ 1 0 - 1)) = false := bI_0.mp r1
    refine lv_iconst (v := 1) hx hb dX5_alias_17 (by decide) ?_
    refine lv_goto (tgt := 31) hx hb dX5_alias_18 (by decide) ?_
    refine va_put (D := (D)) (ci := 6) (v := .int 1) (ty := .int) (C := RX5) (T := TX5) (N := 26) hx hb hts hin_RX5 tyX5 tyX5_ok nmX5 hown hE.1 hP hD hS 0 rfl rfl 0 (by decide) (hts (.fieldLink RX5 77 "VillagepostModel" "thrown" "I") (by decide +kernel)) (fun _ h9 => h9) rfl (by decide +kernel) rfl rfl (Nat.le_of_ble_eq_true rfl) dX5_alias_31 (fun H locs hP hD hS => ?_)
    have hP : va_P D vwCl (Mw cy mo ad (va_up μ 0 (fun _ => 1))) H := hP
    have hD : va_D (va_A (Mw cy mo ad μ) s.heap.size) (Mw cy mo ad (va_up μ 0 (fun _ => 1))) := hD
    refine lv_aload_n hx hb dX5_alias_34 rfl (lv_at hl 0 rfl) ?_
    refine va_get (D := D) (ci := 6) (v := .int 1) (C := RX5) (T := TX5) (N := 26) hx hb hts hin_RX5 hown hE.1 hP 0 rfl rfl 0 (by decide) (hts (.fieldLink RX5 77 "VillagepostModel" "thrown" "I") (by decide +kernel)) (fun _ h9 => h9) rfl dX5_alias_35 ?_
    refine lv_if_ne (tgt := 58) hx hb dX5_alias_38 (by decide) (fun _ => ?_) (fun c9 => False.elim (by revert c9; decide))
    have eW : va_up μ 0 (fun _ => 1) = mAli μ p0 q0 := by simp [mAli, mTwo, mHb, bx_uu, c1]
    have hP : va_P D vwCl (Mw cy mo ad (mAli μ p0 q0)) H := by rw [← eW]; exact hP
    have hD : va_D (va_A (Mw cy mo ad μ) s.heap.size) (Mw cy mo ad (mAli μ p0 q0)) := by rw [← eW]; exact hD
    exact W.vret hx hb hr (fun t ht hW => ⟨⟨(), rfl, trivial, (by rw [ht]; exact hP), hD⟩, hS.F ht⟩) hS.2.2 dX5_alias_58
  · have c1 : (mIn p0 0 (μ 1 0 - 1)) = true := bI_n0.mp r1
    refine lv_aload_n hx hb dX5_alias_9 rfl (lv_at hl 0 rfl) ?_
    refine lv_iload_n hx hb dX5_alias_10 rfl (lv_at hl 2 rfl) ?_
    refine vg_calliW (va_runV (As := [.int q0]) (rest := [.ref mo]) ⟨hx, hb, hml, hown, hts⟩ (kX5_isOne l D cy H.size mo ad μ q0 ) (cwV 1 hts gX5_alias_X5_isOne rfl rfl rfl (by decide +kernel) ⟨Nat.le_of_ble_eq_true rfl, Nat.le_of_ble_eq_true rfl⟩) (vg_P.preV hE hP 0 rfl rfl hP hD) rfl rfl hl.1 rfl (lv_room (Nat.le_of_ble_eq_true rfl)) dX5_alias_11 ⟨Nat.le_of_ble_eq_true rfl, Nat.le_of_ble_eq_true rfl⟩) hP hD hS hA (fun r _ H locs hr hP hD hS => ?_)
    subst hr
    refine lv_if_ne (tgt := 21) hx hb dX5_alias_14 (by decide) (fun r3 => ?_) (fun r3 => ?_)
    · have c3 : (mIn q0 0 (μ 1 0 - 1)) = true := bI_n0.mp r3
      have hp0 : isN p0 10 := (mIn_n hpe (by omega) c1).1
      have hp02 := hp0.2
      have hq0 : isN q0 10 := (mIn_n hpe (by omega) c3).1
      have hq02 := hq0.2
      refine lv_iload_n hx hb dX5_alias_21 rfl (lv_at hl 1 rfl) ?_
      refine vg_tp (nI (tn p0)) hp0.1 ?_
      refine lv_iload_n hx hb dX5_alias_22 rfl (lv_at hl 2 rfl) ?_
      refine vg_tp (nI (tn q0)) hq0.1 ?_
      refine lv_icmp_ne (tgt := 30) hx hb dX5_alias_23 (by decide) (fun r4 => ?_) (fun r4 => ?_)
      · have c4 : ¬ tn p0 = tn q0 := fun q => r4 ((nI_eq (a := tn p0) (b := tn q0) (by omega) (by omega)).mpr q)
        refine lv_iconst (v := 0) hx hb dX5_alias_30 (by decide) ?_
        refine va_put (D := (D)) (ci := 6) (v := .int 0) (ty := .int) (C := RX5) (T := TX5) (N := 26) hx hb hts hin_RX5 tyX5 tyX5_ok nmX5 hown hE.1 hP hD hS 0 rfl rfl 0 (by decide) (hts (.fieldLink RX5 77 "VillagepostModel" "thrown" "I") (by decide +kernel)) (fun _ h9 => h9) rfl (by decide +kernel) rfl rfl (Nat.le_of_ble_eq_true rfl) dX5_alias_31 (fun H locs hP hD hS => ?_)
        have hP : va_P D vwCl (Mw cy mo ad (va_up μ 0 (fun _ => 0))) H := hP
        have hD : va_D (va_A (Mw cy mo ad μ) s.heap.size) (Mw cy mo ad (va_up μ 0 (fun _ => 0))) := hD
        refine lv_aload_n hx hb dX5_alias_34 rfl (lv_at hl 0 rfl) ?_
        refine va_get (D := D) (ci := 6) (v := .int 0) (C := RX5) (T := TX5) (N := 26) hx hb hts hin_RX5 hown hE.1 hP 0 rfl rfl 0 (by decide) (hts (.fieldLink RX5 77 "VillagepostModel" "thrown" "I") (by decide +kernel)) (fun _ h9 => h9) rfl dX5_alias_35 ?_
        refine lv_if_ne (tgt := 58) hx hb dX5_alias_38 (by decide) (fun c9 => False.elim (by revert c9; decide)) (fun _ => ?_)
        refine lv_aload_n hx hb dX5_alias_41 rfl (lv_at hl 0 rfl) ?_
        refine lv_bipush (v := 6) hx hb dX5_alias_42 (by decide) ?_
        refine lv_iload_n hx hb dX5_alias_44 rfl (lv_at hl 1 rfl) ?_
        refine vg_tp (nI (tn p0)) hp0.1 ?_
        refine lv_iload_n hx hb dX5_alias_45 rfl (lv_at hl 2 rfl) ?_
        refine vg_tp (nI (tn q0)) hq0.1 ?_
        refine lv_iconst (v := 0) hx hb dX5_alias_46 (by decide) ?_
        refine lv_iconst (v := 1) hx hb dX5_alias_47 (by decide) ?_
        refine lv_aload_n hx hb dX5_alias_48 rfl (lv_at hl 0 rfl) ?_
        refine va_get (D := D) (ci := 6) (v := .ref (ad 2)) (C := RX5) (T := TX5) (N := 26) hx hb hts hin_RX5 hown hE.1 hP 0 rfl rfl 2 (by decide) (hts (.fieldLink RX5 7 "VillagepostModel" "home" "[I") (by decide +kernel)) (fun _ h9 => h9) rfl dX5_alias_49 ?_
        refine lv_iload_n hx hb dX5_alias_52 rfl (lv_at hl 2 rfl) ?_
        refine vg_tp (nI (tn q0)) hq0.1 ?_
        refine vg_iald hx hb hE.1 hP 1 0 rfl rfl (f := μ 2) (j := (tn q0)) (by omega) (by decide) dX5_alias_53 ?_
        obtain ⟨hN6, hM6⟩ := hho (tn q0) (by omega)
        refine vg_tp (nI (tn ((μ 2) (tn q0)))) hN6 ?_
        refine lv_ishl hx hb dX5_alias_54 ?_
        refine vg_callvW (va_runV (As := [.int (nI 6), .int (nI (tn p0)), .int (nI (tn q0)), .int 0, .int ((1 : Int32) <<< ((nI (tn ((μ 2) (tn q0)))) &&& 31))]) (rest := []) ⟨hx, hb, hml, hown, hts⟩ (kX5_acts l D cy H.size mo ad (va_up μ 0 (fun _ => 0)) 6 (tn p0) (tn q0) 0 (((1 : Int32) <<< ((nI (tn ((μ 2) (tn q0)))) &&& 31))) (⟨hpe, hho, hau, hre, hac⟩) (hla) (hac0) (by omega) (by omega) (by omega) (fun _ => by omega)) (cwV 5 hts gX5_alias_X5_acts rfl rfl rfl (by decide +kernel) ⟨Nat.le_of_ble_eq_true rfl, Nat.le_of_ble_eq_true rfl⟩) (vg_P.preV hE hP 0 rfl rfl hP hD) rfl rfl hl.1 rfl (lv_room (Nat.le_of_ble_eq_true rfl)) dX5_alias_55 ⟨Nat.le_of_ble_eq_true rfl, Nat.le_of_ble_eq_true rfl⟩) hP hD hS hA (fun _ H locs hrv hP hD hS => ?_)
        have hP : va_P D vwCl (Mw cy mo ad (mAct (va_up μ 0 (fun _ => 0)) 6 (tn p0) (tn q0) 0 (((1 : Int32) <<< ((nI (tn ((μ 2) (tn q0)))) &&& 31))))) H := hP
        have hD : va_D (va_A (Mw cy mo ad μ) s.heap.size) (Mw cy mo ad (mAct (va_up μ 0 (fun _ => 0)) 6 (tn p0) (tn q0) 0 (((1 : Int32) <<< ((nI (tn ((μ 2) (tn q0)))) &&& 31))))) := hD
        have eW : mAct (va_up μ 0 (fun _ => 0)) 6 (tn p0) (tn q0) 0 (((1 : Int32) <<< ((nI (tn ((μ 2) (tn q0)))) &&& 31))) = mAli μ p0 q0 := by simp [mAli, mTwo, mHb, bx_uu, c1, c3, c4]
        have hP : va_P D vwCl (Mw cy mo ad (mAli μ p0 q0)) H := by rw [← eW]; exact hP
        have hD : va_D (va_A (Mw cy mo ad μ) s.heap.size) (Mw cy mo ad (mAli μ p0 q0)) := by rw [← eW]; exact hD
        exact W.vret hx hb hr (fun t ht hW => ⟨⟨(), rfl, trivial, (by rw [ht]; exact hP), hD⟩, hS.F ht⟩) hS.2.2 dX5_alias_58
      · have c4 : tn p0 = tn q0 := (nI_eq (a := tn p0) (b := tn q0) (by omega) (by omega)).mp r4
        refine lv_iconst (v := 2) hx hb dX5_alias_26 (by decide) ?_
        refine lv_goto (tgt := 31) hx hb dX5_alias_27 (by decide) ?_
        refine va_put (D := (D)) (ci := 6) (v := .int 2) (ty := .int) (C := RX5) (T := TX5) (N := 26) hx hb hts hin_RX5 tyX5 tyX5_ok nmX5 hown hE.1 hP hD hS 0 rfl rfl 0 (by decide) (hts (.fieldLink RX5 77 "VillagepostModel" "thrown" "I") (by decide +kernel)) (fun _ h9 => h9) rfl (by decide +kernel) rfl rfl (Nat.le_of_ble_eq_true rfl) dX5_alias_31 (fun H locs hP hD hS => ?_)
        have hP : va_P D vwCl (Mw cy mo ad (va_up μ 0 (fun _ => 2))) H := hP
        have hD : va_D (va_A (Mw cy mo ad μ) s.heap.size) (Mw cy mo ad (va_up μ 0 (fun _ => 2))) := hD
        refine lv_aload_n hx hb dX5_alias_34 rfl (lv_at hl 0 rfl) ?_
        refine va_get (D := D) (ci := 6) (v := .int 2) (C := RX5) (T := TX5) (N := 26) hx hb hts hin_RX5 hown hE.1 hP 0 rfl rfl 0 (by decide) (hts (.fieldLink RX5 77 "VillagepostModel" "thrown" "I") (by decide +kernel)) (fun _ h9 => h9) rfl dX5_alias_35 ?_
        refine lv_if_ne (tgt := 58) hx hb dX5_alias_38 (by decide) (fun _ => ?_) (fun c9 => False.elim (by revert c9; decide))
        have eW : va_up μ 0 (fun _ => 2) = mAli μ p0 q0 := by simp [mAli, mTwo, mHb, bx_uu, c1, c3, eq_true c4]
        have hP : va_P D vwCl (Mw cy mo ad (mAli μ p0 q0)) H := by rw [← eW]; exact hP
        have hD : va_D (va_A (Mw cy mo ad μ) s.heap.size) (Mw cy mo ad (mAli μ p0 q0)) := by rw [← eW]; exact hD
        exact W.vret hx hb hr (fun t ht hW => ⟨⟨(), rfl, trivial, (by rw [ht]; exact hP), hD⟩, hS.F ht⟩) hS.2.2 dX5_alias_58
    · have c3 : (mIn q0 0 (μ 1 0 - 1)) = false := bI_0.mp r3
      refine lv_iconst (v := 1) hx hb dX5_alias_17 (by decide) ?_
      refine lv_goto (tgt := 31) hx hb dX5_alias_18 (by decide) ?_
      refine va_put (D := (D)) (ci := 6) (v := .int 1) (ty := .int) (C := RX5) (T := TX5) (N := 26) hx hb hts hin_RX5 tyX5 tyX5_ok nmX5 hown hE.1 hP hD hS 0 rfl rfl 0 (by decide) (hts (.fieldLink RX5 77 "VillagepostModel" "thrown" "I") (by decide +kernel)) (fun _ h9 => h9) rfl (by decide +kernel) rfl rfl (Nat.le_of_ble_eq_true rfl) dX5_alias_31 (fun H locs hP hD hS => ?_)
      have hP : va_P D vwCl (Mw cy mo ad (va_up μ 0 (fun _ => 1))) H := hP
      have hD : va_D (va_A (Mw cy mo ad μ) s.heap.size) (Mw cy mo ad (va_up μ 0 (fun _ => 1))) := hD
      refine lv_aload_n hx hb dX5_alias_34 rfl (lv_at hl 0 rfl) ?_
      refine va_get (D := D) (ci := 6) (v := .int 1) (C := RX5) (T := TX5) (N := 26) hx hb hts hin_RX5 hown hE.1 hP 0 rfl rfl 0 (by decide) (hts (.fieldLink RX5 77 "VillagepostModel" "thrown" "I") (by decide +kernel)) (fun _ h9 => h9) rfl dX5_alias_35 ?_
      refine lv_if_ne (tgt := 58) hx hb dX5_alias_38 (by decide) (fun _ => ?_) (fun c9 => False.elim (by revert c9; decide))
      have eW : va_up μ 0 (fun _ => 1) = mAli μ p0 q0 := by simp [mAli, mTwo, mHb, bx_uu, c1, c3]
      have hP : va_P D vwCl (Mw cy mo ad (mAli μ p0 q0)) H := by rw [← eW]; exact hP
      have hD : va_D (va_A (Mw cy mo ad μ) s.heap.size) (Mw cy mo ad (mAli μ p0 q0)) := by rw [← eW]; exact hD
      exact W.vret hx hb hr (fun t ht hW => ⟨⟨(), rfl, trivial, (by rw [ht]; exact hP), hD⟩, hS.F ht⟩) hS.2.2 dX5_alias_58

set_option maxHeartbeats 4000000 in
set_option maxRecDepth 100000 in
theorem kX5_move (l : Launch) (D : va_G) (cy : Nat → ClassId) (sz : Nat) (mo : Nat) (ad : Nat → Nat) (μ : Nat → Nat → Int32) (p0 : Int32) (q0 : Int32) (hw : mWF μ) (hla : mLast μ 1199) (hac0 : isN (μ 17 0) 600) : Met l yX5_move wsX5_move ({ frames := 6, cells := 0, slots := 0, locals := 145 }) (vg_P D cy [.ref mo, .int p0, .int q0] sz (Mw cy mo ad μ)) (vg_Qi (S := Unit) D sz (Mw cy mo ad μ) (fun r _ => r = (mMveR μ p0 q0)) (fun _ => Mw cy mo ad (mMve μ p0 q0))) 0 0 (va_A (Mw cy mo ad μ) sz) := by
  refine Met.ofW (cc := cX5_move) (maxL := 7) (ret := (some .int)) (by decide) rfl ?_
  intro p e s m args below meth c s₁ BB hml hv
  obtain ⟨rfl, hsz, hP, hE, hD0⟩ := hv
  have hx := BB.exec
  have hb := BB.bytes
  have hr := BB.returns
  have hts := atoms_spec (ws := wsX5_move) BB.pre
  have hown : s.vm.findClass RX5 = some m.cls := findClass_of_methodNamed BB.named
  have hlocks := BB.notSynchronized
  subst hsz
  have hD := hD0.self (sz := s.heap.size)
  have hA : ∀ q : Nat, s.heap.size ≤ q → (va_A (Mw cy mo ad μ) s.heap.size) q := fun q h => Or.inr h
  have hS : va_S (va_A (Mw cy mo ad μ) s.heap.size) s.heap s.heap [] := va_S.rf
  have hin_RX5 : ∀ w ∈ u_ws RX5 TX5 26, w ∈ wsX5_move := by decide +kernel
  have hl := lv_entry ([.ref mo, .int p0, .int q0]) (n := 7) (Nat.le_of_ble_eq_true rfl)
  rw [lg_entry_eq]
  generalize (lg_sl ([.ref mo, .int p0, .int q0]) ++ List.replicate (7 - (lg_sl ([.ref mo, .int p0, .int q0])).length) Slot.unset).toArray = ls at hl ⊢
  have hl : lv_has ls 7 [(0, .ref mo), (1, .int p0), (2, .int q0)] := hl
  obtain ⟨hpe, hho, hau, hre, hac⟩ := hw
  have hpe2 := hpe.2
  have L68 : ∀ (fuel : Nat) (f0 : Nat), tn (μ 1 0) - f0 < fuel → f0 ≤ tn (μ 1 0) → isN p0 10 → isN q0 10 → mMveT μ p0 q0 = 0 → ∀ (H : Heap) (locs : List Loc), va_P D vwCl (Mw cy mo ad (va_up μ 0 (fun _ => 0))) H → va_D (va_A (Mw cy mo ad μ) s.heap.size) (Mw cy mo ad (va_up μ 0 (fun _ => 0))) → va_S (va_A (Mw cy mo ad μ) s.heap.size) s.heap H locs → ∀ ls : Array Slot, lv_has ls 7 [(0, .ref mo), (1, .int p0), (2, .int q0), (3, .int (mAll μ (tn (μ 2 (tn p0))) (tn p0) f0)), (4, .int (mCnt μ (tn (μ 2 (tn p0))) (tn p0) f0)), (5, .int (nI f0))] → W p l e (headSpec wsX5_move ({ frames := 6, cells := 0, slots := 0, locals := 145 })).room s m ([.ref mo, .int p0, .int q0] : List Value).toArray below meth c H locs 0 0 (MQ below (vg_Qi (S := Unit) D s.heap.size (Mw cy mo ad μ) (fun r _ => r = (mMveR μ p0 q0)) (fun _ => Mw cy mo ad (mMve μ p0 q0))) ([.ref mo, .int p0, .int q0] : List Value).toArray s 0 0 (va_A (Mw cy mo ad μ) s.heap.size)) (F0 m 68 ls []) := by
    intro fuel
    induction fuel with
    | zero => intros; omega
    | succ fuel ih =>
      intro f0 hfuel hi hp0 hq0 hT H locs hP hD hS ls hl
      have hp02 := hp0.2
      have hq02 := hq0.2
      refine lv_iload hx hb dX5_move_68 (lv_at hl 5 rfl) ?_
      refine lv_aload_n hx hb dX5_move_70 rfl (lv_at hl 0 rfl) ?_
      refine va_get (D := D) (ci := 6) (v := .int ((μ 1) 0)) (C := RX5) (T := TX5) (N := 26) hx hb hts hin_RX5 hown hE.1 hP 0 rfl rfl 1 (by decide) (hts (.fieldLink RX5 81 "VillagepostModel" "people" "I") (by decide +kernel)) (fun _ h9 => h9) rfl dX5_move_71 ?_
      refine vg_tp (nI (tn ((μ 1) 0))) hpe.1 ?_
      refine lv_icmp_ge (tgt := 133) hx hb dX5_move_74 (by decide) (fun r1 => ?_) (fun r1 => ?_)
      · have c1 : tn ((μ 1) 0) ≤ f0 := (nI_leI (a := tn ((μ 1) 0)) (b := f0) (by omega) (by omega)).mp r1
        have e4 : f0 = tn (μ 1 0) := by omega
        refine lv_aload_n hx hb dX5_move_133 rfl (lv_at hl 0 rfl) ?_
        refine lv_bipush (v := 7) hx hb dX5_move_134 (by decide) ?_
        refine lv_iload_n hx hb dX5_move_136 rfl (lv_at hl 1 rfl) ?_
        refine vg_tp (nI (tn p0)) hp0.1 ?_
        refine lv_iload_n hx hb dX5_move_137 rfl (lv_at hl 2 rfl) ?_
        refine vg_tp (nI (tn q0)) hq0.1 ?_
        refine lv_iload_n hx hb dX5_move_138 rfl (lv_at hl 3 rfl) ?_
        refine lv_aload_n hx hb dX5_move_139 rfl (lv_at hl 0 rfl) ?_
        refine lv_aload_n hx hb dX5_move_140 rfl (lv_at hl 0 rfl) ?_
        refine va_get (D := D) (ci := 6) (v := .ref (ad 2)) (C := RX5) (T := TX5) (N := 26) hx hb hts hin_RX5 hown hE.1 hP 0 rfl rfl 2 (by decide) (hts (.fieldLink RX5 7 "VillagepostModel" "home" "[I") (by decide +kernel)) (fun _ h9 => h9) rfl dX5_move_141 ?_
        refine lv_iload_n hx hb dX5_move_144 rfl (lv_at hl 1 rfl) ?_
        refine vg_tp (nI (tn p0)) hp0.1 ?_
        refine vg_iald hx hb hE.1 hP 1 0 rfl rfl (f := μ 2) (j := (tn p0)) (by omega) (by decide) dX5_move_145 ?_
        obtain ⟨hN2, hM2⟩ := hho (tn p0) (by omega)
        refine vg_tp (nI (tn ((μ 2) (tn p0)))) hN2 ?_
        refine lv_iload_n hx hb dX5_move_146 rfl (lv_at hl 1 rfl) ?_
        refine vg_tp (nI (tn p0)) hp0.1 ?_
        refine vg_calliW (va_runV (As := [.int (nI (tn ((μ 2) (tn p0)))), .int (nI (tn p0))]) (rest := [.int (mAll μ (tn (μ 2 (tn p0))) (tn p0) f0), .int (nI (tn q0)), .int (nI (tn p0)), .int 7, .ref mo]) ⟨hx, hb, hml, hown, hts⟩ (kX5_servers l D cy H.size mo ad (va_up μ 0 (fun _ => 0)) (tn ((μ 2) (tn p0))) (tn p0) (hpe) (by omega) (by omega)) (cwV 2 hts gX5_move_X5_servers rfl rfl rfl (by decide +kernel) ⟨Nat.le_of_ble_eq_true rfl, Nat.le_of_ble_eq_true rfl⟩) (vg_P.preV hE hP 0 rfl rfl hP hD) rfl rfl hl.1 rfl (lv_room (Nat.le_of_ble_eq_true rfl)) dX5_move_147 ⟨Nat.le_of_ble_eq_true rfl, Nat.le_of_ble_eq_true rfl⟩) hP hD hS hA (fun r _ H locs hr hP hD hS => ?_)
        subst hr
        refine lv_iconst (v := 1) hx hb dX5_move_150 (by decide) ?_
        refine lv_aload_n hx hb dX5_move_151 rfl (lv_at hl 0 rfl) ?_
        refine va_get (D := D) (ci := 6) (v := .ref (ad 2)) (C := RX5) (T := TX5) (N := 26) hx hb hts hin_RX5 hown hE.1 hP 0 rfl rfl 2 (by decide) (hts (.fieldLink RX5 7 "VillagepostModel" "home" "[I") (by decide +kernel)) (fun _ h9 => h9) rfl dX5_move_152 ?_
        refine lv_iload_n hx hb dX5_move_155 rfl (lv_at hl 2 rfl) ?_
        refine vg_tp (nI (tn q0)) hq0.1 ?_
        refine vg_iald hx hb hE.1 hP 1 0 rfl rfl (f := μ 2) (j := (tn q0)) (by omega) (by decide) dX5_move_156 ?_
        obtain ⟨hN3, hM3⟩ := hho (tn q0) (by omega)
        refine vg_tp (nI (tn ((μ 2) (tn q0)))) hN3 ?_
        refine lv_ishl hx hb dX5_move_157 ?_
        refine lv_ior hx hb dX5_move_158 ?_
        refine vg_callvW (va_runV (As := [.int (nI 7), .int (nI (tn p0)), .int (nI (tn q0)), .int (mAll μ (tn (μ 2 (tn p0))) (tn p0) f0), .int ((mSrv (va_up μ 0 (fun _ => 0)) (tn ((μ 2) (tn p0))) (tn p0)) ||| ((1 : Int32) <<< ((nI (tn ((μ 2) (tn q0)))) &&& 31)))]) (rest := []) ⟨hx, hb, hml, hown, hts⟩ (kX5_acts l D cy H.size mo ad (va_up μ 0 (fun _ => 0)) 7 (tn p0) (tn q0) ((mAll μ (tn (μ 2 (tn p0))) (tn p0) f0)) (((mSrv (va_up μ 0 (fun _ => 0)) (tn ((μ 2) (tn p0))) (tn p0)) ||| ((1 : Int32) <<< ((nI (tn ((μ 2) (tn q0)))) &&& 31)))) (⟨hpe, hho, hau, hre, hac⟩) (hla) (hac0) (by omega) (by omega) (by omega) (fun _ => by omega)) (cwV 5 hts gX5_move_X5_acts rfl rfl rfl (by decide +kernel) ⟨Nat.le_of_ble_eq_true rfl, Nat.le_of_ble_eq_true rfl⟩) (vg_P.preV hE hP 0 rfl rfl hP hD) rfl rfl hl.1 rfl (lv_room (Nat.le_of_ble_eq_true rfl)) dX5_move_159 ⟨Nat.le_of_ble_eq_true rfl, Nat.le_of_ble_eq_true rfl⟩) hP hD hS hA (fun _ H locs hrv hP hD hS => ?_)
        have hP : va_P D vwCl (Mw cy mo ad (mAct (va_up μ 0 (fun _ => 0)) 7 (tn p0) (tn q0) ((mAll μ (tn (μ 2 (tn p0))) (tn p0) f0)) (((mSrv (va_up μ 0 (fun _ => 0)) (tn ((μ 2) (tn p0))) (tn p0)) ||| ((1 : Int32) <<< ((nI (tn ((μ 2) (tn q0)))) &&& 31)))))) H := hP
        have hD : va_D (va_A (Mw cy mo ad μ) s.heap.size) (Mw cy mo ad (mAct (va_up μ 0 (fun _ => 0)) 7 (tn p0) (tn q0) ((mAll μ (tn (μ 2 (tn p0))) (tn p0) f0)) (((mSrv (va_up μ 0 (fun _ => 0)) (tn ((μ 2) (tn p0))) (tn p0)) ||| ((1 : Int32) <<< ((nI (tn ((μ 2) (tn q0)))) &&& 31)))))) := hD
        refine lv_iload hx hb dX5_move_162 (lv_at hl 4 rfl) ?_
        have eW : mAct (va_up μ 0 (fun _ => 0)) 7 (tn p0) (tn q0) ((mAll μ (tn (μ 2 (tn p0))) (tn p0) f0)) (((mSrv (va_up μ 0 (fun _ => 0)) (tn ((μ 2) (tn p0))) (tn p0)) ||| ((1 : Int32) <<< ((nI (tn ((μ 2) (tn q0)))) &&& 31)))) = mMve μ p0 q0 := by first | (simp [mMve, mMveT, mTwo, c1, e4]; done) | (simp [mMve, hT, mHb, mSrv_up, c1, e4]; done)
        have hP : va_P D vwCl (Mw cy mo ad (mMve μ p0 q0)) H := by rw [← eW]; exact hP
        have hD : va_D (va_A (Mw cy mo ad μ) s.heap.size) (Mw cy mo ad (mMve μ p0 q0)) := by rw [← eW]; exact hD
        refine vg_tp (mMveR μ p0 q0) (by first | (simp [mMveR, mMveT, mTwo, c1, e4]; done) | (simp [mMveR, hT, c1, e4]; done)) ?_
        exact W.iret (v := (mMveR μ p0 q0)) hx hb hr (fun t ht hW => ⟨⟨(mMveR μ p0 q0), (), rfl, rfl, (by rw [ht]; exact hP), hD⟩, hS.F ht⟩) hS.2.2 dX5_move_164
      · have c1 : f0 < tn ((μ 1) 0) := Nat.lt_of_not_le (fun q => r1 ((nI_leI (a := tn ((μ 1) 0)) (b := f0) (by omega) (by omega)).mpr q))
        refine lv_aload_n hx hb dX5_move_77 rfl (lv_at hl 0 rfl) ?_
        refine va_get (D := D) (ci := 6) (v := .ref (ad 4)) (C := RX5) (T := TX5) (N := 26) hx hb hts hin_RX5 hown hE.1 hP 0 rfl rfl 4 (by decide) (hts (.fieldLink RX5 17 "VillagepostModel" "follows" "[Z") (by decide +kernel)) (fun _ h9 => h9) rfl dX5_move_78 ?_
        refine lv_aload_n hx hb dX5_move_81 rfl (lv_at hl 0 rfl) ?_
        refine va_get (D := D) (ci := 6) (v := .ref (ad 2)) (C := RX5) (T := TX5) (N := 26) hx hb hts hin_RX5 hown hE.1 hP 0 rfl rfl 2 (by decide) (hts (.fieldLink RX5 7 "VillagepostModel" "home" "[I") (by decide +kernel)) (fun _ h9 => h9) rfl dX5_move_82 ?_
        refine lv_iload_n hx hb dX5_move_85 rfl (lv_at hl 1 rfl) ?_
        refine vg_tp (nI (tn p0)) hp0.1 ?_
        refine vg_iald hx hb hE.1 hP 1 0 rfl rfl (f := μ 2) (j := (tn p0)) (by omega) (by decide) dX5_move_86 ?_
        obtain ⟨hN4, hM4⟩ := hho (tn p0) (by omega)
        refine vg_tp (nI (tn ((μ 2) (tn p0)))) hN4 ?_
        refine lv_iload hx hb dX5_move_87 (lv_at hl 5 rfl) ?_
        refine lv_iload_n hx hb dX5_move_89 rfl (lv_at hl 1 rfl) ?_
        refine vg_tp (nI (tn p0)) hp0.1 ?_
        refine vg_calliP (va_runS (As := [.int (nI (tn ((μ 2) (tn p0)))), .int (nI f0), .int (nI (tn p0))]) (rest := [.ref (ad 4)]) ⟨hx, hb, hml, hown, hts⟩ (kX5_at l D cy H.size (tn ((μ 2) (tn p0))) f0 (tn p0)) (va_cwS 3 hts gX5_move_X5_at rfl rfl rfl (by decide +kernel) ⟨Nat.le_of_ble_eq_true rfl, Nat.le_of_ble_eq_true rfl⟩) (vg_P.preS hE vg_P0 (A := fun _ => True) vg_D0) rfl rfl hl.1 rfl (lv_room (Nat.le_of_ble_eq_true rfl)) dX5_move_90 ⟨Nat.le_of_ble_eq_true rfl, Nat.le_of_ble_eq_true rfl⟩) hP hD hS hA (fun r _ H locs hr hP hD hS => ?_)
        subst hr
        refine vg_zald hx hb hE.1 hP 3 2 rfl rfl (f := μ 4) (j := (100 * (tn ((μ 2) (tn p0))) + 10 * f0 + (tn p0))) (by omega) (by decide) dX5_move_93 ?_
        refine lv_istore (lv' := [(6, .int ((μ 4) (100 * (tn ((μ 2) (tn p0))) + 10 * f0 + (tn p0)))), (0, .ref mo), (1, .int p0), (2, .int q0), (3, .int (mAll μ (tn (μ 2 (tn p0))) (tn p0) f0)), (4, .int (mCnt μ (tn (μ 2 (tn p0))) (tn p0) f0)), (5, .int (nI f0))]) hx hb dX5_move_94 hl (by decide) rfl (fun ls hl => ?_)
        have hl : lv_has ls 7 [(0, .ref mo), (1, .int p0), (2, .int q0), (3, .int (mAll μ (tn (μ 2 (tn p0))) (tn p0) f0)), (4, .int (mCnt μ (tn (μ 2 (tn p0))) (tn p0) f0)), (5, .int (nI f0)), (6, .int ((μ 4) (100 * (tn ((μ 2) (tn p0))) + 10 * f0 + (tn p0))))] := lv_sub hl [1, 2, 3, 4, 5, 6, 0] rfl
        refine lv_iload_n hx hb dX5_move_96 rfl (lv_at hl 3 rfl) ?_
        refine lv_iload hx hb dX5_move_97 (lv_at hl 6 rfl) ?_
        refine lv_if_eq (tgt := 109) hx hb dX5_move_99 (by decide) (fun r5 => ?_) (fun r5 => ?_)
        · have c5 := r5
          refine lv_iconst (v := 0) hx hb dX5_move_109 (by decide) ?_
          refine lv_ior hx hb dX5_move_110 ?_
          refine lv_istore_n (lv' := [(3, .int ((mAll μ (tn (μ 2 (tn p0))) (tn p0) f0) ||| 0)), (0, .ref mo), (1, .int p0), (2, .int q0), (4, .int (mCnt μ (tn (μ 2 (tn p0))) (tn p0) f0)), (5, .int (nI f0)), (6, .int ((μ 4) (100 * (tn ((μ 2) (tn p0))) + 10 * f0 + (tn p0))))]) hx hb dX5_move_111 rfl hl (by decide) rfl (fun ls hl => ?_)
          have hl : lv_has ls 7 [(0, .ref mo), (1, .int p0), (2, .int q0), (3, .int ((mAll μ (tn (μ 2 (tn p0))) (tn p0) f0) ||| 0)), (4, .int (mCnt μ (tn (μ 2 (tn p0))) (tn p0) f0)), (5, .int (nI f0)), (6, .int ((μ 4) (100 * (tn ((μ 2) (tn p0))) + 10 * f0 + (tn p0))))] := lv_sub hl [1, 2, 3, 0, 4, 5, 6] rfl
          refine lv_iload hx hb dX5_move_112 (lv_at hl 4 rfl) ?_
          refine lv_iload hx hb dX5_move_114 (lv_at hl 6 rfl) ?_
          refine lv_if_eq (tgt := 123) hx hb dX5_move_116 (by decide) (fun _ => ?_) (fun c9 => absurd r5 c9)
          refine lv_iconst (v := 0) hx hb dX5_move_123 (by decide) ?_
          refine lv_iadd hx hb dX5_move_124 ?_
          refine lv_istore (lv' := [(4, .int ((mCnt μ (tn (μ 2 (tn p0))) (tn p0) f0) + 0)), (0, .ref mo), (1, .int p0), (2, .int q0), (3, .int ((mAll μ (tn (μ 2 (tn p0))) (tn p0) f0) ||| 0)), (5, .int (nI f0)), (6, .int ((μ 4) (100 * (tn ((μ 2) (tn p0))) + 10 * f0 + (tn p0))))]) hx hb dX5_move_125 hl (by decide) rfl (fun ls hl => ?_)
          have hl : lv_has ls 7 [(0, .ref mo), (1, .int p0), (2, .int q0), (3, .int ((mAll μ (tn (μ 2 (tn p0))) (tn p0) f0) ||| 0)), (4, .int ((mCnt μ (tn (μ 2 (tn p0))) (tn p0) f0) + 0)), (5, .int (nI f0)), (6, .int ((μ 4) (100 * (tn ((μ 2) (tn p0))) + 10 * f0 + (tn p0))))] := lv_sub hl [1, 2, 3, 4, 0, 5, 6] rfl
          refine lv_iinc (v := (nI (f0 + 1))) (lv' := [(5, .int (nI (f0 + 1))), (0, .ref mo), (1, .int p0), (2, .int q0), (3, .int ((mAll μ (tn (μ 2 (tn p0))) (tn p0) f0) ||| 0)), (4, .int ((mCnt μ (tn (μ 2 (tn p0))) (tn p0) f0) + 0)), (6, .int ((μ 4) (100 * (tn ((μ 2) (tn p0))) + 10 * f0 + (tn p0))))]) hx hb dX5_move_127 hl (k := 5) rfl (by first | rfl | exact nI_add _ _ | decide) (by decide) rfl (fun ls hl => ?_)
          have hl : lv_has ls 7 [(0, .ref mo), (1, .int p0), (2, .int q0), (3, .int ((mAll μ (tn (μ 2 (tn p0))) (tn p0) f0) ||| 0)), (4, .int ((mCnt μ (tn (μ 2 (tn p0))) (tn p0) f0) + 0)), (5, .int (nI (f0 + 1))), (6, .int ((μ 4) (100 * (tn ((μ 2) (tn p0))) + 10 * f0 + (tn p0))))] := lv_sub hl [1, 2, 3, 4, 5, 0, 6] rfl
          refine lv_goto (tgt := 68) hx hb dX5_move_130 (by decide) ?_
          have q7 : ((mAll μ (tn (μ 2 (tn p0))) (tn p0) (f0 + 1)) : Int32) = ((mAll μ (tn (μ 2 (tn p0))) (tn p0) f0) ||| 0) := by simp [mAll, c1, c5]
          have q8 : ((mCnt μ (tn (μ 2 (tn p0))) (tn p0) (f0 + 1)) : Int32) = ((mCnt μ (tn (μ 2 (tn p0))) (tn p0) f0) + 0) := by simp [mCnt, c1, c5]
          exact ih (f0 + 1) (by omega) (by omega) (hp0) (hq0) (hT) _ _ hP hD hS ls (by rw [q7, q8]; exact lv_sub hl [0, 1, 2, 3, 4, 5] rfl)
        · have c5 := r5
          refine lv_iconst (v := 1) hx hb dX5_move_102 (by decide) ?_
          refine lv_iload hx hb dX5_move_103 (lv_at hl 5 rfl) ?_
          refine lv_ishl hx hb dX5_move_105 ?_
          refine lv_goto (tgt := 110) hx hb dX5_move_106 (by decide) ?_
          refine lv_ior hx hb dX5_move_110 ?_
          refine lv_istore_n (lv' := [(3, .int ((mAll μ (tn (μ 2 (tn p0))) (tn p0) f0) ||| ((1 : Int32) <<< ((nI f0) &&& 31)))), (0, .ref mo), (1, .int p0), (2, .int q0), (4, .int (mCnt μ (tn (μ 2 (tn p0))) (tn p0) f0)), (5, .int (nI f0)), (6, .int ((μ 4) (100 * (tn ((μ 2) (tn p0))) + 10 * f0 + (tn p0))))]) hx hb dX5_move_111 rfl hl (by decide) rfl (fun ls hl => ?_)
          have hl : lv_has ls 7 [(0, .ref mo), (1, .int p0), (2, .int q0), (3, .int ((mAll μ (tn (μ 2 (tn p0))) (tn p0) f0) ||| ((1 : Int32) <<< ((nI f0) &&& 31)))), (4, .int (mCnt μ (tn (μ 2 (tn p0))) (tn p0) f0)), (5, .int (nI f0)), (6, .int ((μ 4) (100 * (tn ((μ 2) (tn p0))) + 10 * f0 + (tn p0))))] := lv_sub hl [1, 2, 3, 0, 4, 5, 6] rfl
          refine lv_iload hx hb dX5_move_112 (lv_at hl 4 rfl) ?_
          refine lv_iload hx hb dX5_move_114 (lv_at hl 6 rfl) ?_
          refine lv_if_eq (tgt := 123) hx hb dX5_move_116 (by decide) (fun c9 => absurd c9 r5) (fun _ => ?_)
          refine lv_iconst (v := 1) hx hb dX5_move_119 (by decide) ?_
          refine lv_goto (tgt := 124) hx hb dX5_move_120 (by decide) ?_
          refine lv_iadd hx hb dX5_move_124 ?_
          refine lv_istore (lv' := [(4, .int ((mCnt μ (tn (μ 2 (tn p0))) (tn p0) f0) + 1)), (0, .ref mo), (1, .int p0), (2, .int q0), (3, .int ((mAll μ (tn (μ 2 (tn p0))) (tn p0) f0) ||| ((1 : Int32) <<< ((nI f0) &&& 31)))), (5, .int (nI f0)), (6, .int ((μ 4) (100 * (tn ((μ 2) (tn p0))) + 10 * f0 + (tn p0))))]) hx hb dX5_move_125 hl (by decide) rfl (fun ls hl => ?_)
          have hl : lv_has ls 7 [(0, .ref mo), (1, .int p0), (2, .int q0), (3, .int ((mAll μ (tn (μ 2 (tn p0))) (tn p0) f0) ||| ((1 : Int32) <<< ((nI f0) &&& 31)))), (4, .int ((mCnt μ (tn (μ 2 (tn p0))) (tn p0) f0) + 1)), (5, .int (nI f0)), (6, .int ((μ 4) (100 * (tn ((μ 2) (tn p0))) + 10 * f0 + (tn p0))))] := lv_sub hl [1, 2, 3, 4, 0, 5, 6] rfl
          refine lv_iinc (v := (nI (f0 + 1))) (lv' := [(5, .int (nI (f0 + 1))), (0, .ref mo), (1, .int p0), (2, .int q0), (3, .int ((mAll μ (tn (μ 2 (tn p0))) (tn p0) f0) ||| ((1 : Int32) <<< ((nI f0) &&& 31)))), (4, .int ((mCnt μ (tn (μ 2 (tn p0))) (tn p0) f0) + 1)), (6, .int ((μ 4) (100 * (tn ((μ 2) (tn p0))) + 10 * f0 + (tn p0))))]) hx hb dX5_move_127 hl (k := 5) rfl (by first | rfl | exact nI_add _ _ | decide) (by decide) rfl (fun ls hl => ?_)
          have hl : lv_has ls 7 [(0, .ref mo), (1, .int p0), (2, .int q0), (3, .int ((mAll μ (tn (μ 2 (tn p0))) (tn p0) f0) ||| ((1 : Int32) <<< ((nI f0) &&& 31)))), (4, .int ((mCnt μ (tn (μ 2 (tn p0))) (tn p0) f0) + 1)), (5, .int (nI (f0 + 1))), (6, .int ((μ 4) (100 * (tn ((μ 2) (tn p0))) + 10 * f0 + (tn p0))))] := lv_sub hl [1, 2, 3, 4, 5, 0, 6] rfl
          refine lv_goto (tgt := 68) hx hb dX5_move_130 (by decide) ?_
          have q10 : ((mAll μ (tn (μ 2 (tn p0))) (tn p0) (f0 + 1)) : Int32) = ((mAll μ (tn (μ 2 (tn p0))) (tn p0) f0) ||| ((1 : Int32) <<< ((nI f0) &&& 31))) := by simp [mAll, c1, c5]
          have q11 : ((mCnt μ (tn (μ 2 (tn p0))) (tn p0) (f0 + 1)) : Int32) = ((mCnt μ (tn (μ 2 (tn p0))) (tn p0) f0) + 1) := by simp [mCnt, c1, c5]
          exact ih (f0 + 1) (by omega) (by omega) (hp0) (hq0) (hT) _ _ hP hD hS ls (by rw [q10, q11]; exact lv_sub hl [0, 1, 2, 3, 4, 5] rfl)
  refine lv_aload_n hx hb dX5_move_0 rfl (lv_at hl 0 rfl) ?_
  refine lv_aload_n hx hb dX5_move_1 rfl (lv_at hl 0 rfl) ?_
  refine lv_iload_n hx hb dX5_move_2 rfl (lv_at hl 1 rfl) ?_
  refine vg_calliW (va_runV (As := [.int p0]) (rest := [.ref mo]) ⟨hx, hb, hml, hown, hts⟩ (kX5_isOne l D cy s.heap.size mo ad μ p0 ) (cwV 1 hts gX5_move_X5_isOne rfl rfl rfl (by decide +kernel) ⟨Nat.le_of_ble_eq_true rfl, Nat.le_of_ble_eq_true rfl⟩) (vg_P.preV hE hP 0 rfl rfl hP hD) rfl rfl hl.1 rfl (lv_room (Nat.le_of_ble_eq_true rfl)) dX5_move_3 ⟨Nat.le_of_ble_eq_true rfl, Nat.le_of_ble_eq_true rfl⟩) hP hD hS hA (fun r _ H locs hr hP hD hS => ?_)
  subst hr
  refine lv_if_eq (tgt := 17) hx hb dX5_move_6 (by decide) (fun r12 => ?_) (fun r12 => ?_)
  · have c12 : (mIn p0 0 (μ 1 0 - 1)) = false := bI_0.mp r12
    refine lv_iconst (v := 1) hx hb dX5_move_17 (by decide) ?_
    refine lv_goto (tgt := 48) hx hb dX5_move_18 (by decide) ?_
    refine va_put (D := (D)) (ci := 6) (v := .int 1) (ty := .int) (C := RX5) (T := TX5) (N := 26) hx hb hts hin_RX5 tyX5 tyX5_ok nmX5 hown hE.1 hP hD hS 0 rfl rfl 0 (by decide) (hts (.fieldLink RX5 77 "VillagepostModel" "thrown" "I") (by decide +kernel)) (fun _ h9 => h9) rfl (by decide +kernel) rfl rfl (Nat.le_of_ble_eq_true rfl) dX5_move_48 (fun H locs hP hD hS => ?_)
    have hP : va_P D vwCl (Mw cy mo ad (va_up μ 0 (fun _ => 1))) H := hP
    have hD : va_D (va_A (Mw cy mo ad μ) s.heap.size) (Mw cy mo ad (va_up μ 0 (fun _ => 1))) := hD
    refine lv_aload_n hx hb dX5_move_51 rfl (lv_at hl 0 rfl) ?_
    refine va_get (D := D) (ci := 6) (v := .int 1) (C := RX5) (T := TX5) (N := 26) hx hb hts hin_RX5 hown hE.1 hP 0 rfl rfl 0 (by decide) (hts (.fieldLink RX5 77 "VillagepostModel" "thrown" "I") (by decide +kernel)) (fun _ h9 => h9) rfl dX5_move_52 ?_
    refine lv_if_eq (tgt := 60) hx hb dX5_move_55 (by decide) (fun c9 => False.elim (by revert c9; decide)) (fun _ => ?_)
    refine lv_iconst (v := 0) hx hb dX5_move_58 (by decide) ?_
    have eW : va_up μ 0 (fun _ => 1) = mMve μ p0 q0 := by first | (simp [mMve, mMveT, mTwo, c12]; done) | (simp [mMve, hT, mHb, mSrv_up, c12]; done)
    have hP : va_P D vwCl (Mw cy mo ad (mMve μ p0 q0)) H := by rw [← eW]; exact hP
    have hD : va_D (va_A (Mw cy mo ad μ) s.heap.size) (Mw cy mo ad (mMve μ p0 q0)) := by rw [← eW]; exact hD
    refine vg_tp (mMveR μ p0 q0) (by first | (simp [mMveR, mMveT, mTwo, c12]; done) | (simp [mMveR, hT, c12]; done)) ?_
    exact W.iret (v := (mMveR μ p0 q0)) hx hb hr (fun t ht hW => ⟨⟨(mMveR μ p0 q0), (), rfl, rfl, (by rw [ht]; exact hP), hD⟩, hS.F ht⟩) hS.2.2 dX5_move_59
  · have c12 : (mIn p0 0 (μ 1 0 - 1)) = true := bI_n0.mp r12
    refine lv_aload_n hx hb dX5_move_9 rfl (lv_at hl 0 rfl) ?_
    refine lv_iload_n hx hb dX5_move_10 rfl (lv_at hl 2 rfl) ?_
    refine vg_calliW (va_runV (As := [.int q0]) (rest := [.ref mo]) ⟨hx, hb, hml, hown, hts⟩ (kX5_isOne l D cy H.size mo ad μ q0 ) (cwV 1 hts gX5_move_X5_isOne rfl rfl rfl (by decide +kernel) ⟨Nat.le_of_ble_eq_true rfl, Nat.le_of_ble_eq_true rfl⟩) (vg_P.preV hE hP 0 rfl rfl hP hD) rfl rfl hl.1 rfl (lv_room (Nat.le_of_ble_eq_true rfl)) dX5_move_11 ⟨Nat.le_of_ble_eq_true rfl, Nat.le_of_ble_eq_true rfl⟩) hP hD hS hA (fun r _ H locs hr hP hD hS => ?_)
    subst hr
    refine lv_if_ne (tgt := 21) hx hb dX5_move_14 (by decide) (fun r14 => ?_) (fun r14 => ?_)
    · have c14 : (mIn q0 0 (μ 1 0 - 1)) = true := bI_n0.mp r14
      have hp0 : isN p0 10 := (mIn_n hpe (by omega) c12).1
      have hp02 := hp0.2
      have hq0 : isN q0 10 := (mIn_n hpe (by omega) c14).1
      have hq02 := hq0.2
      refine lv_aload_n hx hb dX5_move_21 rfl (lv_at hl 0 rfl) ?_
      refine va_get (D := D) (ci := 6) (v := .ref (ad 6)) (C := RX5) (T := TX5) (N := 26) hx hb hts hin_RX5 hown hE.1 hP 0 rfl rfl 6 (by decide) (hts (.fieldLink RX5 23 "VillagepostModel" "alias" "[I") (by decide +kernel)) (fun _ h9 => h9) rfl dX5_move_22 ?_
      refine lv_bipush (v := 10) hx hb dX5_move_25 (by decide) ?_
      refine lv_aload_n hx hb dX5_move_27 rfl (lv_at hl 0 rfl) ?_
      refine va_get (D := D) (ci := 6) (v := .ref (ad 2)) (C := RX5) (T := TX5) (N := 26) hx hb hts hin_RX5 hown hE.1 hP 0 rfl rfl 2 (by decide) (hts (.fieldLink RX5 7 "VillagepostModel" "home" "[I") (by decide +kernel)) (fun _ h9 => h9) rfl dX5_move_28 ?_
      refine lv_iload_n hx hb dX5_move_31 rfl (lv_at hl 1 rfl) ?_
      refine vg_tp (nI (tn p0)) hp0.1 ?_
      refine vg_iald hx hb hE.1 hP 1 0 rfl rfl (f := μ 2) (j := (tn p0)) (by omega) (by decide) dX5_move_32 ?_
      obtain ⟨hN15, hM15⟩ := hho (tn p0) (by omega)
      refine vg_tp (nI (tn ((μ 2) (tn p0)))) hN15 ?_
      refine lv_imul hx hb dX5_move_33 ?_
      refine vg_tp (nI (10 * (tn ((μ 2) (tn p0))))) (pk_mul 10 (tn ((μ 2) (tn p0)))) ?_
      refine lv_iload_n hx hb dX5_move_34 rfl (lv_at hl 2 rfl) ?_
      refine vg_tp (nI (tn q0)) hq0.1 ?_
      refine lv_iadd hx hb dX5_move_35 ?_
      refine vg_tp (nI (10 * (tn ((μ 2) (tn p0))) + (tn q0))) (nI_add (10 * (tn ((μ 2) (tn p0)))) (tn q0)) ?_
      refine vg_iald hx hb hE.1 hP 5 0 rfl rfl (f := μ 6) (j := (10 * (tn ((μ 2) (tn p0))) + (tn q0))) (by omega) (by decide) dX5_move_36 ?_
      refine lv_iload_n hx hb dX5_move_37 rfl (lv_at hl 1 rfl) ?_
      refine vg_tp (nI (tn p0)) hp0.1 ?_
      refine lv_iconst (v := 1) hx hb dX5_move_38 (by decide) ?_
      refine lv_iadd hx hb dX5_move_39 ?_
      refine vg_tp (nI (tn p0 + 1)) (nI_add (tn p0) 1) ?_
      refine lv_icmp_eq (tgt := 47) hx hb dX5_move_40 (by decide) (fun r16 => ?_) (fun r16 => ?_)
      · have c16 := r16
        refine lv_iconst (v := 0) hx hb dX5_move_47 (by decide) ?_
        refine va_put (D := (D)) (ci := 6) (v := .int 0) (ty := .int) (C := RX5) (T := TX5) (N := 26) hx hb hts hin_RX5 tyX5 tyX5_ok nmX5 hown hE.1 hP hD hS 0 rfl rfl 0 (by decide) (hts (.fieldLink RX5 77 "VillagepostModel" "thrown" "I") (by decide +kernel)) (fun _ h9 => h9) rfl (by decide +kernel) rfl rfl (Nat.le_of_ble_eq_true rfl) dX5_move_48 (fun H locs hP hD hS => ?_)
        have hP : va_P D vwCl (Mw cy mo ad (va_up μ 0 (fun _ => 0))) H := hP
        have hD : va_D (va_A (Mw cy mo ad μ) s.heap.size) (Mw cy mo ad (va_up μ 0 (fun _ => 0))) := hD
        refine lv_aload_n hx hb dX5_move_51 rfl (lv_at hl 0 rfl) ?_
        refine va_get (D := D) (ci := 6) (v := .int 0) (C := RX5) (T := TX5) (N := 26) hx hb hts hin_RX5 hown hE.1 hP 0 rfl rfl 0 (by decide) (hts (.fieldLink RX5 77 "VillagepostModel" "thrown" "I") (by decide +kernel)) (fun _ h9 => h9) rfl dX5_move_52 ?_
        refine lv_if_eq (tgt := 60) hx hb dX5_move_55 (by decide) (fun _ => ?_) (fun c9 => False.elim (by revert c9; decide))
        refine lv_iconst (v := 0) hx hb dX5_move_60 (by decide) ?_
        refine lv_istore_n (lv' := [(3, .int 0), (0, .ref mo), (1, .int p0), (2, .int q0)]) hx hb dX5_move_61 rfl hl (by decide) rfl (fun ls hl => ?_)
        have hl : lv_has ls 7 [(0, .ref mo), (1, .int p0), (2, .int q0), (3, .int 0)] := lv_sub hl [1, 2, 3, 0] rfl
        refine lv_iconst (v := 0) hx hb dX5_move_62 (by decide) ?_
        refine lv_istore (lv' := [(4, .int 0), (0, .ref mo), (1, .int p0), (2, .int q0), (3, .int 0)]) hx hb dX5_move_63 hl (by decide) rfl (fun ls hl => ?_)
        have hl : lv_has ls 7 [(0, .ref mo), (1, .int p0), (2, .int q0), (3, .int 0), (4, .int 0)] := lv_sub hl [1, 2, 3, 4, 0] rfl
        refine lv_iconst (v := 0) hx hb dX5_move_65 (by decide) ?_
        refine lv_istore (lv' := [(5, .int 0), (0, .ref mo), (1, .int p0), (2, .int q0), (3, .int 0), (4, .int 0)]) hx hb dX5_move_66 hl (by decide) rfl (fun ls hl => ?_)
        have hl : lv_has ls 7 [(0, .ref mo), (1, .int p0), (2, .int q0), (3, .int 0), (4, .int 0), (5, .int 0)] := lv_sub hl [1, 2, 3, 4, 5, 0] rfl
        have q18 : ((mAll μ (tn (μ 2 (tn p0))) (tn p0) 0) : Int32) = 0 := by first | rfl | simp [c12, c14, c16]
        have q19 : ((mCnt μ (tn (μ 2 (tn p0))) (tn p0) 0) : Int32) = 0 := by first | rfl | simp [c12, c14, c16]
        have q20 : ((nI 0) : Int32) = 0 := by first | rfl | simp [c12, c14, c16]
        exact L68 ((tn (μ 1 0) - 0) + 1) 0 (by omega) (by omega) (hp0) (hq0) (by simp [mMveT, mTwo, c12, c14, c16]) _ _ hP hD hS ls (by rw [q18, q19, q20]; exact lv_sub hl [0, 1, 2, 3, 4, 5] rfl)
      · have c16 := r16
        refine lv_iconst (v := 2) hx hb dX5_move_43 (by decide) ?_
        refine lv_goto (tgt := 48) hx hb dX5_move_44 (by decide) ?_
        refine va_put (D := (D)) (ci := 6) (v := .int 2) (ty := .int) (C := RX5) (T := TX5) (N := 26) hx hb hts hin_RX5 tyX5 tyX5_ok nmX5 hown hE.1 hP hD hS 0 rfl rfl 0 (by decide) (hts (.fieldLink RX5 77 "VillagepostModel" "thrown" "I") (by decide +kernel)) (fun _ h9 => h9) rfl (by decide +kernel) rfl rfl (Nat.le_of_ble_eq_true rfl) dX5_move_48 (fun H locs hP hD hS => ?_)
        have hP : va_P D vwCl (Mw cy mo ad (va_up μ 0 (fun _ => 2))) H := hP
        have hD : va_D (va_A (Mw cy mo ad μ) s.heap.size) (Mw cy mo ad (va_up μ 0 (fun _ => 2))) := hD
        refine lv_aload_n hx hb dX5_move_51 rfl (lv_at hl 0 rfl) ?_
        refine va_get (D := D) (ci := 6) (v := .int 2) (C := RX5) (T := TX5) (N := 26) hx hb hts hin_RX5 hown hE.1 hP 0 rfl rfl 0 (by decide) (hts (.fieldLink RX5 77 "VillagepostModel" "thrown" "I") (by decide +kernel)) (fun _ h9 => h9) rfl dX5_move_52 ?_
        refine lv_if_eq (tgt := 60) hx hb dX5_move_55 (by decide) (fun c9 => False.elim (by revert c9; decide)) (fun _ => ?_)
        refine lv_iconst (v := 0) hx hb dX5_move_58 (by decide) ?_
        have eW : va_up μ 0 (fun _ => 2) = mMve μ p0 q0 := by first | (simp [mMve, mMveT, mTwo, c12, c14, c16]; done) | (simp [mMve, hT, mHb, mSrv_up, c12, c14, c16]; done)
        have hP : va_P D vwCl (Mw cy mo ad (mMve μ p0 q0)) H := by rw [← eW]; exact hP
        have hD : va_D (va_A (Mw cy mo ad μ) s.heap.size) (Mw cy mo ad (mMve μ p0 q0)) := by rw [← eW]; exact hD
        refine vg_tp (mMveR μ p0 q0) (by first | (simp [mMveR, mMveT, mTwo, c12, c14, c16]; done) | (simp [mMveR, hT, c12, c14, c16]; done)) ?_
        exact W.iret (v := (mMveR μ p0 q0)) hx hb hr (fun t ht hW => ⟨⟨(mMveR μ p0 q0), (), rfl, rfl, (by rw [ht]; exact hP), hD⟩, hS.F ht⟩) hS.2.2 dX5_move_59
    · have c14 : (mIn q0 0 (μ 1 0 - 1)) = false := bI_0.mp r14
      refine lv_iconst (v := 1) hx hb dX5_move_17 (by decide) ?_
      refine lv_goto (tgt := 48) hx hb dX5_move_18 (by decide) ?_
      refine va_put (D := (D)) (ci := 6) (v := .int 1) (ty := .int) (C := RX5) (T := TX5) (N := 26) hx hb hts hin_RX5 tyX5 tyX5_ok nmX5 hown hE.1 hP hD hS 0 rfl rfl 0 (by decide) (hts (.fieldLink RX5 77 "VillagepostModel" "thrown" "I") (by decide +kernel)) (fun _ h9 => h9) rfl (by decide +kernel) rfl rfl (Nat.le_of_ble_eq_true rfl) dX5_move_48 (fun H locs hP hD hS => ?_)
      have hP : va_P D vwCl (Mw cy mo ad (va_up μ 0 (fun _ => 1))) H := hP
      have hD : va_D (va_A (Mw cy mo ad μ) s.heap.size) (Mw cy mo ad (va_up μ 0 (fun _ => 1))) := hD
      refine lv_aload_n hx hb dX5_move_51 rfl (lv_at hl 0 rfl) ?_
      refine va_get (D := D) (ci := 6) (v := .int 1) (C := RX5) (T := TX5) (N := 26) hx hb hts hin_RX5 hown hE.1 hP 0 rfl rfl 0 (by decide) (hts (.fieldLink RX5 77 "VillagepostModel" "thrown" "I") (by decide +kernel)) (fun _ h9 => h9) rfl dX5_move_52 ?_
      refine lv_if_eq (tgt := 60) hx hb dX5_move_55 (by decide) (fun c9 => False.elim (by revert c9; decide)) (fun _ => ?_)
      refine lv_iconst (v := 0) hx hb dX5_move_58 (by decide) ?_
      have eW : va_up μ 0 (fun _ => 1) = mMve μ p0 q0 := by first | (simp [mMve, mMveT, mTwo, c12, c14]; done) | (simp [mMve, hT, mHb, mSrv_up, c12, c14]; done)
      have hP : va_P D vwCl (Mw cy mo ad (mMve μ p0 q0)) H := by rw [← eW]; exact hP
      have hD : va_D (va_A (Mw cy mo ad μ) s.heap.size) (Mw cy mo ad (mMve μ p0 q0)) := by rw [← eW]; exact hD
      refine vg_tp (mMveR μ p0 q0) (by first | (simp [mMveR, mMveT, mTwo, c12, c14]; done) | (simp [mMveR, hT, c12, c14]; done)) ?_
      exact W.iret (v := (mMveR μ p0 q0)) hx hb hr (fun t ht hW => ⟨⟨(mMveR μ p0 q0), (), rfl, rfl, (by rw [ht]; exact hP), hD⟩, hS.F ht⟩) hS.2.2 dX5_move_59

set_option maxHeartbeats 4000000 in
set_option maxRecDepth 100000 in
theorem kX5_isNamed (l : Launch) (D : va_G) (cy : Nat → ClassId) (sz : Nat) (mo : Nat) (ad : Nat → Nat) (μ : Nat → Nat → Int32) (ni : Nat) (pi : Nat) (hn : ni < 50) : Met l yX5_isNamed wsX5_isNamed ({ frames := 0, cells := 0, slots := 0, locals := 0 }) (vg_P D cy [.ref mo, .int (nI ni), .int (nI pi)] sz (Mw cy mo ad μ)) (vg_Qi (S := Unit) D sz (Mw cy mo ad μ) (fun r _ => r = (bI (mNam μ ni pi))) (fun _ => Mw cy mo ad μ)) 0 0 (va_A (Mw cy mo ad μ) sz) := by
  refine Met.ofW (cc := cX5_isNamed) (maxL := 3) (ret := (some .boolean)) (by decide) rfl ?_
  intro p e s m args below meth c s₁ BB hml hv
  obtain ⟨rfl, hsz, hP, hE, hD0⟩ := hv
  have hx := BB.exec
  have hb := BB.bytes
  have hr := BB.returns
  have hts := atoms_spec (ws := wsX5_isNamed) BB.pre
  have hown : s.vm.findClass RX5 = some m.cls := findClass_of_methodNamed BB.named
  have hlocks := BB.notSynchronized
  subst hsz
  have hD := hD0.self (sz := s.heap.size)
  have hA : ∀ q : Nat, s.heap.size ≤ q → (va_A (Mw cy mo ad μ) s.heap.size) q := fun q h => Or.inr h
  have hS : va_S (va_A (Mw cy mo ad μ) s.heap.size) s.heap s.heap [] := va_S.rf
  have hin_RX5 : ∀ w ∈ u_ws RX5 TX5 26, w ∈ wsX5_isNamed := by decide +kernel
  have hl := lv_entry ([.ref mo, .int (nI ni), .int (nI pi)]) (n := 3) (Nat.le_of_ble_eq_true rfl)
  rw [lg_entry_eq]
  generalize (lg_sl ([.ref mo, .int (nI ni), .int (nI pi)]) ++ List.replicate (3 - (lg_sl ([.ref mo, .int (nI ni), .int (nI pi)])).length) Slot.unset).toArray = ls at hl ⊢
  have hl : lv_has ls 3 [(0, .ref mo), (1, .int (nI ni)), (2, .int (nI pi))] := hl
  refine lv_aload_n hx hb dX5_isNamed_0 rfl (lv_at hl 0 rfl) ?_
  refine va_get (D := D) (ci := 6) (v := .ref (ad 14)) (C := RX5) (T := TX5) (N := 26) hx hb hts hin_RX5 hown hE.1 hP 0 rfl rfl 14 (by decide) (hts (.fieldLink RX5 44 "VillagepostModel" "named" "[I") (by decide +kernel)) (fun _ h9 => h9) rfl dX5_isNamed_1 ?_
  refine lv_iload_n hx hb dX5_isNamed_4 rfl (lv_at hl 1 rfl) ?_
  refine vg_iald hx hb hE.1 hP 12 0 rfl rfl (f := μ 14) (j := ni) (by omega) (by decide) dX5_isNamed_5 ?_
  refine lv_iload_n hx hb dX5_isNamed_6 rfl (lv_at hl 2 rfl) ?_
  refine lv_ishr hx hb dX5_isNamed_7 ?_
  refine lv_iconst (v := 1) hx hb dX5_isNamed_8 (by decide) ?_
  refine lv_iand hx hb dX5_isNamed_9 ?_
  refine lv_iconst (v := 1) hx hb dX5_isNamed_10 (by decide) ?_
  refine lv_icmp_ne (tgt := 18) hx hb dX5_isNamed_11 (by decide) (fun r1 => ?_) (fun r1 => ?_)
  · have c1 := r1
    refine lv_iconst (v := 0) hx hb dX5_isNamed_18 (by decide) ?_
    refine vg_tp (bI (mNam μ ni pi)) (by simp [mNam, bI, c1]) ?_
    exact W.zret (v := (bI (mNam μ ni pi))) (ty := .boolean) hx hb hr (bI_and _) (fun t ht hW => ⟨⟨(bI (mNam μ ni pi)), (), rfl, rfl, (by rw [ht]; exact hP), hD⟩, hS.F ht⟩) hS.2.2 dX5_isNamed_19
  · have c1 := r1
    refine lv_iconst (v := 1) hx hb dX5_isNamed_14 (by decide) ?_
    refine lv_goto (tgt := 19) hx hb dX5_isNamed_15 (by decide) ?_
    refine vg_tp (bI (mNam μ ni pi)) (by simp [mNam, bI, c1]) ?_
    exact W.zret (v := (bI (mNam μ ni pi))) (ty := .boolean) hx hb hr (bI_and _) (fun t ht hW => ⟨⟨(bI (mNam μ ni pi)), (), rfl, rfl, (by rw [ht]; exact hP), hD⟩, hS.F ht⟩) hS.2.2 dX5_isNamed_19

set_option maxHeartbeats 4000000 in
set_option maxRecDepth 100000 in
theorem kX5_seen (l : Launch) (D : va_G) (cy : Nat → ClassId) (sz : Nat) (mo : Nat) (ad : Nat → Nat) (μ : Nat → Nat → Int32) (pi : Nat) (ni : Nat) (hw : mWF μ) (hp : pi < 10) (hn : ni < 50) : Met l yX5_seen wsX5_seen ({ frames := 2, cells := 0, slots := 0, locals := 45 }) (vg_P D cy [.ref mo, .int (nI pi), .int (nI ni)] sz (Mw cy mo ad μ)) (vg_Qi (S := Unit) D sz (Mw cy mo ad μ) (fun r _ => r = (bI (mSeen μ pi ni))) (fun _ => Mw cy mo ad μ)) 0 0 (va_A (Mw cy mo ad μ) sz) := by
  refine Met.ofW (cc := cX5_seen) (maxL := 6) (ret := (some .boolean)) (by decide) rfl ?_
  intro p e s m args below meth c s₁ BB hml hv
  obtain ⟨rfl, hsz, hP, hE, hD0⟩ := hv
  have hx := BB.exec
  have hb := BB.bytes
  have hr := BB.returns
  have hts := atoms_spec (ws := wsX5_seen) BB.pre
  have hown : s.vm.findClass RX5 = some m.cls := findClass_of_methodNamed BB.named
  have hlocks := BB.notSynchronized
  subst hsz
  have hD := hD0.self (sz := s.heap.size)
  have hA : ∀ q : Nat, s.heap.size ≤ q → (va_A (Mw cy mo ad μ) s.heap.size) q := fun q h => Or.inr h
  have hS : va_S (va_A (Mw cy mo ad μ) s.heap.size) s.heap s.heap [] := va_S.rf
  have hin_RX5 : ∀ w ∈ u_ws RX5 TX5 26, w ∈ wsX5_seen := by decide +kernel
  have hl := lv_entry ([.ref mo, .int (nI pi), .int (nI ni)]) (n := 6) (Nat.le_of_ble_eq_true rfl)
  rw [lg_entry_eq]
  generalize (lg_sl ([.ref mo, .int (nI pi), .int (nI ni)]) ++ List.replicate (6 - (lg_sl ([.ref mo, .int (nI pi), .int (nI ni)])).length) Slot.unset).toArray = ls at hl ⊢
  have hl : lv_has ls 6 [(0, .ref mo), (1, .int (nI pi)), (2, .int (nI ni))] := hl
  obtain ⟨hpe, hho, hau, hre, hac⟩ := hw
  have hpe2 := hpe.2
  refine lv_aload_n hx hb dX5_seen_0 rfl (lv_at hl 0 rfl) ?_
  refine va_get (D := D) (ci := 6) (v := .ref (ad 2)) (C := RX5) (T := TX5) (N := 26) hx hb hts hin_RX5 hown hE.1 hP 0 rfl rfl 2 (by decide) (hts (.fieldLink RX5 7 "VillagepostModel" "home" "[I") (by decide +kernel)) (fun _ h9 => h9) rfl dX5_seen_1 ?_
  refine lv_iload_n hx hb dX5_seen_4 rfl (lv_at hl 1 rfl) ?_
  refine vg_iald hx hb hE.1 hP 1 0 rfl rfl (f := μ 2) (j := pi) (by omega) (by decide) dX5_seen_5 ?_
  obtain ⟨hN1, hM1⟩ := hho pi (by omega)
  refine vg_tp (nI (tn ((μ 2) pi))) hN1 ?_
  refine lv_istore_n (lv' := [(3, .int (nI (tn ((μ 2) pi)))), (0, .ref mo), (1, .int (nI pi)), (2, .int (nI ni))]) hx hb dX5_seen_6 rfl hl (by decide) rfl (fun ls hl => ?_)
  have hl : lv_has ls 6 [(0, .ref mo), (1, .int (nI pi)), (2, .int (nI ni)), (3, .int (nI (tn ((μ 2) pi))))] := lv_sub hl [1, 2, 3, 0] rfl
  refine lv_aload_n hx hb dX5_seen_7 rfl (lv_at hl 0 rfl) ?_
  refine va_get (D := D) (ci := 6) (v := .ref (ad 7)) (C := RX5) (T := TX5) (N := 26) hx hb hts hin_RX5 hown hE.1 hP 0 rfl rfl 7 (by decide) (hts (.fieldLink RX5 26 "VillagepostModel" "isKnown" "[Z") (by decide +kernel)) (fun _ h9 => h9) rfl dX5_seen_8 ?_
  refine lv_bipush (v := 50) hx hb dX5_seen_11 (by decide) ?_
  refine lv_iload_n hx hb dX5_seen_13 rfl (lv_at hl 3 rfl) ?_
  refine lv_imul hx hb dX5_seen_14 ?_
  refine vg_tp (nI (50 * (tn ((μ 2) pi)))) (pk_mul 50 (tn ((μ 2) pi))) ?_
  refine lv_iload_n hx hb dX5_seen_15 rfl (lv_at hl 2 rfl) ?_
  refine lv_iadd hx hb dX5_seen_16 ?_
  refine vg_tp (nI (50 * (tn ((μ 2) pi)) + ni)) (nI_add (50 * (tn ((μ 2) pi))) ni) ?_
  refine vg_zald hx hb hE.1 hP 6 2 rfl rfl (f := μ 7) (j := (50 * (tn ((μ 2) pi)) + ni)) (by omega) (by decide) dX5_seen_17 ?_
  refine lv_if_eq (tgt := 40) hx hb dX5_seen_18 (by decide) (fun r2 => ?_) (fun r2 => ?_)
  · have c2 := r2
    refine lv_iconst (v := 0) hx hb dX5_seen_40 (by decide) ?_
    refine lv_istore (lv' := [(4, .int 0), (0, .ref mo), (1, .int (nI pi)), (2, .int (nI ni)), (3, .int (nI (tn ((μ 2) pi))))]) hx hb dX5_seen_41 hl (by decide) rfl (fun ls hl => ?_)
    have hl : lv_has ls 6 [(0, .ref mo), (1, .int (nI pi)), (2, .int (nI ni)), (3, .int (nI (tn ((μ 2) pi)))), (4, .int 0)] := lv_sub hl [1, 2, 3, 4, 0] rfl
    refine lv_aload_n hx hb dX5_seen_43 rfl (lv_at hl 0 rfl) ?_
    refine va_get (D := D) (ci := 6) (v := .ref (ad 12)) (C := RX5) (T := TX5) (N := 26) hx hb hts hin_RX5 hown hE.1 hP 0 rfl rfl 12 (by decide) (hts (.fieldLink RX5 38 "VillagepostModel" "author" "[I") (by decide +kernel)) (fun _ h9 => h9) rfl dX5_seen_44 ?_
    refine lv_iload_n hx hb dX5_seen_47 rfl (lv_at hl 2 rfl) ?_
    refine vg_iald hx hb hE.1 hP 10 0 rfl rfl (f := μ 12) (j := ni) (by omega) (by decide) dX5_seen_48 ?_
    obtain ⟨hN3, hM3⟩ := hau ni (by omega)
    refine vg_tp (nI (tn ((μ 12) ni))) hN3 ?_
    refine lv_iload_n hx hb dX5_seen_49 rfl (lv_at hl 1 rfl) ?_
    refine lv_icmp_eq (tgt := 71) hx hb dX5_seen_50 (by decide) (fun r4 => ?_) (fun r4 => ?_)
    · have c4 : tn ((μ 12) ni) = pi := (nI_eq (a := tn ((μ 12) ni)) (b := pi) (by omega) (by omega)).mp r4
      refine lv_iconst (v := 1) hx hb dX5_seen_71 (by decide) ?_
      refine lv_goto (tgt := 76) hx hb dX5_seen_72 (by decide) ?_
      refine lv_istore (lv' := [(5, .int 1), (0, .ref mo), (1, .int (nI pi)), (2, .int (nI ni)), (3, .int (nI (tn ((μ 2) pi)))), (4, .int 0)]) hx hb dX5_seen_76 hl (by decide) rfl (fun ls hl => ?_)
      have hl : lv_has ls 6 [(0, .ref mo), (1, .int (nI pi)), (2, .int (nI ni)), (3, .int (nI (tn ((μ 2) pi)))), (4, .int 0), (5, .int 1)] := lv_sub hl [1, 2, 3, 4, 5, 0] rfl
      refine lv_iload hx hb dX5_seen_78 (lv_at hl 4 rfl) ?_
      refine lv_if_eq (tgt := 121) hx hb dX5_seen_80 (by decide) (fun _ => ?_) (fun c9 => False.elim (by revert c9; decide))
      refine lv_iconst (v := 0) hx hb dX5_seen_121 (by decide) ?_
      refine vg_tp (bI (mSeen μ pi ni)) (by simp [mSeen, bI, c2, eq_true c4]) ?_
      exact W.zret (v := (bI (mSeen μ pi ni))) (ty := .boolean) hx hb hr (bI_and _) (fun t ht hW => ⟨⟨(bI (mSeen μ pi ni)), (), rfl, rfl, (by rw [ht]; exact hP), hD⟩, hS.F ht⟩) hS.2.2 dX5_seen_122
    · have c4 : ¬ tn ((μ 12) ni) = pi := fun q => r4 ((nI_eq (a := tn ((μ 12) ni)) (b := pi) (by omega) (by omega)).mpr q)
      refine lv_aload_n hx hb dX5_seen_53 rfl (lv_at hl 0 rfl) ?_
      refine lv_iload_n hx hb dX5_seen_54 rfl (lv_at hl 2 rfl) ?_
      refine lv_iload_n hx hb dX5_seen_55 rfl (lv_at hl 1 rfl) ?_
      refine vg_calliW (va_runV (As := [.int (nI ni), .int (nI pi)]) (rest := []) ⟨hx, hb, hml, hown, hts⟩ (kX5_isNamed l D cy s.heap.size mo ad μ ni pi (by omega)) (cwV 2 hts gX5_seen_X5_isNamed rfl rfl rfl (by decide +kernel) ⟨Nat.le_of_ble_eq_true rfl, Nat.le_of_ble_eq_true rfl⟩) (vg_P.preV hE hP 0 rfl rfl hP hD) rfl rfl hl.1 rfl (lv_room (Nat.le_of_ble_eq_true rfl)) dX5_seen_56 ⟨Nat.le_of_ble_eq_true rfl, Nat.le_of_ble_eq_true rfl⟩) hP hD hS hA (fun r _ H locs hr hP hD hS => ?_)
      subst hr
      refine lv_if_ne (tgt := 71) hx hb dX5_seen_59 (by decide) (fun r6 => ?_) (fun r6 => ?_)
      · have c6 : (mNam μ ni pi) = true := bI_n0.mp r6
        refine lv_iconst (v := 1) hx hb dX5_seen_71 (by decide) ?_
        refine lv_goto (tgt := 76) hx hb dX5_seen_72 (by decide) ?_
        refine lv_istore (lv' := [(5, .int 1), (0, .ref mo), (1, .int (nI pi)), (2, .int (nI ni)), (3, .int (nI (tn ((μ 2) pi)))), (4, .int 0)]) hx hb dX5_seen_76 hl (by decide) rfl (fun ls hl => ?_)
        have hl : lv_has ls 6 [(0, .ref mo), (1, .int (nI pi)), (2, .int (nI ni)), (3, .int (nI (tn ((μ 2) pi)))), (4, .int 0), (5, .int 1)] := lv_sub hl [1, 2, 3, 4, 5, 0] rfl
        refine lv_iload hx hb dX5_seen_78 (lv_at hl 4 rfl) ?_
        refine lv_if_eq (tgt := 121) hx hb dX5_seen_80 (by decide) (fun _ => ?_) (fun c9 => False.elim (by revert c9; decide))
        refine lv_iconst (v := 0) hx hb dX5_seen_121 (by decide) ?_
        refine vg_tp (bI (mSeen μ pi ni)) (by simp [mSeen, bI, c2, c4, c6]) ?_
        exact W.zret (v := (bI (mSeen μ pi ni))) (ty := .boolean) hx hb hr (bI_and _) (fun t ht hW => ⟨⟨(bI (mSeen μ pi ni)), (), rfl, rfl, (by rw [ht]; exact hP), hD⟩, hS.F ht⟩) hS.2.2 dX5_seen_122
      · have c6 : (mNam μ ni pi) = false := bI_0.mp r6
        refine lv_aload_n hx hb dX5_seen_62 rfl (lv_at hl 0 rfl) ?_
        refine va_get (D := D) (ci := 6) (v := .ref (ad 13)) (C := RX5) (T := TX5) (N := 26) hx hb hts hin_RX5 hown hE.1 hP 0 rfl rfl 13 (by decide) (hts (.fieldLink RX5 41 "VillagepostModel" "kind" "[I") (by decide +kernel)) (fun _ h9 => h9) rfl dX5_seen_63 ?_
        refine lv_iload_n hx hb dX5_seen_66 rfl (lv_at hl 2 rfl) ?_
        refine vg_iald hx hb hE.1 hP 11 0 rfl rfl (f := μ 13) (j := ni) (by omega) (by decide) dX5_seen_67 ?_
        refine lv_if_ne (tgt := 75) hx hb dX5_seen_68 (by decide) (fun r8 => ?_) (fun r8 => ?_)
        · have c8 := r8
          refine lv_iconst (v := 0) hx hb dX5_seen_75 (by decide) ?_
          refine lv_istore (lv' := [(5, .int 0), (0, .ref mo), (1, .int (nI pi)), (2, .int (nI ni)), (3, .int (nI (tn ((μ 2) pi)))), (4, .int 0)]) hx hb dX5_seen_76 hl (by decide) rfl (fun ls hl => ?_)
          have hl : lv_has ls 6 [(0, .ref mo), (1, .int (nI pi)), (2, .int (nI ni)), (3, .int (nI (tn ((μ 2) pi)))), (4, .int 0), (5, .int 0)] := lv_sub hl [1, 2, 3, 4, 5, 0] rfl
          refine lv_iload hx hb dX5_seen_78 (lv_at hl 4 rfl) ?_
          refine lv_if_eq (tgt := 121) hx hb dX5_seen_80 (by decide) (fun _ => ?_) (fun c9 => False.elim (by revert c9; decide))
          refine lv_iconst (v := 0) hx hb dX5_seen_121 (by decide) ?_
          refine vg_tp (bI (mSeen μ pi ni)) (by simp [mSeen, bI, c2, c4, c6, c8]) ?_
          exact W.zret (v := (bI (mSeen μ pi ni))) (ty := .boolean) hx hb hr (bI_and _) (fun t ht hW => ⟨⟨(bI (mSeen μ pi ni)), (), rfl, rfl, (by rw [ht]; exact hP), hD⟩, hS.F ht⟩) hS.2.2 dX5_seen_122
        · have c8 := r8
          refine lv_iconst (v := 1) hx hb dX5_seen_71 (by decide) ?_
          refine lv_goto (tgt := 76) hx hb dX5_seen_72 (by decide) ?_
          refine lv_istore (lv' := [(5, .int 1), (0, .ref mo), (1, .int (nI pi)), (2, .int (nI ni)), (3, .int (nI (tn ((μ 2) pi)))), (4, .int 0)]) hx hb dX5_seen_76 hl (by decide) rfl (fun ls hl => ?_)
          have hl : lv_has ls 6 [(0, .ref mo), (1, .int (nI pi)), (2, .int (nI ni)), (3, .int (nI (tn ((μ 2) pi)))), (4, .int 0), (5, .int 1)] := lv_sub hl [1, 2, 3, 4, 5, 0] rfl
          refine lv_iload hx hb dX5_seen_78 (lv_at hl 4 rfl) ?_
          refine lv_if_eq (tgt := 121) hx hb dX5_seen_80 (by decide) (fun _ => ?_) (fun c9 => False.elim (by revert c9; decide))
          refine lv_iconst (v := 0) hx hb dX5_seen_121 (by decide) ?_
          refine vg_tp (bI (mSeen μ pi ni)) (by simp [mSeen, bI, c2, c4, c6, c8]) ?_
          exact W.zret (v := (bI (mSeen μ pi ni))) (ty := .boolean) hx hb hr (bI_and _) (fun t ht hW => ⟨⟨(bI (mSeen μ pi ni)), (), rfl, rfl, (by rw [ht]; exact hP), hD⟩, hS.F ht⟩) hS.2.2 dX5_seen_122
  · have c2 := r2
    refine lv_aload_n hx hb dX5_seen_21 rfl (lv_at hl 0 rfl) ?_
    refine lv_iload_n hx hb dX5_seen_22 rfl (lv_at hl 3 rfl) ?_
    refine lv_iload_n hx hb dX5_seen_23 rfl (lv_at hl 1 rfl) ?_
    refine lv_aload_n hx hb dX5_seen_24 rfl (lv_at hl 0 rfl) ?_
    refine va_get (D := D) (ci := 6) (v := .ref (ad 12)) (C := RX5) (T := TX5) (N := 26) hx hb hts hin_RX5 hown hE.1 hP 0 rfl rfl 12 (by decide) (hts (.fieldLink RX5 38 "VillagepostModel" "author" "[I") (by decide +kernel)) (fun _ h9 => h9) rfl dX5_seen_25 ?_
    refine lv_iload_n hx hb dX5_seen_28 rfl (lv_at hl 2 rfl) ?_
    refine vg_iald hx hb hE.1 hP 10 0 rfl rfl (f := μ 12) (j := ni) (by omega) (by decide) dX5_seen_29 ?_
    obtain ⟨hN11, hM11⟩ := hau ni (by omega)
    refine vg_tp (nI (tn ((μ 12) ni))) hN11 ?_
    refine vg_calliW (va_runV (As := [.int (nI (tn ((μ 2) pi))), .int (nI pi), .int (nI (tn ((μ 12) ni)))]) (rest := []) ⟨hx, hb, hml, hown, hts⟩ (kX5_isApart l D cy s.heap.size mo ad μ (tn ((μ 2) pi)) pi (tn ((μ 12) ni)) (by omega) (by omega) (by omega)) (cwV 3 hts gX5_seen_X5_isApart rfl rfl rfl (by decide +kernel) ⟨Nat.le_of_ble_eq_true rfl, Nat.le_of_ble_eq_true rfl⟩) (vg_P.preV hE hP 0 rfl rfl hP hD) rfl rfl hl.1 rfl (lv_room (Nat.le_of_ble_eq_true rfl)) dX5_seen_30 ⟨Nat.le_of_ble_eq_true rfl, Nat.le_of_ble_eq_true rfl⟩) hP hD hS hA (fun r _ H locs hr hP hD hS => ?_)
    subst hr
    refine lv_if_ne (tgt := 40) hx hb dX5_seen_33 (by decide) (fun r12 => ?_) (fun r12 => ?_)
    · have c12 : (mIsA μ (tn ((μ 2) pi)) pi (tn ((μ 12) ni))) = true := bI_n0.mp r12
      refine lv_iconst (v := 0) hx hb dX5_seen_40 (by decide) ?_
      refine lv_istore (lv' := [(4, .int 0), (0, .ref mo), (1, .int (nI pi)), (2, .int (nI ni)), (3, .int (nI (tn ((μ 2) pi))))]) hx hb dX5_seen_41 hl (by decide) rfl (fun ls hl => ?_)
      have hl : lv_has ls 6 [(0, .ref mo), (1, .int (nI pi)), (2, .int (nI ni)), (3, .int (nI (tn ((μ 2) pi)))), (4, .int 0)] := lv_sub hl [1, 2, 3, 4, 0] rfl
      refine lv_aload_n hx hb dX5_seen_43 rfl (lv_at hl 0 rfl) ?_
      refine va_get (D := D) (ci := 6) (v := .ref (ad 12)) (C := RX5) (T := TX5) (N := 26) hx hb hts hin_RX5 hown hE.1 hP 0 rfl rfl 12 (by decide) (hts (.fieldLink RX5 38 "VillagepostModel" "author" "[I") (by decide +kernel)) (fun _ h9 => h9) rfl dX5_seen_44 ?_
      refine lv_iload_n hx hb dX5_seen_47 rfl (lv_at hl 2 rfl) ?_
      refine vg_iald hx hb hE.1 hP 10 0 rfl rfl (f := μ 12) (j := ni) (by omega) (by decide) dX5_seen_48 ?_
      obtain ⟨hN13, hM13⟩ := hau ni (by omega)
      refine vg_tp (nI (tn ((μ 12) ni))) hN13 ?_
      refine lv_iload_n hx hb dX5_seen_49 rfl (lv_at hl 1 rfl) ?_
      refine lv_icmp_eq (tgt := 71) hx hb dX5_seen_50 (by decide) (fun r14 => ?_) (fun r14 => ?_)
      · have c14 : tn ((μ 12) ni) = pi := (nI_eq (a := tn ((μ 12) ni)) (b := pi) (by omega) (by omega)).mp r14
        refine lv_iconst (v := 1) hx hb dX5_seen_71 (by decide) ?_
        refine lv_goto (tgt := 76) hx hb dX5_seen_72 (by decide) ?_
        refine lv_istore (lv' := [(5, .int 1), (0, .ref mo), (1, .int (nI pi)), (2, .int (nI ni)), (3, .int (nI (tn ((μ 2) pi)))), (4, .int 0)]) hx hb dX5_seen_76 hl (by decide) rfl (fun ls hl => ?_)
        have hl : lv_has ls 6 [(0, .ref mo), (1, .int (nI pi)), (2, .int (nI ni)), (3, .int (nI (tn ((μ 2) pi)))), (4, .int 0), (5, .int 1)] := lv_sub hl [1, 2, 3, 4, 5, 0] rfl
        refine lv_iload hx hb dX5_seen_78 (lv_at hl 4 rfl) ?_
        refine lv_if_eq (tgt := 121) hx hb dX5_seen_80 (by decide) (fun _ => ?_) (fun c9 => False.elim (by revert c9; decide))
        refine lv_iconst (v := 0) hx hb dX5_seen_121 (by decide) ?_
        refine vg_tp (bI (mSeen μ pi ni)) (by simp [mSeen, bI, c2, c12, eq_true c14]) ?_
        exact W.zret (v := (bI (mSeen μ pi ni))) (ty := .boolean) hx hb hr (bI_and _) (fun t ht hW => ⟨⟨(bI (mSeen μ pi ni)), (), rfl, rfl, (by rw [ht]; exact hP), hD⟩, hS.F ht⟩) hS.2.2 dX5_seen_122
      · have c14 : ¬ tn ((μ 12) ni) = pi := fun q => r14 ((nI_eq (a := tn ((μ 12) ni)) (b := pi) (by omega) (by omega)).mpr q)
        refine lv_aload_n hx hb dX5_seen_53 rfl (lv_at hl 0 rfl) ?_
        refine lv_iload_n hx hb dX5_seen_54 rfl (lv_at hl 2 rfl) ?_
        refine lv_iload_n hx hb dX5_seen_55 rfl (lv_at hl 1 rfl) ?_
        refine vg_calliW (va_runV (As := [.int (nI ni), .int (nI pi)]) (rest := []) ⟨hx, hb, hml, hown, hts⟩ (kX5_isNamed l D cy H.size mo ad μ ni pi (by omega)) (cwV 2 hts gX5_seen_X5_isNamed rfl rfl rfl (by decide +kernel) ⟨Nat.le_of_ble_eq_true rfl, Nat.le_of_ble_eq_true rfl⟩) (vg_P.preV hE hP 0 rfl rfl hP hD) rfl rfl hl.1 rfl (lv_room (Nat.le_of_ble_eq_true rfl)) dX5_seen_56 ⟨Nat.le_of_ble_eq_true rfl, Nat.le_of_ble_eq_true rfl⟩) hP hD hS hA (fun r _ H locs hr hP hD hS => ?_)
        subst hr
        refine lv_if_ne (tgt := 71) hx hb dX5_seen_59 (by decide) (fun r16 => ?_) (fun r16 => ?_)
        · have c16 : (mNam μ ni pi) = true := bI_n0.mp r16
          refine lv_iconst (v := 1) hx hb dX5_seen_71 (by decide) ?_
          refine lv_goto (tgt := 76) hx hb dX5_seen_72 (by decide) ?_
          refine lv_istore (lv' := [(5, .int 1), (0, .ref mo), (1, .int (nI pi)), (2, .int (nI ni)), (3, .int (nI (tn ((μ 2) pi)))), (4, .int 0)]) hx hb dX5_seen_76 hl (by decide) rfl (fun ls hl => ?_)
          have hl : lv_has ls 6 [(0, .ref mo), (1, .int (nI pi)), (2, .int (nI ni)), (3, .int (nI (tn ((μ 2) pi)))), (4, .int 0), (5, .int 1)] := lv_sub hl [1, 2, 3, 4, 5, 0] rfl
          refine lv_iload hx hb dX5_seen_78 (lv_at hl 4 rfl) ?_
          refine lv_if_eq (tgt := 121) hx hb dX5_seen_80 (by decide) (fun _ => ?_) (fun c9 => False.elim (by revert c9; decide))
          refine lv_iconst (v := 0) hx hb dX5_seen_121 (by decide) ?_
          refine vg_tp (bI (mSeen μ pi ni)) (by simp [mSeen, bI, c2, c12, c14, c16]) ?_
          exact W.zret (v := (bI (mSeen μ pi ni))) (ty := .boolean) hx hb hr (bI_and _) (fun t ht hW => ⟨⟨(bI (mSeen μ pi ni)), (), rfl, rfl, (by rw [ht]; exact hP), hD⟩, hS.F ht⟩) hS.2.2 dX5_seen_122
        · have c16 : (mNam μ ni pi) = false := bI_0.mp r16
          refine lv_aload_n hx hb dX5_seen_62 rfl (lv_at hl 0 rfl) ?_
          refine va_get (D := D) (ci := 6) (v := .ref (ad 13)) (C := RX5) (T := TX5) (N := 26) hx hb hts hin_RX5 hown hE.1 hP 0 rfl rfl 13 (by decide) (hts (.fieldLink RX5 41 "VillagepostModel" "kind" "[I") (by decide +kernel)) (fun _ h9 => h9) rfl dX5_seen_63 ?_
          refine lv_iload_n hx hb dX5_seen_66 rfl (lv_at hl 2 rfl) ?_
          refine vg_iald hx hb hE.1 hP 11 0 rfl rfl (f := μ 13) (j := ni) (by omega) (by decide) dX5_seen_67 ?_
          refine lv_if_ne (tgt := 75) hx hb dX5_seen_68 (by decide) (fun r18 => ?_) (fun r18 => ?_)
          · have c18 := r18
            refine lv_iconst (v := 0) hx hb dX5_seen_75 (by decide) ?_
            refine lv_istore (lv' := [(5, .int 0), (0, .ref mo), (1, .int (nI pi)), (2, .int (nI ni)), (3, .int (nI (tn ((μ 2) pi)))), (4, .int 0)]) hx hb dX5_seen_76 hl (by decide) rfl (fun ls hl => ?_)
            have hl : lv_has ls 6 [(0, .ref mo), (1, .int (nI pi)), (2, .int (nI ni)), (3, .int (nI (tn ((μ 2) pi)))), (4, .int 0), (5, .int 0)] := lv_sub hl [1, 2, 3, 4, 5, 0] rfl
            refine lv_iload hx hb dX5_seen_78 (lv_at hl 4 rfl) ?_
            refine lv_if_eq (tgt := 121) hx hb dX5_seen_80 (by decide) (fun _ => ?_) (fun c9 => False.elim (by revert c9; decide))
            refine lv_iconst (v := 0) hx hb dX5_seen_121 (by decide) ?_
            refine vg_tp (bI (mSeen μ pi ni)) (by simp [mSeen, bI, c2, c12, c14, c16, c18]) ?_
            exact W.zret (v := (bI (mSeen μ pi ni))) (ty := .boolean) hx hb hr (bI_and _) (fun t ht hW => ⟨⟨(bI (mSeen μ pi ni)), (), rfl, rfl, (by rw [ht]; exact hP), hD⟩, hS.F ht⟩) hS.2.2 dX5_seen_122
          · have c18 := r18
            refine lv_iconst (v := 1) hx hb dX5_seen_71 (by decide) ?_
            refine lv_goto (tgt := 76) hx hb dX5_seen_72 (by decide) ?_
            refine lv_istore (lv' := [(5, .int 1), (0, .ref mo), (1, .int (nI pi)), (2, .int (nI ni)), (3, .int (nI (tn ((μ 2) pi)))), (4, .int 0)]) hx hb dX5_seen_76 hl (by decide) rfl (fun ls hl => ?_)
            have hl : lv_has ls 6 [(0, .ref mo), (1, .int (nI pi)), (2, .int (nI ni)), (3, .int (nI (tn ((μ 2) pi)))), (4, .int 0), (5, .int 1)] := lv_sub hl [1, 2, 3, 4, 5, 0] rfl
            refine lv_iload hx hb dX5_seen_78 (lv_at hl 4 rfl) ?_
            refine lv_if_eq (tgt := 121) hx hb dX5_seen_80 (by decide) (fun _ => ?_) (fun c9 => False.elim (by revert c9; decide))
            refine lv_iconst (v := 0) hx hb dX5_seen_121 (by decide) ?_
            refine vg_tp (bI (mSeen μ pi ni)) (by simp [mSeen, bI, c2, c12, c14, c16, c18]) ?_
            exact W.zret (v := (bI (mSeen μ pi ni))) (ty := .boolean) hx hb hr (bI_and _) (fun t ht hW => ⟨⟨(bI (mSeen μ pi ni)), (), rfl, rfl, (by rw [ht]; exact hP), hD⟩, hS.F ht⟩) hS.2.2 dX5_seen_122
    · have c12 : (mIsA μ (tn ((μ 2) pi)) pi (tn ((μ 12) ni))) = false := bI_0.mp r12
      refine lv_iconst (v := 1) hx hb dX5_seen_36 (by decide) ?_
      refine lv_goto (tgt := 41) hx hb dX5_seen_37 (by decide) ?_
      refine lv_istore (lv' := [(4, .int 1), (0, .ref mo), (1, .int (nI pi)), (2, .int (nI ni)), (3, .int (nI (tn ((μ 2) pi))))]) hx hb dX5_seen_41 hl (by decide) rfl (fun ls hl => ?_)
      have hl : lv_has ls 6 [(0, .ref mo), (1, .int (nI pi)), (2, .int (nI ni)), (3, .int (nI (tn ((μ 2) pi)))), (4, .int 1)] := lv_sub hl [1, 2, 3, 4, 0] rfl
      refine lv_aload_n hx hb dX5_seen_43 rfl (lv_at hl 0 rfl) ?_
      refine va_get (D := D) (ci := 6) (v := .ref (ad 12)) (C := RX5) (T := TX5) (N := 26) hx hb hts hin_RX5 hown hE.1 hP 0 rfl rfl 12 (by decide) (hts (.fieldLink RX5 38 "VillagepostModel" "author" "[I") (by decide +kernel)) (fun _ h9 => h9) rfl dX5_seen_44 ?_
      refine lv_iload_n hx hb dX5_seen_47 rfl (lv_at hl 2 rfl) ?_
      refine vg_iald hx hb hE.1 hP 10 0 rfl rfl (f := μ 12) (j := ni) (by omega) (by decide) dX5_seen_48 ?_
      obtain ⟨hN21, hM21⟩ := hau ni (by omega)
      refine vg_tp (nI (tn ((μ 12) ni))) hN21 ?_
      refine lv_iload_n hx hb dX5_seen_49 rfl (lv_at hl 1 rfl) ?_
      refine lv_icmp_eq (tgt := 71) hx hb dX5_seen_50 (by decide) (fun r22 => ?_) (fun r22 => ?_)
      · have c22 : tn ((μ 12) ni) = pi := (nI_eq (a := tn ((μ 12) ni)) (b := pi) (by omega) (by omega)).mp r22
        refine lv_iconst (v := 1) hx hb dX5_seen_71 (by decide) ?_
        refine lv_goto (tgt := 76) hx hb dX5_seen_72 (by decide) ?_
        refine lv_istore (lv' := [(5, .int 1), (0, .ref mo), (1, .int (nI pi)), (2, .int (nI ni)), (3, .int (nI (tn ((μ 2) pi)))), (4, .int 1)]) hx hb dX5_seen_76 hl (by decide) rfl (fun ls hl => ?_)
        have hl : lv_has ls 6 [(0, .ref mo), (1, .int (nI pi)), (2, .int (nI ni)), (3, .int (nI (tn ((μ 2) pi)))), (4, .int 1), (5, .int 1)] := lv_sub hl [1, 2, 3, 4, 5, 0] rfl
        refine lv_iload hx hb dX5_seen_78 (lv_at hl 4 rfl) ?_
        refine lv_if_eq (tgt := 121) hx hb dX5_seen_80 (by decide) (fun c9 => False.elim (by revert c9; decide)) (fun _ => ?_)
        refine lv_iload hx hb dX5_seen_83 (lv_at hl 5 rfl) ?_
        refine lv_if_ne (tgt := 117) hx hb dX5_seen_85 (by decide) (fun _ => ?_) (fun c9 => False.elim (by revert c9; decide))
        refine lv_iconst (v := 1) hx hb dX5_seen_117 (by decide) ?_
        refine lv_goto (tgt := 122) hx hb dX5_seen_118 (by decide) ?_
        refine vg_tp (bI (mSeen μ pi ni)) (by simp [mSeen, bI, c2, c12, eq_true c22]) ?_
        exact W.zret (v := (bI (mSeen μ pi ni))) (ty := .boolean) hx hb hr (bI_and _) (fun t ht hW => ⟨⟨(bI (mSeen μ pi ni)), (), rfl, rfl, (by rw [ht]; exact hP), hD⟩, hS.F ht⟩) hS.2.2 dX5_seen_122
      · have c22 : ¬ tn ((μ 12) ni) = pi := fun q => r22 ((nI_eq (a := tn ((μ 12) ni)) (b := pi) (by omega) (by omega)).mpr q)
        refine lv_aload_n hx hb dX5_seen_53 rfl (lv_at hl 0 rfl) ?_
        refine lv_iload_n hx hb dX5_seen_54 rfl (lv_at hl 2 rfl) ?_
        refine lv_iload_n hx hb dX5_seen_55 rfl (lv_at hl 1 rfl) ?_
        refine vg_calliW (va_runV (As := [.int (nI ni), .int (nI pi)]) (rest := []) ⟨hx, hb, hml, hown, hts⟩ (kX5_isNamed l D cy H.size mo ad μ ni pi (by omega)) (cwV 2 hts gX5_seen_X5_isNamed rfl rfl rfl (by decide +kernel) ⟨Nat.le_of_ble_eq_true rfl, Nat.le_of_ble_eq_true rfl⟩) (vg_P.preV hE hP 0 rfl rfl hP hD) rfl rfl hl.1 rfl (lv_room (Nat.le_of_ble_eq_true rfl)) dX5_seen_56 ⟨Nat.le_of_ble_eq_true rfl, Nat.le_of_ble_eq_true rfl⟩) hP hD hS hA (fun r _ H locs hr hP hD hS => ?_)
        subst hr
        refine lv_if_ne (tgt := 71) hx hb dX5_seen_59 (by decide) (fun r25 => ?_) (fun r25 => ?_)
        · have c25 : (mNam μ ni pi) = true := bI_n0.mp r25
          refine lv_iconst (v := 1) hx hb dX5_seen_71 (by decide) ?_
          refine lv_goto (tgt := 76) hx hb dX5_seen_72 (by decide) ?_
          refine lv_istore (lv' := [(5, .int 1), (0, .ref mo), (1, .int (nI pi)), (2, .int (nI ni)), (3, .int (nI (tn ((μ 2) pi)))), (4, .int 1)]) hx hb dX5_seen_76 hl (by decide) rfl (fun ls hl => ?_)
          have hl : lv_has ls 6 [(0, .ref mo), (1, .int (nI pi)), (2, .int (nI ni)), (3, .int (nI (tn ((μ 2) pi)))), (4, .int 1), (5, .int 1)] := lv_sub hl [1, 2, 3, 4, 5, 0] rfl
          refine lv_iload hx hb dX5_seen_78 (lv_at hl 4 rfl) ?_
          refine lv_if_eq (tgt := 121) hx hb dX5_seen_80 (by decide) (fun c9 => False.elim (by revert c9; decide)) (fun _ => ?_)
          refine lv_iload hx hb dX5_seen_83 (lv_at hl 5 rfl) ?_
          refine lv_if_ne (tgt := 117) hx hb dX5_seen_85 (by decide) (fun _ => ?_) (fun c9 => False.elim (by revert c9; decide))
          refine lv_iconst (v := 1) hx hb dX5_seen_117 (by decide) ?_
          refine lv_goto (tgt := 122) hx hb dX5_seen_118 (by decide) ?_
          refine vg_tp (bI (mSeen μ pi ni)) (by simp [mSeen, bI, c2, c12, c22, c25]) ?_
          exact W.zret (v := (bI (mSeen μ pi ni))) (ty := .boolean) hx hb hr (bI_and _) (fun t ht hW => ⟨⟨(bI (mSeen μ pi ni)), (), rfl, rfl, (by rw [ht]; exact hP), hD⟩, hS.F ht⟩) hS.2.2 dX5_seen_122
        · have c25 : (mNam μ ni pi) = false := bI_0.mp r25
          refine lv_aload_n hx hb dX5_seen_62 rfl (lv_at hl 0 rfl) ?_
          refine va_get (D := D) (ci := 6) (v := .ref (ad 13)) (C := RX5) (T := TX5) (N := 26) hx hb hts hin_RX5 hown hE.1 hP 0 rfl rfl 13 (by decide) (hts (.fieldLink RX5 41 "VillagepostModel" "kind" "[I") (by decide +kernel)) (fun _ h9 => h9) rfl dX5_seen_63 ?_
          refine lv_iload_n hx hb dX5_seen_66 rfl (lv_at hl 2 rfl) ?_
          refine vg_iald hx hb hE.1 hP 11 0 rfl rfl (f := μ 13) (j := ni) (by omega) (by decide) dX5_seen_67 ?_
          refine lv_if_ne (tgt := 75) hx hb dX5_seen_68 (by decide) (fun r28 => ?_) (fun r28 => ?_)
          · have c28 := r28
            refine lv_iconst (v := 0) hx hb dX5_seen_75 (by decide) ?_
            refine lv_istore (lv' := [(5, .int 0), (0, .ref mo), (1, .int (nI pi)), (2, .int (nI ni)), (3, .int (nI (tn ((μ 2) pi)))), (4, .int 1)]) hx hb dX5_seen_76 hl (by decide) rfl (fun ls hl => ?_)
            have hl : lv_has ls 6 [(0, .ref mo), (1, .int (nI pi)), (2, .int (nI ni)), (3, .int (nI (tn ((μ 2) pi)))), (4, .int 1), (5, .int 0)] := lv_sub hl [1, 2, 3, 4, 5, 0] rfl
            refine lv_iload hx hb dX5_seen_78 (lv_at hl 4 rfl) ?_
            refine lv_if_eq (tgt := 121) hx hb dX5_seen_80 (by decide) (fun c9 => False.elim (by revert c9; decide)) (fun _ => ?_)
            refine lv_iload hx hb dX5_seen_83 (lv_at hl 5 rfl) ?_
            refine lv_if_ne (tgt := 117) hx hb dX5_seen_85 (by decide) (fun c9 => False.elim (by revert c9; decide)) (fun _ => ?_)
            refine lv_aload_n hx hb dX5_seen_88 rfl (lv_at hl 0 rfl) ?_
            refine va_get (D := D) (ci := 6) (v := .ref (ad 13)) (C := RX5) (T := TX5) (N := 26) hx hb hts hin_RX5 hown hE.1 hP 0 rfl rfl 13 (by decide) (hts (.fieldLink RX5 41 "VillagepostModel" "kind" "[I") (by decide +kernel)) (fun _ h9 => h9) rfl dX5_seen_89 ?_
            refine lv_iload_n hx hb dX5_seen_92 rfl (lv_at hl 2 rfl) ?_
            refine vg_iald hx hb hE.1 hP 11 0 rfl rfl (f := μ 13) (j := ni) (by omega) (by decide) dX5_seen_93 ?_
            refine lv_iconst (v := 1) hx hb dX5_seen_94 (by decide) ?_
            refine lv_icmp_ne (tgt := 121) hx hb dX5_seen_95 (by decide) (fun r31 => ?_) (fun r31 => ?_)
            · have c31 := r31
              refine lv_iconst (v := 0) hx hb dX5_seen_121 (by decide) ?_
              refine vg_tp (bI (mSeen μ pi ni)) (by simp [mSeen, bI, c2, c12, c22, c25, c28, c31]) ?_
              exact W.zret (v := (bI (mSeen μ pi ni))) (ty := .boolean) hx hb hr (bI_and _) (fun t ht hW => ⟨⟨(bI (mSeen μ pi ni)), (), rfl, rfl, (by rw [ht]; exact hP), hD⟩, hS.F ht⟩) hS.2.2 dX5_seen_122
            · have c31 := r31
              refine lv_aload_n hx hb dX5_seen_98 rfl (lv_at hl 0 rfl) ?_
              refine va_get (D := D) (ci := 6) (v := .ref (ad 4)) (C := RX5) (T := TX5) (N := 26) hx hb hts hin_RX5 hown hE.1 hP 0 rfl rfl 4 (by decide) (hts (.fieldLink RX5 17 "VillagepostModel" "follows" "[Z") (by decide +kernel)) (fun _ h9 => h9) rfl dX5_seen_99 ?_
              refine lv_iload_n hx hb dX5_seen_102 rfl (lv_at hl 3 rfl) ?_
              refine lv_iload_n hx hb dX5_seen_103 rfl (lv_at hl 1 rfl) ?_
              refine lv_aload_n hx hb dX5_seen_104 rfl (lv_at hl 0 rfl) ?_
              refine va_get (D := D) (ci := 6) (v := .ref (ad 12)) (C := RX5) (T := TX5) (N := 26) hx hb hts hin_RX5 hown hE.1 hP 0 rfl rfl 12 (by decide) (hts (.fieldLink RX5 38 "VillagepostModel" "author" "[I") (by decide +kernel)) (fun _ h9 => h9) rfl dX5_seen_105 ?_
              refine lv_iload_n hx hb dX5_seen_108 rfl (lv_at hl 2 rfl) ?_
              refine vg_iald hx hb hE.1 hP 10 0 rfl rfl (f := μ 12) (j := ni) (by omega) (by decide) dX5_seen_109 ?_
              obtain ⟨hN32, hM32⟩ := hau ni (by omega)
              refine vg_tp (nI (tn ((μ 12) ni))) hN32 ?_
              refine vg_calliP (va_runS (As := [.int (nI (tn ((μ 2) pi))), .int (nI pi), .int (nI (tn ((μ 12) ni)))]) (rest := [.ref (ad 4)]) ⟨hx, hb, hml, hown, hts⟩ (kX5_at l D cy H.size (tn ((μ 2) pi)) pi (tn ((μ 12) ni))) (va_cwS 3 hts gX5_seen_X5_at rfl rfl rfl (by decide +kernel) ⟨Nat.le_of_ble_eq_true rfl, Nat.le_of_ble_eq_true rfl⟩) (vg_P.preS hE vg_P0 (A := fun _ => True) vg_D0) rfl rfl hl.1 rfl (lv_room (Nat.le_of_ble_eq_true rfl)) dX5_seen_110 ⟨Nat.le_of_ble_eq_true rfl, Nat.le_of_ble_eq_true rfl⟩) hP hD hS hA (fun r _ H locs hr hP hD hS => ?_)
              subst hr
              refine vg_zald hx hb hE.1 hP 3 2 rfl rfl (f := μ 4) (j := (100 * (tn ((μ 2) pi)) + 10 * pi + (tn ((μ 12) ni)))) (by omega) (by decide) dX5_seen_113 ?_
              refine lv_if_eq (tgt := 121) hx hb dX5_seen_114 (by decide) (fun r33 => ?_) (fun r33 => ?_)
              · have c33 := r33
                refine lv_iconst (v := 0) hx hb dX5_seen_121 (by decide) ?_
                refine vg_tp (bI (mSeen μ pi ni)) (by simp [mSeen, bI, c2, c12, c22, c25, c28, c31, c33]) ?_
                exact W.zret (v := (bI (mSeen μ pi ni))) (ty := .boolean) hx hb hr (bI_and _) (fun t ht hW => ⟨⟨(bI (mSeen μ pi ni)), (), rfl, rfl, (by rw [ht]; exact hP), hD⟩, hS.F ht⟩) hS.2.2 dX5_seen_122
              · have c33 := r33
                refine lv_iconst (v := 1) hx hb dX5_seen_117 (by decide) ?_
                refine lv_goto (tgt := 122) hx hb dX5_seen_118 (by decide) ?_
                refine vg_tp (bI (mSeen μ pi ni)) (by simp [mSeen, bI, c2, c12, c22, c25, c28, c31, c33]) ?_
                exact W.zret (v := (bI (mSeen μ pi ni))) (ty := .boolean) hx hb hr (bI_and _) (fun t ht hW => ⟨⟨(bI (mSeen μ pi ni)), (), rfl, rfl, (by rw [ht]; exact hP), hD⟩, hS.F ht⟩) hS.2.2 dX5_seen_122
          · have c28 := r28
            refine lv_iconst (v := 1) hx hb dX5_seen_71 (by decide) ?_
            refine lv_goto (tgt := 76) hx hb dX5_seen_72 (by decide) ?_
            refine lv_istore (lv' := [(5, .int 1), (0, .ref mo), (1, .int (nI pi)), (2, .int (nI ni)), (3, .int (nI (tn ((μ 2) pi)))), (4, .int 1)]) hx hb dX5_seen_76 hl (by decide) rfl (fun ls hl => ?_)
            have hl : lv_has ls 6 [(0, .ref mo), (1, .int (nI pi)), (2, .int (nI ni)), (3, .int (nI (tn ((μ 2) pi)))), (4, .int 1), (5, .int 1)] := lv_sub hl [1, 2, 3, 4, 5, 0] rfl
            refine lv_iload hx hb dX5_seen_78 (lv_at hl 4 rfl) ?_
            refine lv_if_eq (tgt := 121) hx hb dX5_seen_80 (by decide) (fun c9 => False.elim (by revert c9; decide)) (fun _ => ?_)
            refine lv_iload hx hb dX5_seen_83 (lv_at hl 5 rfl) ?_
            refine lv_if_ne (tgt := 117) hx hb dX5_seen_85 (by decide) (fun _ => ?_) (fun c9 => False.elim (by revert c9; decide))
            refine lv_iconst (v := 1) hx hb dX5_seen_117 (by decide) ?_
            refine lv_goto (tgt := 122) hx hb dX5_seen_118 (by decide) ?_
            refine vg_tp (bI (mSeen μ pi ni)) (by simp [mSeen, bI, c2, c12, c22, c25, c28]) ?_
            exact W.zret (v := (bI (mSeen μ pi ni))) (ty := .boolean) hx hb hr (bI_and _) (fun t ht hW => ⟨⟨(bI (mSeen μ pi ni)), (), rfl, rfl, (by rw [ht]; exact hP), hD⟩, hS.F ht⟩) hS.2.2 dX5_seen_122
