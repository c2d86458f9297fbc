set_option maxHeartbeats 4000000 in
set_option maxRecDepth 100000 in
theorem kX5_in (l : Launch) (D : va_G) (cy : Nat → ClassId) (sz : Nat) (v0 : Int32) (lo : Int32) (hi : Int32)  : Met l yX5_in wsX5_in ({ frames := 0, cells := 0, slots := 0, locals := 0 }) (vg_P D cy [.int v0, .int lo, .int hi] sz (([] : va_W))) (vg_Qi (S := Unit) D sz (([] : va_W)) (fun r _ => r = (bI (mIn v0 lo hi))) (fun _ => ([] : va_W))) 0 0 (va_A (([] : va_W)) sz) := by
  refine Met.ofW (cc := cX5_in) (maxL := 3) (ret := (some .boolean)) (by decide) rfl ?_
  intro p e s m args below meth c s₁ BB hml hv
  obtain ⟨rfl, hsz, hP, hE, hD0⟩ := hv
  have hx := BB.exec
  have hb := BB.bytes
  have hr := BB.returns
  have hts := atoms_spec (ws := wsX5_in) BB.pre
  have hown : s.vm.findClass RX5 = some m.cls := findClass_of_methodNamed BB.named
  have hlocks := BB.notSynchronized
  subst hsz
  have hD := hD0.self (sz := s.heap.size)
  have hA : ∀ q : Nat, s.heap.size ≤ q → (va_A (([] : va_W)) s.heap.size) q := fun q h => Or.inr h
  have hS : va_S (va_A (([] : va_W)) s.heap.size) s.heap s.heap [] := va_S.rf
  have hl := lv_entry ([.int v0, .int lo, .int hi]) (n := 3) (Nat.le_of_ble_eq_true rfl)
  rw [lg_entry_eq]
  generalize (lg_sl ([.int v0, .int lo, .int hi]) ++ List.replicate (3 - (lg_sl ([.int v0, .int lo, .int hi])).length) Slot.unset).toArray = ls at hl ⊢
  have hl : lv_has ls 3 [(0, .int v0), (1, .int lo), (2, .int hi)] := hl
  refine lv_iload_n hx hb dX5_in_0 rfl (lv_at hl 0 rfl) ?_
  refine lv_iload_n hx hb dX5_in_1 rfl (lv_at hl 1 rfl) ?_
  refine lv_icmp_lt (tgt := 14) hx hb dX5_in_2 (by decide) (fun r1 => ?_) (fun r1 => ?_)
  · have c1 := r1
    have c1n : ¬ lo ≤ v0 := Int32.not_le.mpr r1
    refine lv_iconst (v := 0) hx hb dX5_in_14 (by decide) ?_
    refine vg_tp (bI (mIn v0 lo hi)) (by simp [bI, mIn, c1n, c1]) ?_
    exact W.zret (v := (bI (mIn v0 lo hi))) (ty := .boolean) hx hb hr (bI_and _) (fun t ht hW => ⟨⟨(bI (mIn v0 lo hi)), (), rfl, rfl, (by rw [ht]; exact hP), hD⟩, hS.F ht⟩) hS.2.2 dX5_in_15
  · have c1 : lo ≤ v0 := Int32.not_lt.mp r1
    have c1n := r1
    refine lv_iload_n hx hb dX5_in_5 rfl (lv_at hl 0 rfl) ?_
    refine lv_iload_n hx hb dX5_in_6 rfl (lv_at hl 2 rfl) ?_
    refine lv_icmp_gt (tgt := 14) hx hb dX5_in_7 (by decide) (fun r2 => ?_) (fun r2 => ?_)
    · have c2 := r2
      have c2n : ¬ v0 ≤ hi := Int32.not_le.mpr r2
      refine lv_iconst (v := 0) hx hb dX5_in_14 (by decide) ?_
      refine vg_tp (bI (mIn v0 lo hi)) (by simp [bI, mIn, c1n, c1, c2n, c2]) ?_
      exact W.zret (v := (bI (mIn v0 lo hi))) (ty := .boolean) hx hb hr (bI_and _) (fun t ht hW => ⟨⟨(bI (mIn v0 lo hi)), (), rfl, rfl, (by rw [ht]; exact hP), hD⟩, hS.F ht⟩) hS.2.2 dX5_in_15
    · have c2 : v0 ≤ hi := Int32.not_lt.mp r2
      have c2n := r2
      refine lv_iconst (v := 1) hx hb dX5_in_10 (by decide) ?_
      refine lv_goto (tgt := 15) hx hb dX5_in_11 (by decide) ?_
      refine vg_tp (bI (mIn v0 lo hi)) (by simp [bI, mIn, c1n, c1, c2n, c2]) ?_
      exact W.zret (v := (bI (mIn v0 lo hi))) (ty := .boolean) hx hb hr (bI_and _) (fun t ht hW => ⟨⟨(bI (mIn v0 lo hi)), (), rfl, rfl, (by rw [ht]; exact hP), hD⟩, hS.F ht⟩) hS.2.2 dX5_in_15

set_option maxHeartbeats 4000000 in
set_option maxRecDepth 100000 in
theorem kX5_at (l : Launch) (D : va_G) (cy : Nat → ClassId) (sz : Nat) (si : Nat) (pi : Nat) (qi : Nat)  : Met l yX5_at wsX5_at ({ frames := 0, cells := 0, slots := 0, locals := 0 }) (vg_P D cy [.int (nI si), .int (nI pi), .int (nI qi)] sz (([] : va_W))) (vg_Qi (S := Unit) D sz (([] : va_W)) (fun r _ => r = (nI (100 * si + 10 * pi + qi))) (fun _ => ([] : va_W))) 0 0 (va_A (([] : va_W)) sz) := by
  refine Met.ofW (cc := cX5_at) (maxL := 3) (ret := (some .int)) (by decide) rfl ?_
  intro p e s m args below meth c s₁ BB hml hv
  obtain ⟨rfl, hsz, hP, hE, hD0⟩ := hv
  have hx := BB.exec
  have hb := BB.bytes
  have hr := BB.returns
  have hts := atoms_spec (ws := wsX5_at) BB.pre
  have hown : s.vm.findClass RX5 = some m.cls := findClass_of_methodNamed BB.named
  have hlocks := BB.notSynchronized
  subst hsz
  have hD := hD0.self (sz := s.heap.size)
  have hA : ∀ q : Nat, s.heap.size ≤ q → (va_A (([] : va_W)) s.heap.size) q := fun q h => Or.inr h
  have hS : va_S (va_A (([] : va_W)) s.heap.size) s.heap s.heap [] := va_S.rf
  have hl := lv_entry ([.int (nI si), .int (nI pi), .int (nI qi)]) (n := 3) (Nat.le_of_ble_eq_true rfl)
  rw [lg_entry_eq]
  generalize (lg_sl ([.int (nI si), .int (nI pi), .int (nI qi)]) ++ List.replicate (3 - (lg_sl ([.int (nI si), .int (nI pi), .int (nI qi)])).length) Slot.unset).toArray = ls at hl ⊢
  have hl : lv_has ls 3 [(0, .int (nI si)), (1, .int (nI pi)), (2, .int (nI qi))] := hl
  refine lv_bipush (v := 100) hx hb dX5_at_0 (by decide) ?_
  refine lv_iload_n hx hb dX5_at_2 rfl (lv_at hl 0 rfl) ?_
  refine lv_imul hx hb dX5_at_3 ?_
  refine vg_tp (nI (100 * si)) (pk_mul 100 si) ?_
  refine lv_bipush (v := 10) hx hb dX5_at_4 (by decide) ?_
  refine lv_iload_n hx hb dX5_at_6 rfl (lv_at hl 1 rfl) ?_
  refine lv_imul hx hb dX5_at_7 ?_
  refine vg_tp (nI (10 * pi)) (pk_mul 10 pi) ?_
  refine lv_iadd hx hb dX5_at_8 ?_
  refine vg_tp (nI (100 * si + (10 * pi))) (nI_add (100 * si) (10 * pi)) ?_
  refine lv_iload_n hx hb dX5_at_9 rfl (lv_at hl 2 rfl) ?_
  refine lv_iadd hx hb dX5_at_10 ?_
  refine vg_tp (nI (100 * si + (10 * pi) + qi)) (nI_add (100 * si + (10 * pi)) qi) ?_
  refine vg_tp (nI (100 * si + 10 * pi + qi)) (by first | rfl | simp []) ?_
  exact W.iret (v := (nI (100 * si + 10 * pi + qi))) hx hb hr (fun t ht hW => ⟨⟨(nI (100 * si + 10 * pi + qi)), (), rfl, rfl, (by rw [ht]; exact hP), hD⟩, hS.F ht⟩) hS.2.2 dX5_at_11

set_option maxHeartbeats 4000000 in
set_option maxRecDepth 100000 in
theorem kX5_isOne (l : Launch) (D : va_G) (cy : Nat → ClassId) (sz : Nat) (mo : Nat) (ad : Nat → Nat) (μ : Nat → Nat → Int32) (v0 : Int32)  : Met l yX5_isOne wsX5_isOne ({ frames := 1, cells := 0, slots := 0, locals := 22 }) (vg_P D cy [.ref mo, .int v0] sz (Mw cy mo ad μ)) (vg_Qi (S := Unit) D sz (Mw cy mo ad μ) (fun r _ => r = (bI (mIn v0 0 (μ 1 0 - 1)))) (fun _ => Mw cy mo ad μ)) 0 0 (va_A (Mw cy mo ad μ) sz) := by
  refine Met.ofW (cc := cX5_isOne) (maxL := 2) (ret := (some .boolean)) (by decide) rfl ?_
  intro p e s m args below meth c s₁ BB hml hv
  obtain ⟨rfl, hsz, hP, hE, hD0⟩ := hv
  have hx := BB.exec
  have hb := BB.bytes
  have hr := BB.returns
  have hts := atoms_spec (ws := wsX5_isOne) BB.pre
  have hown : s.vm.findClass RX5 = some m.cls := findClass_of_methodNamed BB.named
  have hlocks := BB.notSynchronized
  subst hsz
  have hD := hD0.self (sz := s.heap.size)
  have hA : ∀ q : Nat, s.heap.size ≤ q → (va_A (Mw cy mo ad μ) s.heap.size) q := fun q h => Or.inr h
  have hS : va_S (va_A (Mw cy mo ad μ) s.heap.size) s.heap s.heap [] := va_S.rf
  have hin_RX5 : ∀ w ∈ u_ws RX5 TX5 26, w ∈ wsX5_isOne := by decide +kernel
  have hl := lv_entry ([.ref mo, .int v0]) (n := 2) (Nat.le_of_ble_eq_true rfl)
  rw [lg_entry_eq]
  generalize (lg_sl ([.ref mo, .int v0]) ++ List.replicate (2 - (lg_sl ([.ref mo, .int v0])).length) Slot.unset).toArray = ls at hl ⊢
  have hl : lv_has ls 2 [(0, .ref mo), (1, .int v0)] := hl
  refine lv_iload_n hx hb dX5_isOne_0 rfl (lv_at hl 1 rfl) ?_
  refine lv_iconst (v := 0) hx hb dX5_isOne_1 (by decide) ?_
  refine lv_aload_n hx hb dX5_isOne_2 rfl (lv_at hl 0 rfl) ?_
  refine va_get (D := D) (ci := 6) (v := .int ((μ 1) 0)) (C := RX5) (T := TX5) (N := 26) hx hb hts hin_RX5 hown hE.1 hP 0 rfl rfl 1 (by decide) (hts (.fieldLink RX5 81 "VillagepostModel" "people" "I") (by decide +kernel)) (fun _ h9 => h9) rfl dX5_isOne_3 ?_
  refine lv_iconst (v := 1) hx hb dX5_isOne_6 (by decide) ?_
  refine lv_isub hx hb dX5_isOne_7 ?_
  refine vg_calliP (va_runS (As := [.int v0, .int 0, .int (((μ 1) 0) - 1)]) (rest := []) ⟨hx, hb, hml, hown, hts⟩ (kX5_in l D cy s.heap.size v0 0 ((((μ 1) 0) - 1))) (va_cwS 3 hts gX5_isOne_X5_in rfl rfl rfl (by decide +kernel) ⟨Nat.le_of_ble_eq_true rfl, Nat.le_of_ble_eq_true rfl⟩) (vg_P.preS hE vg_P0 (A := fun _ => True) vg_D0) rfl rfl hl.1 rfl (lv_room (Nat.le_of_ble_eq_true rfl)) dX5_isOne_8 ⟨Nat.le_of_ble_eq_true rfl, Nat.le_of_ble_eq_true rfl⟩) hP hD hS hA (fun r _ H locs hr hP hD hS => ?_)
  subst hr
  refine vg_tp (bI (mIn v0 0 (μ 1 0 - 1))) (by first | rfl | simp []) ?_
  exact W.zret (v := (bI (mIn v0 0 (μ 1 0 - 1)))) (ty := .boolean) hx hb hr (bI_and _) (fun t ht hW => ⟨⟨(bI (mIn v0 0 (μ 1 0 - 1))), (), rfl, rfl, (by rw [ht]; exact hP), hD⟩, hS.F ht⟩) hS.2.2 dX5_isOne_11

set_option maxHeartbeats 4000000 in
set_option maxRecDepth 100000 in
theorem kX5_isApart (l : Launch) (D : va_G) (cy : Nat → ClassId) (sz : Nat) (mo : Nat) (ad : Nat → Nat) (μ : Nat → Nat → Int32) (si : Nat) (pi : Nat) (qi : Nat) (hs : si < 4) (hp : pi < 10) (hq : qi < 10) : Met l yX5_isApart wsX5_isApart ({ frames := 1, cells := 0, slots := 0, locals := 22 }) (vg_P D cy [.ref mo, .int (nI si), .int (nI pi), .int (nI qi)] sz (Mw cy mo ad μ)) (vg_Qi (S := Unit) D sz (Mw cy mo ad μ) (fun r _ => r = (bI (mIsA μ si pi qi))) (fun _ => Mw cy mo ad μ)) 0 0 (va_A (Mw cy mo ad μ) sz) := by
  refine Met.ofW (cc := cX5_isApart) (maxL := 4) (ret := (some .boolean)) (by decide) rfl ?_
  intro p e s m args below meth c s₁ BB hml hv
  obtain ⟨rfl, hsz, hP, hE, hD0⟩ := hv
  have hx := BB.exec
  have hb := BB.bytes
  have hr := BB.returns
  have hts := atoms_spec (ws := wsX5_isApart) BB.pre
  have hown : s.vm.findClass RX5 = some m.cls := findClass_of_methodNamed BB.named
  have hlocks := BB.notSynchronized
  subst hsz
  have hD := hD0.self (sz := s.heap.size)
  have hA : ∀ q : Nat, s.heap.size ≤ q → (va_A (Mw cy mo ad μ) s.heap.size) q := fun q h => Or.inr h
  have hS : va_S (va_A (Mw cy mo ad μ) s.heap.size) s.heap s.heap [] := va_S.rf
  have hin_RX5 : ∀ w ∈ u_ws RX5 TX5 26, w ∈ wsX5_isApart := by decide +kernel
  have hl := lv_entry ([.ref mo, .int (nI si), .int (nI pi), .int (nI qi)]) (n := 4) (Nat.le_of_ble_eq_true rfl)
  rw [lg_entry_eq]
  generalize (lg_sl ([.ref mo, .int (nI si), .int (nI pi), .int (nI qi)]) ++ List.replicate (4 - (lg_sl ([.ref mo, .int (nI si), .int (nI pi), .int (nI qi)])).length) Slot.unset).toArray = ls at hl ⊢
  have hl : lv_has ls 4 [(0, .ref mo), (1, .int (nI si)), (2, .int (nI pi)), (3, .int (nI qi))] := hl
  refine lv_aload_n hx hb dX5_isApart_0 rfl (lv_at hl 0 rfl) ?_
  refine va_get (D := D) (ci := 6) (v := .ref (ad 5)) (C := RX5) (T := TX5) (N := 26) hx hb hts hin_RX5 hown hE.1 hP 0 rfl rfl 5 (by decide) (hts (.fieldLink RX5 20 "VillagepostModel" "blocks" "[Z") (by decide +kernel)) (fun _ h9 => h9) rfl dX5_isApart_1 ?_
  refine lv_iload_n hx hb dX5_isApart_4 rfl (lv_at hl 1 rfl) ?_
  refine lv_iload_n hx hb dX5_isApart_5 rfl (lv_at hl 2 rfl) ?_
  refine lv_iload_n hx hb dX5_isApart_6 rfl (lv_at hl 3 rfl) ?_
  refine vg_calliP (va_runS (As := [.int (nI si), .int (nI pi), .int (nI qi)]) (rest := [.ref (ad 5)]) ⟨hx, hb, hml, hown, hts⟩ (kX5_at l D cy s.heap.size si pi qi) (va_cwS 3 hts gX5_isApart_X5_at rfl rfl rfl (by decide +kernel) ⟨Nat.le_of_ble_eq_true rfl, Nat.le_of_ble_eq_true rfl⟩) (vg_P.preS hE vg_P0 (A := fun _ => True) vg_D0) rfl rfl hl.1 rfl (lv_room (Nat.le_of_ble_eq_true rfl)) dX5_isApart_7 ⟨Nat.le_of_ble_eq_true rfl, Nat.le_of_ble_eq_true rfl⟩) hP hD hS hA (fun r _ H locs hr hP hD hS => ?_)
  subst hr
  refine vg_zald hx hb hE.1 hP 4 2 rfl rfl (f := μ 5) (j := (100 * si + 10 * pi + qi)) (by omega) (by decide) dX5_isApart_10 ?_
  refine lv_if_ne (tgt := 28) hx hb dX5_isApart_11 (by decide) (fun r1 => ?_) (fun r1 => ?_)
  · have c1 := r1
    refine lv_iconst (v := 1) hx hb dX5_isApart_28 (by decide) ?_
    refine lv_goto (tgt := 33) hx hb dX5_isApart_29 (by decide) ?_
    refine vg_tp (bI (mIsA μ si pi qi)) (by simp [bI, mIsA, c1]) ?_
    exact W.zret (v := (bI (mIsA μ si pi qi))) (ty := .boolean) hx hb hr (bI_and _) (fun t ht hW => ⟨⟨(bI (mIsA μ si pi qi)), (), rfl, rfl, (by rw [ht]; exact hP), hD⟩, hS.F ht⟩) hS.2.2 dX5_isApart_33
  · have c1 := r1
    refine lv_aload_n hx hb dX5_isApart_14 rfl (lv_at hl 0 rfl) ?_
    refine va_get (D := D) (ci := 6) (v := .ref (ad 5)) (C := RX5) (T := TX5) (N := 26) hx hb hts hin_RX5 hown hE.1 hP 0 rfl rfl 5 (by decide) (hts (.fieldLink RX5 20 "VillagepostModel" "blocks" "[Z") (by decide +kernel)) (fun _ h9 => h9) rfl dX5_isApart_15 ?_
    refine lv_iload_n hx hb dX5_isApart_18 rfl (lv_at hl 1 rfl) ?_
    refine lv_iload_n hx hb dX5_isApart_19 rfl (lv_at hl 3 rfl) ?_
    refine lv_iload_n hx hb dX5_isApart_20 rfl (lv_at hl 2 rfl) ?_
    refine vg_calliP (va_runS (As := [.int (nI si), .int (nI qi), .int (nI pi)]) (rest := [.ref (ad 5)]) ⟨hx, hb, hml, hown, hts⟩ (kX5_at l D cy H.size si qi pi) (va_cwS 3 hts gX5_isApart_X5_at rfl rfl rfl (by decide +kernel) ⟨Nat.le_of_ble_eq_true rfl, Nat.le_of_ble_eq_true rfl⟩) (vg_P.preS hE vg_P0 (A := fun _ => True) vg_D0) rfl rfl hl.1 rfl (lv_room (Nat.le_of_ble_eq_true rfl)) dX5_isApart_21 ⟨Nat.le_of_ble_eq_true rfl, Nat.le_of_ble_eq_true rfl⟩) hP hD hS hA (fun r _ H locs hr hP hD hS => ?_)
    subst hr
    refine vg_zald hx hb hE.1 hP 4 2 rfl rfl (f := μ 5) (j := (100 * si + 10 * qi + pi)) (by omega) (by decide) dX5_isApart_24 ?_
    refine lv_if_eq (tgt := 32) hx hb dX5_isApart_25 (by decide) (fun r2 => ?_) (fun r2 => ?_)
    · have c2 := r2
      refine lv_iconst (v := 0) hx hb dX5_isApart_32 (by decide) ?_
      refine vg_tp (bI (mIsA μ si pi qi)) (by simp [bI, mIsA, c1, c2]) ?_
      exact W.zret (v := (bI (mIsA μ si pi qi))) (ty := .boolean) hx hb hr (bI_and _) (fun t ht hW => ⟨⟨(bI (mIsA μ si pi qi)), (), rfl, rfl, (by rw [ht]; exact hP), hD⟩, hS.F ht⟩) hS.2.2 dX5_isApart_33
    · have c2 := r2
      refine lv_iconst (v := 1) hx hb dX5_isApart_28 (by decide) ?_
      refine lv_goto (tgt := 33) hx hb dX5_isApart_29 (by decide) ?_
      refine vg_tp (bI (mIsA μ si pi qi)) (by simp [bI, mIsA, c1, c2]) ?_
      exact W.zret (v := (bI (mIsA μ si pi qi))) (ty := .boolean) hx hb hr (bI_and _) (fun t ht hW => ⟨⟨(bI (mIsA μ si pi qi)), (), rfl, rfl, (by rw [ht]; exact hP), hD⟩, hS.F ht⟩) hS.2.2 dX5_isApart_33

set_option maxHeartbeats 4000000 in
set_option maxRecDepth 100000 in
theorem kX5_follows (l : Launch) (D : va_G) (cy : Nat → ClassId) (sz : Nat) (mo : Nat) (ad : Nat → Nat) (μ : Nat → Nat → Int32) (si : Nat) (pi : Nat) (qi : Nat) (hs : si < 4) (hp : pi < 10) (hq : qi < 10) : Met l yX5_follows wsX5_follows ({ frames := 1, cells := 0, slots := 0, locals := 22 }) (vg_P D cy [.ref mo, .int (nI si), .int (nI pi), .int (nI qi)] sz (Mw cy mo ad μ)) (vg_Qv (S := Unit) D sz (Mw cy mo ad μ) (fun _ => True) (fun _ => Mw cy mo ad (mFol μ si pi qi))) 0 0 (va_A (Mw cy mo ad μ) sz) := by
  refine Met.ofW (cc := cX5_follows) (maxL := 4) (ret := none) (by decide) rfl ?_
  intro p e s m args below meth c s₁ BB hml hv
  obtain ⟨rfl, hsz, hP, hE, hD0⟩ := hv
  have hx := BB.exec
  have hb := BB.bytes
  have hr := BB.returns
  have hts := atoms_spec (ws := wsX5_follows) BB.pre
  have hown : s.vm.findClass RX5 = some m.cls := findClass_of_methodNamed BB.named
  have hlocks := BB.notSynchronized
  subst hsz
  have hD := hD0.self (sz := s.heap.size)
  have hA : ∀ q : Nat, s.heap.size ≤ q → (va_A (Mw cy mo ad μ) s.heap.size) q := fun q h => Or.inr h
  have hS : va_S (va_A (Mw cy mo ad μ) s.heap.size) s.heap s.heap [] := va_S.rf
  have hin_RX5 : ∀ w ∈ u_ws RX5 TX5 26, w ∈ wsX5_follows := by decide +kernel
  have hl := lv_entry ([.ref mo, .int (nI si), .int (nI pi), .int (nI qi)]) (n := 4) (Nat.le_of_ble_eq_true rfl)
  rw [lg_entry_eq]
  generalize (lg_sl ([.ref mo, .int (nI si), .int (nI pi), .int (nI qi)]) ++ List.replicate (4 - (lg_sl ([.ref mo, .int (nI si), .int (nI pi), .int (nI qi)])).length) Slot.unset).toArray = ls at hl ⊢
  have hl : lv_has ls 4 [(0, .ref mo), (1, .int (nI si)), (2, .int (nI pi)), (3, .int (nI qi))] := hl
  refine lv_aload_n hx hb dX5_follows_0 rfl (lv_at hl 0 rfl) ?_
  refine va_get (D := D) (ci := 6) (v := .ref (ad 4)) (C := RX5) (T := TX5) (N := 26) hx hb hts hin_RX5 hown hE.1 hP 0 rfl rfl 4 (by decide) (hts (.fieldLink RX5 17 "VillagepostModel" "follows" "[Z") (by decide +kernel)) (fun _ h9 => h9) rfl dX5_follows_1 ?_
  refine lv_iload_n hx hb dX5_follows_4 rfl (lv_at hl 1 rfl) ?_
  refine lv_iload_n hx hb dX5_follows_5 rfl (lv_at hl 2 rfl) ?_
  refine lv_iload_n hx hb dX5_follows_6 rfl (lv_at hl 3 rfl) ?_
  refine vg_calliP (va_runS (As := [.int (nI si), .int (nI pi), .int (nI qi)]) (rest := [.ref (ad 4)]) ⟨hx, hb, hml, hown, hts⟩ (kX5_at l D cy s.heap.size si pi qi) (va_cwS 3 hts gX5_follows_X5_at rfl rfl rfl (by decide +kernel) ⟨Nat.le_of_ble_eq_true rfl, Nat.le_of_ble_eq_true rfl⟩) (vg_P.preS hE vg_P0 (A := fun _ => True) vg_D0) rfl rfl hl.1 rfl (lv_room (Nat.le_of_ble_eq_true rfl)) dX5_follows_7 ⟨Nat.le_of_ble_eq_true rfl, Nat.le_of_ble_eq_true rfl⟩) hP hD hS hA (fun r _ H locs hr hP hD hS => ?_)
  subst hr
  refine lv_iconst (v := 1) hx hb dX5_follows_10 (by decide) ?_
  refine vg_zast hx hb hE.1 hP hD hS 3 2 rfl rfl (f := μ 4) (j := (100 * si + 10 * pi + qi)) (by omega) (by decide) (rfl) dX5_follows_11 (fun H locs hP hD hS => ?_)
  have hP : va_P D vwCl (Mw cy mo ad (va_up μ 4 (upd (μ 4) (100 * si + 10 * pi + qi) 1))) H := hP
  have hD : va_D (va_A (Mw cy mo ad μ) s.heap.size) (Mw cy mo ad (va_up μ 4 (upd (μ 4) (100 * si + 10 * pi + qi) 1))) := hD
  refine lv_aload_n hx hb dX5_follows_12 rfl (lv_at hl 0 rfl) ?_
  refine va_get (D := D) (ci := 6) (v := .ref (ad 3)) (C := RX5) (T := TX5) (N := 26) hx hb hts hin_RX5 hown hE.1 hP 0 rfl rfl 3 (by decide) (hts (.fieldLink RX5 13 "VillagepostModel" "asks" "[Z") (by decide +kernel)) (fun _ h9 => h9) rfl dX5_follows_13 ?_
  refine lv_iload_n hx hb dX5_follows_16 rfl (lv_at hl 1 rfl) ?_
  refine lv_iload_n hx hb dX5_follows_17 rfl (lv_at hl 2 rfl) ?_
  refine lv_iload_n hx hb dX5_follows_18 rfl (lv_at hl 3 rfl) ?_
  refine vg_calliP (va_runS (As := [.int (nI si), .int (nI pi), .int (nI qi)]) (rest := [.ref (ad 3)]) ⟨hx, hb, hml, hown, hts⟩ (kX5_at l D cy H.size si pi qi) (va_cwS 3 hts gX5_follows_X5_at rfl rfl rfl (by decide +kernel) ⟨Nat.le_of_ble_eq_true rfl, Nat.le_of_ble_eq_true rfl⟩) (vg_P.preS hE vg_P0 (A := fun _ => True) vg_D0) rfl rfl hl.1 rfl (lv_room (Nat.le_of_ble_eq_true rfl)) dX5_follows_19 ⟨Nat.le_of_ble_eq_true rfl, Nat.le_of_ble_eq_true rfl⟩) hP hD hS hA (fun r _ H locs hr hP hD hS => ?_)
  subst hr
  refine lv_iconst (v := 0) hx hb dX5_follows_22 (by decide) ?_
  refine vg_zast hx hb hE.1 hP hD hS 2 2 rfl rfl (f := μ 3) (j := (100 * si + 10 * pi + qi)) (by omega) (by decide) (rfl) dX5_follows_23 (fun H locs hP hD hS => ?_)
  have hP : va_P D vwCl (Mw cy mo ad (va_up (va_up μ 4 (upd (μ 4) (100 * si + 10 * pi + qi) 1)) 3 (upd (μ 3) (100 * si + 10 * pi + qi) 0))) H := hP
  have hD : va_D (va_A (Mw cy mo ad μ) s.heap.size) (Mw cy mo ad (va_up (va_up μ 4 (upd (μ 4) (100 * si + 10 * pi + qi) 1)) 3 (upd (μ 3) (100 * si + 10 * pi + qi) 0))) := hD
  have eW : va_up (va_up μ 4 (upd (μ 4) (100 * si + 10 * pi + qi) 1)) 3 (upd (μ 3) (100 * si + 10 * pi + qi) 0) = mFol μ si pi qi := by first | rfl | simp []
  have hP : va_P D vwCl (Mw cy mo ad (mFol μ si pi qi)) H := by rw [← eW]; exact hP
  have hD : va_D (va_A (Mw cy mo ad μ) s.heap.size) (Mw cy mo ad (mFol μ si pi qi)) := by rw [← eW]; exact hD
  exact W.vret hx hb hr (fun t ht hW => ⟨⟨(), rfl, trivial, (by rw [ht]; exact hP), hD⟩, hS.F ht⟩) hS.2.2 dX5_follows_24

set_option maxHeartbeats 4000000 in
set_option maxRecDepth 100000 in
theorem kX5_parts (l : Launch) (D : va_G) (cy : Nat → ClassId) (sz : Nat) (mo : Nat) (ad : Nat → Nat) (μ : Nat → Nat → Int32) (si : Nat) (pi : Nat) (qi : Nat) (hs : si < 4) (hp : pi < 10) (hq : qi < 10) : Met l yX5_parts wsX5_parts ({ frames := 1, cells := 0, slots := 0, locals := 22 }) (vg_P D cy [.ref mo, .int (nI si), .int (nI pi), .int (nI qi)] sz (Mw cy mo ad μ)) (vg_Qv (S := Unit) D sz (Mw cy mo ad μ) (fun _ => True) (fun _ => Mw cy mo ad (mPar μ si pi qi))) 0 0 (va_A (Mw cy mo ad μ) sz) := by
  refine Met.ofW (cc := cX5_parts) (maxL := 4) (ret := none) (by decide) rfl ?_
  intro p e s m args below meth c s₁ BB hml hv
  obtain ⟨rfl, hsz, hP, hE, hD0⟩ := hv
  have hx := BB.exec
  have hb := BB.bytes
  have hr := BB.returns
  have hts := atoms_spec (ws := wsX5_parts) BB.pre
  have hown : s.vm.findClass RX5 = some m.cls := findClass_of_methodNamed BB.named
  have hlocks := BB.notSynchronized
  subst hsz
  have hD := hD0.self (sz := s.heap.size)
  have hA : ∀ q : Nat, s.heap.size ≤ q → (va_A (Mw cy mo ad μ) s.heap.size) q := fun q h => Or.inr h
  have hS : va_S (va_A (Mw cy mo ad μ) s.heap.size) s.heap s.heap [] := va_S.rf
  have hin_RX5 : ∀ w ∈ u_ws RX5 TX5 26, w ∈ wsX5_parts := by decide +kernel
  have hl := lv_entry ([.ref mo, .int (nI si), .int (nI pi), .int (nI qi)]) (n := 4) (Nat.le_of_ble_eq_true rfl)
  rw [lg_entry_eq]
  generalize (lg_sl ([.ref mo, .int (nI si), .int (nI pi), .int (nI qi)]) ++ List.replicate (4 - (lg_sl ([.ref mo, .int (nI si), .int (nI pi), .int (nI qi)])).length) Slot.unset).toArray = ls at hl ⊢
  have hl : lv_has ls 4 [(0, .ref mo), (1, .int (nI si)), (2, .int (nI pi)), (3, .int (nI qi))] := hl
  refine lv_aload_n hx hb dX5_parts_0 rfl (lv_at hl 0 rfl) ?_
  refine va_get (D := D) (ci := 6) (v := .ref (ad 4)) (C := RX5) (T := TX5) (N := 26) hx hb hts hin_RX5 hown hE.1 hP 0 rfl rfl 4 (by decide) (hts (.fieldLink RX5 17 "VillagepostModel" "follows" "[Z") (by decide +kernel)) (fun _ h9 => h9) rfl dX5_parts_1 ?_
  refine lv_iload_n hx hb dX5_parts_4 rfl (lv_at hl 1 rfl) ?_
  refine lv_iload_n hx hb dX5_parts_5 rfl (lv_at hl 2 rfl) ?_
  refine lv_iload_n hx hb dX5_parts_6 rfl (lv_at hl 3 rfl) ?_
  refine vg_calliP (va_runS (As := [.int (nI si), .int (nI pi), .int (nI qi)]) (rest := [.ref (ad 4)]) ⟨hx, hb, hml, hown, hts⟩ (kX5_at l D cy s.heap.size si pi qi) (va_cwS 3 hts gX5_parts_X5_at rfl rfl rfl (by decide +kernel) ⟨Nat.le_of_ble_eq_true rfl, Nat.le_of_ble_eq_true rfl⟩) (vg_P.preS hE vg_P0 (A := fun _ => True) vg_D0) rfl rfl hl.1 rfl (lv_room (Nat.le_of_ble_eq_true rfl)) dX5_parts_7 ⟨Nat.le_of_ble_eq_true rfl, Nat.le_of_ble_eq_true rfl⟩) hP hD hS hA (fun r _ H locs hr hP hD hS => ?_)
  subst hr
  refine lv_iconst (v := 0) hx hb dX5_parts_10 (by decide) ?_
  refine vg_zast hx hb hE.1 hP hD hS 3 2 rfl rfl (f := μ 4) (j := (100 * si + 10 * pi + qi)) (by omega) (by decide) (rfl) dX5_parts_11 (fun H locs hP hD hS => ?_)
  have hP : va_P D vwCl (Mw cy mo ad (va_up μ 4 (upd (μ 4) (100 * si + 10 * pi + qi) 0))) H := hP
  have hD : va_D (va_A (Mw cy mo ad μ) s.heap.size) (Mw cy mo ad (va_up μ 4 (upd (μ 4) (100 * si + 10 * pi + qi) 0))) := hD
  refine lv_aload_n hx hb dX5_parts_12 rfl (lv_at hl 0 rfl) ?_
  refine va_get (D := D) (ci := 6) (v := .ref (ad 3)) (C := RX5) (T := TX5) (N := 26) hx hb hts hin_RX5 hown hE.1 hP 0 rfl rfl 3 (by decide) (hts (.fieldLink RX5 13 "VillagepostModel" "asks" "[Z") (by decide +kernel)) (fun _ h9 => h9) rfl dX5_parts_13 ?_
  refine lv_iload_n hx hb dX5_parts_16 rfl (lv_at hl 1 rfl) ?_
  refine lv_iload_n hx hb dX5_parts_17 rfl (lv_at hl 2 rfl) ?_
  refine lv_iload_n hx hb dX5_parts_18 rfl (lv_at hl 3 rfl) ?_
  refine vg_calliP (va_runS (As := [.int (nI si), .int (nI pi), .int (nI qi)]) (rest := [.ref (ad 3)]) ⟨hx, hb, hml, hown, hts⟩ (kX5_at l D cy H.size si pi qi) (va_cwS 3 hts gX5_parts_X5_at rfl rfl rfl (by decide +kernel) ⟨Nat.le_of_ble_eq_true rfl, Nat.le_of_ble_eq_true rfl⟩) (vg_P.preS hE vg_P0 (A := fun _ => True) vg_D0) rfl rfl hl.1 rfl (lv_room (Nat.le_of_ble_eq_true rfl)) dX5_parts_19 ⟨Nat.le_of_ble_eq_true rfl, Nat.le_of_ble_eq_true rfl⟩) hP hD hS hA (fun r _ H locs hr hP hD hS => ?_)
  subst hr
  refine lv_iconst (v := 0) hx hb dX5_parts_22 (by decide) ?_
  refine vg_zast hx hb hE.1 hP hD hS 2 2 rfl rfl (f := μ 3) (j := (100 * si + 10 * pi + qi)) (by omega) (by decide) (rfl) dX5_parts_23 (fun H locs hP hD hS => ?_)
  have hP : va_P D vwCl (Mw cy mo ad (va_up (va_up μ 4 (upd (μ 4) (100 * si + 10 * pi + qi) 0)) 3 (upd (μ 3) (100 * si + 10 * pi + qi) 0))) H := hP
  have hD : va_D (va_A (Mw cy mo ad μ) s.heap.size) (Mw cy mo ad (va_up (va_up μ 4 (upd (μ 4) (100 * si + 10 * pi + qi) 0)) 3 (upd (μ 3) (100 * si + 10 * pi + qi) 0))) := hD
  have eW : va_up (va_up μ 4 (upd (μ 4) (100 * si + 10 * pi + qi) 0)) 3 (upd (μ 3) (100 * si + 10 * pi + qi) 0) = mPar μ si pi qi := by first | rfl | simp []
  have hP : va_P D vwCl (Mw cy mo ad (mPar μ si pi qi)) H := by rw [← eW]; exact hP
  have hD : va_D (va_A (Mw cy mo ad μ) s.heap.size) (Mw cy mo ad (mPar μ si pi qi)) := by rw [← eW]; exact hD
  exact W.vret hx hb hr (fun t ht hW => ⟨⟨(), rfl, trivial, (by rw [ht]; exact hP), hD⟩, hS.F ht⟩) hS.2.2 dX5_parts_24

set_option maxHeartbeats 4000000 in
set_option maxRecDepth 100000 in
theorem kX5_sends (l : Launch) (D : va_G) (cy : Nat → ClassId) (sz : Nat) (mo : Nat) (ad : Nat → Nat) (μ : Nat → Nat → Int32) (act : Int32) (sv : Int32) (hla : mLast μ 1200) : Met l yX5_sends wsX5_sends ({ frames := 0, cells := 0, slots := 0, locals := 0 }) (vg_P D cy [.ref mo, .int act, .int sv] sz (Mw cy mo ad μ)) (vg_Qv (S := Unit) D sz (Mw cy mo ad μ) (fun _ => True) (fun _ => Mw cy mo ad (mSnd μ act sv 4))) 0 0 (va_A (Mw cy mo ad μ) sz) := by
  refine Met.ofW (cc := cX5_sends) (maxL := 4) (ret := none) (by decide) rfl ?_
  intro p e s m args below meth c s₁ BB hml hv
  obtain ⟨rfl, hsz, hP, hE, hD0⟩ := hv
  have hx := BB.exec
  have hb := BB.bytes
  have hr := BB.returns
  have hts := atoms_spec (ws := wsX5_sends) BB.pre
  have hown : s.vm.findClass RX5 = some m.cls := findClass_of_methodNamed BB.named
  have hlocks := BB.notSynchronized
  subst hsz
  have hD := hD0.self (sz := s.heap.size)
  have hA : ∀ q : Nat, s.heap.size ≤ q → (va_A (Mw cy mo ad μ) s.heap.size) q := fun q h => Or.inr h
  have hS : va_S (va_A (Mw cy mo ad μ) s.heap.size) s.heap s.heap [] := va_S.rf
  have hin_RX5 : ∀ w ∈ u_ws RX5 TX5 26, w ∈ wsX5_sends := by decide +kernel
  have hl := lv_entry ([.ref mo, .int act, .int sv]) (n := 4) (Nat.le_of_ble_eq_true rfl)
  rw [lg_entry_eq]
  generalize (lg_sl ([.ref mo, .int act, .int sv]) ++ List.replicate (4 - (lg_sl ([.ref mo, .int act, .int sv])).length) Slot.unset).toArray = ls at hl ⊢
  have hl : lv_has ls 4 [(0, .ref mo), (1, .int act), (2, .int sv)] := hl
  have L2 : ∀ (fuel : Nat) (i0 : Nat), 4 - i0 < fuel → (i0 ≤ 4) → ∀ (H : Heap) (locs : List Loc), va_P D vwCl (Mw cy mo ad (mSnd μ act sv i0)) H → va_D (va_A (Mw cy mo ad μ) s.heap.size) (Mw cy mo ad (mSnd μ act sv i0)) → va_S (va_A (Mw cy mo ad μ) s.heap.size) s.heap H locs → ∀ ls : Array Slot, lv_has ls 4 [(0, .ref mo), (1, .int act), (2, .int sv), (3, .int (nI i0))] → W p l e (headSpec wsX5_sends ({ frames := 0, cells := 0, slots := 0, locals := 0 })).room s m ([.ref mo, .int act, .int sv] : List Value).toArray below meth c H locs 0 0 (MQ below (vg_Qv (S := Unit) D s.heap.size (Mw cy mo ad μ) (fun _ => True) (fun _ => Mw cy mo ad (mSnd μ act sv 4))) ([.ref mo, .int act, .int sv] : List Value).toArray s 0 0 (va_A (Mw cy mo ad μ) s.heap.size)) (F0 m 2 ls []) := by
    intro fuel
    induction fuel with
    | zero => intros; omega
    | succ fuel ih =>
      intro i0 hfuel hi H locs hP hD hS ls hl
      refine lv_iload_n hx hb dX5_sends_2 rfl (lv_at hl 3 rfl) ?_
      refine lv_iconst (v := 4) hx hb dX5_sends_3 (by decide) ?_
      refine lv_icmp_ge (tgt := 50) hx hb dX5_sends_4 (by decide) (fun r1 => ?_) (fun r1 => ?_)
      · have c1 : 4 ≤ i0 := (nI_leI (a := 4) (b := i0) (by omega) (by omega)).mp r1
        have e4 : i0 = 4 := by omega
        have eW : mSnd μ act sv i0 = mSnd μ act sv 4 := by rw [e4]
        have hP : va_P D vwCl (Mw cy mo ad (mSnd μ act sv 4)) H := by rw [← eW]; exact hP
        have hD : va_D (va_A (Mw cy mo ad μ) s.heap.size) (Mw cy mo ad (mSnd μ act sv 4)) := by rw [← eW]; exact hD
        exact W.vret hx hb hr (fun t ht hW => ⟨⟨(), rfl, trivial, (by rw [ht]; exact hP), hD⟩, hS.F ht⟩) hS.2.2 dX5_sends_50
      · have c1 : i0 < 4 := Nat.lt_of_not_le (fun q => r1 ((nI_leI (a := 4) (b := i0) (by omega) (by omega)).mpr q))
        refine lv_iload_n hx hb dX5_sends_7 rfl (lv_at hl 2 rfl) ?_
        refine lv_iload_n hx hb dX5_sends_8 rfl (lv_at hl 3 rfl) ?_
        refine lv_ishr hx hb dX5_sends_9 ?_
        refine lv_iconst (v := 1) hx hb dX5_sends_10 (by decide) ?_
        refine lv_iand hx hb dX5_sends_11 ?_
        refine lv_iconst (v := 1) hx hb dX5_sends_12 (by decide) ?_
        refine lv_icmp_ne (tgt := 44) hx hb dX5_sends_13 (by decide) (fun r2 => ?_) (fun r2 => ?_)
        · have c2 := r2
          refine lv_iinc (v := (nI (i0 + 1))) (lv' := [(3, .int (nI (i0 + 1))), (0, .ref mo), (1, .int act), (2, .int sv)]) hx hb dX5_sends_44 hl (k := 3) rfl (by first | rfl | exact nI_add _ _ | decide) (by decide) rfl (fun ls hl => ?_)
          have hl : lv_has ls 4 [(0, .ref mo), (1, .int act), (2, .int sv), (3, .int (nI (i0 + 1)))] := lv_sub hl [1, 2, 3, 0] rfl
          refine lv_goto (tgt := 2) hx hb dX5_sends_47 (by decide) ?_
          have eW : mSnd μ act sv i0 = mSnd μ act sv (i0 + 1) := by simp [mSnd, mSnd1, c1, c2]
          have hP : va_P D vwCl (Mw cy mo ad (mSnd μ act sv (i0 + 1))) H := by rw [← eW]; exact hP
          have hD : va_D (va_A (Mw cy mo ad μ) s.heap.size) (Mw cy mo ad (mSnd μ act sv (i0 + 1))) := by rw [← eW]; exact hD
          exact ih (i0 + 1) (by omega) (by omega) _ _ hP hD hS ls (by exact lv_sub hl [0, 1, 2, 3] rfl)
        · have c2 := r2
          refine lv_aload_n hx hb dX5_sends_16 rfl (lv_at hl 0 rfl) ?_
          refine va_get (D := D) (ci := 6) (v := .ref (ad 23)) (C := RX5) (T := TX5) (N := 26) hx hb hts hin_RX5 hown hE.1 hP 0 rfl rfl 23 (by decide) (hts (.fieldLink RX5 68 "VillagepostModel" "packet" "[I") (by decide +kernel)) (fun _ h9 => h9) rfl dX5_sends_17 ?_
          refine lv_sipush (v := 1200) hx hb dX5_sends_20 (by decide) ?_
          refine lv_iload_n hx hb dX5_sends_23 rfl (lv_at hl 3 rfl) ?_
          refine lv_imul hx hb dX5_sends_24 ?_
          refine vg_tp (nI (1200 * i0)) (pk_mul 1200 i0) ?_
          refine lv_aload_n hx hb dX5_sends_25 rfl (lv_at hl 0 rfl) ?_
          refine va_get (D := D) (ci := 6) (v := .ref (ad 25)) (C := RX5) (T := TX5) (N := 26) hx hb hts hin_RX5 hown hE.1 hP 0 rfl rfl 25 (by decide) (hts (.fieldLink RX5 74 "VillagepostModel" "last" "[I") (by decide +kernel)) (fun _ h9 => h9) rfl dX5_sends_26 ?_
          refine lv_iload_n hx hb dX5_sends_29 rfl (lv_at hl 3 rfl) ?_
          refine vg_iald hx hb hE.1 hP 22 0 rfl rfl (f := (mSnd μ act sv i0) 25) (j := i0) (by omega) (by decide) dX5_sends_30 ?_
          have hx9 : isN (mSnd μ act sv i0 25 i0) 1200 := by rw [mSnd_last μ act sv i0 (Nat.le_refl _)]; exact hla i0 (by omega)
          have hx8 := hx9.2
          refine vg_tp (nI (tn (mSnd μ act sv i0 25 i0))) (hx9.1) ?_
          refine lv_iadd hx hb dX5_sends_31 ?_
          refine vg_tp (nI (1200 * i0 + (tn (mSnd μ act sv i0 25 i0)))) (nI_add (1200 * i0) (tn (mSnd μ act sv i0 25 i0))) ?_
          refine lv_iload_n hx hb dX5_sends_32 rfl (lv_at hl 1 rfl) ?_
          refine vg_iast hx hb hE.1 hP hD hS 20 0 rfl rfl (f := (mSnd μ act sv i0) 23) (j := (1200 * i0 + (tn (mSnd μ act sv i0 25 i0)))) (by omega) (by decide) dX5_sends_33 (fun H locs hP hD hS => ?_)
          have hP : va_P D vwCl (Mw cy mo ad (va_up (mSnd μ act sv i0) 23 (upd ((mSnd μ act sv i0) 23) (1200 * i0 + (tn (mSnd μ act sv i0 25 i0))) act))) H := hP
          have hD : va_D (va_A (Mw cy mo ad μ) s.heap.size) (Mw cy mo ad (va_up (mSnd μ act sv i0) 23 (upd ((mSnd μ act sv i0) 23) (1200 * i0 + (tn (mSnd μ act sv i0 25 i0))) act))) := hD
          refine lv_aload_n hx hb dX5_sends_34 rfl (lv_at hl 0 rfl) ?_
          refine va_get (D := D) (ci := 6) (v := .ref (ad 25)) (C := RX5) (T := TX5) (N := 26) hx hb hts hin_RX5 hown hE.1 hP 0 rfl rfl 25 (by decide) (hts (.fieldLink RX5 74 "VillagepostModel" "last" "[I") (by decide +kernel)) (fun _ h9 => h9) rfl dX5_sends_35 ?_
          refine lv_iload_n hx hb dX5_sends_38 rfl (lv_at hl 3 rfl) ?_
          refine lv_dup2_11 hx hb dX5_sends_39 rfl rfl ?_
          refine vg_iald hx hb hE.1 hP 22 0 rfl rfl (f := (mSnd μ act sv i0) 25) (j := i0) (by omega) (by decide) dX5_sends_40 ?_
          refine lv_iconst (v := 1) hx hb dX5_sends_41 (by decide) ?_
          refine lv_iadd hx hb dX5_sends_42 ?_
          refine vg_iast hx hb hE.1 hP hD hS 22 0 rfl rfl (f := (mSnd μ act sv i0) 25) (j := i0) (by omega) (by decide) dX5_sends_43 (fun H locs hP hD hS => ?_)
          have hP : va_P D vwCl (Mw cy mo ad (va_up (va_up (mSnd μ act sv i0) 23 (upd ((mSnd μ act sv i0) 23) (1200 * i0 + (tn (mSnd μ act sv i0 25 i0))) act)) 25 (upd ((mSnd μ act sv i0) 25) i0 ((((mSnd μ act sv i0) 25) i0) + 1)))) H := hP
          have hD : va_D (va_A (Mw cy mo ad μ) s.heap.size) (Mw cy mo ad (va_up (va_up (mSnd μ act sv i0) 23 (upd ((mSnd μ act sv i0) 23) (1200 * i0 + (tn (mSnd μ act sv i0 25 i0))) act)) 25 (upd ((mSnd μ act sv i0) 25) i0 ((((mSnd μ act sv i0) 25) i0) + 1)))) := hD
          refine lv_iinc (v := (nI (i0 + 1))) (lv' := [(3, .int (nI (i0 + 1))), (0, .ref mo), (1, .int act), (2, .int sv)]) hx hb dX5_sends_44 hl (k := 3) rfl (by first | rfl | exact nI_add _ _ | decide) (by decide) rfl (fun ls hl => ?_)
          have hl : lv_has ls 4 [(0, .ref mo), (1, .int act), (2, .int sv), (3, .int (nI (i0 + 1)))] := lv_sub hl [1, 2, 3, 0] rfl
          refine lv_goto (tgt := 2) hx hb dX5_sends_47 (by decide) ?_
          have eW : va_up (va_up (mSnd μ act sv i0) 23 (upd ((mSnd μ act sv i0) 23) (1200 * i0 + (tn (mSnd μ act sv i0 25 i0))) act)) 25 (upd ((mSnd μ act sv i0) 25) i0 ((((mSnd μ act sv i0) 25) i0) + 1)) = mSnd μ act sv (i0 + 1) := by simp [mSnd, mSnd1, c1, c2]
          have hP : va_P D vwCl (Mw cy mo ad (mSnd μ act sv (i0 + 1))) H := by rw [← eW]; exact hP
          have hD : va_D (va_A (Mw cy mo ad μ) s.heap.size) (Mw cy mo ad (mSnd μ act sv (i0 + 1))) := by rw [← eW]; exact hD
          exact ih (i0 + 1) (by omega) (by omega) _ _ hP hD hS ls (by exact lv_sub hl [0, 1, 2, 3] rfl)
  refine lv_iconst (v := 0) hx hb dX5_sends_0 (by decide) ?_
  refine lv_istore_n (lv' := [(3, .int 0), (0, .ref mo), (1, .int act), (2, .int sv)]) hx hb dX5_sends_1 rfl hl (by decide) rfl (fun ls hl => ?_)
  have hl : lv_has ls 4 [(0, .ref mo), (1, .int act), (2, .int sv), (3, .int 0)] := lv_sub hl [1, 2, 3, 0] rfl
  have q3 : ((nI 0) : Int32) = 0 := by first | rfl | simp []
  have eW : μ = mSnd μ act sv 0 := by first | rfl | simp []
  have hP : va_P D vwCl (Mw cy mo ad (mSnd μ act sv 0)) s.heap := by rw [← eW]; exact hP
  have hD : va_D (va_A (Mw cy mo ad μ) s.heap.size) (Mw cy mo ad (mSnd μ act sv 0)) := by rw [← eW]; exact hD
  exact L2 ((4 - 0) + 1) 0 (by omega) (by omega) _ _ hP hD hS ls (by rw [q3]; exact lv_sub hl [0, 1, 2, 3] rfl)

set_option maxHeartbeats 4000000 in
set_option maxRecDepth 100000 in
theorem kX5_servers (l : Launch) (D : va_G) (cy : Nat → ClassId) (sz : Nat) (mo : Nat) (ad : Nat → Nat) (μ : Nat → Nat → Int32) (si : Nat) (pi : Nat) (hpe : isN (μ 1 0) 11) (hs : si < 4) (hp : pi < 10) : Met l yX5_servers wsX5_servers ({ frames := 1, cells := 0, slots := 0, locals := 22 }) (vg_P D cy [.ref mo, .int (nI si), .int (nI pi)] sz (Mw cy mo ad μ)) (vg_Qi (S := Unit) D sz (Mw cy mo ad μ) (fun r _ => r = (mSrv μ si pi)) (fun _ => Mw cy mo ad μ)) 0 0 (va_A (Mw cy mo ad μ) sz) := by
  refine Met.ofW (cc := cX5_servers) (maxL := 5) (ret := (some .int)) (by decide) rfl ?_
  intro p e s m args below meth c s₁ BB hml hv
  obtain ⟨rfl, hsz, hP, hE, hD0⟩ := hv
  have hx := BB.exec
  have hb := BB.bytes
  have hr := BB.returns
  have hts := atoms_spec (ws := wsX5_servers) BB.pre
  have hown : s.vm.findClass RX5 = some m.cls := findClass_of_methodNamed BB.named
  have hlocks := BB.notSynchronized
  subst hsz
  have hD := hD0.self (sz := s.heap.size)
  have hA : ∀ q : Nat, s.heap.size ≤ q → (va_A (Mw cy mo ad μ) s.heap.size) q := fun q h => Or.inr h
  have hS : va_S (va_A (Mw cy mo ad μ) s.heap.size) s.heap s.heap [] := va_S.rf
  have hin_RX5 : ∀ w ∈ u_ws RX5 TX5 26, w ∈ wsX5_servers := by decide +kernel
  have hl := lv_entry ([.ref mo, .int (nI si), .int (nI pi)]) (n := 5) (Nat.le_of_ble_eq_true rfl)
  rw [lg_entry_eq]
  generalize (lg_sl ([.ref mo, .int (nI si), .int (nI pi)]) ++ List.replicate (5 - (lg_sl ([.ref mo, .int (nI si), .int (nI pi)])).length) Slot.unset).toArray = ls at hl ⊢
  have hl : lv_has ls 5 [(0, .ref mo), (1, .int (nI si)), (2, .int (nI pi))] := hl
  have hpe2 := hpe.2
  have L5 : ∀ (fuel : Nat) (q0 : Nat), tn (μ 1 0) - q0 < fuel → (q0 ≤ tn (μ 1 0)) → ∀ (H : Heap) (locs : List Loc), va_P D vwCl (Mw cy mo ad μ) H → va_D (va_A (Mw cy mo ad μ) s.heap.size) (Mw cy mo ad μ) → va_S (va_A (Mw cy mo ad μ) s.heap.size) s.heap H locs → ∀ ls : Array Slot, lv_has ls 5 [(0, .ref mo), (1, .int (nI si)), (2, .int (nI pi)), (3, .int (mSvr μ si pi q0)), (4, .int (nI q0))] → W p l e (headSpec wsX5_servers ({ frames := 1, cells := 0, slots := 0, locals := 22 })).room s m ([.ref mo, .int (nI si), .int (nI pi)] : List Value).toArray below meth c H locs 0 0 (MQ below (vg_Qi (S := Unit) D s.heap.size (Mw cy mo ad μ) (fun r _ => r = (mSrv μ si pi)) (fun _ => Mw cy mo ad μ)) ([.ref mo, .int (nI si), .int (nI pi)] : List Value).toArray s 0 0 (va_A (Mw cy mo ad μ) s.heap.size)) (F0 m 5 ls []) := by
    intro fuel
    induction fuel with
    | zero => intros; omega
    | succ fuel ih =>
      intro q0 hfuel hi H locs hP hD hS ls hl
      refine lv_iload hx hb dX5_servers_5 (lv_at hl 4 rfl) ?_
      refine lv_aload_n hx hb dX5_servers_7 rfl (lv_at hl 0 rfl) ?_
      refine va_get (D := D) (ci := 6) (v := .int ((μ 1) 0)) (C := RX5) (T := TX5) (N := 26) hx hb hts hin_RX5 hown hE.1 hP 0 rfl rfl 1 (by decide) (hts (.fieldLink RX5 81 "VillagepostModel" "people" "I") (by decide +kernel)) (fun _ h9 => h9) rfl dX5_servers_8 ?_
      refine vg_tp (nI (tn ((μ 1) 0))) hpe.1 ?_
      refine lv_icmp_ge (tgt := 51) hx hb dX5_servers_11 (by decide) (fun r1 => ?_) (fun r1 => ?_)
      · have c1 : tn ((μ 1) 0) ≤ q0 := (nI_leI (a := tn ((μ 1) 0)) (b := q0) (by omega) (by omega)).mp r1
        have e4 : q0 = tn (μ 1 0) := by omega
        refine lv_iload_n hx hb dX5_servers_51 rfl (lv_at hl 3 rfl) ?_
        refine lv_iconst (v := 1) hx hb dX5_servers_52 (by decide) ?_
        refine lv_iload_n hx hb dX5_servers_53 rfl (lv_at hl 1 rfl) ?_
        refine lv_ishl hx hb dX5_servers_54 ?_
        refine lv_iconst (v := (-1)) hx hb dX5_servers_55 (by decide) ?_
        refine lv_ixor hx hb dX5_servers_56 ?_
        refine lv_iand hx hb dX5_servers_57 ?_
        refine vg_tp (mSrv μ si pi) (by rw [e4]; rfl) ?_
        exact W.iret (v := (mSrv μ si pi)) hx hb hr (fun t ht hW => ⟨⟨(mSrv μ si pi), (), rfl, rfl, (by rw [ht]; exact hP), hD⟩, hS.F ht⟩) hS.2.2 dX5_servers_58
      · have c1 : q0 < tn ((μ 1) 0) := Nat.lt_of_not_le (fun q => r1 ((nI_leI (a := tn ((μ 1) 0)) (b := q0) (by omega) (by omega)).mpr q))
        refine lv_iload_n hx hb dX5_servers_14 rfl (lv_at hl 3 rfl) ?_
        refine lv_aload_n hx hb dX5_servers_15 rfl (lv_at hl 0 rfl) ?_
        refine va_get (D := D) (ci := 6) (v := .ref (ad 4)) (C := RX5) (T := TX5) (N := 26) hx hb hts hin_RX5 hown hE.1 hP 0 rfl rfl 4 (by decide) (hts (.fieldLink RX5 17 "VillagepostModel" "follows" "[Z") (by decide +kernel)) (fun _ h9 => h9) rfl dX5_servers_16 ?_
        refine lv_iload_n hx hb dX5_servers_19 rfl (lv_at hl 1 rfl) ?_
        refine lv_iload hx hb dX5_servers_20 (lv_at hl 4 rfl) ?_
        refine lv_iload_n hx hb dX5_servers_22 rfl (lv_at hl 2 rfl) ?_
        refine vg_calliP (va_runS (As := [.int (nI si), .int (nI q0), .int (nI pi)]) (rest := [.ref (ad 4), .int (mSvr μ si pi q0)]) ⟨hx, hb, hml, hown, hts⟩ (kX5_at l D cy H.size si q0 pi) (va_cwS 3 hts gX5_servers_X5_at rfl rfl rfl (by decide +kernel) ⟨Nat.le_of_ble_eq_true rfl, Nat.le_of_ble_eq_true rfl⟩) (vg_P.preS hE vg_P0 (A := fun _ => True) vg_D0) rfl rfl hl.1 rfl (lv_room (Nat.le_of_ble_eq_true rfl)) dX5_servers_23 ⟨Nat.le_of_ble_eq_true rfl, Nat.le_of_ble_eq_true rfl⟩) hP hD hS hA (fun r _ H locs hr hP hD hS => ?_)
        subst hr
        refine vg_zald hx hb hE.1 hP 3 2 rfl rfl (f := μ 4) (j := (100 * si + 10 * q0 + pi)) (by omega) (by decide) dX5_servers_26 ?_
        refine lv_if_eq (tgt := 42) hx hb dX5_servers_27 (by decide) (fun r2 => ?_) (fun r2 => ?_)
        · have c2 := r2
          refine lv_iconst (v := 0) hx hb dX5_servers_42 (by decide) ?_
          refine lv_ior hx hb dX5_servers_43 ?_
          refine lv_istore_n (lv' := [(3, .int ((mSvr μ si pi q0) ||| 0)), (0, .ref mo), (1, .int (nI si)), (2, .int (nI pi)), (4, .int (nI q0))]) hx hb dX5_servers_44 rfl hl (by decide) rfl (fun ls hl => ?_)
          have hl : lv_has ls 5 [(0, .ref mo), (1, .int (nI si)), (2, .int (nI pi)), (3, .int ((mSvr μ si pi q0) ||| 0)), (4, .int (nI q0))] := lv_sub hl [1, 2, 3, 0, 4] rfl
          refine lv_iinc (v := (nI (q0 + 1))) (lv' := [(4, .int (nI (q0 + 1))), (0, .ref mo), (1, .int (nI si)), (2, .int (nI pi)), (3, .int ((mSvr μ si pi q0) ||| 0))]) hx hb dX5_servers_45 hl (k := 4) rfl (by first | rfl | exact nI_add _ _ | decide) (by decide) rfl (fun ls hl => ?_)
          have hl : lv_has ls 5 [(0, .ref mo), (1, .int (nI si)), (2, .int (nI pi)), (3, .int ((mSvr μ si pi q0) ||| 0)), (4, .int (nI (q0 + 1)))] := lv_sub hl [1, 2, 3, 4, 0] rfl
          refine lv_goto (tgt := 5) hx hb dX5_servers_48 (by decide) ?_
          have q3 : ((mSvr μ si pi (q0 + 1)) : Int32) = ((mSvr μ si pi q0) ||| 0) := by simp [mSvr, c1, c2]
          exact ih (q0 + 1) (by omega) (by omega) _ _ hP hD hS ls (by rw [q3]; exact lv_sub hl [0, 1, 2, 3, 4] rfl)
        · have c2 := r2
          refine lv_iconst (v := 1) hx hb dX5_servers_30 (by decide) ?_
          refine lv_aload_n hx hb dX5_servers_31 rfl (lv_at hl 0 rfl) ?_
          refine va_get (D := D) (ci := 6) (v := .ref (ad 2)) (C := RX5) (T := TX5) (N := 26) hx hb hts hin_RX5 hown hE.1 hP 0 rfl rfl 2 (by decide) (hts (.fieldLink RX5 7 "VillagepostModel" "home" "[I") (by decide +kernel)) (fun _ h9 => h9) rfl dX5_servers_32 ?_
          refine lv_iload hx hb dX5_servers_35 (lv_at hl 4 rfl) ?_
          refine vg_iald hx hb hE.1 hP 1 0 rfl rfl (f := μ 2) (j := q0) (by omega) (by decide) dX5_servers_37 ?_
          refine lv_ishl hx hb dX5_servers_38 ?_
          refine lv_goto (tgt := 43) hx hb dX5_servers_39 (by decide) ?_
          refine lv_ior hx hb dX5_servers_43 ?_
          refine lv_istore_n (lv' := [(3, .int ((mSvr μ si pi q0) ||| ((1 : Int32) <<< (((μ 2) q0) &&& 31)))), (0, .ref mo), (1, .int (nI si)), (2, .int (nI pi)), (4, .int (nI q0))]) hx hb dX5_servers_44 rfl hl (by decide) rfl (fun ls hl => ?_)
          have hl : lv_has ls 5 [(0, .ref mo), (1, .int (nI si)), (2, .int (nI pi)), (3, .int ((mSvr μ si pi q0) ||| ((1 : Int32) <<< (((μ 2) q0) &&& 31)))), (4, .int (nI q0))] := lv_sub hl [1, 2, 3, 0, 4] rfl
          refine lv_iinc (v := (nI (q0 + 1))) (lv' := [(4, .int (nI (q0 + 1))), (0, .ref mo), (1, .int (nI si)), (2, .int (nI pi)), (3, .int ((mSvr μ si pi q0) ||| ((1 : Int32) <<< (((μ 2) q0) &&& 31))))]) hx hb dX5_servers_45 hl (k := 4) rfl (by first | rfl | exact nI_add _ _ | decide) (by decide) rfl (fun ls hl => ?_)
          have hl : lv_has ls 5 [(0, .ref mo), (1, .int (nI si)), (2, .int (nI pi)), (3, .int ((mSvr μ si pi q0) ||| ((1 : Int32) <<< (((μ 2) q0) &&& 31)))), (4, .int (nI (q0 + 1)))] := lv_sub hl [1, 2, 3, 4, 0] rfl
          refine lv_goto (tgt := 5) hx hb dX5_servers_48 (by decide) ?_
          have q4 : ((mSvr μ si pi (q0 + 1)) : Int32) = ((mSvr μ si pi q0) ||| ((1 : Int32) <<< (((μ 2) q0) &&& 31))) := by simp [mSvr, c1, c2]
          exact ih (q0 + 1) (by omega) (by omega) _ _ hP hD hS ls (by rw [q4]; exact lv_sub hl [0, 1, 2, 3, 4] rfl)
  refine lv_iconst (v := 0) hx hb dX5_servers_0 (by decide) ?_
  refine lv_istore_n (lv' := [(3, .int 0), (0, .ref mo), (1, .int (nI si)), (2, .int (nI pi))]) hx hb dX5_servers_1 rfl hl (by decide) rfl (fun ls hl => ?_)
  have hl : lv_has ls 5 [(0, .ref mo), (1, .int (nI si)), (2, .int (nI pi)), (3, .int 0)] := lv_sub hl [1, 2, 3, 0] rfl
  refine lv_iconst (v := 0) hx hb dX5_servers_2 (by decide) ?_
  refine lv_istore (lv' := [(4, .int 0), (0, .ref mo), (1, .int (nI si)), (2, .int (nI pi)), (3, .int 0)]) hx hb dX5_servers_3 hl (by decide) rfl (fun ls hl => ?_)
  have hl : lv_has ls 5 [(0, .ref mo), (1, .int (nI si)), (2, .int (nI pi)), (3, .int 0), (4, .int 0)] := lv_sub hl [1, 2, 3, 4, 0] rfl
  have q5 : ((mSvr μ si pi 0) : Int32) = 0 := by first | rfl | simp []
  have q6 : ((nI 0) : Int32) = 0 := by first | rfl | simp []
  exact L5 ((tn (μ 1 0) - 0) + 1) 0 (by omega) (by omega) _ _ hP hD hS ls (by rw [q5, q6]; exact lv_sub hl [0, 1, 2, 3, 4] rfl)

set_option maxHeartbeats 4000000 in
set_option maxRecDepth 100000 in
theorem kX5_moves (l : Launch) (D : va_G) (cy : Nat → ClassId) (sz : Nat) (mo : Nat) (ad : Nat → Nat) (μ : Nat → Nat → Int32) (si : Nat) (pi : Nat) (qi : Nat) (all : Int32) (hpe : isN (μ 1 0) 11) (hs : si < 4) (hp : pi < 10) (hq : qi < 10) : Met l yX5_moves wsX5_moves ({ frames := 2, cells := 0, slots := 0, locals := 45 }) (vg_P D cy [.ref mo, .int (nI si), .int (nI pi), .int (nI qi), .int all] sz (Mw cy mo ad μ)) (vg_Qv (S := Unit) D sz (Mw cy mo ad μ) (fun _ => True) (fun _ => Mw cy mo ad (mMov μ si pi qi all (tn (μ 1 0))))) 0 0 (va_A (Mw cy mo ad μ) sz) := by
  refine Met.ofW (cc := cX5_moves) (maxL := 6) (ret := none) (by decide) rfl ?_
  intro p e s m args below meth c s₁ BB hml hv
  obtain ⟨rfl, hsz, hP, hE, hD0⟩ := hv
  have hx := BB.exec
  have hb := BB.bytes
  have hr := BB.returns
  have hts := atoms_spec (ws := wsX5_moves) BB.pre
  have hown : s.vm.findClass RX5 = some m.cls := findClass_of_methodNamed BB.named
  have hlocks := BB.notSynchronized
  subst hsz
  have hD := hD0.self (sz := s.heap.size)
  have hA : ∀ q : Nat, s.heap.size ≤ q → (va_A (Mw cy mo ad μ) s.heap.size) q := fun q h => Or.inr h
  have hS : va_S (va_A (Mw cy mo ad μ) s.heap.size) s.heap s.heap [] := va_S.rf
  have hin_RX5 : ∀ w ∈ u_ws RX5 TX5 26, w ∈ wsX5_moves := by decide +kernel
  have hl := lv_entry ([.ref mo, .int (nI si), .int (nI pi), .int (nI qi), .int all]) (n := 6) (Nat.le_of_ble_eq_true rfl)
  rw [lg_entry_eq]
  generalize (lg_sl ([.ref mo, .int (nI si), .int (nI pi), .int (nI qi), .int all]) ++ List.replicate (6 - (lg_sl ([.ref mo, .int (nI si), .int (nI pi), .int (nI qi), .int all])).length) Slot.unset).toArray = ls at hl ⊢
  have hl : lv_has ls 6 [(0, .ref mo), (1, .int (nI si)), (2, .int (nI pi)), (3, .int (nI qi)), (4, .int all)] := hl
  have hpe2 := hpe.2
  have L3 : ∀ (fuel : Nat) (f0 : Nat), tn (μ 1 0) - f0 < fuel → (f0 ≤ tn (μ 1 0)) → ∀ (H : Heap) (locs : List Loc), va_P D vwCl (Mw cy mo ad (mMov μ si pi qi all f0)) H → va_D (va_A (Mw cy mo ad μ) s.heap.size) (Mw cy mo ad (mMov μ si pi qi all f0)) → va_S (va_A (Mw cy mo ad μ) s.heap.size) s.heap H locs → ∀ ls : Array Slot, lv_has ls 6 [(0, .ref mo), (1, .int (nI si)), (2, .int (nI pi)), (3, .int (nI qi)), (4, .int all), (5, .int (nI f0))] → W p l e (headSpec wsX5_moves ({ frames := 2, cells := 0, slots := 0, locals := 45 })).room s m ([.ref mo, .int (nI si), .int (nI pi), .int (nI qi), .int all] : List Value).toArray below meth c H locs 0 0 (MQ below (vg_Qv (S := Unit) D s.heap.size (Mw cy mo ad μ) (fun _ => True) (fun _ => Mw cy mo ad (mMov μ si pi qi all (tn (μ 1 0))))) ([.ref mo, .int (nI si), .int (nI pi), .int (nI qi), .int all] : List Value).toArray s 0 0 (va_A (Mw cy mo ad μ) s.heap.size)) (F0 m 3 ls []) := by
    intro fuel
    induction fuel with
    | zero => intros; omega
    | succ fuel ih =>
      intro f0 hfuel hi H locs hP hD hS ls hl
      refine lv_iload hx hb dX5_moves_3 (lv_at hl 5 rfl) ?_
      refine lv_aload_n hx hb dX5_moves_5 rfl (lv_at hl 0 rfl) ?_
      refine va_get (D := D) (ci := 6) (v := .int (((mMov μ si pi qi all f0) 1) 0)) (C := RX5) (T := TX5) (N := 26) hx hb hts hin_RX5 hown hE.1 hP 0 rfl rfl 1 (by decide) (hts (.fieldLink RX5 81 "VillagepostModel" "people" "I") (by decide +kernel)) (fun _ h9 => h9) rfl dX5_moves_6 ?_
      refine vg_tp (nI (tn (μ 1 0))) (by rw [mMov_k μ si pi qi all (by omega) (by omega)]; exact hpe.1) ?_
      refine lv_icmp_ge (tgt := 67) hx hb dX5_moves_9 (by decide) (fun r1 => ?_) (fun r1 => ?_)
      · have c1 : tn (μ 1 0) ≤ f0 := (nI_leI (a := tn (μ 1 0)) (b := f0) (by omega) (by omega)).mp r1
        have e4 : f0 = tn (μ 1 0) := by omega
        have eW : mMov μ si pi qi all f0 = mMov μ si pi qi all (tn (μ 1 0)) := by rw [e4]
        have hP : va_P D vwCl (Mw cy mo ad (mMov μ si pi qi all (tn (μ 1 0)))) H := by rw [← eW]; exact hP
        have hD : va_D (va_A (Mw cy mo ad μ) s.heap.size) (Mw cy mo ad (mMov μ si pi qi all (tn (μ 1 0)))) := by rw [← eW]; exact hD
        exact W.vret hx hb hr (fun t ht hW => ⟨⟨(), rfl, trivial, (by rw [ht]; exact hP), hD⟩, hS.F ht⟩) hS.2.2 dX5_moves_67
      · have c1 : f0 < tn (μ 1 0) := Nat.lt_of_not_le (fun q => r1 ((nI_leI (a := tn (μ 1 0)) (b := f0) (by omega) (by omega)).mpr q))
        refine lv_iload hx hb dX5_moves_12 (lv_at hl 4 rfl) ?_
        refine lv_iload hx hb dX5_moves_14 (lv_at hl 5 rfl) ?_
        refine lv_ishr hx hb dX5_moves_16 ?_
        refine lv_iconst (v := 1) hx hb dX5_moves_17 (by decide) ?_
        refine lv_iand hx hb dX5_moves_18 ?_
        refine lv_iconst (v := 1) hx hb dX5_moves_19 (by decide) ?_
        refine lv_icmp_ne (tgt := 61) hx hb dX5_moves_20 (by decide) (fun r2 => ?_) (fun r2 => ?_)
        · have c2 := r2
          refine lv_iinc (v := (nI (f0 + 1))) (lv' := [(5, .int (nI (f0 + 1))), (0, .ref mo), (1, .int (nI si)), (2, .int (nI pi)), (3, .int (nI qi)), (4, .int all)]) hx hb dX5_moves_61 hl (k := 5) rfl (by first | rfl | exact nI_add _ _ | decide) (by decide) rfl (fun ls hl => ?_)
          have hl : lv_has ls 6 [(0, .ref mo), (1, .int (nI si)), (2, .int (nI pi)), (3, .int (nI qi)), (4, .int all), (5, .int (nI (f0 + 1)))] := lv_sub hl [1, 2, 3, 4, 5, 0] rfl
          refine lv_goto (tgt := 3) hx hb dX5_moves_64 (by decide) ?_
          have eW : mMov μ si pi qi all f0 = mMov μ si pi qi all (f0 + 1) := by simp [mMov, mMov1, mFol, mIsA_up, c1, c2]
          have hP : va_P D vwCl (Mw cy mo ad (mMov μ si pi qi all (f0 + 1))) H := by rw [← eW]; exact hP
          have hD : va_D (va_A (Mw cy mo ad μ) s.heap.size) (Mw cy mo ad (mMov μ si pi qi all (f0 + 1))) := by rw [← eW]; exact hD
          exact ih (f0 + 1) (by omega) (by omega) _ _ hP hD hS ls (by exact lv_sub hl [0, 1, 2, 3, 4, 5] rfl)
        · have c2 := r2
          refine lv_aload_n hx hb dX5_moves_23 rfl (lv_at hl 0 rfl) ?_
          refine va_get (D := D) (ci := 6) (v := .ref (ad 4)) (C := RX5) (T := TX5) (N := 26) hx hb hts hin_RX5 hown hE.1 hP 0 rfl rfl 4 (by decide) (hts (.fieldLink RX5 17 "VillagepostModel" "follows" "[Z") (by decide +kernel)) (fun _ h9 => h9) rfl dX5_moves_24 ?_
          refine lv_iload_n hx hb dX5_moves_27 rfl (lv_at hl 1 rfl) ?_
          refine lv_iload hx hb dX5_moves_28 (lv_at hl 5 rfl) ?_
          refine lv_iload_n hx hb dX5_moves_30 rfl (lv_at hl 2 rfl) ?_
          refine vg_calliP (va_runS (As := [.int (nI si), .int (nI f0), .int (nI pi)]) (rest := [.ref (ad 4)]) ⟨hx, hb, hml, hown, hts⟩ (kX5_at l D cy H.size si f0 pi) (va_cwS 3 hts gX5_moves_X5_at rfl rfl rfl (by decide +kernel) ⟨Nat.le_of_ble_eq_true rfl, Nat.le_of_ble_eq_true rfl⟩) (vg_P.preS hE vg_P0 (A := fun _ => True) vg_D0) rfl rfl hl.1 rfl (lv_room (Nat.le_of_ble_eq_true rfl)) dX5_moves_31 ⟨Nat.le_of_ble_eq_true rfl, Nat.le_of_ble_eq_true rfl⟩) hP hD hS hA (fun r _ H locs hr hP hD hS => ?_)
          subst hr
          refine lv_iconst (v := 0) hx hb dX5_moves_34 (by decide) ?_
          refine vg_zast hx hb hE.1 hP hD hS 3 2 rfl rfl (f := (mMov μ si pi qi all f0) 4) (j := (100 * si + 10 * f0 + pi)) (by omega) (by decide) (rfl) dX5_moves_35 (fun H locs hP hD hS => ?_)
          have hP : va_P D vwCl (Mw cy mo ad (va_up (mMov μ si pi qi all f0) 4 (upd ((mMov μ si pi qi all f0) 4) (100 * si + 10 * f0 + pi) 0))) H := hP
          have hD : va_D (va_A (Mw cy mo ad μ) s.heap.size) (Mw cy mo ad (va_up (mMov μ si pi qi all f0) 4 (upd ((mMov μ si pi qi all f0) 4) (100 * si + 10 * f0 + pi) 0))) := hD
          refine lv_iload hx hb dX5_moves_36 (lv_at hl 5 rfl) ?_
          refine lv_iload_n hx hb dX5_moves_38 rfl (lv_at hl 3 rfl) ?_
          refine lv_icmp_eq (tgt := 61) hx hb dX5_moves_39 (by decide) (fun r3 => ?_) (fun r3 => ?_)
          · have c3 : f0 = qi := (nI_eq (a := f0) (b := qi) (by omega) (by omega)).mp r3
            refine lv_iinc (v := (nI (f0 + 1))) (lv' := [(5, .int (nI (f0 + 1))), (0, .ref mo), (1, .int (nI si)), (2, .int (nI pi)), (3, .int (nI qi)), (4, .int all)]) hx hb dX5_moves_61 hl (k := 5) rfl (by first | rfl | exact nI_add _ _ | decide) (by decide) rfl (fun ls hl => ?_)
            have hl : lv_has ls 6 [(0, .ref mo), (1, .int (nI si)), (2, .int (nI pi)), (3, .int (nI qi)), (4, .int all), (5, .int (nI (f0 + 1)))] := lv_sub hl [1, 2, 3, 4, 5, 0] rfl
            refine lv_goto (tgt := 3) hx hb dX5_moves_64 (by decide) ?_
            have eW : va_up (mMov μ si pi qi all f0) 4 (upd ((mMov μ si pi qi all f0) 4) (100 * si + 10 * f0 + pi) 0) = mMov μ si pi qi all (f0 + 1) := by simp [mMov, mMov1, mFol, mIsA_up, c1, c2, eq_true c3]
            have hP : va_P D vwCl (Mw cy mo ad (mMov μ si pi qi all (f0 + 1))) H := by rw [← eW]; exact hP
            have hD : va_D (va_A (Mw cy mo ad μ) s.heap.size) (Mw cy mo ad (mMov μ si pi qi all (f0 + 1))) := by rw [← eW]; exact hD
            exact ih (f0 + 1) (by omega) (by omega) _ _ hP hD hS ls (by exact lv_sub hl [0, 1, 2, 3, 4, 5] rfl)
          · have c3 : ¬ f0 = qi := fun q => r3 ((nI_eq (a := f0) (b := qi) (by omega) (by omega)).mpr q)
            refine lv_aload_n hx hb dX5_moves_42 rfl (lv_at hl 0 rfl) ?_
            refine lv_iload_n hx hb dX5_moves_43 rfl (lv_at hl 1 rfl) ?_
            refine lv_iload hx hb dX5_moves_44 (lv_at hl 5 rfl) ?_
            refine lv_iload_n hx hb dX5_moves_46 rfl (lv_at hl 3 rfl) ?_
            refine vg_calliW (va_runV (As := [.int (nI si), .int (nI f0), .int (nI qi)]) (rest := []) ⟨hx, hb, hml, hown, hts⟩ (kX5_isApart l D cy H.size mo ad (va_up (mMov μ si pi qi all f0) 4 (upd ((mMov μ si pi qi all f0) 4) (100 * si + 10 * f0 + pi) 0)) si f0 qi (by omega) (by omega) (by omega)) (cwV 3 hts gX5_moves_X5_isApart rfl rfl rfl (by decide +kernel) ⟨Nat.le_of_ble_eq_true rfl, Nat.le_of_ble_eq_true rfl⟩) (vg_P.preV hE hP 0 rfl rfl hP hD) rfl rfl hl.1 rfl (lv_room (Nat.le_of_ble_eq_true rfl)) dX5_moves_47 ⟨Nat.le_of_ble_eq_true rfl, Nat.le_of_ble_eq_true rfl⟩) hP hD hS hA (fun r _ H locs hr hP hD hS => ?_)
            subst hr
            refine lv_if_ne (tgt := 61) hx hb dX5_moves_50 (by decide) (fun r4 => ?_) (fun r4 => ?_)
            · have c4 : (mIsA (mMov μ si pi qi all f0) si f0 qi) = true := bI_n0.mp r4
              refine lv_iinc (v := (nI (f0 + 1))) (lv' := [(5, .int (nI (f0 + 1))), (0, .ref mo), (1, .int (nI si)), (2, .int (nI pi)), (3, .int (nI qi)), (4, .int all)]) hx hb dX5_moves_61 hl (k := 5) rfl (by first | rfl | exact nI_add _ _ | decide) (by decide) rfl (fun ls hl => ?_)
              have hl : lv_has ls 6 [(0, .ref mo), (1, .int (nI si)), (2, .int (nI pi)), (3, .int (nI qi)), (4, .int all), (5, .int (nI (f0 + 1)))] := lv_sub hl [1, 2, 3, 4, 5, 0] rfl
              refine lv_goto (tgt := 3) hx hb dX5_moves_64 (by decide) ?_
              have eW : va_up (mMov μ si pi qi all f0) 4 (upd ((mMov μ si pi qi all f0) 4) (100 * si + 10 * f0 + pi) 0) = mMov μ si pi qi all (f0 + 1) := by simp [mMov, mMov1, mFol, mIsA_up, c1, c2, c3, c4]
              have hP : va_P D vwCl (Mw cy mo ad (mMov μ si pi qi all (f0 + 1))) H := by rw [← eW]; exact hP
              have hD : va_D (va_A (Mw cy mo ad μ) s.heap.size) (Mw cy mo ad (mMov μ si pi qi all (f0 + 1))) := by rw [← eW]; exact hD
              exact ih (f0 + 1) (by omega) (by omega) _ _ hP hD hS ls (by exact lv_sub hl [0, 1, 2, 3, 4, 5] rfl)
            · have c4 : (mIsA (mMov μ si pi qi all f0) si f0 qi) = false := bI_0.mp r4
              refine lv_aload_n hx hb dX5_moves_53 rfl (lv_at hl 0 rfl) ?_
              refine lv_iload_n hx hb dX5_moves_54 rfl (lv_at hl 1 rfl) ?_
              refine lv_iload hx hb dX5_moves_55 (lv_at hl 5 rfl) ?_
              refine lv_iload_n hx hb dX5_moves_57 rfl (lv_at hl 3 rfl) ?_
              refine vg_callvW (va_runV (As := [.int (nI si), .int (nI f0), .int (nI qi)]) (rest := []) ⟨hx, hb, hml, hown, hts⟩ (kX5_follows l D cy H.size mo ad (va_up (mMov μ si pi qi all f0) 4 (upd ((mMov μ si pi qi all f0) 4) (100 * si + 10 * f0 + pi) 0)) si f0 qi (by omega) (by omega) (by omega)) (cwV 3 hts gX5_moves_X5_follows rfl rfl rfl (by decide +kernel) ⟨Nat.le_of_ble_eq_true rfl, Nat.le_of_ble_eq_true rfl⟩) (vg_P.preV hE hP 0 rfl rfl hP hD) rfl rfl hl.1 rfl (lv_room (Nat.le_of_ble_eq_true rfl)) dX5_moves_58 ⟨Nat.le_of_ble_eq_true rfl, Nat.le_of_ble_eq_true rfl⟩) hP hD hS hA (fun _ H locs hrv hP hD hS => ?_)
              have hP : va_P D vwCl (Mw cy mo ad (mFol (va_up (mMov μ si pi qi all f0) 4 (upd ((mMov μ si pi qi all f0) 4) (100 * si + 10 * f0 + pi) 0)) si f0 qi)) H := hP
              have hD : va_D (va_A (Mw cy mo ad μ) s.heap.size) (Mw cy mo ad (mFol (va_up (mMov μ si pi qi all f0) 4 (upd ((mMov μ si pi qi all f0) 4) (100 * si + 10 * f0 + pi) 0)) si f0 qi)) := hD
              refine lv_iinc (v := (nI (f0 + 1))) (lv' := [(5, .int (nI (f0 + 1))), (0, .ref mo), (1, .int (nI si)), (2, .int (nI pi)), (3, .int (nI qi)), (4, .int all)]) hx hb dX5_moves_61 hl (k := 5) rfl (by first | rfl | exact nI_add _ _ | decide) (by decide) rfl (fun ls hl => ?_)
              have hl : lv_has ls 6 [(0, .ref mo), (1, .int (nI si)), (2, .int (nI pi)), (3, .int (nI qi)), (4, .int all), (5, .int (nI (f0 + 1)))] := lv_sub hl [1, 2, 3, 4, 5, 0] rfl
              refine lv_goto (tgt := 3) hx hb dX5_moves_64 (by decide) ?_
              have eW : mFol (va_up (mMov μ si pi qi all f0) 4 (upd ((mMov μ si pi qi all f0) 4) (100 * si + 10 * f0 + pi) 0)) si f0 qi = mMov μ si pi qi all (f0 + 1) := by simp [mMov, mMov1, mFol, mIsA_up, c1, c2, c3, c4]
              have hP : va_P D vwCl (Mw cy mo ad (mMov μ si pi qi all (f0 + 1))) H := by rw [← eW]; exact hP
              have hD : va_D (va_A (Mw cy mo ad μ) s.heap.size) (Mw cy mo ad (mMov μ si pi qi all (f0 + 1))) := by rw [← eW]; exact hD
              exact ih (f0 + 1) (by omega) (by omega) _ _ hP hD hS ls (by exact lv_sub hl [0, 1, 2, 3, 4, 5] rfl)
  refine lv_iconst (v := 0) hx hb dX5_moves_0 (by decide) ?_
  refine lv_istore (lv' := [(5, .int 0), (0, .ref mo), (1, .int (nI si)), (2, .int (nI pi)), (3, .int (nI qi)), (4, .int all)]) hx hb dX5_moves_1 hl (by decide) rfl (fun ls hl => ?_)
  have hl : lv_has ls 6 [(0, .ref mo), (1, .int (nI si)), (2, .int (nI pi)), (3, .int (nI qi)), (4, .int all), (5, .int 0)] := lv_sub hl [1, 2, 3, 4, 5, 0] rfl
  have q5 : ((nI 0) : Int32) = 0 := by first | rfl | simp []
  have eW : μ = mMov μ si pi qi all 0 := by first | rfl | simp []
  have hP : va_P D vwCl (Mw cy mo ad (mMov μ si pi qi all 0)) s.heap := by rw [← eW]; exact hP
  have hD : va_D (va_A (Mw cy mo ad μ) s.heap.size) (Mw cy mo ad (mMov μ si pi qi all 0)) := by rw [← eW]; exact hD
  exact L3 ((tn (μ 1 0) - 0) + 1) 0 (by omega) (by omega) _ _ hP hD hS ls (by rw [q5]; exact lv_sub hl [0, 1, 2, 3, 4, 5] rfl)

set_option maxHeartbeats 4000000 in
set_option maxRecDepth 100000 in
theorem kX5_sendsOn (l : Launch) (D : va_G) (cy : Nat → ClassId) (sz : Nat) (mo : Nat) (ad : Nat → Nat) (μ : Nat → Nat → Int32) (si : Nat) (act : Int32) (ni : Nat) (hw : mWF μ) (hla : mLast μ 1200) (hs : si < 4) (hn : ni < 50) : Met l yX5_sendsOn wsX5_sendsOn ({ frames := 2, cells := 0, slots := 0, locals := 46 }) (vg_P D cy [.ref mo, .int (nI si), .int act, .int (nI ni)] sz (Mw cy mo ad μ)) (vg_Qv (S := Unit) D sz (Mw cy mo ad μ) (fun _ => True) (fun _ => Mw cy mo ad (mSdo μ si act ni))) 0 0 (va_A (Mw cy mo ad μ) sz) := by
  refine Met.ofW (cc := cX5_sendsOn) (maxL := 6) (ret := none) (by decide) rfl ?_
  intro p e s m args below meth c s₁ BB hml hv
  obtain ⟨rfl, hsz, hP, hE, hD0⟩ := hv
  have hx := BB.exec
  have hb := BB.bytes
  have hr := BB.returns
  have hts := atoms_spec (ws := wsX5_sendsOn) BB.pre
  have hown : s.vm.findClass RX5 = some m.cls := findClass_of_methodNamed BB.named
  have hlocks := BB.notSynchronized
  subst hsz
  have hD := hD0.self (sz := s.heap.size)
  have hA : ∀ q : Nat, s.heap.size ≤ q → (va_A (Mw cy mo ad μ) s.heap.size) q := fun q h => Or.inr h
  have hS : va_S (va_A (Mw cy mo ad μ) s.heap.size) s.heap s.heap [] := va_S.rf
  have hin_RX5 : ∀ w ∈ u_ws RX5 TX5 26, w ∈ wsX5_sendsOn := by decide +kernel
  have hl := lv_entry ([.ref mo, .int (nI si), .int act, .int (nI ni)]) (n := 6) (Nat.le_of_ble_eq_true rfl)
  rw [lg_entry_eq]
  generalize (lg_sl ([.ref mo, .int (nI si), .int act, .int (nI ni)]) ++ List.replicate (6 - (lg_sl ([.ref mo, .int (nI si), .int act, .int (nI ni)])).length) Slot.unset).toArray = ls at hl ⊢
  have hl : lv_has ls 6 [(0, .ref mo), (1, .int (nI si)), (2, .int act), (3, .int (nI ni))] := hl
  obtain ⟨hpe, hho, hau, hre, hac⟩ := hw
  have hpe2 := hpe.2
  refine lv_aload_n hx hb dX5_sendsOn_0 rfl (lv_at hl 0 rfl) ?_
  refine va_get (D := D) (ci := 6) (v := .ref (ad 13)) (C := RX5) (T := TX5) (N := 26) hx hb hts hin_RX5 hown hE.1 hP 0 rfl rfl 13 (by decide) (hts (.fieldLink RX5 41 "VillagepostModel" "kind" "[I") (by decide +kernel)) (fun _ h9 => h9) rfl dX5_sendsOn_1 ?_
  refine lv_iload_n hx hb dX5_sendsOn_4 rfl (lv_at hl 3 rfl) ?_
  refine vg_iald hx hb hE.1 hP 11 0 rfl rfl (f := μ 13) (j := ni) (by omega) (by decide) dX5_sendsOn_5 ?_
  refine lv_if_ne (tgt := 38) hx hb dX5_sendsOn_6 (by decide) (fun r1 => ?_) (fun r1 => ?_)
  · have c1 := r1
    have eW : μ = mSdo μ si act ni := by simp [mSdo, mSet, c1]
    have hP : va_P D vwCl (Mw cy mo ad (mSdo μ si act ni)) s.heap := by rw [← eW]; exact hP
    have hD : va_D (va_A (Mw cy mo ad μ) s.heap.size) (Mw cy mo ad (mSdo μ si act ni)) := by rw [← eW]; exact hD
    exact W.vret hx hb hr (fun t ht hW => ⟨⟨(), rfl, trivial, (by rw [ht]; exact hP), hD⟩, hS.F ht⟩) hS.2.2 dX5_sendsOn_38
  · have c1 := r1
    refine lv_aload_n hx hb dX5_sendsOn_9 rfl (lv_at hl 0 rfl) ?_
    refine va_get (D := D) (ci := 6) (v := .ref (ad 15)) (C := RX5) (T := TX5) (N := 26) hx hb hts hin_RX5 hown hE.1 hP 0 rfl rfl 15 (by decide) (hts (.fieldLink RX5 47 "VillagepostModel" "reply" "[I") (by decide +kernel)) (fun _ h9 => h9) rfl dX5_sendsOn_10 ?_
    refine lv_iload_n hx hb dX5_sendsOn_13 rfl (lv_at hl 3 rfl) ?_
    refine vg_iald hx hb hE.1 hP 13 0 rfl rfl (f := μ 15) (j := ni) (by omega) (by decide) dX5_sendsOn_14 ?_
    refine lv_if_lt (tgt := 38) hx hb dX5_sendsOn_15 (by decide) (fun r2 => ?_) (fun r2 => ?_)
    · have c2 := r2
      have c2n : ¬ 0 ≤ ((μ 15) ni) := Int32.not_le.mpr r2
      have eW : μ = mSdo μ si act ni := by simp [mSdo, mSet, c1, c2n, c2]
      have hP : va_P D vwCl (Mw cy mo ad (mSdo μ si act ni)) s.heap := by rw [← eW]; exact hP
      have hD : va_D (va_A (Mw cy mo ad μ) s.heap.size) (Mw cy mo ad (mSdo μ si act ni)) := by rw [← eW]; exact hD
      exact W.vret hx hb hr (fun t ht hW => ⟨⟨(), rfl, trivial, (by rw [ht]; exact hP), hD⟩, hS.F ht⟩) hS.2.2 dX5_sendsOn_38
    · have c2 : 0 ≤ ((μ 15) ni) := Int32.not_lt.mp r2
      have c2n := r2
      have hre1 := (hre ni (by omega)).resolve_left c2n
      have hre2 := hre1.2
      refine lv_aload_n hx hb dX5_sendsOn_18 rfl (lv_at hl 0 rfl) ?_
      refine va_get (D := D) (ci := 6) (v := .ref (ad 2)) (C := RX5) (T := TX5) (N := 26) hx hb hts hin_RX5 hown hE.1 hP 0 rfl rfl 2 (by decide) (hts (.fieldLink RX5 7 "VillagepostModel" "home" "[I") (by decide +kernel)) (fun _ h9 => h9) rfl dX5_sendsOn_19 ?_
      refine lv_aload_n hx hb dX5_sendsOn_22 rfl (lv_at hl 0 rfl) ?_
      refine va_get (D := D) (ci := 6) (v := .ref (ad 12)) (C := RX5) (T := TX5) (N := 26) hx hb hts hin_RX5 hown hE.1 hP 0 rfl rfl 12 (by decide) (hts (.fieldLink RX5 38 "VillagepostModel" "author" "[I") (by decide +kernel)) (fun _ h9 => h9) rfl dX5_sendsOn_23 ?_
      refine lv_aload_n hx hb dX5_sendsOn_26 rfl (lv_at hl 0 rfl) ?_
      refine va_get (D := D) (ci := 6) (v := .ref (ad 15)) (C := RX5) (T := TX5) (N := 26) hx hb hts hin_RX5 hown hE.1 hP 0 rfl rfl 15 (by decide) (hts (.fieldLink RX5 47 "VillagepostModel" "reply" "[I") (by decide +kernel)) (fun _ h9 => h9) rfl dX5_sendsOn_27 ?_
      refine lv_iload_n hx hb dX5_sendsOn_30 rfl (lv_at hl 3 rfl) ?_
      refine vg_iald hx hb hE.1 hP 13 0 rfl rfl (f := μ 15) (j := ni) (by omega) (by decide) dX5_sendsOn_31 ?_
      refine vg_tp (nI (tn (μ 15 ni))) (hre1.1) ?_
      refine vg_iald hx hb hE.1 hP 10 0 rfl rfl (f := μ 12) (j := (tn (μ 15 ni))) (by omega) (by decide) dX5_sendsOn_32 ?_
      obtain ⟨hN3, hM3⟩ := hau (tn (μ 15 ni)) (by omega)
      refine vg_tp (nI (tn ((μ 12) (tn (μ 15 ni))))) hN3 ?_
      refine vg_iald hx hb hE.1 hP 1 0 rfl rfl (f := μ 2) (j := (tn ((μ 12) (tn (μ 15 ni))))) (by omega) (by decide) dX5_sendsOn_33 ?_
      obtain ⟨hN4, hM4⟩ := hho (tn ((μ 12) (tn (μ 15 ni)))) (by omega)
      refine vg_tp (nI (tn ((μ 2) (tn ((μ 12) (tn (μ 15 ni))))))) hN4 ?_
      refine lv_iload_n hx hb dX5_sendsOn_34 rfl (lv_at hl 1 rfl) ?_
      refine lv_icmp_eq (tgt := 39) hx hb dX5_sendsOn_35 (by decide) (fun r5 => ?_) (fun r5 => ?_)
      · have c5 : tn ((μ 2) (tn ((μ 12) (tn (μ 15 ni))))) = si := (nI_eq (a := tn ((μ 2) (tn ((μ 12) (tn (μ 15 ni)))))) (b := si) (by omega) (by omega)).mp r5
        refine lv_aload_n hx hb dX5_sendsOn_39 rfl (lv_at hl 0 rfl) ?_
        refine va_get (D := D) (ci := 6) (v := .ref (ad 2)) (C := RX5) (T := TX5) (N := 26) hx hb hts hin_RX5 hown hE.1 hP 0 rfl rfl 2 (by decide) (hts (.fieldLink RX5 7 "VillagepostModel" "home" "[I") (by decide +kernel)) (fun _ h9 => h9) rfl dX5_sendsOn_40 ?_
        refine lv_aload_n hx hb dX5_sendsOn_43 rfl (lv_at hl 0 rfl) ?_
        refine va_get (D := D) (ci := 6) (v := .ref (ad 12)) (C := RX5) (T := TX5) (N := 26) hx hb hts hin_RX5 hown hE.1 hP 0 rfl rfl 12 (by decide) (hts (.fieldLink RX5 38 "VillagepostModel" "author" "[I") (by decide +kernel)) (fun _ h9 => h9) rfl dX5_sendsOn_44 ?_
        refine lv_iload_n hx hb dX5_sendsOn_47 rfl (lv_at hl 3 rfl) ?_
        refine vg_iald hx hb hE.1 hP 10 0 rfl rfl (f := μ 12) (j := ni) (by omega) (by decide) dX5_sendsOn_48 ?_
        obtain ⟨hN6, hM6⟩ := hau ni (by omega)
        refine vg_tp (nI (tn ((μ 12) ni))) hN6 ?_
        refine vg_iald hx hb hE.1 hP 1 0 rfl rfl (f := μ 2) (j := (tn ((μ 12) ni))) (by omega) (by decide) dX5_sendsOn_49 ?_
        obtain ⟨hN7, hM7⟩ := hho (tn ((μ 12) ni)) (by omega)
        refine vg_tp (nI (tn ((μ 2) (tn ((μ 12) ni))))) hN7 ?_
        refine lv_istore (lv' := [(4, .int (nI (tn ((μ 2) (tn ((μ 12) ni)))))), (0, .ref mo), (1, .int (nI si)), (2, .int act), (3, .int (nI ni))]) hx hb dX5_sendsOn_50 hl (by decide) rfl (fun ls hl => ?_)
        have hl : lv_has ls 6 [(0, .ref mo), (1, .int (nI si)), (2, .int act), (3, .int (nI ni)), (4, .int (nI (tn ((μ 2) (tn ((μ 12) ni))))))] := lv_sub hl [1, 2, 3, 4, 0] rfl
        refine lv_aload_n hx hb dX5_sendsOn_52 rfl (lv_at hl 0 rfl) ?_
        refine lv_iload_n hx hb dX5_sendsOn_53 rfl (lv_at hl 1 rfl) ?_
        refine lv_aload_n hx hb dX5_sendsOn_54 rfl (lv_at hl 0 rfl) ?_
        refine va_get (D := D) (ci := 6) (v := .ref (ad 12)) (C := RX5) (T := TX5) (N := 26) hx hb hts hin_RX5 hown hE.1 hP 0 rfl rfl 12 (by decide) (hts (.fieldLink RX5 38 "VillagepostModel" "author" "[I") (by decide +kernel)) (fun _ h9 => h9) rfl dX5_sendsOn_55 ?_
        refine lv_aload_n hx hb dX5_sendsOn_58 rfl (lv_at hl 0 rfl) ?_
        refine va_get (D := D) (ci := 6) (v := .ref (ad 15)) (C := RX5) (T := TX5) (N := 26) hx hb hts hin_RX5 hown hE.1 hP 0 rfl rfl 15 (by decide) (hts (.fieldLink RX5 47 "VillagepostModel" "reply" "[I") (by decide +kernel)) (fun _ h9 => h9) rfl dX5_sendsOn_59 ?_
        refine lv_iload_n hx hb dX5_sendsOn_62 rfl (lv_at hl 3 rfl) ?_
        refine vg_iald hx hb hE.1 hP 13 0 rfl rfl (f := μ 15) (j := ni) (by omega) (by decide) dX5_sendsOn_63 ?_
        refine vg_tp (nI (tn (μ 15 ni))) (hre1.1) ?_
        refine vg_iald hx hb hE.1 hP 10 0 rfl rfl (f := μ 12) (j := (tn (μ 15 ni))) (by omega) (by decide) dX5_sendsOn_64 ?_
        obtain ⟨hN8, hM8⟩ := hau (tn (μ 15 ni)) (by omega)
        refine vg_tp (nI (tn ((μ 12) (tn (μ 15 ni))))) hN8 ?_
        refine vg_calliW (va_runV (As := [.int (nI si), .int (nI (tn ((μ 12) (tn (μ 15 ni)))))]) (rest := []) ⟨hx, hb, hml, hown, hts⟩ (kX5_servers l D cy s.heap.size mo ad μ si (tn ((μ 12) (tn (μ 15 ni)))) (hpe) (by omega) (by omega)) (cwV 2 hts gX5_sendsOn_X5_servers rfl rfl rfl (by decide +kernel) ⟨Nat.le_of_ble_eq_true rfl, Nat.le_of_ble_eq_true rfl⟩) (vg_P.preV hE hP 0 rfl rfl hP hD) rfl rfl hl.1 rfl (lv_room (Nat.le_of_ble_eq_true rfl)) dX5_sendsOn_65 ⟨Nat.le_of_ble_eq_true rfl, Nat.le_of_ble_eq_true rfl⟩) hP hD hS hA (fun r _ H locs hr hP hD hS => ?_)
        subst hr
        refine lv_iconst (v := 1) hx hb dX5_sendsOn_68 (by decide) ?_
        refine lv_iload hx hb dX5_sendsOn_69 (lv_at hl 4 rfl) ?_
        refine lv_ishl hx hb dX5_sendsOn_71 ?_
        refine lv_iconst (v := (-1)) hx hb dX5_sendsOn_72 (by decide) ?_
        refine lv_ixor hx hb dX5_sendsOn_73 ?_
        refine lv_iand hx hb dX5_sendsOn_74 ?_
        refine lv_iload hx hb dX5_sendsOn_75 (lv_at hl 4 rfl) ?_
        refine lv_iload_n hx hb dX5_sendsOn_77 rfl (lv_at hl 1 rfl) ?_
        refine lv_icmp_ne (tgt := 90) hx hb dX5_sendsOn_78 (by decide) (fun r9 => ?_) (fun r9 => ?_)
        · have c9 : ¬ tn ((μ 2) (tn ((μ 12) ni))) = si := fun q => r9 ((nI_eq (a := tn ((μ 2) (tn ((μ 12) ni)))) (b := si) (by omega) (by omega)).mpr q)
          refine lv_iconst (v := 0) hx hb dX5_sendsOn_90 (by decide) ?_
          refine lv_iconst (v := (-1)) hx hb dX5_sendsOn_91 (by decide) ?_
          refine lv_ixor hx hb dX5_sendsOn_92 ?_
          refine lv_iand hx hb dX5_sendsOn_93 ?_
          refine lv_istore (lv' := [(5, .int (((mSrv μ si (tn ((μ 12) (tn (μ 15 ni))))) &&& (((1 : Int32) <<< ((nI (tn ((μ 2) (tn ((μ 12) ni))))) &&& 31)) ^^^ (-1))) &&& (0 ^^^ (-1)))), (0, .ref mo), (1, .int (nI si)), (2, .int act), (3, .int (nI ni)), (4, .int (nI (tn ((μ 2) (tn ((μ 12) ni))))))]) hx hb dX5_sendsOn_94 hl (by decide) rfl (fun ls hl => ?_)
          have hl : lv_has ls 6 [(0, .ref mo), (1, .int (nI si)), (2, .int act), (3, .int (nI ni)), (4, .int (nI (tn ((μ 2) (tn ((μ 12) ni)))))), (5, .int (((mSrv μ si (tn ((μ 12) (tn (μ 15 ni))))) &&& (((1 : Int32) <<< ((nI (tn ((μ 2) (tn ((μ 12) ni))))) &&& 31)) ^^^ (-1))) &&& (0 ^^^ (-1))))] := lv_sub hl [1, 2, 3, 4, 5, 0] rfl
          refine lv_aload_n hx hb dX5_sendsOn_96 rfl (lv_at hl 0 rfl) ?_
          refine va_get (D := D) (ci := 6) (v := .ref (ad 9)) (C := RX5) (T := TX5) (N := 26) hx hb hts hin_RX5 hown hE.1 hP 0 rfl rfl 9 (by decide) (hts (.fieldLink RX5 32 "VillagepostModel" "sentOn" "[I") (by decide +kernel)) (fun _ h9 => h9) rfl dX5_sendsOn_97 ?_
          refine lv_bipush (v := 50) hx hb dX5_sendsOn_100 (by decide) ?_
          refine lv_iload_n hx hb dX5_sendsOn_102 rfl (lv_at hl 1 rfl) ?_
          refine lv_imul hx hb dX5_sendsOn_103 ?_
          refine vg_tp (nI (50 * si)) (pk_mul 50 si) ?_
          refine lv_iload_n hx hb dX5_sendsOn_104 rfl (lv_at hl 3 rfl) ?_
          refine lv_iadd hx hb dX5_sendsOn_105 ?_
          refine vg_tp (nI (50 * si + ni)) (nI_add (50 * si) ni) ?_
          refine lv_iload hx hb dX5_sendsOn_106 (lv_at hl 5 rfl) ?_
          refine vg_iast hx hb hE.1 hP hD hS 8 0 rfl rfl (f := μ 9) (j := (50 * si + ni)) (by omega) (by decide) dX5_sendsOn_108 (fun H locs hP hD hS => ?_)
          have hP : va_P D vwCl (Mw cy mo ad (va_up μ 9 (upd (μ 9) (50 * si + ni) (((mSrv μ si (tn ((μ 12) (tn (μ 15 ni))))) &&& (((1 : Int32) <<< ((nI (tn ((μ 2) (tn ((μ 12) ni))))) &&& 31)) ^^^ (-1))) &&& (0 ^^^ (-1)))))) H := hP
          have hD : va_D (va_A (Mw cy mo ad μ) s.heap.size) (Mw cy mo ad (va_up μ 9 (upd (μ 9) (50 * si + ni) (((mSrv μ si (tn ((μ 12) (tn (μ 15 ni))))) &&& (((1 : Int32) <<< ((nI (tn ((μ 2) (tn ((μ 12) ni))))) &&& 31)) ^^^ (-1))) &&& (0 ^^^ (-1)))))) := hD
          refine lv_aload_n hx hb dX5_sendsOn_109 rfl (lv_at hl 0 rfl) ?_
          refine lv_iload_n hx hb dX5_sendsOn_110 rfl (lv_at hl 2 rfl) ?_
          refine lv_iload hx hb dX5_sendsOn_111 (lv_at hl 5 rfl) ?_
          refine vg_callvW (va_runV (As := [.int act, .int (((mSrv μ si (tn ((μ 12) (tn (μ 15 ni))))) &&& (((1 : Int32) <<< ((nI (tn ((μ 2) (tn ((μ 12) ni))))) &&& 31)) ^^^ (-1))) &&& (0 ^^^ (-1)))]) (rest := []) ⟨hx, hb, hml, hown, hts⟩ (kX5_sends l D cy H.size mo ad (va_up μ 9 (upd (μ 9) (50 * si + ni) (((mSrv μ si (tn ((μ 12) (tn (μ 15 ni))))) &&& (((1 : Int32) <<< ((nI (tn ((μ 2) (tn ((μ 12) ni))))) &&& 31)) ^^^ (-1))) &&& (0 ^^^ (-1))))) act ((((mSrv μ si (tn ((μ 12) (tn (μ 15 ni))))) &&& (((1 : Int32) <<< ((nI (tn ((μ 2) (tn ((μ 12) ni))))) &&& 31)) ^^^ (-1))) &&& (0 ^^^ (-1)))) (hla)) (cwV 2 hts gX5_sendsOn_X5_sends rfl rfl rfl (by decide +kernel) ⟨Nat.le_of_ble_eq_true rfl, Nat.le_of_ble_eq_true rfl⟩) (vg_P.preV hE hP 0 rfl rfl hP hD) rfl rfl hl.1 rfl (lv_room (Nat.le_of_ble_eq_true rfl)) dX5_sendsOn_113 ⟨Nat.le_of_ble_eq_true rfl, Nat.le_of_ble_eq_true rfl⟩) hP hD hS hA (fun _ H locs hrv hP hD hS => ?_)
          have hP : va_P D vwCl (Mw cy mo ad (mSnd (va_up μ 9 (upd (μ 9) (50 * si + ni) (((mSrv μ si (tn ((μ 12) (tn (μ 15 ni))))) &&& (((1 : Int32) <<< ((nI (tn ((μ 2) (tn ((μ 12) ni))))) &&& 31)) ^^^ (-1))) &&& (0 ^^^ (-1))))) act ((((mSrv μ si (tn ((μ 12) (tn (μ 15 ni))))) &&& (((1 : Int32) <<< ((nI (tn ((μ 2) (tn ((μ 12) ni))))) &&& 31)) ^^^ (-1))) &&& (0 ^^^ (-1)))) 4)) H := hP
          have hD : va_D (va_A (Mw cy mo ad μ) s.heap.size) (Mw cy mo ad (mSnd (va_up μ 9 (upd (μ 9) (50 * si + ni) (((mSrv μ si (tn ((μ 12) (tn (μ 15 ni))))) &&& (((1 : Int32) <<< ((nI (tn ((μ 2) (tn ((μ 12) ni))))) &&& 31)) ^^^ (-1))) &&& (0 ^^^ (-1))))) act ((((mSrv μ si (tn ((μ 12) (tn (μ 15 ni))))) &&& (((1 : Int32) <<< ((nI (tn ((μ 2) (tn ((μ 12) ni))))) &&& 31)) ^^^ (-1))) &&& (0 ^^^ (-1)))) 4)) := hD
          have eW : mSnd (va_up μ 9 (upd (μ 9) (50 * si + ni) (((mSrv μ si (tn ((μ 12) (tn (μ 15 ni))))) &&& (((1 : Int32) <<< ((nI (tn ((μ 2) (tn ((μ 12) ni))))) &&& 31)) ^^^ (-1))) &&& (0 ^^^ (-1))))) act ((((mSrv μ si (tn ((μ 12) (tn (μ 15 ni))))) &&& (((1 : Int32) <<< ((nI (tn ((μ 2) (tn ((μ 12) ni))))) &&& 31)) ^^^ (-1))) &&& (0 ^^^ (-1)))) 4 = mSdo μ si act ni := by simp [mSdo, mSet, c1, c2n, c2, eq_true c5, c9]
          have hP : va_P D vwCl (Mw cy mo ad (mSdo μ si act ni)) H := by rw [← eW]; exact hP
          have hD : va_D (va_A (Mw cy mo ad μ) s.heap.size) (Mw cy mo ad (mSdo μ si act ni)) := by rw [← eW]; exact hD
          exact W.vret hx hb hr (fun t ht hW => ⟨⟨(), rfl, trivial, (by rw [ht]; exact hP), hD⟩, hS.F ht⟩) hS.2.2 dX5_sendsOn_116
        · have c9 : tn ((μ 2) (tn ((μ 12) ni))) = si := (nI_eq (a := tn ((μ 2) (tn ((μ 12) ni)))) (b := si) (by omega) (by omega)).mp r9
          refine lv_aload_n hx hb dX5_sendsOn_81 rfl (lv_at hl 0 rfl) ?_
          refine va_get (D := D) (ci := 6) (v := .ref (ad 16)) (C := RX5) (T := TX5) (N := 26) hx hb hts hin_RX5 hown hE.1 hP 0 rfl rfl 16 (by decide) (hts (.fieldLink RX5 50 "VillagepostModel" "went" "[I") (by decide +kernel)) (fun _ h9 => h9) rfl dX5_sendsOn_82 ?_
          refine lv_iload_n hx hb dX5_sendsOn_85 rfl (lv_at hl 3 rfl) ?_
          refine vg_iald hx hb hE.1 hP 14 0 rfl rfl (f := μ 16) (j := ni) (by omega) (by decide) dX5_sendsOn_86 ?_
          refine lv_goto (tgt := 91) hx hb dX5_sendsOn_87 (by decide) ?_
          refine lv_iconst (v := (-1)) hx hb dX5_sendsOn_91 (by decide) ?_
          refine lv_ixor hx hb dX5_sendsOn_92 ?_
          refine lv_iand hx hb dX5_sendsOn_93 ?_
          refine lv_istore (lv' := [(5, .int (((mSrv μ si (tn ((μ 12) (tn (μ 15 ni))))) &&& (((1 : Int32) <<< ((nI (tn ((μ 2) (tn ((μ 12) ni))))) &&& 31)) ^^^ (-1))) &&& (((μ 16) ni) ^^^ (-1)))), (0, .ref mo), (1, .int (nI si)), (2, .int act), (3, .int (nI ni)), (4, .int (nI (tn ((μ 2) (tn ((μ 12) ni))))))]) hx hb dX5_sendsOn_94 hl (by decide) rfl (fun ls hl => ?_)
          have hl : lv_has ls 6 [(0, .ref mo), (1, .int (nI si)), (2, .int act), (3, .int (nI ni)), (4, .int (nI (tn ((μ 2) (tn ((μ 12) ni)))))), (5, .int (((mSrv μ si (tn ((μ 12) (tn (μ 15 ni))))) &&& (((1 : Int32) <<< ((nI (tn ((μ 2) (tn ((μ 12) ni))))) &&& 31)) ^^^ (-1))) &&& (((μ 16) ni) ^^^ (-1))))] := lv_sub hl [1, 2, 3, 4, 5, 0] rfl
          refine lv_aload_n hx hb dX5_sendsOn_96 rfl (lv_at hl 0 rfl) ?_
          refine va_get (D := D) (ci := 6) (v := .ref (ad 9)) (C := RX5) (T := TX5) (N := 26) hx hb hts hin_RX5 hown hE.1 hP 0 rfl rfl 9 (by decide) (hts (.fieldLink RX5 32 "VillagepostModel" "sentOn" "[I") (by decide +kernel)) (fun _ h9 => h9) rfl dX5_sendsOn_97 ?_
          refine lv_bipush (v := 50) hx hb dX5_sendsOn_100 (by decide) ?_
          refine lv_iload_n hx hb dX5_sendsOn_102 rfl (lv_at hl 1 rfl) ?_
          refine lv_imul hx hb dX5_sendsOn_103 ?_
          refine vg_tp (nI (50 * si)) (pk_mul 50 si) ?_
          refine lv_iload_n hx hb dX5_sendsOn_104 rfl (lv_at hl 3 rfl) ?_
          refine lv_iadd hx hb dX5_sendsOn_105 ?_
          refine vg_tp (nI (50 * si + ni)) (nI_add (50 * si) ni) ?_
          refine lv_iload hx hb dX5_sendsOn_106 (lv_at hl 5 rfl) ?_
          refine vg_iast hx hb hE.1 hP hD hS 8 0 rfl rfl (f := μ 9) (j := (50 * si + ni)) (by omega) (by decide) dX5_sendsOn_108 (fun H locs hP hD hS => ?_)
          have hP : va_P D vwCl (Mw cy mo ad (va_up μ 9 (upd (μ 9) (50 * si + ni) (((mSrv μ si (tn ((μ 12) (tn (μ 15 ni))))) &&& (((1 : Int32) <<< ((nI (tn ((μ 2) (tn ((μ 12) ni))))) &&& 31)) ^^^ (-1))) &&& (((μ 16) ni) ^^^ (-1)))))) H := hP
          have hD : va_D (va_A (Mw cy mo ad μ) s.heap.size) (Mw cy mo ad (va_up μ 9 (upd (μ 9) (50 * si + ni) (((mSrv μ si (tn ((μ 12) (tn (μ 15 ni))))) &&& (((1 : Int32) <<< ((nI (tn ((μ 2) (tn ((μ 12) ni))))) &&& 31)) ^^^ (-1))) &&& (((μ 16) ni) ^^^ (-1)))))) := hD
          refine lv_aload_n hx hb dX5_sendsOn_109 rfl (lv_at hl 0 rfl) ?_
          refine lv_iload_n hx hb dX5_sendsOn_110 rfl (lv_at hl 2 rfl) ?_
          refine lv_iload hx hb dX5_sendsOn_111 (lv_at hl 5 rfl) ?_
          refine vg_callvW (va_runV (As := [.int act, .int (((mSrv μ si (tn ((μ 12) (tn (μ 15 ni))))) &&& (((1 : Int32) <<< ((nI (tn ((μ 2) (tn ((μ 12) ni))))) &&& 31)) ^^^ (-1))) &&& (((μ 16) ni) ^^^ (-1)))]) (rest := []) ⟨hx, hb, hml, hown, hts⟩ (kX5_sends l D cy H.size mo ad (va_up μ 9 (upd (μ 9) (50 * si + ni) (((mSrv μ si (tn ((μ 12) (tn (μ 15 ni))))) &&& (((1 : Int32) <<< ((nI (tn ((μ 2) (tn ((μ 12) ni))))) &&& 31)) ^^^ (-1))) &&& (((μ 16) ni) ^^^ (-1))))) act ((((mSrv μ si (tn ((μ 12) (tn (μ 15 ni))))) &&& (((1 : Int32) <<< ((nI (tn ((μ 2) (tn ((μ 12) ni))))) &&& 31)) ^^^ (-1))) &&& (((μ 16) ni) ^^^ (-1)))) (hla)) (cwV 2 hts gX5_sendsOn_X5_sends rfl rfl rfl (by decide +kernel) ⟨Nat.le_of_ble_eq_true rfl, Nat.le_of_ble_eq_true rfl⟩) (vg_P.preV hE hP 0 rfl rfl hP hD) rfl rfl hl.1 rfl (lv_room (Nat.le_of_ble_eq_true rfl)) dX5_sendsOn_113 ⟨Nat.le_of_ble_eq_true rfl, Nat.le_of_ble_eq_true rfl⟩) hP hD hS hA (fun _ H locs hrv hP hD hS => ?_)
          have hP : va_P D vwCl (Mw cy mo ad (mSnd (va_up μ 9 (upd (μ 9) (50 * si + ni) (((mSrv μ si (tn ((μ 12) (tn (μ 15 ni))))) &&& (((1 : Int32) <<< ((nI (tn ((μ 2) (tn ((μ 12) ni))))) &&& 31)) ^^^ (-1))) &&& (((μ 16) ni) ^^^ (-1))))) act ((((mSrv μ si (tn ((μ 12) (tn (μ 15 ni))))) &&& (((1 : Int32) <<< ((nI (tn ((μ 2) (tn ((μ 12) ni))))) &&& 31)) ^^^ (-1))) &&& (((μ 16) ni) ^^^ (-1)))) 4)) H := hP
          have hD : va_D (va_A (Mw cy mo ad μ) s.heap.size) (Mw cy mo ad (mSnd (va_up μ 9 (upd (μ 9) (50 * si + ni) (((mSrv μ si (tn ((μ 12) (tn (μ 15 ni))))) &&& (((1 : Int32) <<< ((nI (tn ((μ 2) (tn ((μ 12) ni))))) &&& 31)) ^^^ (-1))) &&& (((μ 16) ni) ^^^ (-1))))) act ((((mSrv μ si (tn ((μ 12) (tn (μ 15 ni))))) &&& (((1 : Int32) <<< ((nI (tn ((μ 2) (tn ((μ 12) ni))))) &&& 31)) ^^^ (-1))) &&& (((μ 16) ni) ^^^ (-1)))) 4)) := hD
          have eW : mSnd (va_up μ 9 (upd (μ 9) (50 * si + ni) (((mSrv μ si (tn ((μ 12) (tn (μ 15 ni))))) &&& (((1 : Int32) <<< ((nI (tn ((μ 2) (tn ((μ 12) ni))))) &&& 31)) ^^^ (-1))) &&& (((μ 16) ni) ^^^ (-1))))) act ((((mSrv μ si (tn ((μ 12) (tn (μ 15 ni))))) &&& (((1 : Int32) <<< ((nI (tn ((μ 2) (tn ((μ 12) ni))))) &&& 31)) ^^^ (-1))) &&& (((μ 16) ni) ^^^ (-1)))) 4 = mSdo μ si act ni := by simp [mSdo, mSet, c1, c2n, c2, eq_true c5, eq_true c9]
          have hP : va_P D vwCl (Mw cy mo ad (mSdo μ si act ni)) H := by rw [← eW]; exact hP
          have hD : va_D (va_A (Mw cy mo ad μ) s.heap.size) (Mw cy mo ad (mSdo μ si act ni)) := by rw [← eW]; exact hD
          exact W.vret hx hb hr (fun t ht hW => ⟨⟨(), rfl, trivial, (by rw [ht]; exact hP), hD⟩, hS.F ht⟩) hS.2.2 dX5_sendsOn_116
      · have c5 : ¬ tn ((μ 2) (tn ((μ 12) (tn (μ 15 ni))))) = si := fun q => r5 ((nI_eq (a := tn ((μ 2) (tn ((μ 12) (tn (μ 15 ni)))))) (b := si) (by omega) (by omega)).mpr q)
        have eW : μ = mSdo μ si act ni := by simp [mSdo, mSet, c1, c2n, c2, c5]
        have hP : va_P D vwCl (Mw cy mo ad (mSdo μ si act ni)) s.heap := by rw [← eW]; exact hP
        have hD : va_D (va_A (Mw cy mo ad μ) s.heap.size) (Mw cy mo ad (mSdo μ si act ni)) := by rw [← eW]; exact hD
        exact W.vret hx hb hr (fun t ht hW => ⟨⟨(), rfl, trivial, (by rw [ht]; exact hP), hD⟩, hS.F ht⟩) hS.2.2 dX5_sendsOn_38

set_option maxHeartbeats 4000000 in
set_option maxRecDepth 100000 in
theorem kX5_doesPost (l : Launch) (D : va_G) (cy : Nat → ClassId) (sz : Nat) (mo : Nat) (ad : Nat → Nat) (μ : Nat → Nat → Int32) (si : Nat) (ai : Nat) (hw : mWF μ) (hla : mLast μ 1200) (hs : si < 4) (ha : ai < 600) : Met l yX5_doesPost wsX5_doesPost ({ frames := 3, cells := 0, slots := 0, locals := 71 }) (vg_P D cy [.ref mo, .int (nI si), .int (nI ai)] sz (Mw cy mo ad μ)) (vg_Qv (S := Unit) D sz (Mw cy mo ad μ) (fun _ => True) (fun _ => Mw cy mo ad (mDoP μ si ai))) 0 0 (va_A (Mw cy mo ad μ) sz) := by
  refine Met.ofW (cc := cX5_doesPost) (maxL := 4) (ret := none) (by decide) rfl ?_
  intro p e s m args below meth c s₁ BB hml hv
  obtain ⟨rfl, hsz, hP, hE, hD0⟩ := hv
  have hx := BB.exec
  have hb := BB.bytes
  have hr := BB.returns
  have hts := atoms_spec (ws := wsX5_doesPost) BB.pre
  have hown : s.vm.findClass RX5 = some m.cls := findClass_of_methodNamed BB.named
  have hlocks := BB.notSynchronized
  subst hsz
  have hD := hD0.self (sz := s.heap.size)
  have hA : ∀ q : Nat, s.heap.size ≤ q → (va_A (Mw cy mo ad μ) s.heap.size) q := fun q h => Or.inr h
  have hS : va_S (va_A (Mw cy mo ad μ) s.heap.size) s.heap s.heap [] := va_S.rf
  have hin_RX5 : ∀ w ∈ u_ws RX5 TX5 26, w ∈ wsX5_doesPost := by decide +kernel
  have hl := lv_entry ([.ref mo, .int (nI si), .int (nI ai)]) (n := 4) (Nat.le_of_ble_eq_true rfl)
  rw [lg_entry_eq]
  generalize (lg_sl ([.ref mo, .int (nI si), .int (nI ai)]) ++ List.replicate (4 - (lg_sl ([.ref mo, .int (nI si), .int (nI ai)])).length) Slot.unset).toArray = ls at hl ⊢
  have hl : lv_has ls 4 [(0, .ref mo), (1, .int (nI si)), (2, .int (nI ai))] := hl
  obtain ⟨hpe, hho, hau, hre, hac⟩ := hw
  have hpe2 := hpe.2
  refine lv_aload_n hx hb dX5_doesPost_0 rfl (lv_at hl 0 rfl) ?_
  refine va_get (D := D) (ci := 6) (v := .ref (ad 20)) (C := RX5) (T := TX5) (N := 26) hx hb hts hin_RX5 hown hE.1 hP 0 rfl rfl 20 (by decide) (hts (.fieldLink RX5 59 "VillagepostModel" "whom" "[I") (by decide +kernel)) (fun _ h9 => h9) rfl dX5_doesPost_1 ?_
  refine lv_iload_n hx hb dX5_doesPost_4 rfl (lv_at hl 2 rfl) ?_
  refine vg_iald hx hb hE.1 hP 17 0 rfl rfl (f := μ 20) (j := ai) (by omega) (by decide) dX5_doesPost_5 ?_
  obtain ⟨hN1, hM1⟩ := (hac ai (by omega)).2.2.1
  refine vg_tp (nI (tn ((μ 20) ai))) hN1 ?_
  refine lv_istore_n (lv' := [(3, .int (nI (tn ((μ 20) ai)))), (0, .ref mo), (1, .int (nI si)), (2, .int (nI ai))]) hx hb dX5_doesPost_6 rfl hl (by decide) rfl (fun ls hl => ?_)
  have hl : lv_has ls 4 [(0, .ref mo), (1, .int (nI si)), (2, .int (nI ai)), (3, .int (nI (tn ((μ 20) ai))))] := lv_sub hl [1, 2, 3, 0] rfl
  refine lv_aload_n hx hb dX5_doesPost_7 rfl (lv_at hl 0 rfl) ?_
  refine va_get (D := D) (ci := 6) (v := .ref (ad 18)) (C := RX5) (T := TX5) (N := 26) hx hb hts hin_RX5 hown hE.1 hP 0 rfl rfl 18 (by decide) (hts (.fieldLink RX5 53 "VillagepostModel" "what" "[I") (by decide +kernel)) (fun _ h9 => h9) rfl dX5_doesPost_8 ?_
  refine lv_iload_n hx hb dX5_doesPost_11 rfl (lv_at hl 2 rfl) ?_
  refine vg_iald hx hb hE.1 hP 15 0 rfl rfl (f := μ 18) (j := ai) (by omega) (by decide) dX5_doesPost_12 ?_
  obtain ⟨hN2, hM2⟩ := (hac ai (by omega)).1
  refine vg_tp (nI (tn ((μ 18) ai))) hN2 ?_
  refine lv_bipush (v := 8) hx hb dX5_doesPost_13 (by decide) ?_
  refine lv_icmp_ne (tgt := 58) hx hb dX5_doesPost_15 (by decide) (fun r3 => ?_) (fun r3 => ?_)
  · have c3 : ¬ tn ((μ 18) ai) = 8 := fun q => r3 ((nI_eq (a := tn ((μ 18) ai)) (b := 8) (by omega) (by omega)).mpr q)
    refine lv_aload_n hx hb dX5_doesPost_58 rfl (lv_at hl 0 rfl) ?_
    refine va_get (D := D) (ci := 6) (v := .ref (ad 18)) (C := RX5) (T := TX5) (N := 26) hx hb hts hin_RX5 hown hE.1 hP 0 rfl rfl 18 (by decide) (hts (.fieldLink RX5 53 "VillagepostModel" "what" "[I") (by decide +kernel)) (fun _ h9 => h9) rfl dX5_doesPost_59 ?_
    refine lv_iload_n hx hb dX5_doesPost_62 rfl (lv_at hl 2 rfl) ?_
    refine vg_iald hx hb hE.1 hP 15 0 rfl rfl (f := μ 18) (j := ai) (by omega) (by decide) dX5_doesPost_63 ?_
    obtain ⟨hN4, hM4⟩ := (hac ai (by omega)).1
    refine vg_tp (nI (tn ((μ 18) ai))) hN4 ?_
    refine lv_bipush (v := 9) hx hb dX5_doesPost_64 (by decide) ?_
    refine lv_icmp_ne (tgt := 127) hx hb dX5_doesPost_66 (by decide) (fun r5 => ?_) (fun r5 => ?_)
    · have c5 : ¬ tn ((μ 18) ai) = 9 := fun q => r5 ((nI_eq (a := tn ((μ 18) ai)) (b := 9) (by omega) (by omega)).mpr q)
      refine lv_aload_n hx hb dX5_doesPost_127 rfl (lv_at hl 0 rfl) ?_
      refine va_get (D := D) (ci := 6) (v := .ref (ad 10)) (C := RX5) (T := TX5) (N := 26) hx hb hts hin_RX5 hown hE.1 hP 0 rfl rfl 10 (by decide) (hts (.fieldLink RX5 35 "VillagepostModel" "isBoosted" "[Z") (by decide +kernel)) (fun _ h9 => h9) rfl dX5_doesPost_128 ?_
      refine lv_sipush (v := 500) hx hb dX5_doesPost_131 (by decide) ?_
      refine lv_iload_n hx hb dX5_doesPost_134 rfl (lv_at hl 1 rfl) ?_
      refine lv_imul hx hb dX5_doesPost_135 ?_
      refine vg_tp (nI (500 * si)) (pk_mul 500 si) ?_
      refine lv_bipush (v := 50) hx hb dX5_doesPost_136 (by decide) ?_
      refine lv_aload_n hx hb dX5_doesPost_138 rfl (lv_at hl 0 rfl) ?_
      refine va_get (D := D) (ci := 6) (v := .ref (ad 19)) (C := RX5) (T := TX5) (N := 26) hx hb hts hin_RX5 hown hE.1 hP 0 rfl rfl 19 (by decide) (hts (.fieldLink RX5 56 "VillagepostModel" "who" "[I") (by decide +kernel)) (fun _ h9 => h9) rfl dX5_doesPost_139 ?_
      refine lv_iload_n hx hb dX5_doesPost_142 rfl (lv_at hl 2 rfl) ?_
      refine vg_iald hx hb hE.1 hP 16 0 rfl rfl (f := μ 19) (j := ai) (by omega) (by decide) dX5_doesPost_143 ?_
      obtain ⟨hN6, hM6⟩ := (hac ai (by omega)).2.1
      refine vg_tp (nI (tn ((μ 19) ai))) hN6 ?_
      refine lv_imul hx hb dX5_doesPost_144 ?_
      refine vg_tp (nI (50 * (tn ((μ 19) ai)))) (pk_mul 50 (tn ((μ 19) ai))) ?_
      refine lv_iadd hx hb dX5_doesPost_145 ?_
      refine vg_tp (nI (500 * si + (50 * (tn ((μ 19) ai))))) (nI_add (500 * si) (50 * (tn ((μ 19) ai)))) ?_
      refine lv_iload_n hx hb dX5_doesPost_146 rfl (lv_at hl 3 rfl) ?_
      refine lv_iadd hx hb dX5_doesPost_147 ?_
      refine vg_tp (nI (500 * si + (50 * (tn ((μ 19) ai))) + (tn ((μ 20) ai)))) (nI_add (500 * si + (50 * (tn ((μ 19) ai)))) (tn ((μ 20) ai))) ?_
      refine lv_iconst (v := 1) hx hb dX5_doesPost_148 (by decide) ?_
      refine vg_zast hx hb hE.1 hP hD hS 9 2 rfl rfl (f := μ 10) (j := (500 * si + (50 * (tn ((μ 19) ai))) + (tn ((μ 20) ai)))) (by omega) (by decide) (rfl) dX5_doesPost_149 (fun H locs hP hD hS => ?_)
      have hP : va_P D vwCl (Mw cy mo ad (va_up μ 10 (upd (μ 10) (500 * si + (50 * (tn ((μ 19) ai))) + (tn ((μ 20) ai))) 1))) H := hP
      have hD : va_D (va_A (Mw cy mo ad μ) s.heap.size) (Mw cy mo ad (va_up μ 10 (upd (μ 10) (500 * si + (50 * (tn ((μ 19) ai))) + (tn ((μ 20) ai))) 1))) := hD
      refine lv_aload_n hx hb dX5_doesPost_150 rfl (lv_at hl 0 rfl) ?_
      refine va_get (D := D) (ci := 6) (v := .ref (ad 7)) (C := RX5) (T := TX5) (N := 26) hx hb hts hin_RX5 hown hE.1 hP 0 rfl rfl 7 (by decide) (hts (.fieldLink RX5 26 "VillagepostModel" "isKnown" "[Z") (by decide +kernel)) (fun _ h9 => h9) rfl dX5_doesPost_151 ?_
      refine lv_bipush (v := 50) hx hb dX5_doesPost_154 (by decide) ?_
      refine lv_iload_n hx hb dX5_doesPost_156 rfl (lv_at hl 1 rfl) ?_
      refine lv_imul hx hb dX5_doesPost_157 ?_
      refine vg_tp (nI (50 * si)) (pk_mul 50 si) ?_
      refine lv_iload_n hx hb dX5_doesPost_158 rfl (lv_at hl 3 rfl) ?_
      refine lv_iadd hx hb dX5_doesPost_159 ?_
      refine vg_tp (nI (50 * si + (tn ((μ 20) ai)))) (nI_add (50 * si) (tn ((μ 20) ai))) ?_
      refine lv_aload_n hx hb dX5_doesPost_160 rfl (lv_at hl 0 rfl) ?_
      refine va_get (D := D) (ci := 6) (v := .ref (ad 8)) (C := RX5) (T := TX5) (N := 26) hx hb hts hin_RX5 hown hE.1 hP 0 rfl rfl 8 (by decide) (hts (.fieldLink RX5 29 "VillagepostModel" "isMarked" "[Z") (by decide +kernel)) (fun _ h9 => h9) rfl dX5_doesPost_161 ?_
      refine lv_bipush (v := 50) hx hb dX5_doesPost_164 (by decide) ?_
      refine lv_iload_n hx hb dX5_doesPost_166 rfl (lv_at hl 1 rfl) ?_
      refine lv_imul hx hb dX5_doesPost_167 ?_
      refine vg_tp (nI (50 * si)) (pk_mul 50 si) ?_
      refine lv_iload_n hx hb dX5_doesPost_168 rfl (lv_at hl 3 rfl) ?_
      refine lv_iadd hx hb dX5_doesPost_169 ?_
      refine vg_tp (nI (50 * si + (tn ((μ 20) ai)))) (nI_add (50 * si) (tn ((μ 20) ai))) ?_
      refine vg_zald hx hb hE.1 hP 7 2 rfl rfl (f := μ 8) (j := (50 * si + (tn ((μ 20) ai)))) (by omega) (by decide) dX5_doesPost_170 ?_
      refine lv_if_ne (tgt := 178) hx hb dX5_doesPost_171 (by decide) (fun r7 => ?_) (fun r7 => ?_)
      · have c7 := r7
        refine lv_iconst (v := 0) hx hb dX5_doesPost_178 (by decide) ?_
        refine vg_zast hx hb hE.1 hP hD hS 6 2 rfl rfl (f := μ 7) (j := (50 * si + (tn ((μ 20) ai)))) (by omega) (by decide) (rfl) dX5_doesPost_179 (fun H locs hP hD hS => ?_)
        have hP : va_P D vwCl (Mw cy mo ad (va_up (va_up μ 10 (upd (μ 10) (500 * si + (50 * (tn ((μ 19) ai))) + (tn ((μ 20) ai))) 1)) 7 (upd (μ 7) (50 * si + (tn ((μ 20) ai))) 0))) H := hP
        have hD : va_D (va_A (Mw cy mo ad μ) s.heap.size) (Mw cy mo ad (va_up (va_up μ 10 (upd (μ 10) (500 * si + (50 * (tn ((μ 19) ai))) + (tn ((μ 20) ai))) 1)) 7 (upd (μ 7) (50 * si + (tn ((μ 20) ai))) 0))) := hD
        have eW : va_up (va_up μ 10 (upd (μ 10) (500 * si + (50 * (tn ((μ 19) ai))) + (tn ((μ 20) ai))) 1)) 7 (upd (μ 7) (50 * si + (tn ((μ 20) ai))) 0) = mDoP μ si ai := by simp [mDoP, bI, c3, c5, c7]
        have hP : va_P D vwCl (Mw cy mo ad (mDoP μ si ai)) H := by rw [← eW]; exact hP
        have hD : va_D (va_A (Mw cy mo ad μ) s.heap.size) (Mw cy mo ad (mDoP μ si ai)) := by rw [← eW]; exact hD
        exact W.vret hx hb hr (fun t ht hW => ⟨⟨(), rfl, trivial, (by rw [ht]; exact hP), hD⟩, hS.F ht⟩) hS.2.2 dX5_doesPost_180
      · have c7 := r7
        refine lv_iconst (v := 1) hx hb dX5_doesPost_174 (by decide) ?_
        refine lv_goto (tgt := 179) hx hb dX5_doesPost_175 (by decide) ?_
        refine vg_zast hx hb hE.1 hP hD hS 6 2 rfl rfl (f := μ 7) (j := (50 * si + (tn ((μ 20) ai)))) (by omega) (by decide) (rfl) dX5_doesPost_179 (fun H locs hP hD hS => ?_)
        have hP : va_P D vwCl (Mw cy mo ad (va_up (va_up μ 10 (upd (μ 10) (500 * si + (50 * (tn ((μ 19) ai))) + (tn ((μ 20) ai))) 1)) 7 (upd (μ 7) (50 * si + (tn ((μ 20) ai))) 1))) H := hP
        have hD : va_D (va_A (Mw cy mo ad μ) s.heap.size) (Mw cy mo ad (va_up (va_up μ 10 (upd (μ 10) (500 * si + (50 * (tn ((μ 19) ai))) + (tn ((μ 20) ai))) 1)) 7 (upd (μ 7) (50 * si + (tn ((μ 20) ai))) 1))) := hD
        have eW : va_up (va_up μ 10 (upd (μ 10) (500 * si + (50 * (tn ((μ 19) ai))) + (tn ((μ 20) ai))) 1)) 7 (upd (μ 7) (50 * si + (tn ((μ 20) ai))) 1) = mDoP μ si ai := by simp [mDoP, bI, c3, c5, c7]
        have hP : va_P D vwCl (Mw cy mo ad (mDoP μ si ai)) H := by rw [← eW]; exact hP
        have hD : va_D (va_A (Mw cy mo ad μ) s.heap.size) (Mw cy mo ad (mDoP μ si ai)) := by rw [← eW]; exact hD
        exact W.vret hx hb hr (fun t ht hW => ⟨⟨(), rfl, trivial, (by rw [ht]; exact hP), hD⟩, hS.F ht⟩) hS.2.2 dX5_doesPost_180
    · have c5 : tn ((μ 18) ai) = 9 := (nI_eq (a := tn ((μ 18) ai)) (b := 9) (by omega) (by omega)).mp r5
      refine lv_aload_n hx hb dX5_doesPost_69 rfl (lv_at hl 0 rfl) ?_
      refine va_get (D := D) (ci := 6) (v := .ref (ad 7)) (C := RX5) (T := TX5) (N := 26) hx hb hts hin_RX5 hown hE.1 hP 0 rfl rfl 7 (by decide) (hts (.fieldLink RX5 26 "VillagepostModel" "isKnown" "[Z") (by decide +kernel)) (fun _ h9 => h9) rfl dX5_doesPost_70 ?_
      refine lv_bipush (v := 50) hx hb dX5_doesPost_73 (by decide) ?_
      refine lv_iload_n hx hb dX5_doesPost_75 rfl (lv_at hl 1 rfl) ?_
      refine lv_imul hx hb dX5_doesPost_76 ?_
      refine vg_tp (nI (50 * si)) (pk_mul 50 si) ?_
      refine lv_iload_n hx hb dX5_doesPost_77 rfl (lv_at hl 3 rfl) ?_
      refine lv_iadd hx hb dX5_doesPost_78 ?_
      refine vg_tp (nI (50 * si + (tn ((μ 20) ai)))) (nI_add (50 * si) (tn ((μ 20) ai))) ?_
      refine lv_iconst (v := 0) hx hb dX5_doesPost_79 (by decide) ?_
      refine vg_zast hx hb hE.1 hP hD hS 6 2 rfl rfl (f := μ 7) (j := (50 * si + (tn ((μ 20) ai)))) (by omega) (by decide) (rfl) dX5_doesPost_80 (fun H locs hP hD hS => ?_)
      have hP : va_P D vwCl (Mw cy mo ad (va_up μ 7 (upd (μ 7) (50 * si + (tn ((μ 20) ai))) 0))) H := hP
      have hD : va_D (va_A (Mw cy mo ad μ) s.heap.size) (Mw cy mo ad (va_up μ 7 (upd (μ 7) (50 * si + (tn ((μ 20) ai))) 0))) := hD
      refine lv_aload_n hx hb dX5_doesPost_81 rfl (lv_at hl 0 rfl) ?_
      refine va_get (D := D) (ci := 6) (v := .ref (ad 8)) (C := RX5) (T := TX5) (N := 26) hx hb hts hin_RX5 hown hE.1 hP 0 rfl rfl 8 (by decide) (hts (.fieldLink RX5 29 "VillagepostModel" "isMarked" "[Z") (by decide +kernel)) (fun _ h9 => h9) rfl dX5_doesPost_82 ?_
      refine lv_bipush (v := 50) hx hb dX5_doesPost_85 (by decide) ?_
      refine lv_iload_n hx hb dX5_doesPost_87 rfl (lv_at hl 1 rfl) ?_
      refine lv_imul hx hb dX5_doesPost_88 ?_
      refine vg_tp (nI (50 * si)) (pk_mul 50 si) ?_
      refine lv_iload_n hx hb dX5_doesPost_89 rfl (lv_at hl 3 rfl) ?_
      refine lv_iadd hx hb dX5_doesPost_90 ?_
      refine vg_tp (nI (50 * si + (tn ((μ 20) ai)))) (nI_add (50 * si) (tn ((μ 20) ai))) ?_
      refine lv_iconst (v := 1) hx hb dX5_doesPost_91 (by decide) ?_
      refine vg_zast hx hb hE.1 hP hD hS 7 2 rfl rfl (f := μ 8) (j := (50 * si + (tn ((μ 20) ai)))) (by omega) (by decide) (rfl) dX5_doesPost_92 (fun H locs hP hD hS => ?_)
      have hP : va_P D vwCl (Mw cy mo ad (va_up (va_up μ 7 (upd (μ 7) (50 * si + (tn ((μ 20) ai))) 0)) 8 (upd (μ 8) (50 * si + (tn ((μ 20) ai))) 1))) H := hP
      have hD : va_D (va_A (Mw cy mo ad μ) s.heap.size) (Mw cy mo ad (va_up (va_up μ 7 (upd (μ 7) (50 * si + (tn ((μ 20) ai))) 0)) 8 (upd (μ 8) (50 * si + (tn ((μ 20) ai))) 1))) := hD
      refine lv_iload_n hx hb dX5_doesPost_93 rfl (lv_at hl 1 rfl) ?_
      refine lv_aload_n hx hb dX5_doesPost_94 rfl (lv_at hl 0 rfl) ?_
      refine va_get (D := D) (ci := 6) (v := .ref (ad 2)) (C := RX5) (T := TX5) (N := 26) hx hb hts hin_RX5 hown hE.1 hP 0 rfl rfl 2 (by decide) (hts (.fieldLink RX5 7 "VillagepostModel" "home" "[I") (by decide +kernel)) (fun _ h9 => h9) rfl dX5_doesPost_95 ?_
      refine lv_aload_n hx hb dX5_doesPost_98 rfl (lv_at hl 0 rfl) ?_
      refine va_get (D := D) (ci := 6) (v := .ref (ad 12)) (C := RX5) (T := TX5) (N := 26) hx hb hts hin_RX5 hown hE.1 hP 0 rfl rfl 12 (by decide) (hts (.fieldLink RX5 38 "VillagepostModel" "author" "[I") (by decide +kernel)) (fun _ h9 => h9) rfl dX5_doesPost_99 ?_
      refine lv_iload_n hx hb dX5_doesPost_102 rfl (lv_at hl 3 rfl) ?_
      refine vg_iald hx hb hE.1 hP 10 0 rfl rfl (f := μ 12) (j := (tn ((μ 20) ai))) (by omega) (by decide) dX5_doesPost_103 ?_
      obtain ⟨hN8, hM8⟩ := hau (tn ((μ 20) ai)) (by omega)
      refine vg_tp (nI (tn ((μ 12) (tn ((μ 20) ai))))) hN8 ?_
      refine vg_iald hx hb hE.1 hP 1 0 rfl rfl (f := μ 2) (j := (tn ((μ 12) (tn ((μ 20) ai))))) (by omega) (by decide) dX5_doesPost_104 ?_
      obtain ⟨hN9, hM9⟩ := hho (tn ((μ 12) (tn ((μ 20) ai)))) (by omega)
      refine vg_tp (nI (tn ((μ 2) (tn ((μ 12) (tn ((μ 20) ai))))))) hN9 ?_
      refine lv_icmp_eq (tgt := 180) hx hb dX5_doesPost_105 (by decide) (fun r10 => ?_) (fun r10 => ?_)
      · have c10 : si = tn ((μ 2) (tn ((μ 12) (tn ((μ 20) ai))))) := (nI_eq (a := si) (b := tn ((μ 2) (tn ((μ 12) (tn ((μ 20) ai)))))) (by omega) (by omega)).mp r10
        have eW : va_up (va_up μ 7 (upd (μ 7) (50 * si + (tn ((μ 20) ai))) 0)) 8 (upd (μ 8) (50 * si + (tn ((μ 20) ai))) 1) = mDoP μ si ai := by simp [mDoP, bI, c3, c5, eq_true c10]
        have hP : va_P D vwCl (Mw cy mo ad (mDoP μ si ai)) H := by rw [← eW]; exact hP
        have hD : va_D (va_A (Mw cy mo ad μ) s.heap.size) (Mw cy mo ad (mDoP μ si ai)) := by rw [← eW]; exact hD
        exact W.vret hx hb hr (fun t ht hW => ⟨⟨(), rfl, trivial, (by rw [ht]; exact hP), hD⟩, hS.F ht⟩) hS.2.2 dX5_doesPost_180
      · have c10 : ¬ si = tn ((μ 2) (tn ((μ 12) (tn ((μ 20) ai))))) := fun q => r10 ((nI_eq (a := si) (b := tn ((μ 2) (tn ((μ 12) (tn ((μ 20) ai)))))) (by omega) (by omega)).mpr q)
        refine lv_aload_n hx hb dX5_doesPost_108 rfl (lv_at hl 0 rfl) ?_
        refine lv_iload_n hx hb dX5_doesPost_109 rfl (lv_at hl 2 rfl) ?_
        refine lv_aload_n hx hb dX5_doesPost_110 rfl (lv_at hl 0 rfl) ?_
        refine va_get (D := D) (ci := 6) (v := .ref (ad 9)) (C := RX5) (T := TX5) (N := 26) hx hb hts hin_RX5 hown hE.1 hP 0 rfl rfl 9 (by decide) (hts (.fieldLink RX5 32 "VillagepostModel" "sentOn" "[I") (by decide +kernel)) (fun _ h9 => h9) rfl dX5_doesPost_111 ?_
        refine lv_bipush (v := 50) hx hb dX5_doesPost_114 (by decide) ?_
        refine lv_iload_n hx hb dX5_doesPost_116 rfl (lv_at hl 1 rfl) ?_
        refine lv_imul hx hb dX5_doesPost_117 ?_
        refine vg_tp (nI (50 * si)) (pk_mul 50 si) ?_
        refine lv_iload_n hx hb dX5_doesPost_118 rfl (lv_at hl 3 rfl) ?_
        refine lv_iadd hx hb dX5_doesPost_119 ?_
        refine vg_tp (nI (50 * si + (tn ((μ 20) ai)))) (nI_add (50 * si) (tn ((μ 20) ai))) ?_
        refine vg_iald hx hb hE.1 hP 8 0 rfl rfl (f := μ 9) (j := (50 * si + (tn ((μ 20) ai)))) (by omega) (by decide) dX5_doesPost_120 ?_
        refine vg_callvW (va_runV (As := [.int (nI ai), .int ((μ 9) (50 * si + (tn ((μ 20) ai))))]) (rest := []) ⟨hx, hb, hml, hown, hts⟩ (kX5_sends l D cy H.size mo ad (va_up (va_up μ 7 (upd (μ 7) (50 * si + (tn ((μ 20) ai))) 0)) 8 (upd (μ 8) (50 * si + (tn ((μ 20) ai))) 1)) ((nI ai)) (((μ 9) (50 * si + (tn ((μ 20) ai))))) (hla)) (cwV 2 hts gX5_doesPost_X5_sends rfl rfl rfl (by decide +kernel) ⟨Nat.le_of_ble_eq_true rfl, Nat.le_of_ble_eq_true rfl⟩) (vg_P.preV hE hP 0 rfl rfl hP hD) rfl rfl hl.1 rfl (lv_room (Nat.le_of_ble_eq_true rfl)) dX5_doesPost_121 ⟨Nat.le_of_ble_eq_true rfl, Nat.le_of_ble_eq_true rfl⟩) hP hD hS hA (fun _ H locs hrv hP hD hS => ?_)
        have hP : va_P D vwCl (Mw cy mo ad (mSnd (va_up (va_up μ 7 (upd (μ 7) (50 * si + (tn ((μ 20) ai))) 0)) 8 (upd (μ 8) (50 * si + (tn ((μ 20) ai))) 1)) ((nI ai)) (((μ 9) (50 * si + (tn ((μ 20) ai))))) 4)) H := hP
        have hD : va_D (va_A (Mw cy mo ad μ) s.heap.size) (Mw cy mo ad (mSnd (va_up (va_up μ 7 (upd (μ 7) (50 * si + (tn ((μ 20) ai))) 0)) 8 (upd (μ 8) (50 * si + (tn ((μ 20) ai))) 1)) ((nI ai)) (((μ 9) (50 * si + (tn ((μ 20) ai))))) 4)) := hD
        refine lv_goto (tgt := 180) hx hb dX5_doesPost_124 (by decide) ?_
        have eW : mSnd (va_up (va_up μ 7 (upd (μ 7) (50 * si + (tn ((μ 20) ai))) 0)) 8 (upd (μ 8) (50 * si + (tn ((μ 20) ai))) 1)) ((nI ai)) (((μ 9) (50 * si + (tn ((μ 20) ai))))) 4 = mDoP μ si ai := by simp [mDoP, bI, c3, c5, c10]
        have hP : va_P D vwCl (Mw cy mo ad (mDoP μ si ai)) H := by rw [← eW]; exact hP
        have hD : va_D (va_A (Mw cy mo ad μ) s.heap.size) (Mw cy mo ad (mDoP μ si ai)) := by rw [← eW]; exact hD
        exact W.vret hx hb hr (fun t ht hW => ⟨⟨(), rfl, trivial, (by rw [ht]; exact hP), hD⟩, hS.F ht⟩) hS.2.2 dX5_doesPost_180
  · have c3 : tn ((μ 18) ai) = 8 := (nI_eq (a := tn ((μ 18) ai)) (b := 8) (by omega) (by omega)).mp r3
    refine lv_aload_n hx hb dX5_doesPost_18 rfl (lv_at hl 0 rfl) ?_
    refine va_get (D := D) (ci := 6) (v := .ref (ad 7)) (C := RX5) (T := TX5) (N := 26) hx hb hts hin_RX5 hown hE.1 hP 0 rfl rfl 7 (by decide) (hts (.fieldLink RX5 26 "VillagepostModel" "isKnown" "[Z") (by decide +kernel)) (fun _ h9 => h9) rfl dX5_doesPost_19 ?_
    refine lv_bipush (v := 50) hx hb dX5_doesPost_22 (by decide) ?_
    refine lv_iload_n hx hb dX5_doesPost_24 rfl (lv_at hl 1 rfl) ?_
    refine lv_imul hx hb dX5_doesPost_25 ?_
    refine vg_tp (nI (50 * si)) (pk_mul 50 si) ?_
    refine lv_iload_n hx hb dX5_doesPost_26 rfl (lv_at hl 3 rfl) ?_
    refine lv_iadd hx hb dX5_doesPost_27 ?_
    refine vg_tp (nI (50 * si + (tn ((μ 20) ai)))) (nI_add (50 * si) (tn ((μ 20) ai))) ?_
    refine lv_aload_n hx hb dX5_doesPost_28 rfl (lv_at hl 0 rfl) ?_
    refine va_get (D := D) (ci := 6) (v := .ref (ad 8)) (C := RX5) (T := TX5) (N := 26) hx hb hts hin_RX5 hown hE.1 hP 0 rfl rfl 8 (by decide) (hts (.fieldLink RX5 29 "VillagepostModel" "isMarked" "[Z") (by decide +kernel)) (fun _ h9 => h9) rfl dX5_doesPost_29 ?_
    refine lv_bipush (v := 50) hx hb dX5_doesPost_32 (by decide) ?_
    refine lv_iload_n hx hb dX5_doesPost_34 rfl (lv_at hl 1 rfl) ?_
    refine lv_imul hx hb dX5_doesPost_35 ?_
    refine vg_tp (nI (50 * si)) (pk_mul 50 si) ?_
    refine lv_iload_n hx hb dX5_doesPost_36 rfl (lv_at hl 3 rfl) ?_
    refine lv_iadd hx hb dX5_doesPost_37 ?_
    refine vg_tp (nI (50 * si + (tn ((μ 20) ai)))) (nI_add (50 * si) (tn ((μ 20) ai))) ?_
    refine vg_zald hx hb hE.1 hP 7 2 rfl rfl (f := μ 8) (j := (50 * si + (tn ((μ 20) ai)))) (by omega) (by decide) dX5_doesPost_38 ?_
    refine lv_if_ne (tgt := 46) hx hb dX5_doesPost_39 (by decide) (fun r11 => ?_) (fun r11 => ?_)
    · have c11 := r11
      refine lv_iconst (v := 0) hx hb dX5_doesPost_46 (by decide) ?_
      refine vg_zast hx hb hE.1 hP hD hS 6 2 rfl rfl (f := μ 7) (j := (50 * si + (tn ((μ 20) ai)))) (by omega) (by decide) (rfl) dX5_doesPost_47 (fun H locs hP hD hS => ?_)
      have hP : va_P D vwCl (Mw cy mo ad (va_up μ 7 (upd (μ 7) (50 * si + (tn ((μ 20) ai))) 0))) H := hP
      have hD : va_D (va_A (Mw cy mo ad μ) s.heap.size) (Mw cy mo ad (va_up μ 7 (upd (μ 7) (50 * si + (tn ((μ 20) ai))) 0))) := hD
      refine lv_aload_n hx hb dX5_doesPost_48 rfl (lv_at hl 0 rfl) ?_
      refine lv_iload_n hx hb dX5_doesPost_49 rfl (lv_at hl 1 rfl) ?_
      refine lv_iload_n hx hb dX5_doesPost_50 rfl (lv_at hl 2 rfl) ?_
      refine lv_iload_n hx hb dX5_doesPost_51 rfl (lv_at hl 3 rfl) ?_
      refine vg_callvW (va_runV (As := [.int (nI si), .int (nI ai), .int (nI (tn ((μ 20) ai)))]) (rest := []) ⟨hx, hb, hml, hown, hts⟩ (kX5_sendsOn l D cy H.size mo ad (va_up μ 7 (upd (μ 7) (50 * si + (tn ((μ 20) ai))) 0)) si ((nI ai)) (tn ((μ 20) ai)) (⟨hpe, hho, hau, hre, hac⟩) (hla) (by omega) (by omega)) (cwV 3 hts gX5_doesPost_X5_sendsOn rfl rfl rfl (by decide +kernel) ⟨Nat.le_of_ble_eq_true rfl, Nat.le_of_ble_eq_true rfl⟩) (vg_P.preV hE hP 0 rfl rfl hP hD) rfl rfl hl.1 rfl (lv_room (Nat.le_of_ble_eq_true rfl)) dX5_doesPost_52 ⟨Nat.le_of_ble_eq_true rfl, Nat.le_of_ble_eq_true rfl⟩) hP hD hS hA (fun _ H locs hrv hP hD hS => ?_)
      have hP : va_P D vwCl (Mw cy mo ad (mSdo (va_up μ 7 (upd (μ 7) (50 * si + (tn ((μ 20) ai))) 0)) si ((nI ai)) (tn ((μ 20) ai)))) H := hP
      have hD : va_D (va_A (Mw cy mo ad μ) s.heap.size) (Mw cy mo ad (mSdo (va_up μ 7 (upd (μ 7) (50 * si + (tn ((μ 20) ai))) 0)) si ((nI ai)) (tn ((μ 20) ai)))) := hD
      refine lv_goto (tgt := 180) hx hb dX5_doesPost_55 (by decide) ?_
      have eW : mSdo (va_up μ 7 (upd (μ 7) (50 * si + (tn ((μ 20) ai))) 0)) si ((nI ai)) (tn ((μ 20) ai)) = mDoP μ si ai := by simp [mDoP, bI, c3, c11]
      have hP : va_P D vwCl (Mw cy mo ad (mDoP μ si ai)) H := by rw [← eW]; exact hP
      have hD : va_D (va_A (Mw cy mo ad μ) s.heap.size) (Mw cy mo ad (mDoP μ si ai)) := by rw [← eW]; exact hD
      exact W.vret hx hb hr (fun t ht hW => ⟨⟨(), rfl, trivial, (by rw [ht]; exact hP), hD⟩, hS.F ht⟩) hS.2.2 dX5_doesPost_180
    · have c11 := r11
      refine lv_iconst (v := 1) hx hb dX5_doesPost_42 (by decide) ?_
      refine lv_goto (tgt := 47) hx hb dX5_doesPost_43 (by decide) ?_
      refine vg_zast hx hb hE.1 hP hD hS 6 2 rfl rfl (f := μ 7) (j := (50 * si + (tn ((μ 20) ai)))) (by omega) (by decide) (rfl) dX5_doesPost_47 (fun H locs hP hD hS => ?_)
      have hP : va_P D vwCl (Mw cy mo ad (va_up μ 7 (upd (μ 7) (50 * si + (tn ((μ 20) ai))) 1))) H := hP
      have hD : va_D (va_A (Mw cy mo ad μ) s.heap.size) (Mw cy mo ad (va_up μ 7 (upd (μ 7) (50 * si + (tn ((μ 20) ai))) 1))) := hD
      refine lv_aload_n hx hb dX5_doesPost_48 rfl (lv_at hl 0 rfl) ?_
      refine lv_iload_n hx hb dX5_doesPost_49 rfl (lv_at hl 1 rfl) ?_
      refine lv_iload_n hx hb dX5_doesPost_50 rfl (lv_at hl 2 rfl) ?_
      refine lv_iload_n hx hb dX5_doesPost_51 rfl (lv_at hl 3 rfl) ?_
      refine vg_callvW (va_runV (As := [.int (nI si), .int (nI ai), .int (nI (tn ((μ 20) ai)))]) (rest := []) ⟨hx, hb, hml, hown, hts⟩ (kX5_sendsOn l D cy H.size mo ad (va_up μ 7 (upd (μ 7) (50 * si + (tn ((μ 20) ai))) 1)) si ((nI ai)) (tn ((μ 20) ai)) (⟨hpe, hho, hau, hre, hac⟩) (hla) (by omega) (by omega)) (cwV 3 hts gX5_doesPost_X5_sendsOn rfl rfl rfl (by decide +kernel) ⟨Nat.le_of_ble_eq_true rfl, Nat.le_of_ble_eq_true rfl⟩) (vg_P.preV hE hP 0 rfl rfl hP hD) rfl rfl hl.1 rfl (lv_room (Nat.le_of_ble_eq_true rfl)) dX5_doesPost_52 ⟨Nat.le_of_ble_eq_true rfl, Nat.le_of_ble_eq_true rfl⟩) hP hD hS hA (fun _ H locs hrv hP hD hS => ?_)
      have hP : va_P D vwCl (Mw cy mo ad (mSdo (va_up μ 7 (upd (μ 7) (50 * si + (tn ((μ 20) ai))) 1)) si ((nI ai)) (tn ((μ 20) ai)))) H := hP
      have hD : va_D (va_A (Mw cy mo ad μ) s.heap.size) (Mw cy mo ad (mSdo (va_up μ 7 (upd (μ 7) (50 * si + (tn ((μ 20) ai))) 1)) si ((nI ai)) (tn ((μ 20) ai)))) := hD
      refine lv_goto (tgt := 180) hx hb dX5_doesPost_55 (by decide) ?_
      have eW : mSdo (va_up μ 7 (upd (μ 7) (50 * si + (tn ((μ 20) ai))) 1)) si ((nI ai)) (tn ((μ 20) ai)) = mDoP μ si ai := by simp [mDoP, bI, c3, c11]
      have hP : va_P D vwCl (Mw cy mo ad (mDoP μ si ai)) H := by rw [← eW]; exact hP
      have hD : va_D (va_A (Mw cy mo ad μ) s.heap.size) (Mw cy mo ad (mDoP μ si ai)) := by rw [← eW]; exact hD
      exact W.vret hx hb hr (fun t ht hW => ⟨⟨(), rfl, trivial, (by rw [ht]; exact hP), hD⟩, hS.F ht⟩) hS.2.2 dX5_doesPost_180

set_option maxHeartbeats 4000000 in
set_option maxRecDepth 100000 in
theorem kX5_does (l : Launch) (D : va_G) (cy : Nat → ClassId) (sz : Nat) (mo : Nat) (ad : Nat → Nat) (μ : Nat → Nat → Int32) (si : Nat) (ai : Nat) (hw : mWF μ) (hla : mLast μ 1200) (hs : si < 4) (ha : ai < 600) : Met l yX5_does wsX5_does ({ frames := 4, cells := 0, slots := 0, locals := 94 }) (vg_P D cy [.ref mo, .int (nI si), .int (nI ai)] sz (Mw cy mo ad μ)) (vg_Qv (S := Unit) D sz (Mw cy mo ad μ) (fun _ => True) (fun _ => Mw cy mo ad (mDo μ si ai))) 0 0 (va_A (Mw cy mo ad μ) sz) := by
  refine Met.ofW (cc := cX5_does) (maxL := 6) (ret := none) (by decide) rfl ?_
  intro p e s m args below meth c s₁ BB hml hv
  obtain ⟨rfl, hsz, hP, hE, hD0⟩ := hv
  have hx := BB.exec
  have hb := BB.bytes
  have hr := BB.returns
  have hts := atoms_spec (ws := wsX5_does) BB.pre
  have hown : s.vm.findClass RX5 = some m.cls := findClass_of_methodNamed BB.named
  have hlocks := BB.notSynchronized
  subst hsz
  have hD := hD0.self (sz := s.heap.size)
  have hA : ∀ q : Nat, s.heap.size ≤ q → (va_A (Mw cy mo ad μ) s.heap.size) q := fun q h => Or.inr h
  have hS : va_S (va_A (Mw cy mo ad μ) s.heap.size) s.heap s.heap [] := va_S.rf
  have hin_RX5 : ∀ w ∈ u_ws RX5 TX5 26, w ∈ wsX5_does := by decide +kernel
  have hl := lv_entry ([.ref mo, .int (nI si), .int (nI ai)]) (n := 6) (Nat.le_of_ble_eq_true rfl)
  rw [lg_entry_eq]
  generalize (lg_sl ([.ref mo, .int (nI si), .int (nI ai)]) ++ List.replicate (6 - (lg_sl ([.ref mo, .int (nI si), .int (nI ai)])).length) Slot.unset).toArray = ls at hl ⊢
  have hl : lv_has ls 6 [(0, .ref mo), (1, .int (nI si)), (2, .int (nI ai))] := hl
  obtain ⟨hpe, hho, hau, hre, hac⟩ := hw
  have hpe2 := hpe.2
  have hq7 := (hac ai ha).2.2.2
  refine lv_aload_n hx hb dX5_does_0 rfl (lv_at hl 0 rfl) ?_
  refine va_get (D := D) (ci := 6) (v := .ref (ad 22)) (C := RX5) (T := TX5) (N := 26) hx hb hts hin_RX5 hown hE.1 hP 0 rfl rfl 22 (by decide) (hts (.fieldLink RX5 65 "VillagepostModel" "isDone" "[Z") (by decide +kernel)) (fun _ h9 => h9) rfl dX5_does_1 ?_
  refine lv_sipush (v := 600) hx hb dX5_does_4 (by decide) ?_
  refine lv_iload_n hx hb dX5_does_7 rfl (lv_at hl 1 rfl) ?_
  refine lv_imul hx hb dX5_does_8 ?_
  refine vg_tp (nI (600 * si)) (pk_mul 600 si) ?_
  refine lv_iload_n hx hb dX5_does_9 rfl (lv_at hl 2 rfl) ?_
  refine lv_iadd hx hb dX5_does_10 ?_
  refine vg_tp (nI (600 * si + ai)) (nI_add (600 * si) ai) ?_
  refine lv_iconst (v := 1) hx hb dX5_does_11 (by decide) ?_
  refine vg_zast hx hb hE.1 hP hD hS 19 2 rfl rfl (f := μ 22) (j := (600 * si + ai)) (by omega) (by decide) (rfl) dX5_does_12 (fun H locs hP hD hS => ?_)
  have hP : va_P D vwCl (Mw cy mo ad (va_up μ 22 (upd (μ 22) (600 * si + ai) 1))) H := hP
  have hD : va_D (va_A (Mw cy mo ad μ) s.heap.size) (Mw cy mo ad (va_up μ 22 (upd (μ 22) (600 * si + ai) 1))) := hD
  refine lv_aload_n hx hb dX5_does_13 rfl (lv_at hl 0 rfl) ?_
  refine va_get (D := D) (ci := 6) (v := .ref (ad 19)) (C := RX5) (T := TX5) (N := 26) hx hb hts hin_RX5 hown hE.1 hP 0 rfl rfl 19 (by decide) (hts (.fieldLink RX5 56 "VillagepostModel" "who" "[I") (by decide +kernel)) (fun _ h9 => h9) rfl dX5_does_14 ?_
  refine lv_iload_n hx hb dX5_does_17 rfl (lv_at hl 2 rfl) ?_
  refine vg_iald hx hb hE.1 hP 16 0 rfl rfl (f := μ 19) (j := ai) (by omega) (by decide) dX5_does_18 ?_
  obtain ⟨hN1, hM1⟩ := (hac ai (by omega)).2.1
  refine vg_tp (nI (tn ((μ 19) ai))) hN1 ?_
  refine lv_istore_n (lv' := [(3, .int (nI (tn ((μ 19) ai)))), (0, .ref mo), (1, .int (nI si)), (2, .int (nI ai))]) hx hb dX5_does_19 rfl hl (by decide) rfl (fun ls hl => ?_)
  have hl : lv_has ls 6 [(0, .ref mo), (1, .int (nI si)), (2, .int (nI ai)), (3, .int (nI (tn ((μ 19) ai))))] := lv_sub hl [1, 2, 3, 0] rfl
  refine lv_aload_n hx hb dX5_does_20 rfl (lv_at hl 0 rfl) ?_
  refine va_get (D := D) (ci := 6) (v := .ref (ad 20)) (C := RX5) (T := TX5) (N := 26) hx hb hts hin_RX5 hown hE.1 hP 0 rfl rfl 20 (by decide) (hts (.fieldLink RX5 59 "VillagepostModel" "whom" "[I") (by decide +kernel)) (fun _ h9 => h9) rfl dX5_does_21 ?_
  refine lv_iload_n hx hb dX5_does_24 rfl (lv_at hl 2 rfl) ?_
  refine vg_iald hx hb hE.1 hP 17 0 rfl rfl (f := μ 20) (j := ai) (by omega) (by decide) dX5_does_25 ?_
  obtain ⟨hN2, hM2⟩ := (hac ai (by omega)).2.2.1
  refine vg_tp (nI (tn ((μ 20) ai))) hN2 ?_
  refine lv_istore (lv' := [(4, .int (nI (tn ((μ 20) ai)))), (0, .ref mo), (1, .int (nI si)), (2, .int (nI ai)), (3, .int (nI (tn ((μ 19) ai))))]) hx hb dX5_does_26 hl (by decide) rfl (fun ls hl => ?_)
  have hl : lv_has ls 6 [(0, .ref mo), (1, .int (nI si)), (2, .int (nI ai)), (3, .int (nI (tn ((μ 19) ai)))), (4, .int (nI (tn ((μ 20) ai))))] := lv_sub hl [1, 2, 3, 4, 0] rfl
  refine lv_aload_n hx hb dX5_does_28 rfl (lv_at hl 0 rfl) ?_
  refine va_get (D := D) (ci := 6) (v := .ref (ad 18)) (C := RX5) (T := TX5) (N := 26) hx hb hts hin_RX5 hown hE.1 hP 0 rfl rfl 18 (by decide) (hts (.fieldLink RX5 53 "VillagepostModel" "what" "[I") (by decide +kernel)) (fun _ h9 => h9) rfl dX5_does_29 ?_
  refine lv_iload_n hx hb dX5_does_32 rfl (lv_at hl 2 rfl) ?_
  refine vg_iald hx hb hE.1 hP 15 0 rfl rfl (f := μ 18) (j := ai) (by omega) (by decide) dX5_does_33 ?_
  obtain ⟨hN3, hM3⟩ := (hac ai (by omega)).1
  refine vg_tp (nI (tn ((μ 18) ai))) hN3 ?_
  refine lv_istore (lv' := [(5, .int (nI (tn ((μ 18) ai)))), (0, .ref mo), (1, .int (nI si)), (2, .int (nI ai)), (3, .int (nI (tn ((μ 19) ai)))), (4, .int (nI (tn ((μ 20) ai))))]) hx hb dX5_does_34 hl (by decide) rfl (fun ls hl => ?_)
  have hl : lv_has ls 6 [(0, .ref mo), (1, .int (nI si)), (2, .int (nI ai)), (3, .int (nI (tn ((μ 19) ai)))), (4, .int (nI (tn ((μ 20) ai)))), (5, .int (nI (tn ((μ 18) ai))))] := lv_sub hl [1, 2, 3, 4, 5, 0] rfl
  refine lv_iload hx hb dX5_does_36 (lv_at hl 5 rfl) ?_
  refine lv_bipush (v := 8) hx hb dX5_does_38 (by decide) ?_
  refine lv_icmp_lt (tgt := 52) hx hb dX5_does_40 (by decide) (fun r4 => ?_) (fun r4 => ?_)
  · have c4 : tn ((μ 18) ai) < 8 := (nI_ltI (a := tn ((μ 18) ai)) (b := 8) (by omega) (by omega)).mp r4
    have hq10 := hq7 (by omega)
    have n8 : ¬ 8 ≤ tn (μ 18 ai) := by omega
    refine lv_iload hx hb dX5_does_52 (lv_at hl 5 rfl) ?_
    refine lv_if_ne (tgt := 118) hx hb dX5_does_54 (by decide) (fun r5 => ?_) (fun r5 => ?_)
    · have c5 : ¬ tn ((μ 18) ai) = 0 := fun q => r5 ((nI_eq (a := tn ((μ 18) ai)) (b := 0) (by omega) (by omega)).mpr q)
      refine lv_iload hx hb dX5_does_118 (lv_at hl 5 rfl) ?_
      refine lv_iconst (v := 1) hx hb dX5_does_120 (by decide) ?_
      refine lv_icmp_ne (tgt := 161) hx hb dX5_does_121 (by decide) (fun r6 => ?_) (fun r6 => ?_)
      · have c6 : ¬ tn ((μ 18) ai) = 1 := fun q => r6 ((nI_eq (a := tn ((μ 18) ai)) (b := 1) (by omega) (by omega)).mpr q)
        refine lv_iload hx hb dX5_does_161 (lv_at hl 5 rfl) ?_
        refine lv_iconst (v := 2) hx hb dX5_does_163 (by decide) ?_
        refine lv_icmp_ne (tgt := 183) hx hb dX5_does_164 (by decide) (fun r7 => ?_) (fun r7 => ?_)
        · have c7 : ¬ tn ((μ 18) ai) = 2 := fun q => r7 ((nI_eq (a := tn ((μ 18) ai)) (b := 2) (by omega) (by omega)).mpr q)
          refine lv_iload hx hb dX5_does_183 (lv_at hl 5 rfl) ?_
          refine lv_iconst (v := 3) hx hb dX5_does_185 (by decide) ?_
          refine lv_icmp_ne (tgt := 200) hx hb dX5_does_186 (by decide) (fun r8 => ?_) (fun r8 => ?_)
          · have c8 : ¬ tn ((μ 18) ai) = 3 := fun q => r8 ((nI_eq (a := tn ((μ 18) ai)) (b := 3) (by omega) (by omega)).mpr q)
            refine lv_iload hx hb dX5_does_200 (lv_at hl 5 rfl) ?_
            refine lv_bipush (v := 6) hx hb dX5_does_202 (by decide) ?_
            refine lv_icmp_ne (tgt := 225) hx hb dX5_does_204 (by decide) (fun r9 => ?_) (fun r9 => ?_)
            · have c9 : ¬ tn ((μ 18) ai) = 6 := fun q => r9 ((nI_eq (a := tn ((μ 18) ai)) (b := 6) (by omega) (by omega)).mpr q)
              refine lv_iload hx hb dX5_does_225 (lv_at hl 5 rfl) ?_
              refine lv_bipush (v := 7) hx hb dX5_does_227 (by decide) ?_
              refine lv_icmp_ne (tgt := 249) hx hb dX5_does_229 (by decide) (fun r10 => ?_) (fun r10 => ?_)
              · have c10 : ¬ tn ((μ 18) ai) = 7 := fun q => r10 ((nI_eq (a := tn ((μ 18) ai)) (b := 7) (by omega) (by omega)).mpr q)
                refine lv_aload_n hx hb dX5_does_249 rfl (lv_at hl 0 rfl) ?_
                refine va_get (D := D) (ci := 6) (v := .ref (ad 5)) (C := RX5) (T := TX5) (N := 26) hx hb hts hin_RX5 hown hE.1 hP 0 rfl rfl 5 (by decide) (hts (.fieldLink RX5 20 "VillagepostModel" "blocks" "[Z") (by decide +kernel)) (fun _ h9 => h9) rfl dX5_does_250 ?_
                refine lv_iload_n hx hb dX5_does_253 rfl (lv_at hl 1 rfl) ?_
                refine lv_iload_n hx hb dX5_does_254 rfl (lv_at hl 3 rfl) ?_
                refine lv_iload hx hb dX5_does_255 (lv_at hl 4 rfl) ?_
                refine vg_calliP (va_runS (As := [.int (nI si), .int (nI (tn ((μ 19) ai))), .int (nI (tn ((μ 20) ai)))]) (rest := [.ref (ad 5)]) ⟨hx, hb, hml, hown, hts⟩ (kX5_at l D cy H.size si (tn ((μ 19) ai)) (tn ((μ 20) ai))) (va_cwS 3 hts gX5_does_X5_at rfl rfl rfl (by decide +kernel) ⟨Nat.le_of_ble_eq_true rfl, Nat.le_of_ble_eq_true rfl⟩) (vg_P.preS hE vg_P0 (A := fun _ => True) vg_D0) rfl rfl hl.1 rfl (lv_room (Nat.le_of_ble_eq_true rfl)) dX5_does_257 ⟨Nat.le_of_ble_eq_true rfl, Nat.le_of_ble_eq_true rfl⟩) hP hD hS hA (fun r _ H locs hr hP hD hS => ?_)
                subst hr
                refine lv_iload hx hb dX5_does_260 (lv_at hl 5 rfl) ?_
                refine lv_iconst (v := 4) hx hb dX5_does_262 (by decide) ?_
                refine lv_icmp_ne (tgt := 270) hx hb dX5_does_263 (by decide) (fun r11 => ?_) (fun r11 => ?_)
                · have c11 : ¬ tn ((μ 18) ai) = 4 := fun q => r11 ((nI_eq (a := tn ((μ 18) ai)) (b := 4) (by omega) (by omega)).mpr q)
                  refine lv_iconst (v := 0) hx hb dX5_does_270 (by decide) ?_
                  refine vg_zast hx hb hE.1 hP hD hS 4 2 rfl rfl (f := μ 5) (j := (100 * si + 10 * (tn ((μ 19) ai)) + (tn ((μ 20) ai)))) (by omega) (by decide) (rfl) dX5_does_271 (fun H locs hP hD hS => ?_)
                  have hP : va_P D vwCl (Mw cy mo ad (va_up (va_up μ 22 (upd (μ 22) (600 * si + ai) 1)) 5 (upd (μ 5) (100 * si + 10 * (tn ((μ 19) ai)) + (tn ((μ 20) ai))) 0))) H := hP
                  have hD : va_D (va_A (Mw cy mo ad μ) s.heap.size) (Mw cy mo ad (va_up (va_up μ 22 (upd (μ 22) (600 * si + ai) 1)) 5 (upd (μ 5) (100 * si + 10 * (tn ((μ 19) ai)) + (tn ((μ 20) ai))) 0))) := hD
                  refine lv_iload hx hb dX5_does_272 (lv_at hl 5 rfl) ?_
                  refine lv_iconst (v := 4) hx hb dX5_does_274 (by decide) ?_
                  refine lv_icmp_ne (tgt := 294) hx hb dX5_does_275 (by decide) (fun _ => ?_) (fun c9 => absurd c9 r11)
                  have eW : va_up (va_up μ 22 (upd (μ 22) (600 * si + ai) 1)) 5 (upd (μ 5) (100 * si + 10 * (tn ((μ 19) ai)) + (tn ((μ 20) ai))) 0) = mDo μ si ai := by simp [mDo, mDo1, bI, va_up_ne, mIsA_up, c4, n8, c5, c6, c7, c8, c9, c10, c11]
                  have hP : va_P D vwCl (Mw cy mo ad (mDo μ si ai)) H := by rw [← eW]; exact hP
                  have hD : va_D (va_A (Mw cy mo ad μ) s.heap.size) (Mw cy mo ad (mDo μ si ai)) := by rw [← eW]; exact hD
                  exact W.vret hx hb hr (fun t ht hW => ⟨⟨(), rfl, trivial, (by rw [ht]; exact hP), hD⟩, hS.F ht⟩) hS.2.2 dX5_does_294
                · have c11 : tn ((μ 18) ai) = 4 := (nI_eq (a := tn ((μ 18) ai)) (b := 4) (by omega) (by omega)).mp r11
                  refine lv_iconst (v := 1) hx hb dX5_does_266 (by decide) ?_
                  refine lv_goto (tgt := 271) hx hb dX5_does_267 (by decide) ?_
                  refine vg_zast hx hb hE.1 hP hD hS 4 2 rfl rfl (f := μ 5) (j := (100 * si + 10 * (tn ((μ 19) ai)) + (tn ((μ 20) ai)))) (by omega) (by decide) (rfl) dX5_does_271 (fun H locs hP hD hS => ?_)
                  have hP : va_P D vwCl (Mw cy mo ad (va_up (va_up μ 22 (upd (μ 22) (600 * si + ai) 1)) 5 (upd (μ 5) (100 * si + 10 * (tn ((μ 19) ai)) + (tn ((μ 20) ai))) 1))) H := hP
                  have hD : va_D (va_A (Mw cy mo ad μ) s.heap.size) (Mw cy mo ad (va_up (va_up μ 22 (upd (μ 22) (600 * si + ai) 1)) 5 (upd (μ 5) (100 * si + 10 * (tn ((μ 19) ai)) + (tn ((μ 20) ai))) 1))) := hD
                  refine lv_iload hx hb dX5_does_272 (lv_at hl 5 rfl) ?_
                  refine lv_iconst (v := 4) hx hb dX5_does_274 (by decide) ?_
                  refine lv_icmp_ne (tgt := 294) hx hb dX5_does_275 (by decide) (fun c9 => absurd r11 c9) (fun _ => ?_)
                  refine lv_aload_n hx hb dX5_does_278 rfl (lv_at hl 0 rfl) ?_
                  refine lv_iload_n hx hb dX5_does_279 rfl (lv_at hl 1 rfl) ?_
                  refine lv_iload_n hx hb dX5_does_280 rfl (lv_at hl 3 rfl) ?_
                  refine lv_iload hx hb dX5_does_281 (lv_at hl 4 rfl) ?_
                  refine vg_callvW (va_runV (As := [.int (nI si), .int (nI (tn ((μ 19) ai))), .int (nI (tn ((μ 20) ai)))]) (rest := []) ⟨hx, hb, hml, hown, hts⟩ (kX5_parts l D cy H.size mo ad (va_up (va_up μ 22 (upd (μ 22) (600 * si + ai) 1)) 5 (upd (μ 5) (100 * si + 10 * (tn ((μ 19) ai)) + (tn ((μ 20) ai))) 1)) si (tn ((μ 19) ai)) (tn ((μ 20) ai)) (by omega) (by omega) (by omega)) (cwV 3 hts gX5_does_X5_parts rfl rfl rfl (by decide +kernel) ⟨Nat.le_of_ble_eq_true rfl, Nat.le_of_ble_eq_true rfl⟩) (vg_P.preV hE hP 0 rfl rfl hP hD) rfl rfl hl.1 rfl (lv_room (Nat.le_of_ble_eq_true rfl)) dX5_does_283 ⟨Nat.le_of_ble_eq_true rfl, Nat.le_of_ble_eq_true rfl⟩) hP hD hS hA (fun _ H locs hrv hP hD hS => ?_)
                  have hP : va_P D vwCl (Mw cy mo ad (mPar (va_up (va_up μ 22 (upd (μ 22) (600 * si + ai) 1)) 5 (upd (μ 5) (100 * si + 10 * (tn ((μ 19) ai)) + (tn ((μ 20) ai))) 1)) si (tn ((μ 19) ai)) (tn ((μ 20) ai)))) H := hP
                  have hD : va_D (va_A (Mw cy mo ad μ) s.heap.size) (Mw cy mo ad (mPar (va_up (va_up μ 22 (upd (μ 22) (600 * si + ai) 1)) 5 (upd (μ 5) (100 * si + 10 * (tn ((μ 19) ai)) + (tn ((μ 20) ai))) 1)) si (tn ((μ 19) ai)) (tn ((μ 20) ai)))) := hD
                  refine lv_aload_n hx hb dX5_does_286 rfl (lv_at hl 0 rfl) ?_
                  refine lv_iload_n hx hb dX5_does_287 rfl (lv_at hl 1 rfl) ?_
                  refine lv_iload hx hb dX5_does_288 (lv_at hl 4 rfl) ?_
                  refine lv_iload_n hx hb dX5_does_290 rfl (lv_at hl 3 rfl) ?_
                  refine vg_callvW (va_runV (As := [.int (nI si), .int (nI (tn ((μ 20) ai))), .int (nI (tn ((μ 19) ai)))]) (rest := []) ⟨hx, hb, hml, hown, hts⟩ (kX5_parts l D cy H.size mo ad (mPar (va_up (va_up μ 22 (upd (μ 22) (600 * si + ai) 1)) 5 (upd (μ 5) (100 * si + 10 * (tn ((μ 19) ai)) + (tn ((μ 20) ai))) 1)) si (tn ((μ 19) ai)) (tn ((μ 20) ai))) si (tn ((μ 20) ai)) (tn ((μ 19) ai)) (by omega) (by omega) (by omega)) (cwV 3 hts gX5_does_X5_parts rfl rfl rfl (by decide +kernel) ⟨Nat.le_of_ble_eq_true rfl, Nat.le_of_ble_eq_true rfl⟩) (vg_P.preV hE hP 0 rfl rfl hP hD) rfl rfl hl.1 rfl (lv_room (Nat.le_of_ble_eq_true rfl)) dX5_does_291 ⟨Nat.le_of_ble_eq_true rfl, Nat.le_of_ble_eq_true rfl⟩) hP hD hS hA (fun _ H locs hrv hP hD hS => ?_)
                  have hP : va_P D vwCl (Mw cy mo ad (mPar (mPar (va_up (va_up μ 22 (upd (μ 22) (600 * si + ai) 1)) 5 (upd (μ 5) (100 * si + 10 * (tn ((μ 19) ai)) + (tn ((μ 20) ai))) 1)) si (tn ((μ 19) ai)) (tn ((μ 20) ai))) si (tn ((μ 20) ai)) (tn ((μ 19) ai)))) H := hP
                  have hD : va_D (va_A (Mw cy mo ad μ) s.heap.size) (Mw cy mo ad (mPar (mPar (va_up (va_up μ 22 (upd (μ 22) (600 * si + ai) 1)) 5 (upd (μ 5) (100 * si + 10 * (tn ((μ 19) ai)) + (tn ((μ 20) ai))) 1)) si (tn ((μ 19) ai)) (tn ((μ 20) ai))) si (tn ((μ 20) ai)) (tn ((μ 19) ai)))) := hD
                  have eW : mPar (mPar (va_up (va_up μ 22 (upd (μ 22) (600 * si + ai) 1)) 5 (upd (μ 5) (100 * si + 10 * (tn ((μ 19) ai)) + (tn ((μ 20) ai))) 1)) si (tn ((μ 19) ai)) (tn ((μ 20) ai))) si (tn ((μ 20) ai)) (tn ((μ 19) ai)) = mDo μ si ai := by simp [mDo, mDo1, bI, va_up_ne, mIsA_up, c4, n8, c5, c6, c7, c8, c9, c10, c11]
                  have hP : va_P D vwCl (Mw cy mo ad (mDo μ si ai)) H := by rw [← eW]; exact hP
                  have hD : va_D (va_A (Mw cy mo ad μ) s.heap.size) (Mw cy mo ad (mDo μ si ai)) := by rw [← eW]; exact hD
                  exact W.vret hx hb hr (fun t ht hW => ⟨⟨(), rfl, trivial, (by rw [ht]; exact hP), hD⟩, hS.F ht⟩) hS.2.2 dX5_does_294
              · have c10 : tn ((μ 18) ai) = 7 := (nI_eq (a := tn ((μ 18) ai)) (b := 7) (by omega) (by omega)).mp r10
                refine lv_aload_n hx hb dX5_does_232 rfl (lv_at hl 0 rfl) ?_
                refine lv_iload_n hx hb dX5_does_233 rfl (lv_at hl 1 rfl) ?_
                refine lv_iload_n hx hb dX5_does_234 rfl (lv_at hl 3 rfl) ?_
                refine lv_iload hx hb dX5_does_235 (lv_at hl 4 rfl) ?_
                refine lv_aload_n hx hb dX5_does_237 rfl (lv_at hl 0 rfl) ?_
                refine va_get (D := D) (ci := 6) (v := .ref (ad 21)) (C := RX5) (T := TX5) (N := 26) hx hb hts hin_RX5 hown hE.1 hP 0 rfl rfl 21 (by decide) (hts (.fieldLink RX5 62 "VillagepostModel" "told" "[I") (by decide +kernel)) (fun _ h9 => h9) rfl dX5_does_238 ?_
                refine lv_iload_n hx hb dX5_does_241 rfl (lv_at hl 2 rfl) ?_
                refine vg_iald hx hb hE.1 hP 18 0 rfl rfl (f := μ 21) (j := ai) (by omega) (by decide) dX5_does_242 ?_
                refine vg_callvW (va_runV (As := [.int (nI si), .int (nI (tn ((μ 19) ai))), .int (nI (tn ((μ 20) ai))), .int ((μ 21) ai)]) (rest := []) ⟨hx, hb, hml, hown, hts⟩ (kX5_moves l D cy H.size mo ad (va_up μ 22 (upd (μ 22) (600 * si + ai) 1)) si (tn ((μ 19) ai)) (tn ((μ 20) ai)) (((μ 21) ai)) (hpe) (by omega) (by omega) (by omega)) (cwV 4 hts gX5_does_X5_moves rfl rfl rfl (by decide +kernel) ⟨Nat.le_of_ble_eq_true rfl, Nat.le_of_ble_eq_true rfl⟩) (vg_P.preV hE hP 0 rfl rfl hP hD) rfl rfl hl.1 rfl (lv_room (Nat.le_of_ble_eq_true rfl)) dX5_does_243 ⟨Nat.le_of_ble_eq_true rfl, Nat.le_of_ble_eq_true rfl⟩) hP hD hS hA (fun _ H locs hrv hP hD hS => ?_)
                have hP : va_P D vwCl (Mw cy mo ad (mMov (va_up μ 22 (upd (μ 22) (600 * si + ai) 1)) si (tn ((μ 19) ai)) (tn ((μ 20) ai)) (((μ 21) ai)) (tn ((va_up μ 22 (upd (μ 22) (600 * si + ai) 1)) 1 0)))) H := hP
                have hD : va_D (va_A (Mw cy mo ad μ) s.heap.size) (Mw cy mo ad (mMov (va_up μ 22 (upd (μ 22) (600 * si + ai) 1)) si (tn ((μ 19) ai)) (tn ((μ 20) ai)) (((μ 21) ai)) (tn ((va_up μ 22 (upd (μ 22) (600 * si + ai) 1)) 1 0)))) := hD
                refine lv_goto (tgt := 294) hx hb dX5_does_246 (by decide) ?_
                have eW : mMov (va_up μ 22 (upd (μ 22) (600 * si + ai) 1)) si (tn ((μ 19) ai)) (tn ((μ 20) ai)) (((μ 21) ai)) (tn ((va_up μ 22 (upd (μ 22) (600 * si + ai) 1)) 1 0)) = mDo μ si ai := by simp [mDo, mDo1, bI, va_up_ne, mIsA_up, c4, n8, c5, c6, c7, c8, c9, c10]
                have hP : va_P D vwCl (Mw cy mo ad (mDo μ si ai)) H := by rw [← eW]; exact hP
                have hD : va_D (va_A (Mw cy mo ad μ) s.heap.size) (Mw cy mo ad (mDo μ si ai)) := by rw [← eW]; exact hD
                exact W.vret hx hb hr (fun t ht hW => ⟨⟨(), rfl, trivial, (by rw [ht]; exact hP), hD⟩, hS.F ht⟩) hS.2.2 dX5_does_294
            · have c9 : tn ((μ 18) ai) = 6 := (nI_eq (a := tn ((μ 18) ai)) (b := 6) (by omega) (by omega)).mp r9
              refine lv_aload_n hx hb dX5_does_207 rfl (lv_at hl 0 rfl) ?_
              refine va_get (D := D) (ci := 6) (v := .ref (ad 6)) (C := RX5) (T := TX5) (N := 26) hx hb hts hin_RX5 hown hE.1 hP 0 rfl rfl 6 (by decide) (hts (.fieldLink RX5 23 "VillagepostModel" "alias" "[I") (by decide +kernel)) (fun _ h9 => h9) rfl dX5_does_208 ?_
              refine lv_bipush (v := 10) hx hb dX5_does_211 (by decide) ?_
              refine lv_iload_n hx hb dX5_does_213 rfl (lv_at hl 1 rfl) ?_
              refine lv_imul hx hb dX5_does_214 ?_
              refine vg_tp (nI (10 * si)) (pk_mul 10 si) ?_
              refine lv_iload_n hx hb dX5_does_215 rfl (lv_at hl 3 rfl) ?_
              refine lv_iadd hx hb dX5_does_216 ?_
              refine vg_tp (nI (10 * si + (tn ((μ 19) ai)))) (nI_add (10 * si) (tn ((μ 19) ai))) ?_
              refine lv_iload hx hb dX5_does_217 (lv_at hl 4 rfl) ?_
              refine lv_iconst (v := 1) hx hb dX5_does_219 (by decide) ?_
              refine lv_iadd hx hb dX5_does_220 ?_
              refine vg_tp (nI (tn ((μ 20) ai) + 1)) (nI_add (tn ((μ 20) ai)) 1) ?_
              refine vg_iast hx hb hE.1 hP hD hS 5 0 rfl rfl (f := μ 6) (j := (10 * si + (tn ((μ 19) ai)))) (by omega) (by decide) dX5_does_221 (fun H locs hP hD hS => ?_)
              have hP : va_P D vwCl (Mw cy mo ad (va_up (va_up μ 22 (upd (μ 22) (600 * si + ai) 1)) 6 (upd (μ 6) (10 * si + (tn ((μ 19) ai))) (nI (tn ((μ 20) ai) + 1))))) H := hP
              have hD : va_D (va_A (Mw cy mo ad μ) s.heap.size) (Mw cy mo ad (va_up (va_up μ 22 (upd (μ 22) (600 * si + ai) 1)) 6 (upd (μ 6) (10 * si + (tn ((μ 19) ai))) (nI (tn ((μ 20) ai) + 1))))) := hD
              refine lv_goto (tgt := 294) hx hb dX5_does_222 (by decide) ?_
              have eW : va_up (va_up μ 22 (upd (μ 22) (600 * si + ai) 1)) 6 (upd (μ 6) (10 * si + (tn ((μ 19) ai))) (nI (tn ((μ 20) ai) + 1))) = mDo μ si ai := by simp [mDo, mDo1, bI, va_up_ne, mIsA_up, c4, n8, c5, c6, c7, c8, c9]
              have hP : va_P D vwCl (Mw cy mo ad (mDo μ si ai)) H := by rw [← eW]; exact hP
              have hD : va_D (va_A (Mw cy mo ad μ) s.heap.size) (Mw cy mo ad (mDo μ si ai)) := by rw [← eW]; exact hD
              exact W.vret hx hb hr (fun t ht hW => ⟨⟨(), rfl, trivial, (by rw [ht]; exact hP), hD⟩, hS.F ht⟩) hS.2.2 dX5_does_294
          · have c8 : tn ((μ 18) ai) = 3 := (nI_eq (a := tn ((μ 18) ai)) (b := 3) (by omega) (by omega)).mp r8
            refine lv_aload_n hx hb dX5_does_189 rfl (lv_at hl 0 rfl) ?_
            refine lv_iload_n hx hb dX5_does_190 rfl (lv_at hl 1 rfl) ?_
            refine lv_iload_n hx hb dX5_does_191 rfl (lv_at hl 3 rfl) ?_
            refine lv_iload hx hb dX5_does_192 (lv_at hl 4 rfl) ?_
            refine vg_callvW (va_runV (As := [.int (nI si), .int (nI (tn ((μ 19) ai))), .int (nI (tn ((μ 20) ai)))]) (rest := []) ⟨hx, hb, hml, hown, hts⟩ (kX5_parts l D cy H.size mo ad (va_up μ 22 (upd (μ 22) (600 * si + ai) 1)) si (tn ((μ 19) ai)) (tn ((μ 20) ai)) (by omega) (by omega) (by omega)) (cwV 3 hts gX5_does_X5_parts rfl rfl rfl (by decide +kernel) ⟨Nat.le_of_ble_eq_true rfl, Nat.le_of_ble_eq_true rfl⟩) (vg_P.preV hE hP 0 rfl rfl hP hD) rfl rfl hl.1 rfl (lv_room (Nat.le_of_ble_eq_true rfl)) dX5_does_194 ⟨Nat.le_of_ble_eq_true rfl, Nat.le_of_ble_eq_true rfl⟩) hP hD hS hA (fun _ H locs hrv hP hD hS => ?_)
            have hP : va_P D vwCl (Mw cy mo ad (mPar (va_up μ 22 (upd (μ 22) (600 * si + ai) 1)) si (tn ((μ 19) ai)) (tn ((μ 20) ai)))) H := hP
            have hD : va_D (va_A (Mw cy mo ad μ) s.heap.size) (Mw cy mo ad (mPar (va_up μ 22 (upd (μ 22) (600 * si + ai) 1)) si (tn ((μ 19) ai)) (tn ((μ 20) ai)))) := hD
            refine lv_goto (tgt := 294) hx hb dX5_does_197 (by decide) ?_
            have eW : mPar (va_up μ 22 (upd (μ 22) (600 * si + ai) 1)) si (tn ((μ 19) ai)) (tn ((μ 20) ai)) = mDo μ si ai := by simp [mDo, mDo1, bI, va_up_ne, mIsA_up, c4, n8, c5, c6, c7, c8]
            have hP : va_P D vwCl (Mw cy mo ad (mDo μ si ai)) H := by rw [← eW]; exact hP
            have hD : va_D (va_A (Mw cy mo ad μ) s.heap.size) (Mw cy mo ad (mDo μ si ai)) := by rw [← eW]; exact hD
            exact W.vret hx hb hr (fun t ht hW => ⟨⟨(), rfl, trivial, (by rw [ht]; exact hP), hD⟩, hS.F ht⟩) hS.2.2 dX5_does_294
        · have c7 : tn ((μ 18) ai) = 2 := (nI_eq (a := tn ((μ 18) ai)) (b := 2) (by omega) (by omega)).mp r7
          refine lv_aload_n hx hb dX5_does_167 rfl (lv_at hl 0 rfl) ?_
          refine va_get (D := D) (ci := 6) (v := .ref (ad 3)) (C := RX5) (T := TX5) (N := 26) hx hb hts hin_RX5 hown hE.1 hP 0 rfl rfl 3 (by decide) (hts (.fieldLink RX5 13 "VillagepostModel" "asks" "[Z") (by decide +kernel)) (fun _ h9 => h9) rfl dX5_does_168 ?_
          refine lv_iload_n hx hb dX5_does_171 rfl (lv_at hl 1 rfl) ?_
          refine lv_iload hx hb dX5_does_172 (lv_at hl 4 rfl) ?_
          refine lv_iload_n hx hb dX5_does_174 rfl (lv_at hl 3 rfl) ?_
          refine vg_calliP (va_runS (As := [.int (nI si), .int (nI (tn ((μ 20) ai))), .int (nI (tn ((μ 19) ai)))]) (rest := [.ref (ad 3)]) ⟨hx, hb, hml, hown, hts⟩ (kX5_at l D cy H.size si (tn ((μ 20) ai)) (tn ((μ 19) ai))) (va_cwS 3 hts gX5_does_X5_at rfl rfl rfl (by decide +kernel) ⟨Nat.le_of_ble_eq_true rfl, Nat.le_of_ble_eq_true rfl⟩) (vg_P.preS hE vg_P0 (A := fun _ => True) vg_D0) rfl rfl hl.1 rfl (lv_room (Nat.le_of_ble_eq_true rfl)) dX5_does_175 ⟨Nat.le_of_ble_eq_true rfl, Nat.le_of_ble_eq_true rfl⟩) hP hD hS hA (fun r _ H locs hr hP hD hS => ?_)
          subst hr
          refine lv_iconst (v := 0) hx hb dX5_does_178 (by decide) ?_
          refine vg_zast hx hb hE.1 hP hD hS 2 2 rfl rfl (f := μ 3) (j := (100 * si + 10 * (tn ((μ 20) ai)) + (tn ((μ 19) ai)))) (by omega) (by decide) (rfl) dX5_does_179 (fun H locs hP hD hS => ?_)
          have hP : va_P D vwCl (Mw cy mo ad (va_up (va_up μ 22 (upd (μ 22) (600 * si + ai) 1)) 3 (upd (μ 3) (100 * si + 10 * (tn ((μ 20) ai)) + (tn ((μ 19) ai))) 0))) H := hP
          have hD : va_D (va_A (Mw cy mo ad μ) s.heap.size) (Mw cy mo ad (va_up (va_up μ 22 (upd (μ 22) (600 * si + ai) 1)) 3 (upd (μ 3) (100 * si + 10 * (tn ((μ 20) ai)) + (tn ((μ 19) ai))) 0))) := hD
          refine lv_goto (tgt := 294) hx hb dX5_does_180 (by decide) ?_
          have eW : va_up (va_up μ 22 (upd (μ 22) (600 * si + ai) 1)) 3 (upd (μ 3) (100 * si + 10 * (tn ((μ 20) ai)) + (tn ((μ 19) ai))) 0) = mDo μ si ai := by simp [mDo, mDo1, bI, va_up_ne, mIsA_up, c4, n8, c5, c6, c7]
          have hP : va_P D vwCl (Mw cy mo ad (mDo μ si ai)) H := by rw [← eW]; exact hP
          have hD : va_D (va_A (Mw cy mo ad μ) s.heap.size) (Mw cy mo ad (mDo μ si ai)) := by rw [← eW]; exact hD
          exact W.vret hx hb hr (fun t ht hW => ⟨⟨(), rfl, trivial, (by rw [ht]; exact hP), hD⟩, hS.F ht⟩) hS.2.2 dX5_does_294
      · have c6 : tn ((μ 18) ai) = 1 := (nI_eq (a := tn ((μ 18) ai)) (b := 1) (by omega) (by omega)).mp r6
        refine lv_aload_n hx hb dX5_does_124 rfl (lv_at hl 0 rfl) ?_
        refine va_get (D := D) (ci := 6) (v := .ref (ad 3)) (C := RX5) (T := TX5) (N := 26) hx hb hts hin_RX5 hown hE.1 hP 0 rfl rfl 3 (by decide) (hts (.fieldLink RX5 13 "VillagepostModel" "asks" "[Z") (by decide +kernel)) (fun _ h9 => h9) rfl dX5_does_125 ?_
        refine lv_iload_n hx hb dX5_does_128 rfl (lv_at hl 1 rfl) ?_
        refine lv_iload hx hb dX5_does_129 (lv_at hl 4 rfl) ?_
        refine lv_iload_n hx hb dX5_does_131 rfl (lv_at hl 3 rfl) ?_
        refine vg_calliP (va_runS (As := [.int (nI si), .int (nI (tn ((μ 20) ai))), .int (nI (tn ((μ 19) ai)))]) (rest := [.ref (ad 3)]) ⟨hx, hb, hml, hown, hts⟩ (kX5_at l D cy H.size si (tn ((μ 20) ai)) (tn ((μ 19) ai))) (va_cwS 3 hts gX5_does_X5_at rfl rfl rfl (by decide +kernel) ⟨Nat.le_of_ble_eq_true rfl, Nat.le_of_ble_eq_true rfl⟩) (vg_P.preS hE vg_P0 (A := fun _ => True) vg_D0) rfl rfl hl.1 rfl (lv_room (Nat.le_of_ble_eq_true rfl)) dX5_does_132 ⟨Nat.le_of_ble_eq_true rfl, Nat.le_of_ble_eq_true rfl⟩) hP hD hS hA (fun r _ H locs hr hP hD hS => ?_)
        subst hr
        refine vg_zald hx hb hE.1 hP 2 2 rfl rfl (f := μ 3) (j := (100 * si + 10 * (tn ((μ 20) ai)) + (tn ((μ 19) ai)))) (by omega) (by decide) dX5_does_135 ?_
        refine lv_if_eq (tgt := 294) hx hb dX5_does_136 (by decide) (fun r14 => ?_) (fun r14 => ?_)
        · have c14 := r14
          have eW : va_up μ 22 (upd (μ 22) (600 * si + ai) 1) = mDo μ si ai := by simp [mDo, mDo1, bI, va_up_ne, mIsA_up, c4, n8, c5, c6, c14]
          have hP : va_P D vwCl (Mw cy mo ad (mDo μ si ai)) H := by rw [← eW]; exact hP
          have hD : va_D (va_A (Mw cy mo ad μ) s.heap.size) (Mw cy mo ad (mDo μ si ai)) := by rw [← eW]; exact hD
          exact W.vret hx hb hr (fun t ht hW => ⟨⟨(), rfl, trivial, (by rw [ht]; exact hP), hD⟩, hS.F ht⟩) hS.2.2 dX5_does_294
        · have c14 := r14
          refine lv_aload_n hx hb dX5_does_139 rfl (lv_at hl 0 rfl) ?_
          refine lv_iload_n hx hb dX5_does_140 rfl (lv_at hl 1 rfl) ?_
          refine lv_iload_n hx hb dX5_does_141 rfl (lv_at hl 3 rfl) ?_
          refine lv_iload hx hb dX5_does_142 (lv_at hl 4 rfl) ?_
          refine vg_calliW (va_runV (As := [.int (nI si), .int (nI (tn ((μ 19) ai))), .int (nI (tn ((μ 20) ai)))]) (rest := []) ⟨hx, hb, hml, hown, hts⟩ (kX5_isApart l D cy H.size mo ad (va_up μ 22 (upd (μ 22) (600 * si + ai) 1)) si (tn ((μ 19) ai)) (tn ((μ 20) ai)) (by omega) (by omega) (by omega)) (cwV 3 hts gX5_does_X5_isApart rfl rfl rfl (by decide +kernel) ⟨Nat.le_of_ble_eq_true rfl, Nat.le_of_ble_eq_true rfl⟩) (vg_P.preV hE hP 0 rfl rfl hP hD) rfl rfl hl.1 rfl (lv_room (Nat.le_of_ble_eq_true rfl)) dX5_does_144 ⟨Nat.le_of_ble_eq_true rfl, Nat.le_of_ble_eq_true rfl⟩) hP hD hS hA (fun r _ H locs hr hP hD hS => ?_)
          subst hr
          refine lv_if_ne (tgt := 294) hx hb dX5_does_147 (by decide) (fun r15 => ?_) (fun r15 => ?_)
          · have c15 : (mIsA μ si (tn ((μ 19) ai)) (tn ((μ 20) ai))) = true := bI_n0.mp r15
            have eW : va_up μ 22 (upd (μ 22) (600 * si + ai) 1) = mDo μ si ai := by simp [mDo, mDo1, bI, va_up_ne, mIsA_up, c4, n8, c5, c6, c14, c15]
            have hP : va_P D vwCl (Mw cy mo ad (mDo μ si ai)) H := by rw [← eW]; exact hP
            have hD : va_D (va_A (Mw cy mo ad μ) s.heap.size) (Mw cy mo ad (mDo μ si ai)) := by rw [← eW]; exact hD
            exact W.vret hx hb hr (fun t ht hW => ⟨⟨(), rfl, trivial, (by rw [ht]; exact hP), hD⟩, hS.F ht⟩) hS.2.2 dX5_does_294
          · have c15 : (mIsA μ si (tn ((μ 19) ai)) (tn ((μ 20) ai))) = false := bI_0.mp r15
            refine lv_aload_n hx hb dX5_does_150 rfl (lv_at hl 0 rfl) ?_
            refine lv_iload_n hx hb dX5_does_151 rfl (lv_at hl 1 rfl) ?_
            refine lv_iload hx hb dX5_does_152 (lv_at hl 4 rfl) ?_
            refine lv_iload_n hx hb dX5_does_154 rfl (lv_at hl 3 rfl) ?_
            refine vg_callvW (va_runV (As := [.int (nI si), .int (nI (tn ((μ 20) ai))), .int (nI (tn ((μ 19) ai)))]) (rest := []) ⟨hx, hb, hml, hown, hts⟩ (kX5_follows l D cy H.size mo ad (va_up μ 22 (upd (μ 22) (600 * si + ai) 1)) si (tn ((μ 20) ai)) (tn ((μ 19) ai)) (by omega) (by omega) (by omega)) (cwV 3 hts gX5_does_X5_follows rfl rfl rfl (by decide +kernel) ⟨Nat.le_of_ble_eq_true rfl, Nat.le_of_ble_eq_true rfl⟩) (vg_P.preV hE hP 0 rfl rfl hP hD) rfl rfl hl.1 rfl (lv_room (Nat.le_of_ble_eq_true rfl)) dX5_does_155 ⟨Nat.le_of_ble_eq_true rfl, Nat.le_of_ble_eq_true rfl⟩) hP hD hS hA (fun _ H locs hrv hP hD hS => ?_)
            have hP : va_P D vwCl (Mw cy mo ad (mFol (va_up μ 22 (upd (μ 22) (600 * si + ai) 1)) si (tn ((μ 20) ai)) (tn ((μ 19) ai)))) H := hP
            have hD : va_D (va_A (Mw cy mo ad μ) s.heap.size) (Mw cy mo ad (mFol (va_up μ 22 (upd (μ 22) (600 * si + ai) 1)) si (tn ((μ 20) ai)) (tn ((μ 19) ai)))) := hD
            refine lv_goto (tgt := 294) hx hb dX5_does_158 (by decide) ?_
            have eW : mFol (va_up μ 22 (upd (μ 22) (600 * si + ai) 1)) si (tn ((μ 20) ai)) (tn ((μ 19) ai)) = mDo μ si ai := by simp [mDo, mDo1, bI, va_up_ne, mIsA_up, c4, n8, c5, c6, c14, c15]
            have hP : va_P D vwCl (Mw cy mo ad (mDo μ si ai)) H := by rw [← eW]; exact hP
            have hD : va_D (va_A (Mw cy mo ad μ) s.heap.size) (Mw cy mo ad (mDo μ si ai)) := by rw [← eW]; exact hD
            exact W.vret hx hb hr (fun t ht hW => ⟨⟨(), rfl, trivial, (by rw [ht]; exact hP), hD⟩, hS.F ht⟩) hS.2.2 dX5_does_294
    · have c5 : tn ((μ 18) ai) = 0 := (nI_eq (a := tn ((μ 18) ai)) (b := 0) (by omega) (by omega)).mp r5
      refine lv_aload_n hx hb dX5_does_57 rfl (lv_at hl 0 rfl) ?_
      refine va_get (D := D) (ci := 6) (v := .ref (ad 3)) (C := RX5) (T := TX5) (N := 26) hx hb hts hin_RX5 hown hE.1 hP 0 rfl rfl 3 (by decide) (hts (.fieldLink RX5 13 "VillagepostModel" "asks" "[Z") (by decide +kernel)) (fun _ h9 => h9) rfl dX5_does_58 ?_
      refine lv_iload_n hx hb dX5_does_61 rfl (lv_at hl 1 rfl) ?_
      refine lv_iload_n hx hb dX5_does_62 rfl (lv_at hl 3 rfl) ?_
      refine lv_iload hx hb dX5_does_63 (lv_at hl 4 rfl) ?_
      refine vg_calliP (va_runS (As := [.int (nI si), .int (nI (tn ((μ 19) ai))), .int (nI (tn ((μ 20) ai)))]) (rest := [.ref (ad 3)]) ⟨hx, hb, hml, hown, hts⟩ (kX5_at l D cy H.size si (tn ((μ 19) ai)) (tn ((μ 20) ai))) (va_cwS 3 hts gX5_does_X5_at rfl rfl rfl (by decide +kernel) ⟨Nat.le_of_ble_eq_true rfl, Nat.le_of_ble_eq_true rfl⟩) (vg_P.preS hE vg_P0 (A := fun _ => True) vg_D0) rfl rfl hl.1 rfl (lv_room (Nat.le_of_ble_eq_true rfl)) dX5_does_65 ⟨Nat.le_of_ble_eq_true rfl, Nat.le_of_ble_eq_true rfl⟩) hP hD hS hA (fun r _ H locs hr hP hD hS => ?_)
      subst hr
      refine lv_aload_n hx hb dX5_does_68 rfl (lv_at hl 0 rfl) ?_
      refine va_get (D := D) (ci := 6) (v := .ref (ad 3)) (C := RX5) (T := TX5) (N := 26) hx hb hts hin_RX5 hown hE.1 hP 0 rfl rfl 3 (by decide) (hts (.fieldLink RX5 13 "VillagepostModel" "asks" "[Z") (by decide +kernel)) (fun _ h9 => h9) rfl dX5_does_69 ?_
      refine lv_iload_n hx hb dX5_does_72 rfl (lv_at hl 1 rfl) ?_
      refine lv_iload_n hx hb dX5_does_73 rfl (lv_at hl 3 rfl) ?_
      refine lv_iload hx hb dX5_does_74 (lv_at hl 4 rfl) ?_
      refine vg_calliP (va_runS (As := [.int (nI si), .int (nI (tn ((μ 19) ai))), .int (nI (tn ((μ 20) ai)))]) (rest := [.ref (ad 3), .int (nI (100 * si + 10 * (tn ((μ 19) ai)) + (tn ((μ 20) ai)))), .ref (ad 3)]) ⟨hx, hb, hml, hown, hts⟩ (kX5_at l D cy H.size si (tn ((μ 19) ai)) (tn ((μ 20) ai))) (va_cwS 3 hts gX5_does_X5_at rfl rfl rfl (by decide +kernel) ⟨Nat.le_of_ble_eq_true rfl, Nat.le_of_ble_eq_true rfl⟩) (vg_P.preS hE vg_P0 (A := fun _ => True) vg_D0) rfl rfl hl.1 rfl (lv_room (Nat.le_of_ble_eq_true rfl)) dX5_does_76 ⟨Nat.le_of_ble_eq_true rfl, Nat.le_of_ble_eq_true rfl⟩) hP hD hS hA (fun r _ H locs hr hP hD hS => ?_)
      subst hr
      refine vg_zald hx hb hE.1 hP 2 2 rfl rfl (f := μ 3) (j := (100 * si + 10 * (tn ((μ 19) ai)) + (tn ((μ 20) ai)))) (by omega) (by decide) dX5_does_79 ?_
      refine lv_if_ne (tgt := 109) hx hb dX5_does_80 (by decide) (fun r16 => ?_) (fun r16 => ?_)
      · have c16 := r16
        refine lv_iconst (v := 1) hx hb dX5_does_109 (by decide) ?_
        refine lv_goto (tgt := 114) hx hb dX5_does_110 (by decide) ?_
        refine vg_zast hx hb hE.1 hP hD hS 2 2 rfl rfl (f := μ 3) (j := (100 * si + 10 * (tn ((μ 19) ai)) + (tn ((μ 20) ai)))) (by omega) (by decide) (rfl) dX5_does_114 (fun H locs hP hD hS => ?_)
        have hP : va_P D vwCl (Mw cy mo ad (va_up (va_up μ 22 (upd (μ 22) (600 * si + ai) 1)) 3 (upd (μ 3) (100 * si + 10 * (tn ((μ 19) ai)) + (tn ((μ 20) ai))) 1))) H := hP
        have hD : va_D (va_A (Mw cy mo ad μ) s.heap.size) (Mw cy mo ad (va_up (va_up μ 22 (upd (μ 22) (600 * si + ai) 1)) 3 (upd (μ 3) (100 * si + 10 * (tn ((μ 19) ai)) + (tn ((μ 20) ai))) 1))) := hD
        refine lv_goto (tgt := 294) hx hb dX5_does_115 (by decide) ?_
        have eW : va_up (va_up μ 22 (upd (μ 22) (600 * si + ai) 1)) 3 (upd (μ 3) (100 * si + 10 * (tn ((μ 19) ai)) + (tn ((μ 20) ai))) 1) = mDo μ si ai := by simp [mDo, mDo1, bI, va_up_ne, mIsA_up, c4, n8, c5, c16]
        have hP : va_P D vwCl (Mw cy mo ad (mDo μ si ai)) H := by rw [← eW]; exact hP
        have hD : va_D (va_A (Mw cy mo ad μ) s.heap.size) (Mw cy mo ad (mDo μ si ai)) := by rw [← eW]; exact hD
        exact W.vret hx hb hr (fun t ht hW => ⟨⟨(), rfl, trivial, (by rw [ht]; exact hP), hD⟩, hS.F ht⟩) hS.2.2 dX5_does_294
      · have c16 := r16
        refine lv_aload_n hx hb dX5_does_83 rfl (lv_at hl 0 rfl) ?_
        refine va_get (D := D) (ci := 6) (v := .ref (ad 4)) (C := RX5) (T := TX5) (N := 26) hx hb hts hin_RX5 hown hE.1 hP 0 rfl rfl 4 (by decide) (hts (.fieldLink RX5 17 "VillagepostModel" "follows" "[Z") (by decide +kernel)) (fun _ h9 => h9) rfl dX5_does_84 ?_
        refine lv_iload_n hx hb dX5_does_87 rfl (lv_at hl 1 rfl) ?_
        refine lv_iload_n hx hb dX5_does_88 rfl (lv_at hl 3 rfl) ?_
        refine lv_iload hx hb dX5_does_89 (lv_at hl 4 rfl) ?_
        refine vg_calliP (va_runS (As := [.int (nI si), .int (nI (tn ((μ 19) ai))), .int (nI (tn ((μ 20) ai)))]) (rest := [.ref (ad 4), .int (nI (100 * si + 10 * (tn ((μ 19) ai)) + (tn ((μ 20) ai)))), .ref (ad 3)]) ⟨hx, hb, hml, hown, hts⟩ (kX5_at l D cy H.size si (tn ((μ 19) ai)) (tn ((μ 20) ai))) (va_cwS 3 hts gX5_does_X5_at rfl rfl rfl (by decide +kernel) ⟨Nat.le_of_ble_eq_true rfl, Nat.le_of_ble_eq_true rfl⟩) (vg_P.preS hE vg_P0 (A := fun _ => True) vg_D0) rfl rfl hl.1 rfl (lv_room (Nat.le_of_ble_eq_true rfl)) dX5_does_91 ⟨Nat.le_of_ble_eq_true rfl, Nat.le_of_ble_eq_true rfl⟩) hP hD hS hA (fun r _ H locs hr hP hD hS => ?_)
        subst hr
        refine vg_zald hx hb hE.1 hP 3 2 rfl rfl (f := μ 4) (j := (100 * si + 10 * (tn ((μ 19) ai)) + (tn ((μ 20) ai)))) (by omega) (by decide) dX5_does_94 ?_
        refine lv_if_ne (tgt := 113) hx hb dX5_does_95 (by decide) (fun r17 => ?_) (fun r17 => ?_)
        · have c17 := r17
          refine lv_iconst (v := 0) hx hb dX5_does_113 (by decide) ?_
          refine vg_zast hx hb hE.1 hP hD hS 2 2 rfl rfl (f := μ 3) (j := (100 * si + 10 * (tn ((μ 19) ai)) + (tn ((μ 20) ai)))) (by omega) (by decide) (rfl) dX5_does_114 (fun H locs hP hD hS => ?_)
          have hP : va_P D vwCl (Mw cy mo ad (va_up (va_up μ 22 (upd (μ 22) (600 * si + ai) 1)) 3 (upd (μ 3) (100 * si + 10 * (tn ((μ 19) ai)) + (tn ((μ 20) ai))) 0))) H := hP
          have hD : va_D (va_A (Mw cy mo ad μ) s.heap.size) (Mw cy mo ad (va_up (va_up μ 22 (upd (μ 22) (600 * si + ai) 1)) 3 (upd (μ 3) (100 * si + 10 * (tn ((μ 19) ai)) + (tn ((μ 20) ai))) 0))) := hD
          refine lv_goto (tgt := 294) hx hb dX5_does_115 (by decide) ?_
          have eW : va_up (va_up μ 22 (upd (μ 22) (600 * si + ai) 1)) 3 (upd (μ 3) (100 * si + 10 * (tn ((μ 19) ai)) + (tn ((μ 20) ai))) 0) = mDo μ si ai := by simp [mDo, mDo1, bI, va_up_ne, mIsA_up, c4, n8, c5, c16, c17]
          have hP : va_P D vwCl (Mw cy mo ad (mDo μ si ai)) H := by rw [← eW]; exact hP
          have hD : va_D (va_A (Mw cy mo ad μ) s.heap.size) (Mw cy mo ad (mDo μ si ai)) := by rw [← eW]; exact hD
          exact W.vret hx hb hr (fun t ht hW => ⟨⟨(), rfl, trivial, (by rw [ht]; exact hP), hD⟩, hS.F ht⟩) hS.2.2 dX5_does_294
        · have c17 := r17
          refine lv_aload_n hx hb dX5_does_98 rfl (lv_at hl 0 rfl) ?_
          refine lv_iload_n hx hb dX5_does_99 rfl (lv_at hl 1 rfl) ?_
          refine lv_iload_n hx hb dX5_does_100 rfl (lv_at hl 3 rfl) ?_
          refine lv_iload hx hb dX5_does_101 (lv_at hl 4 rfl) ?_
          refine vg_calliW (va_runV (As := [.int (nI si), .int (nI (tn ((μ 19) ai))), .int (nI (tn ((μ 20) ai)))]) (rest := [.int (nI (100 * si + 10 * (tn ((μ 19) ai)) + (tn ((μ 20) ai)))), .ref (ad 3)]) ⟨hx, hb, hml, hown, hts⟩ (kX5_isApart l D cy H.size mo ad (va_up μ 22 (upd (μ 22) (600 * si + ai) 1)) si (tn ((μ 19) ai)) (tn ((μ 20) ai)) (by omega) (by omega) (by omega)) (cwV 3 hts gX5_does_X5_isApart rfl rfl rfl (by decide +kernel) ⟨Nat.le_of_ble_eq_true rfl, Nat.le_of_ble_eq_true rfl⟩) (vg_P.preV hE hP 0 rfl rfl hP hD) rfl rfl hl.1 rfl (lv_room (Nat.le_of_ble_eq_true rfl)) dX5_does_103 ⟨Nat.le_of_ble_eq_true rfl, Nat.le_of_ble_eq_true rfl⟩) hP hD hS hA (fun r _ H locs hr hP hD hS => ?_)
          subst hr
          refine lv_if_ne (tgt := 113) hx hb dX5_does_106 (by decide) (fun r18 => ?_) (fun r18 => ?_)
          · have c18 : (mIsA μ si (tn ((μ 19) ai)) (tn ((μ 20) ai))) = true := bI_n0.mp r18
            refine lv_iconst (v := 0) hx hb dX5_does_113 (by decide) ?_
            refine vg_zast hx hb hE.1 hP hD hS 2 2 rfl rfl (f := μ 3) (j := (100 * si + 10 * (tn ((μ 19) ai)) + (tn ((μ 20) ai)))) (by omega) (by decide) (rfl) dX5_does_114 (fun H locs hP hD hS => ?_)
            have hP : va_P D vwCl (Mw cy mo ad (va_up (va_up μ 22 (upd (μ 22) (600 * si + ai) 1)) 3 (upd (μ 3) (100 * si + 10 * (tn ((μ 19) ai)) + (tn ((μ 20) ai))) 0))) H := hP
            have hD : va_D (va_A (Mw cy mo ad μ) s.heap.size) (Mw cy mo ad (va_up (va_up μ 22 (upd (μ 22) (600 * si + ai) 1)) 3 (upd (μ 3) (100 * si + 10 * (tn ((μ 19) ai)) + (tn ((μ 20) ai))) 0))) := hD
            refine lv_goto (tgt := 294) hx hb dX5_does_115 (by decide) ?_
            have eW : va_up (va_up μ 22 (upd (μ 22) (600 * si + ai) 1)) 3 (upd (μ 3) (100 * si + 10 * (tn ((μ 19) ai)) + (tn ((μ 20) ai))) 0) = mDo μ si ai := by simp [mDo, mDo1, bI, va_up_ne, mIsA_up, c4, n8, c5, c16, c17, c18]
            have hP : va_P D vwCl (Mw cy mo ad (mDo μ si ai)) H := by rw [← eW]; exact hP
            have hD : va_D (va_A (Mw cy mo ad μ) s.heap.size) (Mw cy mo ad (mDo μ si ai)) := by rw [← eW]; exact hD
            exact W.vret hx hb hr (fun t ht hW => ⟨⟨(), rfl, trivial, (by rw [ht]; exact hP), hD⟩, hS.F ht⟩) hS.2.2 dX5_does_294
          · have c18 : (mIsA μ si (tn ((μ 19) ai)) (tn ((μ 20) ai))) = false := bI_0.mp r18
            refine lv_iconst (v := 1) hx hb dX5_does_109 (by decide) ?_
            refine lv_goto (tgt := 114) hx hb dX5_does_110 (by decide) ?_
            refine vg_zast hx hb hE.1 hP hD hS 2 2 rfl rfl (f := μ 3) (j := (100 * si + 10 * (tn ((μ 19) ai)) + (tn ((μ 20) ai)))) (by omega) (by decide) (rfl) dX5_does_114 (fun H locs hP hD hS => ?_)
            have hP : va_P D vwCl (Mw cy mo ad (va_up (va_up μ 22 (upd (μ 22) (600 * si + ai) 1)) 3 (upd (μ 3) (100 * si + 10 * (tn ((μ 19) ai)) + (tn ((μ 20) ai))) 1))) H := hP
            have hD : va_D (va_A (Mw cy mo ad μ) s.heap.size) (Mw cy mo ad (va_up (va_up μ 22 (upd (μ 22) (600 * si + ai) 1)) 3 (upd (μ 3) (100 * si + 10 * (tn ((μ 19) ai)) + (tn ((μ 20) ai))) 1))) := hD
            refine lv_goto (tgt := 294) hx hb dX5_does_115 (by decide) ?_
            have eW : va_up (va_up μ 22 (upd (μ 22) (600 * si + ai) 1)) 3 (upd (μ 3) (100 * si + 10 * (tn ((μ 19) ai)) + (tn ((μ 20) ai))) 1) = mDo μ si ai := by simp [mDo, mDo1, bI, va_up_ne, mIsA_up, c4, n8, c5, c16, c17, c18]
            have hP : va_P D vwCl (Mw cy mo ad (mDo μ si ai)) H := by rw [← eW]; exact hP
            have hD : va_D (va_A (Mw cy mo ad μ) s.heap.size) (Mw cy mo ad (mDo μ si ai)) := by rw [← eW]; exact hD
            exact W.vret hx hb hr (fun t ht hW => ⟨⟨(), rfl, trivial, (by rw [ht]; exact hP), hD⟩, hS.F ht⟩) hS.2.2 dX5_does_294
  · have c4 : 8 ≤ tn ((μ 18) ai) := Nat.le_of_not_lt (fun q => r4 ((nI_ltI (a := tn ((μ 18) ai)) (b := 8) (by omega) (by omega)).mpr q))
    refine lv_aload_n hx hb dX5_does_43 rfl (lv_at hl 0 rfl) ?_
    refine lv_iload_n hx hb dX5_does_44 rfl (lv_at hl 1 rfl) ?_
    refine lv_iload_n hx hb dX5_does_45 rfl (lv_at hl 2 rfl) ?_
    refine vg_callvW (va_runV (As := [.int (nI si), .int (nI ai)]) (rest := []) ⟨hx, hb, hml, hown, hts⟩ (kX5_doesPost l D cy H.size mo ad (va_up μ 22 (upd (μ 22) (600 * si + ai) 1)) si ai (⟨hpe, hho, hau, hre, hac⟩) (hla) (by omega) (by omega)) (cwV 2 hts gX5_does_X5_doesPost rfl rfl rfl (by decide +kernel) ⟨Nat.le_of_ble_eq_true rfl, Nat.le_of_ble_eq_true rfl⟩) (vg_P.preV hE hP 0 rfl rfl hP hD) rfl rfl hl.1 rfl (lv_room (Nat.le_of_ble_eq_true rfl)) dX5_does_46 ⟨Nat.le_of_ble_eq_true rfl, Nat.le_of_ble_eq_true rfl⟩) hP hD hS hA (fun _ H locs hrv hP hD hS => ?_)
    have hP : va_P D vwCl (Mw cy mo ad (mDoP (va_up μ 22 (upd (μ 22) (600 * si + ai) 1)) si ai)) H := hP
    have hD : va_D (va_A (Mw cy mo ad μ) s.heap.size) (Mw cy mo ad (mDoP (va_up μ 22 (upd (μ 22) (600 * si + ai) 1)) si ai)) := hD
    refine lv_goto (tgt := 294) hx hb dX5_does_49 (by decide) ?_
    have eW : mDoP (va_up μ 22 (upd (μ 22) (600 * si + ai) 1)) si ai = mDo μ si ai := by simp [mDo, mDo1, bI, va_up_ne, mIsA_up, c4]
    have hP : va_P D vwCl (Mw cy mo ad (mDo μ si ai)) H := by rw [← eW]; exact hP
    have hD : va_D (va_A (Mw cy mo ad μ) s.heap.size) (Mw cy mo ad (mDo μ si ai)) := by rw [← eW]; exact hD
    exact W.vret hx hb hr (fun t ht hW => ⟨⟨(), rfl, trivial, (by rw [ht]; exact hP), hD⟩, hS.F ht⟩) hS.2.2 dX5_does_294

set_option maxHeartbeats 4000000 in
set_option maxRecDepth 100000 in
theorem kX5_acts (l : Launch) (D : va_G) (cy : Nat → ClassId) (sz : Nat) (mo : Nat) (ad : Nat → Nat) (μ : Nat → Nat → Int32) (ki : Nat) (pi : Nat) (qi : Nat) (all : Int32) (sv : Int32) (hw : mWF μ) (hla : mLast μ 1199) (hac0 : isN (μ 17 0) 600) (hk : ki < 11) (hp : pi < 10) (hq : qi < 50) (h8 : ki < 8 → qi < 10) : Met l yX5_acts wsX5_acts ({ frames := 5, cells := 0, slots := 0, locals := 119 }) (vg_P D cy [.ref mo, .int (nI ki), .int (nI pi), .int (nI qi), .int all, .int sv] sz (Mw cy mo ad μ)) (vg_Qv (S := Unit) D sz (Mw cy mo ad μ) (fun _ => True) (fun _ => Mw cy mo ad (mAct μ ki pi qi all sv))) 0 0 (va_A (Mw cy mo ad μ) sz) := by
  refine Met.ofW (cc := cX5_acts) (maxL := 7) (ret := none) (by decide) rfl ?_
  intro p e s m args below meth c s₁ BB hml hv
  obtain ⟨rfl, hsz, hP, hE, hD0⟩ := hv
  have hx := BB.exec
  have hb := BB.bytes
  have hr := BB.returns
  have hts := atoms_spec (ws := wsX5_acts) BB.pre
  have hown : s.vm.findClass RX5 = some m.cls := findClass_of_methodNamed BB.named
  have hlocks := BB.notSynchronized
  subst hsz
  have hD := hD0.self (sz := s.heap.size)
  have hA : ∀ q : Nat, s.heap.size ≤ q → (va_A (Mw cy mo ad μ) s.heap.size) q := fun q h => Or.inr h
  have hS : va_S (va_A (Mw cy mo ad μ) s.heap.size) s.heap s.heap [] := va_S.rf
  have hin_RX5 : ∀ w ∈ u_ws RX5 TX5 26, w ∈ wsX5_acts := by decide +kernel
  have hl := lv_entry ([.ref mo, .int (nI ki), .int (nI pi), .int (nI qi), .int all, .int sv]) (n := 7) (Nat.le_of_ble_eq_true rfl)
  rw [lg_entry_eq]
  generalize (lg_sl ([.ref mo, .int (nI ki), .int (nI pi), .int (nI qi), .int all, .int sv]) ++ List.replicate (7 - (lg_sl ([.ref mo, .int (nI ki), .int (nI pi), .int (nI qi), .int all, .int sv])).length) Slot.unset).toArray = ls at hl ⊢
  have hl : lv_has ls 7 [(0, .ref mo), (1, .int (nI ki)), (2, .int (nI pi)), (3, .int (nI qi)), (4, .int all), (5, .int sv)] := hl
  have hw1 := mWF_snd (mAct0 μ ki pi qi all) (nI (tn (μ 17 0))) (sv &&& (((1 : Int32) <<< (nI (tn (μ 2 pi)) &&& 31)) ^^^ (-1))) 4 (mWF_act0 μ all hw hk hp hq h8)
  have hla1 := mSnd_mLast (mAct0 μ ki pi qi all) (nI (tn (μ 17 0))) (sv &&& (((1 : Int32) <<< (nI (tn (μ 2 pi)) &&& 31)) ^^^ (-1))) (n := 1199) hla (by omega) 4
  obtain ⟨hpe, hho, hau, hre, hac⟩ := hw
  have hpe2 := hpe.2
  have hac2 := hac0.2
  refine lv_aload_n hx hb dX5_acts_0 rfl (lv_at hl 0 rfl) ?_
  refine va_get (D := D) (ci := 6) (v := .int ((μ 17) 0)) (C := RX5) (T := TX5) (N := 26) hx hb hts hin_RX5 hown hE.1 hP 0 rfl rfl 17 (by decide) (hts (.fieldLink RX5 119 "VillagepostModel" "acts" "I") (by decide +kernel)) (fun _ h9 => h9) rfl dX5_acts_1 ?_
  refine vg_tp (nI (tn ((μ 17) 0))) hac0.1 ?_
  refine lv_istore (lv' := [(6, .int (nI (tn ((μ 17) 0)))), (0, .ref mo), (1, .int (nI ki)), (2, .int (nI pi)), (3, .int (nI qi)), (4, .int all), (5, .int sv)]) hx hb dX5_acts_4 hl (by decide) rfl (fun ls hl => ?_)
  have hl : lv_has ls 7 [(0, .ref mo), (1, .int (nI ki)), (2, .int (nI pi)), (3, .int (nI qi)), (4, .int all), (5, .int sv), (6, .int (nI (tn ((μ 17) 0))))] := lv_sub hl [1, 2, 3, 4, 5, 6, 0] rfl
  refine lv_aload_n hx hb dX5_acts_6 rfl (lv_at hl 0 rfl) ?_
  refine va_get (D := D) (ci := 6) (v := .ref (ad 18)) (C := RX5) (T := TX5) (N := 26) hx hb hts hin_RX5 hown hE.1 hP 0 rfl rfl 18 (by decide) (hts (.fieldLink RX5 53 "VillagepostModel" "what" "[I") (by decide +kernel)) (fun _ h9 => h9) rfl dX5_acts_7 ?_
  refine lv_iload hx hb dX5_acts_10 (lv_at hl 6 rfl) ?_
  refine lv_iload_n hx hb dX5_acts_12 rfl (lv_at hl 1 rfl) ?_
  refine vg_iast hx hb hE.1 hP hD hS 15 0 rfl rfl (f := μ 18) (j := (tn ((μ 17) 0))) (by omega) (by decide) dX5_acts_13 (fun H locs hP hD hS => ?_)
  have hP : va_P D vwCl (Mw cy mo ad (va_up μ 18 (upd (μ 18) (tn ((μ 17) 0)) (nI ki)))) H := hP
  have hD : va_D (va_A (Mw cy mo ad μ) s.heap.size) (Mw cy mo ad (va_up μ 18 (upd (μ 18) (tn ((μ 17) 0)) (nI ki)))) := hD
  refine lv_aload_n hx hb dX5_acts_14 rfl (lv_at hl 0 rfl) ?_
  refine va_get (D := D) (ci := 6) (v := .ref (ad 19)) (C := RX5) (T := TX5) (N := 26) hx hb hts hin_RX5 hown hE.1 hP 0 rfl rfl 19 (by decide) (hts (.fieldLink RX5 56 "VillagepostModel" "who" "[I") (by decide +kernel)) (fun _ h9 => h9) rfl dX5_acts_15 ?_
  refine lv_iload hx hb dX5_acts_18 (lv_at hl 6 rfl) ?_
  refine lv_iload_n hx hb dX5_acts_20 rfl (lv_at hl 2 rfl) ?_
  refine vg_iast hx hb hE.1 hP hD hS 16 0 rfl rfl (f := μ 19) (j := (tn ((μ 17) 0))) (by omega) (by decide) dX5_acts_21 (fun H locs hP hD hS => ?_)
  have hP : va_P D vwCl (Mw cy mo ad (va_up (va_up μ 18 (upd (μ 18) (tn ((μ 17) 0)) (nI ki))) 19 (upd (μ 19) (tn ((μ 17) 0)) (nI pi)))) H := hP
  have hD : va_D (va_A (Mw cy mo ad μ) s.heap.size) (Mw cy mo ad (va_up (va_up μ 18 (upd (μ 18) (tn ((μ 17) 0)) (nI ki))) 19 (upd (μ 19) (tn ((μ 17) 0)) (nI pi)))) := hD
  refine lv_aload_n hx hb dX5_acts_22 rfl (lv_at hl 0 rfl) ?_
  refine va_get (D := D) (ci := 6) (v := .ref (ad 20)) (C := RX5) (T := TX5) (N := 26) hx hb hts hin_RX5 hown hE.1 hP 0 rfl rfl 20 (by decide) (hts (.fieldLink RX5 59 "VillagepostModel" "whom" "[I") (by decide +kernel)) (fun _ h9 => h9) rfl dX5_acts_23 ?_
  refine lv_iload hx hb dX5_acts_26 (lv_at hl 6 rfl) ?_
  refine lv_iload_n hx hb dX5_acts_28 rfl (lv_at hl 3 rfl) ?_
  refine vg_iast hx hb hE.1 hP hD hS 17 0 rfl rfl (f := μ 20) (j := (tn ((μ 17) 0))) (by omega) (by decide) dX5_acts_29 (fun H locs hP hD hS => ?_)
  have hP : va_P D vwCl (Mw cy mo ad (va_up (va_up (va_up μ 18 (upd (μ 18) (tn ((μ 17) 0)) (nI ki))) 19 (upd (μ 19) (tn ((μ 17) 0)) (nI pi))) 20 (upd (μ 20) (tn ((μ 17) 0)) (nI qi)))) H := hP
  have hD : va_D (va_A (Mw cy mo ad μ) s.heap.size) (Mw cy mo ad (va_up (va_up (va_up μ 18 (upd (μ 18) (tn ((μ 17) 0)) (nI ki))) 19 (upd (μ 19) (tn ((μ 17) 0)) (nI pi))) 20 (upd (μ 20) (tn ((μ 17) 0)) (nI qi)))) := hD
  refine lv_aload_n hx hb dX5_acts_30 rfl (lv_at hl 0 rfl) ?_
  refine va_get (D := D) (ci := 6) (v := .ref (ad 21)) (C := RX5) (T := TX5) (N := 26) hx hb hts hin_RX5 hown hE.1 hP 0 rfl rfl 21 (by decide) (hts (.fieldLink RX5 62 "VillagepostModel" "told" "[I") (by decide +kernel)) (fun _ h9 => h9) rfl dX5_acts_31 ?_
  refine lv_iload hx hb dX5_acts_34 (lv_at hl 6 rfl) ?_
  refine lv_iload hx hb dX5_acts_36 (lv_at hl 4 rfl) ?_
  refine vg_iast hx hb hE.1 hP hD hS 18 0 rfl rfl (f := μ 21) (j := (tn ((μ 17) 0))) (by omega) (by decide) dX5_acts_38 (fun H locs hP hD hS => ?_)
  have hP : va_P D vwCl (Mw cy mo ad (va_up (va_up (va_up (va_up μ 18 (upd (μ 18) (tn ((μ 17) 0)) (nI ki))) 19 (upd (μ 19) (tn ((μ 17) 0)) (nI pi))) 20 (upd (μ 20) (tn ((μ 17) 0)) (nI qi))) 21 (upd (μ 21) (tn ((μ 17) 0)) all))) H := hP
  have hD : va_D (va_A (Mw cy mo ad μ) s.heap.size) (Mw cy mo ad (va_up (va_up (va_up (va_up μ 18 (upd (μ 18) (tn ((μ 17) 0)) (nI ki))) 19 (upd (μ 19) (tn ((μ 17) 0)) (nI pi))) 20 (upd (μ 20) (tn ((μ 17) 0)) (nI qi))) 21 (upd (μ 21) (tn ((μ 17) 0)) all))) := hD
  refine lv_aload_n hx hb dX5_acts_39 rfl (lv_at hl 0 rfl) ?_
  refine lv_dup hx hb dX5_acts_40 rfl ?_
  refine va_get (D := D) (ci := 6) (v := .int ((μ 17) 0)) (C := RX5) (T := TX5) (N := 26) hx hb hts hin_RX5 hown hE.1 hP 0 rfl rfl 17 (by decide) (hts (.fieldLink RX5 119 "VillagepostModel" "acts" "I") (by decide +kernel)) (fun _ h9 => h9) rfl dX5_acts_41 ?_
  refine vg_tp (nI (tn ((μ 17) 0))) hac0.1 ?_
  refine lv_iconst (v := 1) hx hb dX5_acts_44 (by decide) ?_
  refine lv_iadd hx hb dX5_acts_45 ?_
  refine vg_tp (nI (tn ((μ 17) 0) + 1)) (nI_add (tn ((μ 17) 0)) 1) ?_
  refine va_put (D := (D)) (ci := 6) (v := .int (nI (tn ((μ 17) 0) + 1))) (ty := .int) (C := RX5) (T := TX5) (N := 26) hx hb hts hin_RX5 tyX5 tyX5_ok nmX5 hown hE.1 hP hD hS 0 rfl rfl 17 (by decide) (hts (.fieldLink RX5 119 "VillagepostModel" "acts" "I") (by decide +kernel)) (fun _ h9 => h9) rfl (by decide +kernel) rfl rfl (Nat.le_of_ble_eq_true rfl) dX5_acts_46 (fun H locs hP hD hS => ?_)
  have hP : va_P D vwCl (Mw cy mo ad (va_up (va_up (va_up (va_up (va_up μ 18 (upd (μ 18) (tn ((μ 17) 0)) (nI ki))) 19 (upd (μ 19) (tn ((μ 17) 0)) (nI pi))) 20 (upd (μ 20) (tn ((μ 17) 0)) (nI qi))) 21 (upd (μ 21) (tn ((μ 17) 0)) all)) 17 (fun _ => (nI (tn ((μ 17) 0) + 1))))) H := hP
  have hD : va_D (va_A (Mw cy mo ad μ) s.heap.size) (Mw cy mo ad (va_up (va_up (va_up (va_up (va_up μ 18 (upd (μ 18) (tn ((μ 17) 0)) (nI ki))) 19 (upd (μ 19) (tn ((μ 17) 0)) (nI pi))) 20 (upd (μ 20) (tn ((μ 17) 0)) (nI qi))) 21 (upd (μ 21) (tn ((μ 17) 0)) all)) 17 (fun _ => (nI (tn ((μ 17) 0) + 1))))) := hD
  refine lv_aload_n hx hb dX5_acts_49 rfl (lv_at hl 0 rfl) ?_
  refine lv_iload hx hb dX5_acts_50 (lv_at hl 6 rfl) ?_
  refine lv_iload hx hb dX5_acts_52 (lv_at hl 5 rfl) ?_
  refine lv_iconst (v := 1) hx hb dX5_acts_54 (by decide) ?_
  refine lv_aload_n hx hb dX5_acts_55 rfl (lv_at hl 0 rfl) ?_
  refine va_get (D := D) (ci := 6) (v := .ref (ad 2)) (C := RX5) (T := TX5) (N := 26) hx hb hts hin_RX5 hown hE.1 hP 0 rfl rfl 2 (by decide) (hts (.fieldLink RX5 7 "VillagepostModel" "home" "[I") (by decide +kernel)) (fun _ h9 => h9) rfl dX5_acts_56 ?_
  refine lv_iload_n hx hb dX5_acts_59 rfl (lv_at hl 2 rfl) ?_
  refine vg_iald hx hb hE.1 hP 1 0 rfl rfl (f := μ 2) (j := pi) (by omega) (by decide) dX5_acts_60 ?_
  obtain ⟨hN1, hM1⟩ := hho pi (by omega)
  refine vg_tp (nI (tn ((μ 2) pi))) hN1 ?_
  refine lv_ishl hx hb dX5_acts_61 ?_
  refine lv_iconst (v := (-1)) hx hb dX5_acts_62 (by decide) ?_
  refine lv_ixor hx hb dX5_acts_63 ?_
  refine lv_iand hx hb dX5_acts_64 ?_
  refine vg_callvW (va_runV (As := [.int (nI (tn ((μ 17) 0))), .int (sv &&& (((1 : Int32) <<< ((nI (tn ((μ 2) pi))) &&& 31)) ^^^ (-1)))]) (rest := []) ⟨hx, hb, hml, hown, hts⟩ (kX5_sends l D cy H.size mo ad (va_up (va_up (va_up (va_up (va_up μ 18 (upd (μ 18) (tn ((μ 17) 0)) (nI ki))) 19 (upd (μ 19) (tn ((μ 17) 0)) (nI pi))) 20 (upd (μ 20) (tn ((μ 17) 0)) (nI qi))) 21 (upd (μ 21) (tn ((μ 17) 0)) all)) 17 (fun _ => (nI (tn ((μ 17) 0) + 1)))) ((nI (tn ((μ 17) 0)))) ((sv &&& (((1 : Int32) <<< ((nI (tn ((μ 2) pi))) &&& 31)) ^^^ (-1)))) (mLast_mono μ hla (by omega))) (cwV 2 hts gX5_acts_X5_sends rfl rfl rfl (by decide +kernel) ⟨Nat.le_of_ble_eq_true rfl, Nat.le_of_ble_eq_true rfl⟩) (vg_P.preV hE hP 0 rfl rfl hP hD) rfl rfl hl.1 rfl (lv_room (Nat.le_of_ble_eq_true rfl)) dX5_acts_65 ⟨Nat.le_of_ble_eq_true rfl, Nat.le_of_ble_eq_true rfl⟩) hP hD hS hA (fun _ H locs hrv hP hD hS => ?_)
  have hP : va_P D vwCl (Mw cy mo ad (mSnd (va_up (va_up (va_up (va_up (va_up μ 18 (upd (μ 18) (tn ((μ 17) 0)) (nI ki))) 19 (upd (μ 19) (tn ((μ 17) 0)) (nI pi))) 20 (upd (μ 20) (tn ((μ 17) 0)) (nI qi))) 21 (upd (μ 21) (tn ((μ 17) 0)) all)) 17 (fun _ => (nI (tn ((μ 17) 0) + 1)))) ((nI (tn ((μ 17) 0)))) ((sv &&& (((1 : Int32) <<< ((nI (tn ((μ 2) pi))) &&& 31)) ^^^ (-1)))) 4)) H := hP
  have hD : va_D (va_A (Mw cy mo ad μ) s.heap.size) (Mw cy mo ad (mSnd (va_up (va_up (va_up (va_up (va_up μ 18 (upd (μ 18) (tn ((μ 17) 0)) (nI ki))) 19 (upd (μ 19) (tn ((μ 17) 0)) (nI pi))) 20 (upd (μ 20) (tn ((μ 17) 0)) (nI qi))) 21 (upd (μ 21) (tn ((μ 17) 0)) all)) 17 (fun _ => (nI (tn ((μ 17) 0) + 1)))) ((nI (tn ((μ 17) 0)))) ((sv &&& (((1 : Int32) <<< ((nI (tn ((μ 2) pi))) &&& 31)) ^^^ (-1)))) 4)) := hD
  refine lv_aload_n hx hb dX5_acts_68 rfl (lv_at hl 0 rfl) ?_
  refine lv_aload_n hx hb dX5_acts_69 rfl (lv_at hl 0 rfl) ?_
  refine va_get (D := D) (ci := 6) (v := .ref (ad 2)) (C := RX5) (T := TX5) (N := 26) hx hb hts hin_RX5 hown hE.1 hP 0 rfl rfl 2 (by decide) (hts (.fieldLink RX5 7 "VillagepostModel" "home" "[I") (by decide +kernel)) (fun _ h9 => h9) rfl dX5_acts_70 ?_
  refine lv_iload_n hx hb dX5_acts_73 rfl (lv_at hl 2 rfl) ?_
  refine vg_iald hx hb hE.1 hP 1 0 rfl rfl (f := (mSnd (va_up (va_up (va_up (va_up (va_up μ 18 (upd (μ 18) (tn ((μ 17) 0)) (nI ki))) 19 (upd (μ 19) (tn ((μ 17) 0)) (nI pi))) 20 (upd (μ 20) (tn ((μ 17) 0)) (nI qi))) 21 (upd (μ 21) (tn ((μ 17) 0)) all)) 17 (fun _ => (nI (tn ((μ 17) 0) + 1)))) ((nI (tn ((μ 17) 0)))) ((sv &&& (((1 : Int32) <<< ((nI (tn ((μ 2) pi))) &&& 31)) ^^^ (-1)))) 4) 2) (j := pi) (by omega) (by decide) dX5_acts_74 ?_
  have hh2 := (hho pi hp).2
  refine vg_tp (nI (tn (μ 2 pi))) (by rw [mSnd_k _ _ _ (k := 2) (by omega) (by omega)]; exact (hho pi hp).1) ?_
  refine lv_iload hx hb dX5_acts_75 (lv_at hl 6 rfl) ?_
  refine vg_callvW (va_runV (As := [.int (nI (tn (μ 2 pi))), .int (nI (tn ((μ 17) 0)))]) (rest := []) ⟨hx, hb, hml, hown, hts⟩ (kX5_does l D cy H.size mo ad (mSnd (va_up (va_up (va_up (va_up (va_up μ 18 (upd (μ 18) (tn ((μ 17) 0)) (nI ki))) 19 (upd (μ 19) (tn ((μ 17) 0)) (nI pi))) 20 (upd (μ 20) (tn ((μ 17) 0)) (nI qi))) 21 (upd (μ 21) (tn ((μ 17) 0)) all)) 17 (fun _ => (nI (tn ((μ 17) 0) + 1)))) ((nI (tn ((μ 17) 0)))) ((sv &&& (((1 : Int32) <<< ((nI (tn ((μ 2) pi))) &&& 31)) ^^^ (-1)))) 4) (tn (μ 2 pi)) (tn ((μ 17) 0)) (hw1) (hla1) (by omega) (by omega)) (cwV 2 hts gX5_acts_X5_does rfl rfl rfl (by decide +kernel) ⟨Nat.le_of_ble_eq_true rfl, Nat.le_of_ble_eq_true rfl⟩) (vg_P.preV hE hP 0 rfl rfl hP hD) rfl rfl hl.1 rfl (lv_room (Nat.le_of_ble_eq_true rfl)) dX5_acts_77 ⟨Nat.le_of_ble_eq_true rfl, Nat.le_of_ble_eq_true rfl⟩) hP hD hS hA (fun _ H locs hrv hP hD hS => ?_)
  have hP : va_P D vwCl (Mw cy mo ad (mDo (mSnd (va_up (va_up (va_up (va_up (va_up μ 18 (upd (μ 18) (tn ((μ 17) 0)) (nI ki))) 19 (upd (μ 19) (tn ((μ 17) 0)) (nI pi))) 20 (upd (μ 20) (tn ((μ 17) 0)) (nI qi))) 21 (upd (μ 21) (tn ((μ 17) 0)) all)) 17 (fun _ => (nI (tn ((μ 17) 0) + 1)))) ((nI (tn ((μ 17) 0)))) ((sv &&& (((1 : Int32) <<< ((nI (tn ((μ 2) pi))) &&& 31)) ^^^ (-1)))) 4) (tn (μ 2 pi)) (tn ((μ 17) 0)))) H := hP
  have hD : va_D (va_A (Mw cy mo ad μ) s.heap.size) (Mw cy mo ad (mDo (mSnd (va_up (va_up (va_up (va_up (va_up μ 18 (upd (μ 18) (tn ((μ 17) 0)) (nI ki))) 19 (upd (μ 19) (tn ((μ 17) 0)) (nI pi))) 20 (upd (μ 20) (tn ((μ 17) 0)) (nI qi))) 21 (upd (μ 21) (tn ((μ 17) 0)) all)) 17 (fun _ => (nI (tn ((μ 17) 0) + 1)))) ((nI (tn ((μ 17) 0)))) ((sv &&& (((1 : Int32) <<< ((nI (tn ((μ 2) pi))) &&& 31)) ^^^ (-1)))) 4) (tn (μ 2 pi)) (tn ((μ 17) 0)))) := hD
  have eW : mDo (mSnd (va_up (va_up (va_up (va_up (va_up μ 18 (upd (μ 18) (tn ((μ 17) 0)) (nI ki))) 19 (upd (μ 19) (tn ((μ 17) 0)) (nI pi))) 20 (upd (μ 20) (tn ((μ 17) 0)) (nI qi))) 21 (upd (μ 21) (tn ((μ 17) 0)) all)) 17 (fun _ => (nI (tn ((μ 17) 0) + 1)))) ((nI (tn ((μ 17) 0)))) ((sv &&& (((1 : Int32) <<< ((nI (tn ((μ 2) pi))) &&& 31)) ^^^ (-1)))) 4) (tn (μ 2 pi)) (tn ((μ 17) 0)) = mAct μ ki pi qi all sv := by rfl
  have hP : va_P D vwCl (Mw cy mo ad (mAct μ ki pi qi all sv)) H := by rw [← eW]; exact hP
  have hD : va_D (va_A (Mw cy mo ad μ) s.heap.size) (Mw cy mo ad (mAct μ ki pi qi all sv)) := by rw [← eW]; exact hD
  exact W.vret hx hb hr (fun t ht hW => ⟨⟨(), rfl, trivial, (by rw [ht]; exact hP), hD⟩, hS.F ht⟩) hS.2.2 dX5_acts_80
