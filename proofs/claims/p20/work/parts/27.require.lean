set_option maxHeartbeats 4000000 in
set_option maxRecDepth 100000 in
theorem kX4_requireServer (l : Launch) (D : va_G) (cy : Nat → ClassId) (sz : Nat) (x : Int32) (h0 : ¬ x < 0) (h4 : x < 4) : Met l yX4_requireServer wsX4_requireServer ({ frames := 0, cells := 0, slots := 0, locals := 0 }) (vg_P D cy [.int x] sz (([] : va_W))) (vg_Qv (S := Unit) D sz (([] : va_W)) (fun _ => True) (fun _ => ([] : va_W))) 0 0 (va_A (([] : va_W)) sz) := by
  refine Met.ofW (cc := cX4_requireServer) (maxL := 1) (ret := none) (by decide) rfl ?_
  intro p e s m args below meth c s₁ BB hml hv
  obtain ⟨rfl, hsz, hP, hE, hD0⟩ := hv
  have hx := BB.exec
  have hb := BB.bytes
  have hr := BB.returns
  have hts := atoms_spec (ws := wsX4_requireServer) BB.pre
  have hown : s.vm.findClass RX4 = some m.cls := findClass_of_methodNamed BB.named
  have hlocks := BB.notSynchronized
  subst hsz
  have hD := hD0.self (sz := s.heap.size)
  have hA : ∀ q : Nat, s.heap.size ≤ q → (va_A (([] : va_W)) s.heap.size) q := fun q h => Or.inr h
  have hS : va_S (va_A (([] : va_W)) s.heap.size) s.heap s.heap [] := va_S.rf
  have hl := lv_entry ([.int x]) (n := 1) (Nat.le_of_ble_eq_true rfl)
  rw [lg_entry_eq]
  generalize (lg_sl ([.int x]) ++ List.replicate (1 - (lg_sl ([.int x])).length) Slot.unset).toArray = ls at hl ⊢
  have hl : lv_has ls 1 [(0, .int x)] := hl
  refine lv_iload_n hx hb dX4_requireServer_0 rfl (lv_at hl 0 rfl) ?_
  refine lv_if_lt (tgt := 9) hx hb dX4_requireServer_1 (by decide) (fun c9 => absurd c9 (h0)) (fun _ => ?_)
  refine lv_iload_n hx hb dX4_requireServer_4 rfl (lv_at hl 0 rfl) ?_
  refine lv_iconst (v := 4) hx hb dX4_requireServer_5 (by decide) ?_
  refine lv_icmp_lt (tgt := 19) hx hb dX4_requireServer_6 (by decide) (fun _ => ?_) (fun c9 => absurd (h4) c9)
  exact W.vret hx hb hr (fun t ht hW => ⟨⟨(), rfl, trivial, (by rw [ht]; exact hP), hD⟩, hS.F ht⟩) hS.2.2 dX4_requireServer_19

set_option maxHeartbeats 4000000 in
set_option maxRecDepth 100000 in
theorem kX4_requireServer_bad (l : Launch) (hfl : l.stackTraces = false) (D : va_G) (cy : Nat → ClassId) (sz e0 mi : Nat) (x : Int32) (hbad : x < 0 ∨ ¬ x < 4) : vx_Met l yX4_requireServer wsX4_requireServer ({ frames := 6, cells := 1, slots := 6, locals := 82 }) (vh_P D cy e0 mi [.int x] sz (([] : va_W))) (vh_N (([] : va_W)) sz) (vh_X D "java/lang/IndexOutOfBoundsException" (([] : va_W)) sz) 1 6 (va_A (([] : va_W)) sz) := by
  refine vx_ofW (cc := cX4_requireServer) (maxL := 1) (ret := none) (by decide) rfl ?_
  intro p e s m args below meth c s₁ BB hml htb hv
  obtain ⟨rfl, hsz, hP, hE, hD0, hF, hZ⟩ := hv
  have hx := BB.exec
  have hb := BB.bytes
  have hr := BB.returns
  have hts := atoms_spec (ws := wsX4_requireServer) BB.pre
  have hown : s.vm.findClass RX4 = some m.cls := findClass_of_methodNamed BB.named
  have hlocks := BB.notSynchronized
  subst hsz
  have hD := hD0.self (sz := s.heap.size)
  have hA : ∀ q : Nat, s.heap.size ≤ q → (va_A (([] : va_W)) s.heap.size) q := fun q h => Or.inr h
  have hS : va_S (va_A (([] : va_W)) s.heap.size) s.heap s.heap [] := va_S.rf
  have hl := lv_entry ([.int x]) (n := 1) (Nat.le_of_ble_eq_true rfl)
  rw [lg_entry_eq]
  generalize (lg_sl ([.int x]) ++ List.replicate (1 - (lg_sl ([.int x])).length) Slot.unset).toArray = ls at hl ⊢
  have hl : lv_has ls 1 [(0, .int x)] := hl
  refine lv_iload_n hx hb dX4_requireServer_0 rfl (lv_at hl 0 rfl) ?_
  refine lv_if_lt (tgt := 9) hx hb dX4_requireServer_1 (by decide) (fun r1 => ?_) (fun r1 => ?_)
  · have c1 := r1
    have c1n : ¬ 0 ≤ x := Int32.not_le.mpr r1
    exact vh_thr (D := D) (text := "no such server") hx hb hfl hown hF hZ (by decide +kernel) (hts (.classLink RX4 208 "java/lang/IndexOutOfBoundsException") (by decide +kernel)) (hts (.initialized "java/lang/IndexOutOfBoundsException") (by decide +kernel)) (by decide +kernel) (fun w hw => hts w (List.mem_cons_of_mem _ (List.mem_append_right _ hw))) vh_bO vh_gO hS hP (List.Perm.refl _) (by rw [hml]; exact hl.1) dX4_requireServer_9 dX4_requireServer_12 dX4_requireServer_13 dX4_requireServer_15 dX4_requireServer_18 htb hlocks (Nat.le_of_ble_eq_true rfl) (Nat.le_of_ble_eq_true rfl) (Nat.le_of_ble_eq_true rfl) (Nat.le_of_ble_eq_true rfl) (by omega) (by omega)
  · have c1 : 0 ≤ x := Int32.not_lt.mp r1
    have c1n := r1
    refine lv_iload_n hx hb dX4_requireServer_4 rfl (lv_at hl 0 rfl) ?_
    refine lv_iconst (v := 4) hx hb dX4_requireServer_5 (by decide) ?_
    refine lv_icmp_lt (tgt := 19) hx hb dX4_requireServer_6 (by decide) (fun c9 => absurd c9 (hbad.resolve_left r1)) (fun _ => ?_)
    exact vh_thr (D := D) (text := "no such server") hx hb hfl hown hF hZ (by decide +kernel) (hts (.classLink RX4 208 "java/lang/IndexOutOfBoundsException") (by decide +kernel)) (hts (.initialized "java/lang/IndexOutOfBoundsException") (by decide +kernel)) (by decide +kernel) (fun w hw => hts w (List.mem_cons_of_mem _ (List.mem_append_right _ hw))) vh_bO vh_gO hS hP (List.Perm.refl _) (by rw [hml]; exact hl.1) dX4_requireServer_9 dX4_requireServer_12 dX4_requireServer_13 dX4_requireServer_15 dX4_requireServer_18 htb hlocks (Nat.le_of_ble_eq_true rfl) (Nat.le_of_ble_eq_true rfl) (Nat.le_of_ble_eq_true rfl) (Nat.le_of_ble_eq_true rfl) (by omega) (by omega)

set_option maxHeartbeats 4000000 in
set_option maxRecDepth 100000 in
theorem kX4_requirePerson (l : Launch) (D : va_G) (cy : Nat → ClassId) (sz : Nat) (vo : Nat) (sv : Nat) (hm : Nat) (nt : Nat) (aw : Nat) (pe : Int32) (ac : Int32) (x : Int32) (h0 : ¬ x < 0) (h4 : x < pe) : Met l yX4_requirePerson wsX4_requirePerson ({ frames := 0, cells := 0, slots := 0, locals := 0 }) (vg_P D cy [.ref vo, .int x] sz ([(vo, .inr (5, [.ref sv, .ref hm, .ref nt, .ref aw, .int pe, .int ac]))])) (vg_Qv (S := Unit) D sz ([(vo, .inr (5, [.ref sv, .ref hm, .ref nt, .ref aw, .int pe, .int ac]))]) (fun _ => True) (fun _ => [(vo, .inr (5, [.ref sv, .ref hm, .ref nt, .ref aw, .int pe, .int ac]))])) 0 0 (va_A ([(vo, .inr (5, [.ref sv, .ref hm, .ref nt, .ref aw, .int pe, .int ac]))]) sz) := by
  refine Met.ofW (cc := cX4_requirePerson) (maxL := 2) (ret := none) (by decide) rfl ?_
  intro p e s m args below meth c s₁ BB hml hv
  obtain ⟨rfl, hsz, hP, hE, hD0⟩ := hv
  have hx := BB.exec
  have hb := BB.bytes
  have hr := BB.returns
  have hts := atoms_spec (ws := wsX4_requirePerson) BB.pre
  have hown : s.vm.findClass RX4 = some m.cls := findClass_of_methodNamed BB.named
  have hlocks := BB.notSynchronized
  subst hsz
  have hD := hD0.self (sz := s.heap.size)
  have hA : ∀ q : Nat, s.heap.size ≤ q → (va_A ([(vo, .inr (5, [.ref sv, .ref hm, .ref nt, .ref aw, .int pe, .int ac]))]) s.heap.size) q := fun q h => Or.inr h
  have hS : va_S (va_A ([(vo, .inr (5, [.ref sv, .ref hm, .ref nt, .ref aw, .int pe, .int ac]))]) s.heap.size) s.heap s.heap [] := va_S.rf
  have hin_RX4 : ∀ w ∈ u_ws RX4 TX4 6, w ∈ wsX4_requirePerson := by decide +kernel
  have hl := lv_entry ([.ref vo, .int x]) (n := 2) (Nat.le_of_ble_eq_true rfl)
  rw [lg_entry_eq]
  generalize (lg_sl ([.ref vo, .int x]) ++ List.replicate (2 - (lg_sl ([.ref vo, .int x])).length) Slot.unset).toArray = ls at hl ⊢
  have hl : lv_has ls 2 [(0, .ref vo), (1, .int x)] := hl
  refine lv_iload_n hx hb dX4_requirePerson_0 rfl (lv_at hl 1 rfl) ?_
  refine lv_if_lt (tgt := 12) hx hb dX4_requirePerson_1 (by decide) (fun c9 => absurd c9 (h0)) (fun _ => ?_)
  refine lv_iload_n hx hb dX4_requirePerson_4 rfl (lv_at hl 1 rfl) ?_
  refine lv_aload_n hx hb dX4_requirePerson_5 rfl (lv_at hl 0 rfl) ?_
  refine va_get (D := D) (ci := 5) (v := .int pe) (C := RX4) (T := TX4) (N := 6) hx hb hts hin_RX4 hown hE.1 hP 0 rfl rfl 4 (by decide) (hts (.fieldLink RX4 34 "Villagepost" "people" "I") (by decide +kernel)) (fun _ h9 => h9) rfl dX4_requirePerson_6 ?_
  refine lv_icmp_lt (tgt := 22) hx hb dX4_requirePerson_9 (by decide) (fun _ => ?_) (fun c9 => absurd (h4) c9)
  exact W.vret hx hb hr (fun t ht hW => ⟨⟨(), rfl, trivial, (by rw [ht]; exact hP), hD⟩, hS.F ht⟩) hS.2.2 dX4_requirePerson_22

set_option maxHeartbeats 4000000 in
set_option maxRecDepth 100000 in
theorem kX4_requirePerson_bad (l : Launch) (hfl : l.stackTraces = false) (D : va_G) (cy : Nat → ClassId) (sz e0 mi : Nat) (vo : Nat) (sv : Nat) (hm : Nat) (nt : Nat) (aw : Nat) (pe : Int32) (ac : Int32) (x : Int32) (hbad : x < 0 ∨ ¬ x < pe) : vx_Met l yX4_requirePerson wsX4_requirePerson ({ frames := 6, cells := 1, slots := 6, locals := 82 }) (vh_P D cy e0 mi [.ref vo, .int x] sz ([(vo, .inr (5, [.ref sv, .ref hm, .ref nt, .ref aw, .int pe, .int ac]))])) (vh_N ([(vo, .inr (5, [.ref sv, .ref hm, .ref nt, .ref aw, .int pe, .int ac]))]) sz) (vh_X D "java/lang/IndexOutOfBoundsException" ([(vo, .inr (5, [.ref sv, .ref hm, .ref nt, .ref aw, .int pe, .int ac]))]) sz) 1 6 (va_A ([(vo, .inr (5, [.ref sv, .ref hm, .ref nt, .ref aw, .int pe, .int ac]))]) sz) := by
  refine vx_ofW (cc := cX4_requirePerson) (maxL := 2) (ret := none) (by decide) rfl ?_
  intro p e s m args below meth c s₁ BB hml htb hv
  obtain ⟨rfl, hsz, hP, hE, hD0, hF, hZ⟩ := hv
  have hx := BB.exec
  have hb := BB.bytes
  have hr := BB.returns
  have hts := atoms_spec (ws := wsX4_requirePerson) BB.pre
  have hown : s.vm.findClass RX4 = some m.cls := findClass_of_methodNamed BB.named
  have hlocks := BB.notSynchronized
  subst hsz
  have hD := hD0.self (sz := s.heap.size)
  have hA : ∀ q : Nat, s.heap.size ≤ q → (va_A ([(vo, .inr (5, [.ref sv, .ref hm, .ref nt, .ref aw, .int pe, .int ac]))]) s.heap.size) q := fun q h => Or.inr h
  have hS : va_S (va_A ([(vo, .inr (5, [.ref sv, .ref hm, .ref nt, .ref aw, .int pe, .int ac]))]) s.heap.size) s.heap s.heap [] := va_S.rf
  have hin_RX4 : ∀ w ∈ u_ws RX4 TX4 6, w ∈ wsX4_requirePerson := by decide +kernel
  have hl := lv_entry ([.ref vo, .int x]) (n := 2) (Nat.le_of_ble_eq_true rfl)
  rw [lg_entry_eq]
  generalize (lg_sl ([.ref vo, .int x]) ++ List.replicate (2 - (lg_sl ([.ref vo, .int x])).length) Slot.unset).toArray = ls at hl ⊢
  have hl : lv_has ls 2 [(0, .ref vo), (1, .int x)] := hl
  refine lv_iload_n hx hb dX4_requirePerson_0 rfl (lv_at hl 1 rfl) ?_
  refine lv_if_lt (tgt := 12) hx hb dX4_requirePerson_1 (by decide) (fun r1 => ?_) (fun r1 => ?_)
  · have c1 := r1
    have c1n : ¬ 0 ≤ x := Int32.not_le.mpr r1
    exact vh_thr (D := D) (text := "no such person") hx hb hfl hown hF hZ (by decide +kernel) (hts (.classLink RX4 208 "java/lang/IndexOutOfBoundsException") (by decide +kernel)) (hts (.initialized "java/lang/IndexOutOfBoundsException") (by decide +kernel)) (by decide +kernel) (fun w hw => hts w (List.mem_cons_of_mem _ (List.mem_append_right _ hw))) vh_bO vh_gO hS hP (List.Perm.refl _) (by rw [hml]; exact hl.1) dX4_requirePerson_12 dX4_requirePerson_15 dX4_requirePerson_16 dX4_requirePerson_18 dX4_requirePerson_21 htb hlocks (Nat.le_of_ble_eq_true rfl) (Nat.le_of_ble_eq_true rfl) (Nat.le_of_ble_eq_true rfl) (Nat.le_of_ble_eq_true rfl) (by omega) (by omega)
  · have c1 : 0 ≤ x := Int32.not_lt.mp r1
    have c1n := r1
    refine lv_iload_n hx hb dX4_requirePerson_4 rfl (lv_at hl 1 rfl) ?_
    refine lv_aload_n hx hb dX4_requirePerson_5 rfl (lv_at hl 0 rfl) ?_
    refine va_get (D := D) (ci := 5) (v := .int pe) (C := RX4) (T := TX4) (N := 6) hx hb hts hin_RX4 hown hE.1 hP 0 rfl rfl 4 (by decide) (hts (.fieldLink RX4 34 "Villagepost" "people" "I") (by decide +kernel)) (fun _ h9 => h9) rfl dX4_requirePerson_6 ?_
    refine lv_icmp_lt (tgt := 22) hx hb dX4_requirePerson_9 (by decide) (fun c9 => absurd c9 (hbad.resolve_left r1)) (fun _ => ?_)
    exact vh_thr (D := D) (text := "no such person") hx hb hfl hown hF hZ (by decide +kernel) (hts (.classLink RX4 208 "java/lang/IndexOutOfBoundsException") (by decide +kernel)) (hts (.initialized "java/lang/IndexOutOfBoundsException") (by decide +kernel)) (by decide +kernel) (fun w hw => hts w (List.mem_cons_of_mem _ (List.mem_append_right _ hw))) vh_bO vh_gO hS hP (List.Perm.refl _) (by rw [hml]; exact hl.1) dX4_requirePerson_12 dX4_requirePerson_15 dX4_requirePerson_16 dX4_requirePerson_18 dX4_requirePerson_21 htb hlocks (Nat.le_of_ble_eq_true rfl) (Nat.le_of_ble_eq_true rfl) (Nat.le_of_ble_eq_true rfl) (Nat.le_of_ble_eq_true rfl) (by omega) (by omega)

set_option maxHeartbeats 4000000 in
set_option maxRecDepth 100000 in
theorem kX4_requireTwo (l : Launch) (D : va_G) (cy : Nat → ClassId) (sz : Nat) (vo : Nat) (sv : Nat) (hm : Nat) (nt : Nat) (aw : Nat) (pe : Int32) (ac : Int32) (a : Int32) (b : Int32) (ha0 : ¬ a < 0) (ha : a < pe) (hb0 : ¬ b < 0) (hb4 : b < pe) : Met l yX4_requireTwo wsX4_requireTwo ({ frames := 1, cells := 0, slots := 0, locals := 21 }) (vg_P D cy [.ref vo, .int a, .int b] sz ([(vo, .inr (5, [.ref sv, .ref hm, .ref nt, .ref aw, .int pe, .int ac]))])) (vg_Qv (S := Unit) D sz ([(vo, .inr (5, [.ref sv, .ref hm, .ref nt, .ref aw, .int pe, .int ac]))]) (fun _ => True) (fun _ => [(vo, .inr (5, [.ref sv, .ref hm, .ref nt, .ref aw, .int pe, .int ac]))])) 0 0 (va_A ([(vo, .inr (5, [.ref sv, .ref hm, .ref nt, .ref aw, .int pe, .int ac]))]) sz) := by
  refine Met.ofW (cc := cX4_requireTwo) (maxL := 3) (ret := none) (by decide) rfl ?_
  intro p e s m args below meth c s₁ BB hml hv
  obtain ⟨rfl, hsz, hP, hE, hD0⟩ := hv
  have hx := BB.exec
  have hb := BB.bytes
  have hr := BB.returns
  have hts := atoms_spec (ws := wsX4_requireTwo) BB.pre
  have hown : s.vm.findClass RX4 = some m.cls := findClass_of_methodNamed BB.named
  have hlocks := BB.notSynchronized
  subst hsz
  have hD := hD0.self (sz := s.heap.size)
  have hA : ∀ q : Nat, s.heap.size ≤ q → (va_A ([(vo, .inr (5, [.ref sv, .ref hm, .ref nt, .ref aw, .int pe, .int ac]))]) s.heap.size) q := fun q h => Or.inr h
  have hS : va_S (va_A ([(vo, .inr (5, [.ref sv, .ref hm, .ref nt, .ref aw, .int pe, .int ac]))]) s.heap.size) s.heap s.heap [] := va_S.rf
  have hl := lv_entry ([.ref vo, .int a, .int b]) (n := 3) (Nat.le_of_ble_eq_true rfl)
  rw [lg_entry_eq]
  generalize (lg_sl ([.ref vo, .int a, .int b]) ++ List.replicate (3 - (lg_sl ([.ref vo, .int a, .int b])).length) Slot.unset).toArray = ls at hl ⊢
  have hl : lv_has ls 3 [(0, .ref vo), (1, .int a), (2, .int b)] := hl
  refine lv_aload_n hx hb dX4_requireTwo_0 rfl (lv_at hl 0 rfl) ?_
  refine lv_iload_n hx hb dX4_requireTwo_1 rfl (lv_at hl 1 rfl) ?_
  refine vg_callvW (va_runV (As := [.int a]) (rest := []) ⟨hx, hb, hml, hown, hts⟩ (kX4_requirePerson l D cy s.heap.size vo sv hm nt aw pe ac a (ha0) (ha)) (cwV 1 hts gX4_requireTwo_X4_requirePerson rfl rfl rfl (by decide +kernel) ⟨Nat.le_of_ble_eq_true rfl, Nat.le_of_ble_eq_true rfl⟩) (vg_P.preV hE hP 0 rfl rfl hP hD) rfl rfl hl.1 rfl (lv_room (Nat.le_of_ble_eq_true rfl)) dX4_requireTwo_2 ⟨Nat.le_of_ble_eq_true rfl, Nat.le_of_ble_eq_true rfl⟩) hP hD hS hA (fun _ H locs hrv hP hD hS => ?_)
  refine lv_aload_n hx hb dX4_requireTwo_5 rfl (lv_at hl 0 rfl) ?_
  refine lv_iload_n hx hb dX4_requireTwo_6 rfl (lv_at hl 2 rfl) ?_
  refine vg_callvW (va_runV (As := [.int b]) (rest := []) ⟨hx, hb, hml, hown, hts⟩ (kX4_requirePerson l D cy H.size vo sv hm nt aw pe ac b (hb0) (hb4)) (cwV 1 hts gX4_requireTwo_X4_requirePerson rfl rfl rfl (by decide +kernel) ⟨Nat.le_of_ble_eq_true rfl, Nat.le_of_ble_eq_true rfl⟩) (vg_P.preV hE hP 0 rfl rfl hP hD) rfl rfl hl.1 rfl (lv_room (Nat.le_of_ble_eq_true rfl)) dX4_requireTwo_7 ⟨Nat.le_of_ble_eq_true rfl, Nat.le_of_ble_eq_true rfl⟩) hP hD hS hA (fun _ H locs hrv hP hD hS => ?_)
  exact W.vret hx hb hr (fun t ht hW => ⟨⟨(), rfl, trivial, (by rw [ht]; exact hP), hD⟩, hS.F ht⟩) hS.2.2 dX4_requireTwo_10

set_option maxHeartbeats 4000000 in
set_option maxRecDepth 100000 in
theorem kX4_requireTwo_bad1 (l : Launch) (hfl : l.stackTraces = false) (D : va_G) (cy : Nat → ClassId) (sz e0 mi : Nat) (vo : Nat) (sv : Nat) (hm : Nat) (nt : Nat) (aw : Nat) (pe : Int32) (ac : Int32) (a : Int32) (b : Int32) (hbad : a < 0 ∨ ¬ a < pe) : vx_Met l yX4_requireTwo wsX4_requireTwo ({ frames := 7, cells := 1, slots := 6, locals := 103 }) (vh_P D cy e0 mi [.ref vo, .int a, .int b] sz ([(vo, .inr (5, [.ref sv, .ref hm, .ref nt, .ref aw, .int pe, .int ac]))])) (vh_N ([(vo, .inr (5, [.ref sv, .ref hm, .ref nt, .ref aw, .int pe, .int ac]))]) sz) (vh_X D "java/lang/IndexOutOfBoundsException" ([(vo, .inr (5, [.ref sv, .ref hm, .ref nt, .ref aw, .int pe, .int ac]))]) sz) 1 6 (va_A ([(vo, .inr (5, [.ref sv, .ref hm, .ref nt, .ref aw, .int pe, .int ac]))]) sz) := by
  refine vx_ofW (cc := cX4_requireTwo) (maxL := 3) (ret := none) (by decide) rfl ?_
  intro p e s m args below meth c s₁ BB hml htb hv
  obtain ⟨rfl, hsz, hP, hE, hD0, hF, hZ⟩ := hv
  have hx := BB.exec
  have hb := BB.bytes
  have hr := BB.returns
  have hts := atoms_spec (ws := wsX4_requireTwo) BB.pre
  have hown : s.vm.findClass RX4 = some m.cls := findClass_of_methodNamed BB.named
  have hlocks := BB.notSynchronized
  subst hsz
  have hD := hD0.self (sz := s.heap.size)
  have hA : ∀ q : Nat, s.heap.size ≤ q → (va_A ([(vo, .inr (5, [.ref sv, .ref hm, .ref nt, .ref aw, .int pe, .int ac]))]) s.heap.size) q := fun q h => Or.inr h
  have hS : va_S (va_A ([(vo, .inr (5, [.ref sv, .ref hm, .ref nt, .ref aw, .int pe, .int ac]))]) s.heap.size) s.heap s.heap [] := va_S.rf
  have hl := lv_entry ([.ref vo, .int a, .int b]) (n := 3) (Nat.le_of_ble_eq_true rfl)
  rw [lg_entry_eq]
  generalize (lg_sl ([.ref vo, .int a, .int b]) ++ List.replicate (3 - (lg_sl ([.ref vo, .int a, .int b])).length) Slot.unset).toArray = ls at hl ⊢
  have hl : lv_has ls 3 [(0, .ref vo), (1, .int a), (2, .int b)] := hl
  refine lv_aload_n hx hb dX4_requireTwo_0 rfl (lv_at hl 0 rfl) ?_
  refine lv_iload_n hx hb dX4_requireTwo_1 rfl (lv_at hl 1 rfl) ?_
  have hp9 : ([(vo, .inr (5, [.ref sv, .ref hm, .ref nt, .ref aw, .int pe, .int ac]))] : va_W).Perm (([(vo, .inr (5, [.ref sv, .ref hm, .ref nt, .ref aw, .int pe, .int ac]))]) ++ (([] : va_W))) := (vp_pc (fun n9 hn9 h90 => by simp only [hn9, h90] <;> omega))
  exact vh_bad (vx_runV (As := [.int a]) (rest := []) ⟨hx, hb, hml, hown, hts⟩ (kX4_requirePerson_bad l hfl D cy s.heap.size e0 mi vo sv hm nt aw pe ac a hbad) (cwV 1 hts gX4_requireTwo_X4_requirePerson rfl rfl rfl (by decide +kernel) ⟨Nat.le_of_ble_eq_true rfl, Nat.le_of_ble_eq_true rfl⟩) (vh_P.preV hE hF hZ hS (vj_free (vd_perm hp9 hD) hS hA) hP 0 rfl rfl (vp_app.mp (vp_perm hP hp9)).1 (vd_app.mp (vd_perm hp9 hD)).1) rfl rfl hl.1 rfl (lv_room (Nat.le_of_ble_eq_true rfl)) dX4_requireTwo_2 ⟨Nat.le_of_ble_eq_true rfl, Nat.le_of_ble_eq_true rfl⟩) hP hD hS hA hp9 (List.Perm.refl _) htb hlocks (by omega) (by omega)

set_option maxHeartbeats 4000000 in
set_option maxRecDepth 100000 in
theorem kX4_requireTwo_bad2 (l : Launch) (hfl : l.stackTraces = false) (D : va_G) (cy : Nat → ClassId) (sz e0 mi : Nat) (vo : Nat) (sv : Nat) (hm : Nat) (nt : Nat) (aw : Nat) (pe : Int32) (ac : Int32) (a : Int32) (b : Int32) (ha0 : ¬ a < 0) (ha : a < pe) (hbad : b < 0 ∨ ¬ b < pe) : vx_Met l yX4_requireTwo wsX4_requireTwo ({ frames := 7, cells := 1, slots := 6, locals := 103 }) (vh_P D cy e0 mi [.ref vo, .int a, .int b] sz ([(vo, .inr (5, [.ref sv, .ref hm, .ref nt, .ref aw, .int pe, .int ac]))])) (vh_N ([(vo, .inr (5, [.ref sv, .ref hm, .ref nt, .ref aw, .int pe, .int ac]))]) sz) (vh_X D "java/lang/IndexOutOfBoundsException" ([(vo, .inr (5, [.ref sv, .ref hm, .ref nt, .ref aw, .int pe, .int ac]))]) sz) 1 6 (va_A ([(vo, .inr (5, [.ref sv, .ref hm, .ref nt, .ref aw, .int pe, .int ac]))]) sz) := by
  refine vx_ofW (cc := cX4_requireTwo) (maxL := 3) (ret := none) (by decide) rfl ?_
  intro p e s m args below meth c s₁ BB hml htb hv
  obtain ⟨rfl, hsz, hP, hE, hD0, hF, hZ⟩ := hv
  have hx := BB.exec
  have hb := BB.bytes
  have hr := BB.returns
  have hts := atoms_spec (ws := wsX4_requireTwo) BB.pre
  have hown : s.vm.findClass RX4 = some m.cls := findClass_of_methodNamed BB.named
  have hlocks := BB.notSynchronized
  subst hsz
  have hD := hD0.self (sz := s.heap.size)
  have hA : ∀ q : Nat, s.heap.size ≤ q → (va_A ([(vo, .inr (5, [.ref sv, .ref hm, .ref nt, .ref aw, .int pe, .int ac]))]) s.heap.size) q := fun q h => Or.inr h
  have hS : va_S (va_A ([(vo, .inr (5, [.ref sv, .ref hm, .ref nt, .ref aw, .int pe, .int ac]))]) s.heap.size) s.heap s.heap [] := va_S.rf
  have hl := lv_entry ([.ref vo, .int a, .int b]) (n := 3) (Nat.le_of_ble_eq_true rfl)
  rw [lg_entry_eq]
  generalize (lg_sl ([.ref vo, .int a, .int b]) ++ List.replicate (3 - (lg_sl ([.ref vo, .int a, .int b])).length) Slot.unset).toArray = ls at hl ⊢
  have hl : lv_has ls 3 [(0, .ref vo), (1, .int a), (2, .int b)] := hl
  refine lv_aload_n hx hb dX4_requireTwo_0 rfl (lv_at hl 0 rfl) ?_
  refine lv_iload_n hx hb dX4_requireTwo_1 rfl (lv_at hl 1 rfl) ?_
  refine vg_callvW (va_runV (As := [.int a]) (rest := []) ⟨hx, hb, hml, hown, hts⟩ (kX4_requirePerson l D cy s.heap.size vo sv hm nt aw pe ac a (ha0) (ha)) (cwV 1 hts gX4_requireTwo_X4_requirePerson rfl rfl rfl (by decide +kernel) ⟨Nat.le_of_ble_eq_true rfl, Nat.le_of_ble_eq_true rfl⟩) (vg_P.preV hE hP 0 rfl rfl hP hD) rfl rfl hl.1 rfl (lv_room (Nat.le_of_ble_eq_true rfl)) dX4_requireTwo_2 ⟨Nat.le_of_ble_eq_true rfl, Nat.le_of_ble_eq_true rfl⟩) hP hD hS hA (fun _ H locs hrv hP hD hS => ?_)
  refine lv_aload_n hx hb dX4_requireTwo_5 rfl (lv_at hl 0 rfl) ?_
  refine lv_iload_n hx hb dX4_requireTwo_6 rfl (lv_at hl 2 rfl) ?_
  have hp9 : ([(vo, .inr (5, [.ref sv, .ref hm, .ref nt, .ref aw, .int pe, .int ac]))] : va_W).Perm (([(vo, .inr (5, [.ref sv, .ref hm, .ref nt, .ref aw, .int pe, .int ac]))]) ++ (([] : va_W))) := (vp_pc (fun n9 hn9 h90 => by simp only [hn9, h90] <;> omega))
  exact vh_bad (vx_runV (As := [.int b]) (rest := []) ⟨hx, hb, hml, hown, hts⟩ (kX4_requirePerson_bad l hfl D cy H.size e0 mi vo sv hm nt aw pe ac b hbad) (cwV 1 hts gX4_requireTwo_X4_requirePerson rfl rfl rfl (by decide +kernel) ⟨Nat.le_of_ble_eq_true rfl, Nat.le_of_ble_eq_true rfl⟩) (vh_P.preV hE hF hZ hS (vj_free (vd_perm hp9 hD) hS hA) hP 0 rfl rfl (vp_app.mp (vp_perm hP hp9)).1 (vd_app.mp (vd_perm hp9 hD)).1) rfl rfl hl.1 rfl (lv_room (Nat.le_of_ble_eq_true rfl)) dX4_requireTwo_7 ⟨Nat.le_of_ble_eq_true rfl, Nat.le_of_ble_eq_true rfl⟩) hP hD hS hA hp9 (List.Perm.refl _) htb hlocks (by omega) (by omega)

set_option maxHeartbeats 4000000 in
set_option maxRecDepth 100000 in
theorem kX4_requireDifferent (l : Launch) (D : va_G) (cy : Nat → ClassId) (sz : Nat) (a : Int32) (b : Int32) (hne : a ≠ b) : Met l yX4_requireDifferent wsX4_requireDifferent ({ frames := 0, cells := 0, slots := 0, locals := 0 }) (vg_P D cy [.int a, .int b] sz (([] : va_W))) (vg_Qv (S := Unit) D sz (([] : va_W)) (fun _ => True) (fun _ => ([] : va_W))) 0 0 (va_A (([] : va_W)) sz) := by
  refine Met.ofW (cc := cX4_requireDifferent) (maxL := 2) (ret := none) (by decide) rfl ?_
  intro p e s m args below meth c s₁ BB hml hv
  obtain ⟨rfl, hsz, hP, hE, hD0⟩ := hv
  have hx := BB.exec
  have hb := BB.bytes
  have hr := BB.returns
  have hts := atoms_spec (ws := wsX4_requireDifferent) BB.pre
  have hown : s.vm.findClass RX4 = some m.cls := findClass_of_methodNamed BB.named
  have hlocks := BB.notSynchronized
  subst hsz
  have hD := hD0.self (sz := s.heap.size)
  have hA : ∀ q : Nat, s.heap.size ≤ q → (va_A (([] : va_W)) s.heap.size) q := fun q h => Or.inr h
  have hS : va_S (va_A (([] : va_W)) s.heap.size) s.heap s.heap [] := va_S.rf
  have hl := lv_entry ([.int a, .int b]) (n := 2) (Nat.le_of_ble_eq_true rfl)
  rw [lg_entry_eq]
  generalize (lg_sl ([.int a, .int b]) ++ List.replicate (2 - (lg_sl ([.int a, .int b])).length) Slot.unset).toArray = ls at hl ⊢
  have hl : lv_has ls 2 [(0, .int a), (1, .int b)] := hl
  refine lv_iload_n hx hb dX4_requireDifferent_0 rfl (lv_at hl 0 rfl) ?_
  refine lv_iload_n hx hb dX4_requireDifferent_1 rfl (lv_at hl 1 rfl) ?_
  refine lv_icmp_ne (tgt := 15) hx hb dX4_requireDifferent_2 (by decide) (fun _ => ?_) (fun c9 => absurd c9 (hne))
  exact W.vret hx hb hr (fun t ht hW => ⟨⟨(), rfl, trivial, (by rw [ht]; exact hP), hD⟩, hS.F ht⟩) hS.2.2 dX4_requireDifferent_15

set_option maxHeartbeats 4000000 in
set_option maxRecDepth 100000 in
theorem kX4_requireDifferent_bad (l : Launch) (hfl : l.stackTraces = false) (D : va_G) (cy : Nat → ClassId) (sz e0 mi : Nat) (x : Int32)  : vx_Met l yX4_requireDifferent wsX4_requireDifferent ({ frames := 6, cells := 1, slots := 6, locals := 82 }) (vh_P D cy e0 mi [.int x, .int x] sz (([] : va_W))) (vh_N (([] : va_W)) sz) (vh_X D "java/lang/IllegalArgumentException" (([] : va_W)) sz) 1 6 (va_A (([] : va_W)) sz) := by
  refine vx_ofW (cc := cX4_requireDifferent) (maxL := 2) (ret := none) (by decide) rfl ?_
  intro p e s m args below meth c s₁ BB hml htb hv
  obtain ⟨rfl, hsz, hP, hE, hD0, hF, hZ⟩ := hv
  have hx := BB.exec
  have hb := BB.bytes
  have hr := BB.returns
  have hts := atoms_spec (ws := wsX4_requireDifferent) BB.pre
  have hown : s.vm.findClass RX4 = some m.cls := findClass_of_methodNamed BB.named
  have hlocks := BB.notSynchronized
  subst hsz
  have hD := hD0.self (sz := s.heap.size)
  have hA : ∀ q : Nat, s.heap.size ≤ q → (va_A (([] : va_W)) s.heap.size) q := fun q h => Or.inr h
  have hS : va_S (va_A (([] : va_W)) s.heap.size) s.heap s.heap [] := va_S.rf
  have hl := lv_entry ([.int x, .int x]) (n := 2) (Nat.le_of_ble_eq_true rfl)
  rw [lg_entry_eq]
  generalize (lg_sl ([.int x, .int x]) ++ List.replicate (2 - (lg_sl ([.int x, .int x])).length) Slot.unset).toArray = ls at hl ⊢
  have hl : lv_has ls 2 [(0, .int x), (1, .int x)] := hl
  refine lv_iload_n hx hb dX4_requireDifferent_0 rfl (lv_at hl 0 rfl) ?_
  refine lv_iload_n hx hb dX4_requireDifferent_1 rfl (lv_at hl 1 rfl) ?_
  refine lv_icmp_ne (tgt := 15) hx hb dX4_requireDifferent_2 (by decide) (fun c9 => absurd c9 (fun h => h rfl)) (fun _ => ?_)
  exact vh_thr (D := D) (text := "both are one") hx hb hfl hown hF hZ (by decide +kernel) (hts (.classLink RX4 119 "java/lang/IllegalArgumentException") (by decide +kernel)) (hts (.initialized "java/lang/IllegalArgumentException") (by decide +kernel)) (by decide +kernel) (fun w hw => hts w (List.mem_cons_of_mem _ (List.mem_append_right _ hw))) vh_bA vh_gA hS hP (List.Perm.refl _) (by rw [hml]; exact hl.1) dX4_requireDifferent_5 dX4_requireDifferent_8 dX4_requireDifferent_9 dX4_requireDifferent_11 dX4_requireDifferent_14 htb hlocks (Nat.le_of_ble_eq_true rfl) (Nat.le_of_ble_eq_true rfl) (Nat.le_of_ble_eq_true rfl) (Nat.le_of_ble_eq_true rfl) (by omega) (by omega)

set_option maxHeartbeats 4000000 in
set_option maxRecDepth 100000 in
theorem kX4_requirePost (l : Launch) (D : va_G) (cy : Nat → ClassId) (sz : Nat) (vo : Nat) (sv : Nat) (hm : Nat) (nt : Nat) (aw : Nat) (pe : Int32) (ac : Int32) (mc : Int32) (ld : Nat) (nn : Nat) (x : Int32) (h0 : ¬ x < 0) (h4 : x < nI nn) : Met l yX4_requirePost wsX4_requirePost ({ frames := 1, cells := 0, slots := 0, locals := 20 }) (vg_P D cy [.ref vo, .int x] sz ([(vo, .inr (5, [.ref sv, .ref hm, .ref nt, .ref aw, .int pe, .int ac]))] ++ ([(nt, .inr (0, [.int mc, .ref ld, .int (nI nn)]))]))) (vg_Qv (S := Unit) D sz ([(vo, .inr (5, [.ref sv, .ref hm, .ref nt, .ref aw, .int pe, .int ac]))] ++ ([(nt, .inr (0, [.int mc, .ref ld, .int (nI nn)]))])) (fun _ => True) (fun _ => [(vo, .inr (5, [.ref sv, .ref hm, .ref nt, .ref aw, .int pe, .int ac]))] ++ ([(nt, .inr (0, [.int mc, .ref ld, .int (nI nn)]))]))) 0 0 (va_A ([(vo, .inr (5, [.ref sv, .ref hm, .ref nt, .ref aw, .int pe, .int ac]))] ++ ([(nt, .inr (0, [.int mc, .ref ld, .int (nI nn)]))])) sz) := by
  refine Met.ofW (cc := cX4_requirePost) (maxL := 2) (ret := none) (by decide) rfl ?_
  intro p e s m args below meth c s₁ BB hml hv
  obtain ⟨rfl, hsz, hP, hE, hD0⟩ := hv
  have hx := BB.exec
  have hb := BB.bytes
  have hr := BB.returns
  have hts := atoms_spec (ws := wsX4_requirePost) BB.pre
  have hown : s.vm.findClass RX4 = some m.cls := findClass_of_methodNamed BB.named
  have hlocks := BB.notSynchronized
  subst hsz
  have hD := hD0.self (sz := s.heap.size)
  have hA : ∀ q : Nat, s.heap.size ≤ q → (va_A ([(vo, .inr (5, [.ref sv, .ref hm, .ref nt, .ref aw, .int pe, .int ac]))] ++ ([(nt, .inr (0, [.int mc, .ref ld, .int (nI nn)]))])) s.heap.size) q := fun q h => Or.inr h
  have hS : va_S (va_A ([(vo, .inr (5, [.ref sv, .ref hm, .ref nt, .ref aw, .int pe, .int ac]))] ++ ([(nt, .inr (0, [.int mc, .ref ld, .int (nI nn)]))])) s.heap.size) s.heap s.heap [] := va_S.rf
  have hin_RX4 : ∀ w ∈ u_ws RX4 TX4 6, w ∈ wsX4_requirePost := by decide +kernel
  have hl := lv_entry ([.ref vo, .int x]) (n := 2) (Nat.le_of_ble_eq_true rfl)
  rw [lg_entry_eq]
  generalize (lg_sl ([.ref vo, .int x]) ++ List.replicate (2 - (lg_sl ([.ref vo, .int x])).length) Slot.unset).toArray = ls at hl ⊢
  have hl : lv_has ls 2 [(0, .ref vo), (1, .int x)] := hl
  refine lv_iload_n hx hb dX4_requirePost_0 rfl (lv_at hl 1 rfl) ?_
  refine lv_if_lt (tgt := 15) hx hb dX4_requirePost_1 (by decide) (fun c9 => absurd c9 (h0)) (fun _ => ?_)
  refine lv_iload_n hx hb dX4_requirePost_4 rfl (lv_at hl 1 rfl) ?_
  refine lv_aload_n hx hb dX4_requirePost_5 rfl (lv_at hl 0 rfl) ?_
  refine va_get (D := D) (ci := 5) (v := .ref nt) (C := RX4) (T := TX4) (N := 6) hx hb hts hin_RX4 hown hE.1 hP 0 rfl rfl 2 (by decide) (hts (.fieldLink RX4 23 "Villagepost" "notes" "Ljava/util/ArrayList;") (by decide +kernel)) (fun _ h9 => h9) rfl dX4_requirePost_6 ?_
  refine vg_calli (pre := [(vo, .inr (5, [.ref sv, .ref hm, .ref nt, .ref aw, .int pe, .int ac]))] ++ ([(nt, .inr (0, [.int mc, .ref ld, .int (nI nn)]))])) (RR := []) (wc := [(nt, .inr (0, [.int mc, .ref ld, .int (nI nn)]))]) (wr := [(vo, .inr (5, [.ref sv, .ref hm, .ref nt, .ref aw, .int pe, .int ac]))]) (va_runV (As := []) (rest := [.int x]) ⟨hx, hb, hml, hown, hts⟩ (kJx4a65c_size_8abf5 l D cy s.heap.size nt mc ld nn  ) (cwV 0 hts gX4_requirePost_Jx4a65c_size_8abf5 rfl rfl rfl (by decide +kernel) ⟨Nat.le_of_ble_eq_true rfl, Nat.le_of_ble_eq_true rfl⟩) (vg_P.preV hE hP 1 rfl rfl (va_P.sub (ws' := [(nt, .inr (0, [.int mc, .ref ld, .int (nI nn)]))]) hP [1] rfl) (va_D.sub (ws' := [(nt, .inr (0, [.int mc, .ref ld, .int (nI nn)]))]) hD [1] (by decide) rfl)) rfl rfl hl.1 rfl (lv_room (Nat.le_of_ble_eq_true rfl)) dX4_requirePost_9 ⟨Nat.le_of_ble_eq_true rfl, Nat.le_of_ble_eq_true rfl⟩) hP hD hS hA [1] [0] rfl rfl (by decide) (by decide) (fun r _ H locs hr hP hD hS => ?_)
  subst hr
  have hP : va_P D vwCl ([(nt, .inr (0, [.int mc, .ref ld, .int (nI nn)]))] ++ ([(vo, .inr (5, [.ref sv, .ref hm, .ref nt, .ref aw, .int pe, .int ac]))])) H := hP
  have hD : va_D (va_A ([(vo, .inr (5, [.ref sv, .ref hm, .ref nt, .ref aw, .int pe, .int ac]))] ++ ([(nt, .inr (0, [.int mc, .ref ld, .int (nI nn)]))])) s.heap.size) ([(nt, .inr (0, [.int mc, .ref ld, .int (nI nn)]))] ++ ([(vo, .inr (5, [.ref sv, .ref hm, .ref nt, .ref aw, .int pe, .int ac]))])) := hD
  refine lv_icmp_lt (tgt := 25) hx hb dX4_requirePost_12 (by decide) (fun _ => ?_) (fun c9 => absurd (h4) c9)
  have hp8 : ([(nt, .inr (0, [.int mc, .ref ld, .int (nI nn)]))] ++ ([(vo, .inr (5, [.ref sv, .ref hm, .ref nt, .ref aw, .int pe, .int ac]))]) : va_W).Perm ([(vo, .inr (5, [.ref sv, .ref hm, .ref nt, .ref aw, .int pe, .int ac]))] ++ ([(nt, .inr (0, [.int mc, .ref ld, .int (nI nn)]))])) := (vp_pc (fun n9 hn9 h90 => by simp only [hn9, h90] <;> omega))
  have hP : va_P D vwCl ([(vo, .inr (5, [.ref sv, .ref hm, .ref nt, .ref aw, .int pe, .int ac]))] ++ ([(nt, .inr (0, [.int mc, .ref ld, .int (nI nn)]))])) H := vp_perm hP hp8
  have hD : va_D (va_A ([(vo, .inr (5, [.ref sv, .ref hm, .ref nt, .ref aw, .int pe, .int ac]))] ++ ([(nt, .inr (0, [.int mc, .ref ld, .int (nI nn)]))])) s.heap.size) ([(vo, .inr (5, [.ref sv, .ref hm, .ref nt, .ref aw, .int pe, .int ac]))] ++ ([(nt, .inr (0, [.int mc, .ref ld, .int (nI nn)]))])) := vd_perm hp8 hD
  exact W.vret hx hb hr (fun t ht hW => ⟨⟨(), rfl, trivial, (by rw [ht]; exact hP), hD⟩, hS.F ht⟩) hS.2.2 dX4_requirePost_25

set_option maxHeartbeats 4000000 in
set_option maxRecDepth 100000 in
theorem kX4_requirePost_bad (l : Launch) (hfl : l.stackTraces = false) (D : va_G) (cy : Nat → ClassId) (sz e0 mi : Nat) (vo : Nat) (sv : Nat) (hm : Nat) (nt : Nat) (aw : Nat) (pe : Int32) (ac : Int32) (mc : Int32) (ld : Nat) (nn : Nat) (x : Int32) (hbad : x < 0 ∨ ¬ x < nI nn) : vx_Met l yX4_requirePost wsX4_requirePost ({ frames := 6, cells := 1, slots := 6, locals := 82 }) (vh_P D cy e0 mi [.ref vo, .int x] sz ([(vo, .inr (5, [.ref sv, .ref hm, .ref nt, .ref aw, .int pe, .int ac]))] ++ ([(nt, .inr (0, [.int mc, .ref ld, .int (nI nn)]))]))) (vh_N ([(vo, .inr (5, [.ref sv, .ref hm, .ref nt, .ref aw, .int pe, .int ac]))] ++ ([(nt, .inr (0, [.int mc, .ref ld, .int (nI nn)]))])) sz) (vh_X D "java/lang/IndexOutOfBoundsException" ([(vo, .inr (5, [.ref sv, .ref hm, .ref nt, .ref aw, .int pe, .int ac]))] ++ ([(nt, .inr (0, [.int mc, .ref ld, .int (nI nn)]))])) sz) 1 6 (va_A ([(vo, .inr (5, [.ref sv, .ref hm, .ref nt, .ref aw, .int pe, .int ac]))] ++ ([(nt, .inr (0, [.int mc, .ref ld, .int (nI nn)]))])) sz) := by
  refine vx_ofW (cc := cX4_requirePost) (maxL := 2) (ret := none) (by decide) rfl ?_
  intro p e s m args below meth c s₁ BB hml htb hv
  obtain ⟨rfl, hsz, hP, hE, hD0, hF, hZ⟩ := hv
  have hx := BB.exec
  have hb := BB.bytes
  have hr := BB.returns
  have hts := atoms_spec (ws := wsX4_requirePost) BB.pre
  have hown : s.vm.findClass RX4 = some m.cls := findClass_of_methodNamed BB.named
  have hlocks := BB.notSynchronized
  subst hsz
  have hD := hD0.self (sz := s.heap.size)
  have hA : ∀ q : Nat, s.heap.size ≤ q → (va_A ([(vo, .inr (5, [.ref sv, .ref hm, .ref nt, .ref aw, .int pe, .int ac]))] ++ ([(nt, .inr (0, [.int mc, .ref ld, .int (nI nn)]))])) s.heap.size) q := fun q h => Or.inr h
  have hS : va_S (va_A ([(vo, .inr (5, [.ref sv, .ref hm, .ref nt, .ref aw, .int pe, .int ac]))] ++ ([(nt, .inr (0, [.int mc, .ref ld, .int (nI nn)]))])) s.heap.size) s.heap s.heap [] := va_S.rf
  have hin_RX4 : ∀ w ∈ u_ws RX4 TX4 6, w ∈ wsX4_requirePost := by decide +kernel
  have hl := lv_entry ([.ref vo, .int x]) (n := 2) (Nat.le_of_ble_eq_true rfl)
  rw [lg_entry_eq]
  generalize (lg_sl ([.ref vo, .int x]) ++ List.replicate (2 - (lg_sl ([.ref vo, .int x])).length) Slot.unset).toArray = ls at hl ⊢
  have hl : lv_has ls 2 [(0, .ref vo), (1, .int x)] := hl
  refine lv_iload_n hx hb dX4_requirePost_0 rfl (lv_at hl 1 rfl) ?_
  refine lv_if_lt (tgt := 15) hx hb dX4_requirePost_1 (by decide) (fun r1 => ?_) (fun r1 => ?_)
  · have c1 := r1
    have c1n : ¬ 0 ≤ x := Int32.not_le.mpr r1
    exact vh_thr (D := D) (text := "no such post") hx hb hfl hown hF hZ (by decide +kernel) (hts (.classLink RX4 208 "java/lang/IndexOutOfBoundsException") (by decide +kernel)) (hts (.initialized "java/lang/IndexOutOfBoundsException") (by decide +kernel)) (by decide +kernel) (fun w hw => hts w (List.mem_cons_of_mem _ (List.mem_append_right _ hw))) vh_bO vh_gO hS hP (List.Perm.refl _) (by rw [hml]; exact hl.1) dX4_requirePost_15 dX4_requirePost_18 dX4_requirePost_19 dX4_requirePost_21 dX4_requirePost_24 htb hlocks (Nat.le_of_ble_eq_true rfl) (Nat.le_of_ble_eq_true rfl) (Nat.le_of_ble_eq_true rfl) (Nat.le_of_ble_eq_true rfl) (by omega) (by omega)
  · have c1 : 0 ≤ x := Int32.not_lt.mp r1
    have c1n := r1
    refine lv_iload_n hx hb dX4_requirePost_4 rfl (lv_at hl 1 rfl) ?_
    refine lv_aload_n hx hb dX4_requirePost_5 rfl (lv_at hl 0 rfl) ?_
    refine va_get (D := D) (ci := 5) (v := .ref nt) (C := RX4) (T := TX4) (N := 6) hx hb hts hin_RX4 hown hE.1 hP 0 rfl rfl 2 (by decide) (hts (.fieldLink RX4 23 "Villagepost" "notes" "Ljava/util/ArrayList;") (by decide +kernel)) (fun _ h9 => h9) rfl dX4_requirePost_6 ?_
    refine vg_calli (pre := [(vo, .inr (5, [.ref sv, .ref hm, .ref nt, .ref aw, .int pe, .int ac]))] ++ ([(nt, .inr (0, [.int mc, .ref ld, .int (nI nn)]))])) (RR := []) (wc := [(nt, .inr (0, [.int mc, .ref ld, .int (nI nn)]))]) (wr := [(vo, .inr (5, [.ref sv, .ref hm, .ref nt, .ref aw, .int pe, .int ac]))]) (va_runV (As := []) (rest := [.int x]) ⟨hx, hb, hml, hown, hts⟩ (kJx4a65c_size_8abf5 l D cy s.heap.size nt mc ld nn  ) (cwV 0 hts gX4_requirePost_Jx4a65c_size_8abf5 rfl rfl rfl (by decide +kernel) ⟨Nat.le_of_ble_eq_true rfl, Nat.le_of_ble_eq_true rfl⟩) (vg_P.preV hE hP 1 rfl rfl (va_P.sub (ws' := [(nt, .inr (0, [.int mc, .ref ld, .int (nI nn)]))]) hP [1] rfl) (va_D.sub (ws' := [(nt, .inr (0, [.int mc, .ref ld, .int (nI nn)]))]) hD [1] (by decide) rfl)) rfl rfl hl.1 rfl (lv_room (Nat.le_of_ble_eq_true rfl)) dX4_requirePost_9 ⟨Nat.le_of_ble_eq_true rfl, Nat.le_of_ble_eq_true rfl⟩) hP hD hS hA [1] [0] rfl rfl (by decide) (by decide) (fun r _ H locs hr hP hD hS => ?_)
    subst hr
    have hP : va_P D vwCl ([(nt, .inr (0, [.int mc, .ref ld, .int (nI nn)]))] ++ ([(vo, .inr (5, [.ref sv, .ref hm, .ref nt, .ref aw, .int pe, .int ac]))])) H := hP
    have hD : va_D (va_A ([(vo, .inr (5, [.ref sv, .ref hm, .ref nt, .ref aw, .int pe, .int ac]))] ++ ([(nt, .inr (0, [.int mc, .ref ld, .int (nI nn)]))])) s.heap.size) ([(nt, .inr (0, [.int mc, .ref ld, .int (nI nn)]))] ++ ([(vo, .inr (5, [.ref sv, .ref hm, .ref nt, .ref aw, .int pe, .int ac]))])) := hD
    refine lv_icmp_lt (tgt := 25) hx hb dX4_requirePost_12 (by decide) (fun c9 => absurd c9 (hbad.resolve_left r1)) (fun _ => ?_)
    exact vh_thr (D := D) (text := "no such post") hx hb hfl hown hF hZ (by decide +kernel) (hts (.classLink RX4 208 "java/lang/IndexOutOfBoundsException") (by decide +kernel)) (hts (.initialized "java/lang/IndexOutOfBoundsException") (by decide +kernel)) (by decide +kernel) (fun w hw => hts w (List.mem_cons_of_mem _ (List.mem_append_right _ hw))) vh_bO vh_gO hS hP (vp_pc (fun n9 hn9 h90 => by simp only [hn9, h90] <;> omega)) (by rw [hml]; exact hl.1) dX4_requirePost_15 dX4_requirePost_18 dX4_requirePost_19 dX4_requirePost_21 dX4_requirePost_24 htb hlocks (Nat.le_of_ble_eq_true rfl) (Nat.le_of_ble_eq_true rfl) (Nat.le_of_ble_eq_true rfl) (Nat.le_of_ble_eq_true rfl) (by omega) (by omega)
