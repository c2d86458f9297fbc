set_option maxHeartbeats 4000000 in
set_option maxRecDepth 100000 in
theorem kJ3_checkIndex_8e157 (l : Launch) (D : va_G) (cy : Nat → ClassId) (sz : Nat) (ii : Nat) (nn : Nat) (hi : ii < nn) (hn : nn < 2 ^ 31) : Met l yJ3_checkIndex_8e157 wsJ3_checkIndex_8e157 ({ frames := 0, cells := 0, slots := 0, locals := 0 }) (vg_P D cy [.int (nI ii), .int (nI nn), .null] sz (([] : va_W))) (vg_Qi (S := Unit) D sz (([] : va_W)) (fun r _ => r = (nI ii)) (fun _ => ([] : va_W))) 0 0 (va_A (([] : va_W)) sz) := by
  refine Met.ofW (cc := cJ3_checkIndex_8e157) (maxL := 3) (ret := (some .int)) (by decide) rfl ?_
  intro p e s m args below meth c s₁ BB hml hv
  obtain ⟨rfl, hsz, hP, hE, hD0⟩ := hv
  have hx := BB.exec
  have hb := BB.bytes
  have hr := BB.returns
  have hts := atoms_spec (ws := wsJ3_checkIndex_8e157) BB.pre
  have hown : s.vm.findClass RJ3 = some m.cls := findClass_of_methodNamed BB.named
  have hlocks := BB.notSynchronized
  subst hsz
  have hD := hD0.self (sz := s.heap.size)
  have hA : ∀ q : Nat, s.heap.size ≤ q → (va_A (([] : va_W)) s.heap.size) q := fun q h => Or.inr h
  have hS : va_S (va_A (([] : va_W)) s.heap.size) s.heap s.heap [] := va_S.rf
  have hl := lv_entry ([.int (nI ii), .int (nI nn), .null]) (n := 3) (Nat.le_of_ble_eq_true rfl)
  rw [lg_entry_eq]
  generalize (lg_sl ([.int (nI ii), .int (nI nn), .null]) ++ List.replicate (3 - (lg_sl ([.int (nI ii), .int (nI nn), .null])).length) Slot.unset).toArray = ls at hl ⊢
  have hl : lv_has ls 3 [(0, .int (nI ii)), (1, .int (nI nn)), (2, .null)] := hl
  refine lv_iload_n hx hb dJ3_checkIndex_8e157_0 rfl (lv_at hl 0 rfl) ?_
  refine lv_if_lt (tgt := 9) hx hb dJ3_checkIndex_8e157_1 (by decide) (fun c9 => absurd c9 (nI_pos (by omega))) (fun _ => ?_)
  refine lv_iload_n hx hb dJ3_checkIndex_8e157_4 rfl (lv_at hl 0 rfl) ?_
  refine lv_iload_n hx hb dJ3_checkIndex_8e157_5 rfl (lv_at hl 1 rfl) ?_
  refine lv_icmp_lt (tgt := 16) hx hb dJ3_checkIndex_8e157_6 (by decide) (fun _ => ?_) (fun c9 => absurd (nI_lt hi hn) c9)
  refine lv_iload_n hx hb dJ3_checkIndex_8e157_16 rfl (lv_at hl 0 rfl) ?_
  refine vg_tp (nI ii) (rfl) ?_
  exact W.iret (v := (nI ii)) hx hb hr (fun t ht hW => ⟨⟨(nI ii), (), rfl, rfl, (by rw [ht]; exact hP), hD⟩, hS.F ht⟩) hS.2.2 dJ3_checkIndex_8e157_17

set_option maxHeartbeats 4000000 in
set_option maxRecDepth 100000 in
theorem kJ15_checkIndex_7cf53 (l : Launch) (D : va_G) (cy : Nat → ClassId) (sz : Nat) (ii : Nat) (nn : Nat) (hi : ii < nn) (hn : nn < 2 ^ 31) : Met l yJ15_checkIndex_7cf53 wsJ15_checkIndex_7cf53 ({ frames := 1, cells := 0, slots := 0, locals := 22 }) (vg_P D cy [.int (nI ii), .int (nI nn)] sz (([] : va_W))) (vg_Qi (S := Unit) D sz (([] : va_W)) (fun r _ => r = (nI ii)) (fun _ => ([] : va_W))) 0 0 (va_A (([] : va_W)) sz) := by
  refine Met.ofW (cc := cJ15_checkIndex_7cf53) (maxL := 2) (ret := (some .int)) (by decide) rfl ?_
  intro p e s m args below meth c s₁ BB hml hv
  obtain ⟨rfl, hsz, hP, hE, hD0⟩ := hv
  have hx := BB.exec
  have hb := BB.bytes
  have hr := BB.returns
  have hts := atoms_spec (ws := wsJ15_checkIndex_7cf53) BB.pre
  have hown : s.vm.findClass RJ15 = some m.cls := findClass_of_methodNamed BB.named
  have hlocks := BB.notSynchronized
  subst hsz
  have hD := hD0.self (sz := s.heap.size)
  have hA : ∀ q : Nat, s.heap.size ≤ q → (va_A (([] : va_W)) s.heap.size) q := fun q h => Or.inr h
  have hS : va_S (va_A (([] : va_W)) s.heap.size) s.heap s.heap [] := va_S.rf
  have hl := lv_entry ([.int (nI ii), .int (nI nn)]) (n := 2) (Nat.le_of_ble_eq_true rfl)
  rw [lg_entry_eq]
  generalize (lg_sl ([.int (nI ii), .int (nI nn)]) ++ List.replicate (2 - (lg_sl ([.int (nI ii), .int (nI nn)])).length) Slot.unset).toArray = ls at hl ⊢
  have hl : lv_has ls 2 [(0, .int (nI ii)), (1, .int (nI nn))] := hl
  refine lv_iload_n hx hb dJ15_checkIndex_7cf53_0 rfl (lv_at hl 0 rfl) ?_
  refine lv_iload_n hx hb dJ15_checkIndex_7cf53_1 rfl (lv_at hl 1 rfl) ?_
  refine lv_null hx hb dJ15_checkIndex_7cf53_2 ?_
  refine vg_calliP (va_runS (As := [.int (nI ii), .int (nI nn), .null]) (rest := []) ⟨hx, hb, hml, hown, hts⟩ (kJ3_checkIndex_8e157 l D cy s.heap.size ii nn (hi) (hn)) (va_cwS 3 hts gJ15_checkIndex_7cf53_J3_checkIndex_8e157 rfl rfl rfl (by decide +kernel) ⟨Nat.le_of_ble_eq_true rfl, Nat.le_of_ble_eq_true rfl⟩) (vg_P.preS hE vg_P0 (A := fun _ => True) vg_D0) rfl rfl hl.1 rfl (lv_room (Nat.le_of_ble_eq_true rfl)) dJ15_checkIndex_7cf53_3 ⟨Nat.le_of_ble_eq_true rfl, Nat.le_of_ble_eq_true rfl⟩) hP hD hS hA (fun r _ H locs hr hP hD hS => ?_)
  subst hr
  refine vg_tp (nI ii) (rfl) ?_
  exact W.iret (v := (nI ii)) hx hb hr (fun t ht hW => ⟨⟨(nI ii), (), rfl, rfl, (by rw [ht]; exact hP), hD⟩, hS.F ht⟩) hS.2.2 dJ15_checkIndex_7cf53_6

set_option maxHeartbeats 4000000 in
set_option maxRecDepth 100000 in
theorem kJx4a65c_size_8abf5 (l : Launch) (D : va_G) (cy : Nat → ClassId) (sz : Nat) (lo : Nat) (mc : Int32) (ld : Nat) (nn : Nat)  : Met l yJx4a65c_size_8abf5 wsJx4a65c_size_8abf5 ({ frames := 0, cells := 0, slots := 0, locals := 0 }) (vg_P D cy [.ref lo] sz ([(lo, .inr (0, [.int mc, .ref ld, .int (nI nn)]))])) (vg_Qi (S := Unit) D sz ([(lo, .inr (0, [.int mc, .ref ld, .int (nI nn)]))]) (fun r _ => r = (nI nn)) (fun _ => [(lo, .inr (0, [.int mc, .ref ld, .int (nI nn)]))])) 0 0 (va_A ([(lo, .inr (0, [.int mc, .ref ld, .int (nI nn)]))]) sz) := by
  refine Met.ofW (cc := cJx4a65c_size_8abf5) (maxL := 1) (ret := (some .int)) (by decide) rfl ?_
  intro p e s m args below meth c s₁ BB hml hv
  obtain ⟨rfl, hsz, hP, hE, hD0⟩ := hv
  have hx := BB.exec
  have hb := BB.bytes
  have hr := BB.returns
  have hts := atoms_spec (ws := wsJx4a65c_size_8abf5) BB.pre
  have hown : s.vm.findClass RJx4a65c = some m.cls := findClass_of_methodNamed BB.named
  have hlocks := BB.notSynchronized
  subst hsz
  have hD := hD0.self (sz := s.heap.size)
  have hA : ∀ q : Nat, s.heap.size ≤ q → (va_A ([(lo, .inr (0, [.int mc, .ref ld, .int (nI nn)]))]) s.heap.size) q := fun q h => Or.inr h
  have hS : va_S (va_A ([(lo, .inr (0, [.int mc, .ref ld, .int (nI nn)]))]) s.heap.size) s.heap s.heap [] := va_S.rf
  have hin_RJx4a65c : ∀ w ∈ u_ws RJx4a65c TJx4a65c 3, w ∈ wsJx4a65c_size_8abf5 := by decide +kernel
  have hl := lv_entry ([.ref lo]) (n := 1) (Nat.le_of_ble_eq_true rfl)
  rw [lg_entry_eq]
  generalize (lg_sl ([.ref lo]) ++ List.replicate (1 - (lg_sl ([.ref lo])).length) Slot.unset).toArray = ls at hl ⊢
  have hl : lv_has ls 1 [(0, .ref lo)] := hl
  refine lv_aload_n hx hb dJx4a65c_size_8abf5_0 rfl (lv_at hl 0 rfl) ?_
  refine va_get (D := D) (ci := 0) (v := .int (nI nn)) (C := RJx4a65c) (T := TJx4a65c) (N := 3) hx hb hts hin_RJx4a65c hown hE.1 hP 0 rfl rfl 2 (by decide) (hts (.fieldLink RJx4a65c 48 "java/util/ArrayList" "size" "I") (by decide +kernel)) (fun _ h9 => h9) rfl dJx4a65c_size_8abf5_1 ?_
  refine vg_tp (nI nn) (rfl) ?_
  exact W.iret (v := (nI nn)) hx hb hr (fun t ht hW => ⟨⟨(nI nn), (), rfl, rfl, (by rw [ht]; exact hP), hD⟩, hS.F ht⟩) hS.2.2 dJx4a65c_size_8abf5_4

set_option maxHeartbeats 4000000 in
set_option maxRecDepth 100000 in
theorem kJx4a65c_elementData_915e3 (l : Launch) (D : va_G) (cy : Nat → ClassId) (sz : Nat) (lo : Nat) (mc : Int32) (ld : Nat) (cap : Nat) (L : List Nat) (ii : Nat) (vv : Nat) (hcap : L.length ≤ cap) (hc31 : cap < 2 ^ 31) (hi : ii < L.length) (hv : L[ii]? = some vv) : Met l yJx4a65c_elementData_915e3 wsJx4a65c_elementData_915e3 ({ frames := 0, cells := 0, slots := 0, locals := 0 }) (vg_P D cy [.ref lo, .int (nI ii)] sz ([(lo, .inr (0, [.int mc, .ref ld, .int (nI L.length)]))] ++ ([(ld, .inl (cy 4, cap, .inr (.inr (.inr (.inr (fun j => L[j]?))))))]))) (vg_Qq (S := Unit) D sz ([(lo, .inr (0, [.int mc, .ref ld, .int (nI L.length)]))] ++ ([(ld, .inl (cy 4, cap, .inr (.inr (.inr (.inr (fun j => L[j]?))))))])) (fun r _ => r = some vv) (fun _ => [(lo, .inr (0, [.int mc, .ref ld, .int (nI L.length)]))] ++ ([(ld, .inl (cy 4, cap, .inr (.inr (.inr (.inr (fun j => L[j]?))))))]))) 0 0 (va_A ([(lo, .inr (0, [.int mc, .ref ld, .int (nI L.length)]))] ++ ([(ld, .inl (cy 4, cap, .inr (.inr (.inr (.inr (fun j => L[j]?))))))])) sz) := by
  refine Met.ofW (cc := cJx4a65c_elementData_915e3) (maxL := 2) (ret := (some (.object "java/lang/Object"))) (by decide) rfl ?_
  intro p e s m args below meth c s₁ BB hml hv
  obtain ⟨rfl, hsz, hP, hE, hD0⟩ := hv
  have hx := BB.exec
  have hb := BB.bytes
  have hr := BB.returns
  have hts := atoms_spec (ws := wsJx4a65c_elementData_915e3) BB.pre
  have hown : s.vm.findClass RJx4a65c = some m.cls := findClass_of_methodNamed BB.named
  have hlocks := BB.notSynchronized
  subst hsz
  have hD := hD0.self (sz := s.heap.size)
  have hA : ∀ q : Nat, s.heap.size ≤ q → (va_A ([(lo, .inr (0, [.int mc, .ref ld, .int (nI L.length)]))] ++ ([(ld, .inl (cy 4, cap, .inr (.inr (.inr (.inr (fun j => L[j]?))))))])) s.heap.size) q := fun q h => Or.inr h
  have hS : va_S (va_A ([(lo, .inr (0, [.int mc, .ref ld, .int (nI L.length)]))] ++ ([(ld, .inl (cy 4, cap, .inr (.inr (.inr (.inr (fun j => L[j]?))))))])) s.heap.size) s.heap s.heap [] := va_S.rf
  have hin_RJx4a65c : ∀ w ∈ u_ws RJx4a65c TJx4a65c 3, w ∈ wsJx4a65c_elementData_915e3 := by decide +kernel
  have hl := lv_entry ([.ref lo, .int (nI ii)]) (n := 2) (Nat.le_of_ble_eq_true rfl)
  rw [lg_entry_eq]
  generalize (lg_sl ([.ref lo, .int (nI ii)]) ++ List.replicate (2 - (lg_sl ([.ref lo, .int (nI ii)])).length) Slot.unset).toArray = ls at hl ⊢
  have hl : lv_has ls 2 [(0, .ref lo), (1, .int (nI ii))] := hl
  refine lv_aload_n hx hb dJx4a65c_elementData_915e3_0 rfl (lv_at hl 0 rfl) ?_
  refine va_get (D := D) (ci := 0) (v := .ref ld) (C := RJx4a65c) (T := TJx4a65c) (N := 3) hx hb hts hin_RJx4a65c hown hE.1 hP 0 rfl rfl 1 (by decide) (hts (.fieldLink RJx4a65c 9 "java/util/ArrayList" "elementData" "[Ljava/lang/Object;") (by decide +kernel)) (fun _ h9 => h9) rfl dJx4a65c_elementData_915e3_1 ?_
  refine lv_iload_n hx hb dJx4a65c_elementData_915e3_4 rfl (lv_at hl 1 rfl) ?_
  refine vg_aldq hx hb hE.1 hP 1 4 rfl rfl (j := ii) (by omega) (by omega) (v := vv) hv dJx4a65c_elementData_915e3_5 ?_
  exact W.aret (v := .ref vv) hx hb hr (Or.inl ⟨_, rfl⟩) (Or.inr ⟨_, rfl⟩) (fun t ht hW => ⟨⟨some vv, (), rfl, rfl, (by rw [ht]; exact hP), hD⟩, hS.F ht⟩) hS.2.2 dJx4a65c_elementData_915e3_6

set_option maxHeartbeats 4000000 in
set_option maxRecDepth 100000 in
theorem kJx4a65c_get_915e3 (l : Launch) (D : va_G) (cy : Nat → ClassId) (sz : Nat) (lo : Nat) (mc : Int32) (ld : Nat) (cap : Nat) (L : List Nat) (ii : Nat) (vv : Nat) (hcap : L.length ≤ cap) (hc31 : cap < 2 ^ 31) (hi : ii < L.length) (hv : L[ii]? = some vv) : Met l yJx4a65c_get_915e3 wsJx4a65c_get_915e3 ({ frames := 2, cells := 0, slots := 0, locals := 43 }) (vg_P D cy [.ref lo, .int (nI ii)] sz ([(lo, .inr (0, [.int mc, .ref ld, .int (nI L.length)]))] ++ ([(ld, .inl (cy 4, cap, .inr (.inr (.inr (.inr (fun j => L[j]?))))))]))) (vg_Qq (S := Unit) D sz ([(lo, .inr (0, [.int mc, .ref ld, .int (nI L.length)]))] ++ ([(ld, .inl (cy 4, cap, .inr (.inr (.inr (.inr (fun j => L[j]?))))))])) (fun r _ => r = some vv) (fun _ => [(lo, .inr (0, [.int mc, .ref ld, .int (nI L.length)]))] ++ ([(ld, .inl (cy 4, cap, .inr (.inr (.inr (.inr (fun j => L[j]?))))))]))) 0 0 (va_A ([(lo, .inr (0, [.int mc, .ref ld, .int (nI L.length)]))] ++ ([(ld, .inl (cy 4, cap, .inr (.inr (.inr (.inr (fun j => L[j]?))))))])) sz) := by
  refine Met.ofW (cc := cJx4a65c_get_915e3) (maxL := 2) (ret := (some (.object "java/lang/Object"))) (by decide) rfl ?_
  intro p e s m args below meth c s₁ BB hml hv
  obtain ⟨rfl, hsz, hP, hE, hD0⟩ := hv
  have hx := BB.exec
  have hb := BB.bytes
  have hr := BB.returns
  have hts := atoms_spec (ws := wsJx4a65c_get_915e3) BB.pre
  have hown : s.vm.findClass RJx4a65c = some m.cls := findClass_of_methodNamed BB.named
  have hlocks := BB.notSynchronized
  subst hsz
  have hD := hD0.self (sz := s.heap.size)
  have hA : ∀ q : Nat, s.heap.size ≤ q → (va_A ([(lo, .inr (0, [.int mc, .ref ld, .int (nI L.length)]))] ++ ([(ld, .inl (cy 4, cap, .inr (.inr (.inr (.inr (fun j => L[j]?))))))])) s.heap.size) q := fun q h => Or.inr h
  have hS : va_S (va_A ([(lo, .inr (0, [.int mc, .ref ld, .int (nI L.length)]))] ++ ([(ld, .inl (cy 4, cap, .inr (.inr (.inr (.inr (fun j => L[j]?))))))])) s.heap.size) s.heap s.heap [] := va_S.rf
  have hin_RJx4a65c : ∀ w ∈ u_ws RJx4a65c TJx4a65c 3, w ∈ wsJx4a65c_get_915e3 := by decide +kernel
  have hl := lv_entry ([.ref lo, .int (nI ii)]) (n := 2) (Nat.le_of_ble_eq_true rfl)
  rw [lg_entry_eq]
  generalize (lg_sl ([.ref lo, .int (nI ii)]) ++ List.replicate (2 - (lg_sl ([.ref lo, .int (nI ii)])).length) Slot.unset).toArray = ls at hl ⊢
  have hl : lv_has ls 2 [(0, .ref lo), (1, .int (nI ii))] := hl
  refine lv_iload_n hx hb dJx4a65c_get_915e3_0 rfl (lv_at hl 1 rfl) ?_
  refine lv_aload_n hx hb dJx4a65c_get_915e3_1 rfl (lv_at hl 0 rfl) ?_
  refine va_get (D := D) (ci := 0) (v := .int (nI L.length)) (C := RJx4a65c) (T := TJx4a65c) (N := 3) hx hb hts hin_RJx4a65c hown hE.1 hP 0 rfl rfl 2 (by decide) (hts (.fieldLink RJx4a65c 48 "java/util/ArrayList" "size" "I") (by decide +kernel)) (fun _ h9 => h9) rfl dJx4a65c_get_915e3_2 ?_
  refine vg_calliP (va_runS (As := [.int (nI ii), .int (nI L.length)]) (rest := []) ⟨hx, hb, hml, hown, hts⟩ (kJ15_checkIndex_7cf53 l D cy s.heap.size ii L.length (hi) (by omega)) (va_cwS 2 hts gJx4a65c_get_915e3_J15_checkIndex_7cf53 rfl rfl rfl (by decide +kernel) ⟨Nat.le_of_ble_eq_true rfl, Nat.le_of_ble_eq_true rfl⟩) (vg_P.preS hE vg_P0 (A := fun _ => True) vg_D0) rfl rfl hl.1 rfl (lv_room (Nat.le_of_ble_eq_true rfl)) dJx4a65c_get_915e3_5 ⟨Nat.le_of_ble_eq_true rfl, Nat.le_of_ble_eq_true rfl⟩) hP hD hS hA (fun r _ H locs hr hP hD hS => ?_)
  subst hr
  refine lv_pop hx hb dJx4a65c_get_915e3_8 rfl ?_
  refine lv_aload_n hx hb dJx4a65c_get_915e3_9 rfl (lv_at hl 0 rfl) ?_
  refine lv_iload_n hx hb dJx4a65c_get_915e3_10 rfl (lv_at hl 1 rfl) ?_
  refine vg_callqW (va_runV (As := [.int (nI ii)]) (rest := []) ⟨hx, hb, hml, hown, hts⟩ (kJx4a65c_elementData_915e3 l D cy H.size lo mc ld cap L ii vv hcap hc31 hi hv) (cwV 1 hts gJx4a65c_get_915e3_Jx4a65c_elementData_915e3 rfl rfl rfl (by decide +kernel) ⟨Nat.le_of_ble_eq_true rfl, Nat.le_of_ble_eq_true rfl⟩) (vg_P.preV hE hP 0 rfl rfl hP hD) rfl rfl hl.1 rfl (lv_room (Nat.le_of_ble_eq_true rfl)) dJx4a65c_get_915e3_11 ⟨Nat.le_of_ble_eq_true rfl, Nat.le_of_ble_eq_true rfl⟩) hP hD hS hA (fun r _ H locs hr hP hD hS => ?_)
  subst hr
  refine W.eq (g2 := F0 m 14 ls [.ref vv]) rfl ?_
  exact W.aret (v := .ref vv) hx hb hr (Or.inl ⟨_, rfl⟩) (Or.inr ⟨_, rfl⟩) (fun t ht hW => ⟨⟨some vv, (), rfl, rfl, (by rw [ht]; exact hP), hD⟩, hS.F ht⟩) hS.2.2 dJx4a65c_get_915e3_14
